/-! ===== EACH STEP OF THE PURE MACHINE IS A STEP OF THE MACHINE ===== -/
def gh_X (D : va_G) (ca : Nat → ClassId) (U : State) : Prop := va_K D vwCl (gh_tys ca) U ∧ ∀ q ∈ gh_mnt, va_Nw (gh_mnw q) U
theorem gh_X.warm {D : va_G} {ca : Nat → ClassId} {s U : State} (hW : s.WarmedH U.vm) (h : gh_X D ca s) : gh_X D ca U := ⟨va_K.moved hW.alike h.1, fun q hq => va_Nw.warmM hW (h.2 q hq)⟩
theorem gh_X.same {D : va_G} {ca : Nat → ClassId} {s U : State} (hW : s.vm = U.vm) (h : gh_X D ca s) : gh_X D ca U := ⟨va_K.moved (by rw [hW]; exact Vm.Alike.refl U.vm) h.1, fun q hq => va_Nw.same rfl hW (h.2 q hq)⟩
/-- what stands through a body: the machine, the code, the words, the classes, what may be written -/
def gh_C (p : Program) (s : State) (m : MethodId) (args : Array Value) (c : Code) (cc : ByteArray) (nL o : Nat) (D : va_G) (ca : Nat → ClassId) (adK adV : Nat → Nat) (A : Nat → Prop) : Prop :=
  p.tables.exec = Jvm.exec ∧ c.code = cc ∧ c.maxLocals = nL ∧ s.vm.findClass (gh_Rn o) = some m.cls ∧ (∀ w ∈ gh_tbl, w.before args s = true) ∧ gh_X D ca s ∧ (∀ q, s.heap.size ≤ q → A q) ∧ gh_J adK adV A s s.heap
/-- the world now -/
def gh_Wd (D : va_G) (ca : Nat → ClassId) (A : Nat → Prop) (s : State) (ad : Nat → Nat) (M : gh_M) (H : Heap) (locs : List Loc) : Prop :=
  va_P D vwCl (gh_ws ad ca M) H ∧ va_D A (gh_ws ad ca M) ∧ va_S A s.heap H locs
/-- the script, where there is one -/
def gh_Sc (sc : Option (Nat × (Nat → Int32))) (b : Nat) (A : Nat → Prop) (s : State) : Prop := ∀ L xs, sc = some (L, xs) → va_X b L xs s s.heap ∧ b < s.heap.size ∧ ¬ A b
/-! contracts of the pure machine's methods -/
/-- where the String constants lie -/
def gh_ad (adK ad : Nat → Nat) : Prop := ad (gh_SC + 1) = adK 0 ∧ ad (gh_SC + 2) = adK 1
def gh_Pc (D : va_G) (ca : Nat → ClassId) (adK adV ad : Nat → Nat) (sz : Nat) (As : List Value) (M : gh_M) : Array Value → State → Prop :=
  va_Pc (As.map (gh_tv ad)) (fun U => U.heap.size = sz ∧ va_P D vwCl (gh_ws ad ca M) U.heap ∧ gh_X D ca U ∧ va_D (fun _ => True) (gh_ws ad ca M) ∧ gh_J adK adV (va_A (gh_ws ad ca M) sz) U U.heap ∧ gh_ad adK ad)
def gh_B (D : va_G) (ca : Nat → ClassId) (z : Nat) (ad : Nat → Nat) (sz : Nat) (M M' : gh_M) (ad' : Nat → Nat) (t : State) : Prop :=
  va_P D vwCl (gh_ws ad' ca M') t.heap ∧ va_D (va_A (gh_ws ad ca M) sz) (gh_ws ad' ca M') ∧ gh_ag M.1.length ad ad' ∧ ((gh_bud z).1 = 0 → ad' = ad)
def gh_Qc (D : va_G) (ca : Nat → ClassId) (z : Nat) (ad : Nat → Nat) (sz : Nat) (M : gh_M) (y : Option Value) (M' : gh_M) : Array Value → State → Outcome → State → Prop := match y with
  | none => va_Qv (fun _ => True) (gh_B D ca z ad sz M M') (va_A (gh_ws ad ca M) sz)
  | some (.int x) => va_Qi (fun r _ => r = x) (gh_B D ca z ad sz M M') (va_A (gh_ws ad ca M) sz)
  | some (.long x) => va_Ql (fun r _ => r = x) (gh_B D ca z ad sz M M') (va_A (gh_ws ad ca M) sz)
  | some _ => fun _ _ _ _ => False
def gh_rmz (d z : Nat) : Room := { frames := d + 6, cells := (gh_bud z).1, slots := (gh_bud z).2, locals := 60 * d + 400 }
def gh_Met (l : Launch) (D : va_G) (ca : Nat → ClassId) (adK adV : Nat → Nat) (d z : Nat) (ad : Nat → Nat) (sz : Nat) (As : List Value) (M : gh_M) (y : Option Value) (M' : gh_M) : Prop :=
  Met l (gh_yn z) (.code (gh_yn z) (gh_cn z) (gh_ln z) (gh_rn z) :: gh_tbl) (gh_rmz d z) (gh_Pc D ca adK adV ad sz As M) (gh_Qc D ca z ad sz M y M') (gh_bud z).1 (gh_bud z).2 (va_A (gh_ws ad ca M) sz)
def gh_Os (l : Launch) (D : va_G) (ca : Nat → ClassId) (adK adV : Nat → Nat) (d : Nat) (O : gh_O) : Prop := ∀ z As M y M', z < gh_NZ → O z As M = some (y, M') → gh_wf M → gh_wf M' ∧ M.1.length ≤ M'.1.length ∧ (∀ x, y = some x → (∃ i, x = .int i) ∨ ∃ i, x = .long i) ∧ ∀ ad sz, gh_Met l D ca adK adV d z ad sz As M y M'
theorem gh_Pc_blind {D : va_G} {ca : Nat → ClassId} {adK adV ad : Nat → Nat} {sz : Nat} {As : List Value} {M : gh_M} : FrameBlind (gh_Pc D ca adK adV ad sz As M) := by
  intro a U g mk q
  obtain ⟨q0, q1, qP, qX, qD, qJ, qA⟩ := q
  exact ⟨q0, q1, qP, gh_X.same (s := U) (U := U.calling g mk a) rfl qX, qD, gh_J.same (s := U) (U := U.calling g mk a) rfl qJ, qA⟩
theorem gh_get_arr {ad : Nat → Nat} {ca : Nat → ClassId} {M : gh_M} {c t n : Nat} (h : M.1[c]? = some (.inl (t, n))) : (gh_ws ad ca M)[c]? = some (ad c, .inl (ca t, gh_ae M c t n)) := by
  rw [gh_ws_get, h]
  rfl
theorem gh_get_obj {ad : Nat → Nat} {ca : Nat → ClassId} {M : gh_M} {c ci : Nat} (h : M.1[c]? = some (.inr ci)) : (gh_ws ad ca M)[c]? = some (ad c, .inr (ci, gh_fs ad M c ci)) := by
  rw [gh_ws_get, h]
  rfl
theorem gh_ent_mI {ad : Nat → Nat} {ca : Nat → ClassId} {M : gh_M} {c t n : Nat} {f : Nat → Int32} (ht : t ≠ 1) : gh_ent ad ca (gh_mI M c f) c (.inl (t, n)) = (ad c, .inl (ca t, n, .inl f)) := by
  have e : (gh_mI M c f).2.1 c = f := gh_up_eq _ _ _
  simp only [gh_ent, gh_ae]
  rw [e]
theorem gh_ent_mL {ad : Nat → Nat} {ca : Nat → ClassId} {M : gh_M} {c n : Nat} {f : Nat → Int64} : gh_ent ad ca (gh_mL M c f) c (.inl (1, n)) = (ad c, .inl (ca 1, n, .inr (.inl f))) := by
  have e : (gh_mL M c f).2.2.1 c = f := gh_up_eq _ _ _
  simp only [gh_ent, gh_ae, e]
theorem gh_ae_i {M : gh_M} {c t n : Nat} (ht : t ≠ 1) : gh_ae M c t n = (n, .inl (M.2.1 c)) := by
  unfold gh_ae
  split
  · exact absurd rfl ht
  · rfl
section GhSound
variable {p : Program} {l : Launch} {e : Env} {R : Room} {s : State} {m : MethodId} {args : Array Value} {below : List Frame} {meth : Method} {c : Code} {Q : State → Prop} {cc : ByteArray} {nL o : Nat} {D : va_G} {ca : Nat → ClassId} {A : Nat → Prop} {rt : Option FieldType} {ls : Array Slot} {H : Heap} {locs : List Loc} {adK adV ad : Nat → Nat}
theorem gh_sub {M : gh_M} (C : gh_C p s m args c cc nL o D ca adK adV A) (hW : gh_Wd D ca A s ad M H locs) : ∀ q, va_A (gh_ws ad ca M) H.size q → A q := by
  intro q h
  rcases h with ⟨k, x, hk⟩ | h
  · exact hW.2.1.2 k _ hk
  · exact C.2.2.2.2.2.2.1 q (Nat.le_trans hW.2.2.1 h)

theorem gh_snd_get {u v k pc : Nat} {r : List Value} {M : gh_M} {cells slots q kd : Nat} {y : Value} (C : gh_C p s m args c cc nL o D ca adK adV A) (hW : gh_Wd D ca A s ad M H locs) (hd : decode cc pc = .ok (.getfield k, 3)) (hk : (o, k, u, v) ∈ gh_flt) (hu : u < 11) (hv : v < (gh_ft u).length) (hs : M.1[q]? = some (.inr u)) (hkd : (gh_ft u)[v]? = some kd) (hy : gh_fv ad M q v kd = gh_tv ad y)
    (kk : W p l e R s m args below meth c H locs cells slots Q (F0 m (pc + 3) ls ((y :: r).map (gh_tv ad)))) : W p l e R s m args below meth c H locs cells slots Q (F0 m pc ls ((.ref q :: r).map (gh_tv ad))) := by
  obtain ⟨hx, hb, hml, hown, hts, hX, hA, hJ⟩ := C
  obtain ⟨hcl, hin, hty, hnm⟩ := gh_cl u hu
  refine va_get (D := D) (cl := vwCl) (ws := gh_ws ad ca M) (ci := u) (C := gh_Rn u) (T := gh_Tn u) (N := (gh_ft u).length) (ref := (gh_Tn u v).1) hx hb hts hin hown hX.1 hW.1 q (gh_get_obj hs) hcl v hv (hts _ (gh_flt_ok _ hk)) (fun _ h => h) (gh_fs_get hkd) hd ?_
  rw [hy]
  exact kk
theorem gh_snd_put {u v k pc : Nat} {w : Int32} {ini : Bool} {r : List Value} {M M' : gh_M} {cells slots q : Nat} {y : Value} (C : gh_C p s m args c cc nL o D ca adK adV A) (hW : gh_Wd D ca A s ad M H locs) (hd : decode cc pc = .ok (.putfield k, 3)) (hk : (o, k, u, v) ∈ gh_flt) (hu : u < 11) (hv : v < (gh_ft u).length) (hs : M.1[q]? = some (.inr u))
    (hw : w = 0 ∨ ini = true) (hfw : (gh_Tn u v).2.2.2 = true → w = 1 ∧ (gh_Tn u v).1 = gh_Rn o) (hini : ini = true → meth.name = "<init>")
    (hn : narrow (gh_tn u v) (gh_tv ad y) = gh_tv ad y) (hf : fits (gh_tn u v) (gh_tv ad y) = true) (he : gh_ws ad ca M' = (gh_ws ad ca M).set q (ad q, .inr (u, (gh_fs ad M q u).set v (gh_tv ad y))))
    (kk : ∀ H' locs', gh_Wd D ca A s ad M' H' locs' → W p l e R s m args below meth c H' locs' cells slots Q (F0 m (pc + 3) ls (r.map (gh_tv ad)))) : W p l e R s m args below meth c H locs cells slots Q (F0 m pc ls ((y :: .ref q :: r).map (gh_tv ad))) := by
  obtain ⟨hx, hb, hml, hown, hts, hX, hA, hJ⟩ := C
  obtain ⟨hcl, hin, hty, hnm⟩ := gh_cl u hu
  cases hfin : (gh_Tn u v).2.2.2 with
  | false =>
    refine va_put (D := D) (cl := vwCl) (ws := gh_ws ad ca M) (ci := u) (C := gh_Rn u) (T := gh_Tn u) (N := (gh_ft u).length) (ref := (gh_Tn u v).1) (v := gh_tv ad y) (ty := gh_tn u v) hx hb hts hin (gh_tn u) hty hnm hown hX.1 hW.1 hW.2.1 hW.2.2 q (gh_get_obj hs) hcl v hv (hts _ (gh_flt_ok _ hk)) (fun _ h => h) hfin (hty v hv) hn hf (by rw [gh_fs_len]; exact hv) hd (fun H1 locs1 h1 h2 h3 => ?_)
    rw [← he] at h1 h2
    exact kk H1 locs1 ⟨h1, h2, h3⟩
  | true =>
    have hw1 := hfw hfin
    have hi : ini = true := hw.resolve_left (fun z => by rw [hw1.1] at z; exact absurd z (by decide))
    refine va_putF (D := D) (cl := vwCl) (ws := gh_ws ad ca M) (ci := u) (C := gh_Rn u) (T := gh_Tn u) (N := (gh_ft u).length) (ref := (gh_Tn u v).1) (v := gh_tv ad y) (ty := gh_tn u v) hx hb hts hin (gh_tn u) hty hnm hown hX.1 hW.1 hW.2.1 hW.2.2 q (gh_get_obj hs) hcl v hv (hts _ (gh_flt_ok _ hk)) (fun _ h => h) hfin (hini hi) hw1.2 (hty v hv) hn hf (by rw [gh_fs_len]; exact hv) hd (fun H1 locs1 h1 h2 h3 => ?_)
    rw [← he] at h1 h2
    exact kk H1 locs1 ⟨h1, h2, h3⟩
theorem gh_kind0 {t : FieldType} (h : gh_kd t = 0) : t = .int := by cases t <;> first | rfl | (exact absurd h (by decide)) | (simp [gh_kd] at h)
theorem gh_kind1 {t : FieldType} (h : gh_kd t = 1) : t = .long := by cases t <;> first | rfl | (exact absurd h (by decide)) | (simp [gh_kd] at h)
theorem gh_kind3 {t : FieldType} (h : gh_kd t = 3) : t = .boolean := by cases t <;> first | rfl | (exact absurd h (by decide)) | (simp [gh_kd] at h)
theorem gh_kind2 {t : FieldType} (h : gh_kd t = 2) (a : Nat) : narrow t (.ref a) = .ref a ∧ fits t (.ref a) = true := by cases t <;> first | exact ⟨rfl, rfl⟩ | (exact absurd h (by decide)) | (simp [gh_kd] at h)
theorem gh_fs_putI {M : gh_M} {q u v : Nat} {kd : Nat} {a : Int32} (hs : M.1[q]? = some (.inr u)) (hkd : (gh_ft u)[v]? = some kd) (h1 : kd ≠ 1) (h2 : kd ≠ 2) : gh_ws ad ca (gh_mI M q (upd (M.2.1 q) v a)) = (gh_ws ad ca M).set q (ad q, .inr (u, (gh_fs ad M q u).set v (.int a))) := by
  rw [gh_ws_mI _ hs]
  congr 1
  have er : (gh_mI M q (upd (M.2.1 q) v a)).2.1 q = upd (M.2.1 q) v a := gh_up_eq _ _ _
  rw [gh_fs_set (M' := gh_mI M q (upd (M.2.1 q) v a)) hkd]
  · rfl
  · unfold gh_fv
    split
    · exact absurd rfl h1
    · exact absurd rfl h2
    · rw [er]; simp [upd]
  · intro j k hk hj
    unfold gh_fv
    rw [er]
    simp [upd, hj, gh_mI]
theorem gh_fs_putL {M : gh_M} {q u v : Nat} {a : Int64} (hs : M.1[q]? = some (.inr u)) (hkd : (gh_ft u)[v]? = some 1) : gh_ws ad ca (gh_mL M q (vp_updL (M.2.2.1 q) v a)) = (gh_ws ad ca M).set q (ad q, .inr (u, (gh_fs ad M q u).set v (.long a))) := by
  rw [gh_ws_mL _ hs]
  congr 1
  have er : (gh_mL M q (vp_updL (M.2.2.1 q) v a)).2.2.1 q = vp_updL (M.2.2.1 q) v a := gh_up_eq _ _ _
  rw [gh_fs_set (M' := gh_mL M q (vp_updL (M.2.2.1 q) v a)) hkd]
  · rfl
  · simp [gh_fv, er, vp_updL]
  · intro j k hk hj
    unfold gh_fv
    rw [er]
    simp [vp_updL, hj, gh_mL]
theorem gh_fs_putR {M : gh_M} {q u v a : Nat} (hs : M.1[q]? = some (.inr u)) (hkd : (gh_ft u)[v]? = some 2) : gh_ws ad ca (gh_mR M q (gh_upR (M.2.2.2 q) v (some a))) = (gh_ws ad ca M).set q (ad q, .inr (u, (gh_fs ad M q u).set v (.ref (ad a)))) := by
  rw [gh_ws_mR _ hs]
  congr 1
  have er : (gh_mR M q (gh_upR (M.2.2.2 q) v (some a))).2.2.2 q = gh_upR (M.2.2.2 q) v (some a) := gh_up_eq _ _ _
  rw [gh_fs_set (M' := gh_mR M q (gh_upR (M.2.2.2 q) v (some a))) hkd]
  · rfl
  · simp [gh_fv, er, gh_upR, va_rf]
  · intro j k hk hj
    unfold gh_fv
    rw [er]
    simp [gh_upR, hj, gh_mR]
end GhSound

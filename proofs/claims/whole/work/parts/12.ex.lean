/-! ===== A RUN OF THE PURE MACHINE IS A RUN OF THE MACHINE; its methods keep their contracts ===== -/
section GhRun
variable {p : Program} {l : Launch} {e : Env} {R : Room} {s : State} {m : MethodId} {args : Array Value} {below : List Frame} {meth : Method} {c : Code} {Q : State → Prop} {cc : ByteArray} {nL o : Nat} {D : va_G} {ca : Nat → ClassId} {A : Nat → Prop} {rt : Option FieldType} {adK adV : Nat → Nat}
theorem gh_snd_run {d : Nat} {O : gh_O} {f : Nat → Option gh_E} {bc bs : Nat} {sc : Option (Nat × (Nat → Int32))} {zr ini : Bool} (C : gh_C p s m args c cc nL o D ca adK adV A)
    (hf : ∀ pc i len u v w x, f pc = some (i, len, u, v, w, x) → decode cc pc = .ok (i, len) ∧ gh_ck o nL rt pc i len u v w x = true) (hini : ini = true → meth.name = "<init>") (hR : d + 7 ≤ R.frames ∧ 60 * d + 460 ≤ R.locals ∧ R.cells = bc ∧ R.slots = bs) (hO : gh_Os l D ca adK adV d O) (hOk : gh_kp O)
    (ad0 : Nat → Nat) (n0 : Nat) (hsc : gh_Sc sc (ad0 gh_SC) A s) (had0 : gh_ad adK ad0) (res : gh_R)
    (hret : ∀ ad H locs pc ls, gh_Wd D ca A s ad res.2.1 H locs → gh_ag n0 ad0 ad → (bc = 0 → ad = ad0) → res.2.2.1 ≤ bc → res.2.2.2 ≤ bs →
      ((∃ y, decode cc pc = .ok (.ireturn, 1) ∧ (rt = some .int ∨ rt = some .boolean) ∧ res.1 = some (.int y) ∧ (zr = true → gh_isB y = true)) ∨ (∃ y, decode cc pc = .ok (.lreturn, 1) ∧ rt = some .long ∧ res.1 = some (.long y)) ∨ (decode cc pc = .ok (.return_, 1) ∧ rt = none ∧ res.1 = none)) →
      W p l e R s m args below meth c H locs res.2.2.1 res.2.2.2 Q (F0 m pc ls res.1.toList)) :
    ∀ (n : Nat) (pc : Nat) (lv : gh_L) (st : List Value) (Wm : gh_W) (ad : Nat → Nat) (H : Heap) (locs : List Loc) (ls : Array Slot), gh_run O f bc bs sc zr ini n (pc, lv, st, Wm) = some res → lv_has ls nL (gh_tl ad lv) → gh_Wd D ca A s ad Wm.1 H locs → gh_wf Wm.1 → gh_ag n0 ad0 ad → (bc = 0 → ad = ad0) → n0 ≤ Wm.1.1.length → Wm.2.1 ≤ bc → Wm.2.2 ≤ bs →
      W p l e R s m args below meth c H locs Wm.2.1 Wm.2.2 Q (F0 m pc ls (st.map (gh_tv ad))) := by
  intro n
  induction n with
  | zero => intro pc lv st Wm ad H locs ls h; cases h
  | succ n ih =>
    intro pc lv st Wm ad H locs ls h hl hW hwf hag h0 hn0 c1 c2
    have hsa : gh_Sc sc (ad gh_SC) A s := by
      rw [hag gh_SC (Or.inr (Nat.le_refl _))]
      exact hsc
    have had : gh_ad adK ad := ⟨(hag _ (Or.inr (by decide))).trans had0.1, (hag _ (Or.inr (by decide))).trans had0.2⟩
    rw [gh_run] at h
    unfold gh_step at h
    split at h
    · rename_i τ hst
      split at hst
      · rename_i i len u v w x hfp
        obtain ⟨pc', lv', st', W'⟩ := τ
        obtain ⟨hd, hck⟩ := hf _ _ _ _ _ _ _ hfp
        refine gh_snd_step C hd hck hst hl hW hwf hsa hini had hR ⟨c1, c2⟩ hO (fun ad' H' locs' ls' hl' hW' hwf' hag' h0' hle c1' c2' => ?_)
        exact ih pc' lv' st' W' ad' H' locs' ls' h hl' hW' hwf' (gh_ag_tr hn0 hag hag') (fun z => (h0' z).trans (h0 z)) (Nat.le_trans hn0 hle) c1' c2'
      · cases hst
    · rename_i r hst
      have hr : r = res := by cases h; rfl
      subst hr
      split at hst
      · rename_i i len u v w x hfp
        obtain ⟨hd, hck⟩ := hf _ _ _ _ _ _ _ hfp
        obtain ⟨hr2, hcs⟩ := gh_stp_ret hst
        have hr2 : r.2 = Wm := hr2
        have hcs : (i = .ireturn ∧ ∃ y, st = [.int y] ∧ r.1 = some (.int y) ∧ (zr = true → gh_isB y = true)) ∨ (i = .lreturn ∧ ∃ y, st = [.long y] ∧ r.1 = some (.long y)) ∨ (i = .return_ ∧ st = [] ∧ r.1 = none) := hcs
        have hd : decode cc pc = .ok (i, len) := hd
        rw [← hr2] at hW c1 c2
        rcases hcs with ⟨rfl, y, rfl, hy, hz⟩ | ⟨rfl, y, rfl, hy⟩ | ⟨rfl, rfl, hy⟩
        · simp only [gh_ck, Bool.and_eq_true, Bool.or_eq_true, decide_eq_true_eq] at hck
          have hl1 := gh_be hck.1
          subst hl1
          have k2 := hret ad H locs pc ls hW hag h0 c1 c2 (Or.inl ⟨y, hd, hck.2, hy, hz⟩)
          rw [hy, hr2] at k2
          exact k2
        · simp only [gh_ck, Bool.and_eq_true, decide_eq_true_eq] at hck
          have hl1 := gh_be hck.1
          subst hl1
          have k2 := hret ad H locs pc ls hW hag h0 c1 c2 (Or.inr (Or.inl ⟨y, hd, hck.2, hy⟩))
          rw [hy, hr2] at k2
          exact k2
        · simp only [gh_ck, Bool.and_eq_true, decide_eq_true_eq] at hck
          have hl1 := gh_be hck.1
          subst hl1
          have k2 := hret ad H locs pc ls hW hag h0 c1 c2 (Or.inr (Or.inr ⟨hd, hck.2, hy⟩))
          rw [hy, hr2] at k2
          exact k2
      · cases hst
    · cases h
end GhRun
def gh_zr (z : Nat) : Bool := match gh_rn z with
  | some .boolean => true
  | _ => false
/-- a method called: d calls deep at most, n steps a body at most; F: the methods' code -/
def gh_ex (F : Nat → Nat → Option gh_E) : Nat → Nat → gh_O
  | 0, _, _, _, _ => none
  | d + 1, n, z, As, M => bif Nat.blt z gh_NZ && Nat.ble (lg_sl As).length (gh_ln z) then (match gh_run (gh_ex F d n) (F z) (gh_bud z).1 (gh_bud z).2 none (gh_zr z) (Nat.beq (gh_kn z) 2) n (0, lv_args 0 As, [], (M, 0, 0)) with
    | some (y, W) => some (y, W.1)
    | none => none) else none
theorem gh_ex_inv {F : Nat → Nat → Option gh_E} {d n z : Nat} {As : List Value} {M : gh_M} {y : Option Value} {M' : gh_M} (h : gh_ex F (d + 1) n z As M = some (y, M')) : z < gh_NZ ∧ (lg_sl As).length ≤ gh_ln z ∧ ∃ k j, gh_run (gh_ex F d n) (F z) (gh_bud z).1 (gh_bud z).2 none (gh_zr z) (Nat.beq (gh_kn z) 2) n (0, lv_args 0 As, [], (M, 0, 0)) = some (y, (M', k, j)) := by
  rw [gh_ex] at h
  obtain ⟨hb, h⟩ := gh_bif h
  refine ⟨gh_bl (gh_b1 hb), Nat.le_of_ble_eq_true (gh_b2 hb), ?_⟩
  split at h
  · rename_i y' W hr
    cases h
    exact ⟨W.2.1, W.2.2, hr⟩
  · cases h
theorem gh_ex_kp (F : Nat → Nat → Option gh_E) : ∀ d n, gh_kp (gh_ex F d n) := by
  intro d
  induction d with
  | zero => intro n z As M y M' h; cases h
  | succ d ih =>
    intro n z As M y M' h hw
    obtain ⟨-, -, k, j, hr⟩ := gh_ex_inv h
    exact gh_run_kp (ih n) n _ _ hw hr
theorem gh_args_tl (ad : Nat → Nat) (As : List Value) : ∀ i, lv_args i (As.map (gh_tv ad)) = gh_tl ad (lv_args i As) := by
  induction As with
  | nil => intro i; rfl
  | cons v vs ih =>
    intro i
    simp only [List.map_cons, lv_args, gh_tv_cat, ih]
    rfl
theorem gh_sl_len (ad : Nat → Nat) (As : List Value) : (lg_sl (As.map (gh_tv ad))).length = (lg_sl As).length := by
  induction As with
  | nil => rfl
  | cons v vs ih =>
    simp only [lg_sl, List.map_cons, List.flatMap_cons, List.length_append, gh_tv_cat] at ih ⊢
    rw [ih]
    congr 1
    split <;> rfl
theorem gh_isB_nar {y : Int32} (h : gh_isB y = true) : narrow .boolean (.int y) = .int y := by
  have h6 : y = 0 ∨ y = 1 := by
    unfold gh_isB at h
    simpa using h
  rcases h6 with rfl | rfl <;> rfl
theorem gh_snd_ex {l : Launch} {D : va_G} {ca : Nat → ClassId} {adK adV : Nat → Nat} {F : Nat → Nat → Option gh_E} (hF : ∀ z, z < gh_NZ → ∀ pc i len u v w x, F z pc = some (i, len, u, v, w, x) → decode (gh_cn z) pc = .ok (i, len) ∧ gh_ck (gh_oc z) (gh_ln z) (gh_rn z) pc i len u v w x = true) : ∀ d n, gh_Os l D ca adK adV d (gh_ex F d n) := by
  intro d
  induction d with
  | zero => intro n z As M y M' hz h; cases h
  | succ d ih =>
    intro n z As M y M' hz h hwf
    obtain ⟨k1, k2, k3⟩ := gh_ex_kp F (d + 1) n _ _ _ _ _ h hwf
    refine ⟨k1, k2, k3, fun ad sz => ?_⟩
    obtain ⟨-, hsl, k, j, hrun⟩ := gh_ex_inv h
    obtain ⟨f1, f2, f3, f4, f5, f6, f7, f8⟩ := gh_mfacts hz
    unfold gh_Met
    refine Met.ofW (cc := gh_cn z) (maxL := gh_ln z) (ret := gh_rn z) f4 rfl ?_
    intro p e s m args below meth c s₁ B hml hv
    obtain ⟨rfl, hsz, hP, hX, hD0, hJ, had⟩ := hv
    have hx := B.exec
    have hb := B.bytes
    have hr := B.returns
    have hts0 := atoms_spec (ws := .code (gh_yn z) (gh_cn z) (gh_ln z) (gh_rn z) :: gh_tbl) B.pre
    have hts : ∀ w ∈ gh_tbl, w.before ((As.map (gh_tv ad)).toArray) s = true := fun w hw => hts0 w (List.mem_cons_of_mem _ hw)
    have hown : s.vm.findClass (gh_Rn (gh_oc z)) = some m.cls := by
      rw [← f2]
      exact findClass_of_methodNamed B.named
    have hlocks := B.notSynchronized
    have hnm : meth.name = (gh_yn z).name := (name_of_methodNamed B.named B.method).1
    have hini : Nat.beq (gh_kn z) 2 = true → meth.name = "<init>" := fun q => hnm.trans (f8 (gh_be q)).2.1
    subst hsz
    have hA : ∀ q : Nat, s.heap.size ≤ q → va_A (gh_ws ad ca M) s.heap.size q := fun q h => Or.inr h
    have hC : gh_C p s m (As.map (gh_tv ad)).toArray c (gh_cn z) (gh_ln z) (gh_oc z) D ca adK adV (va_A (gh_ws ad ca M) s.heap.size) := ⟨hx, hb, hml, hown, hts, hX, hA, hJ⟩
    have hl := lv_entry (As.map (gh_tv ad)) (n := gh_ln z) (by rw [gh_sl_len]; exact hsl)
    rw [lg_entry_eq]
    rw [gh_args_tl] at hl
    refine gh_snd_run (R := gh_rmz (d + 1) z) (rt := gh_rn z) hC (hF z hz) hini ⟨Nat.le_of_eq (by show d + 7 = d + 1 + 6; omega), by show 60 * d + 460 ≤ 60 * (d + 1) + 400; omega, rfl, rfl⟩ (ih n) (gh_ex_kp F d n) ad M.1.length (fun L xs q => by cases q) had (y, (M', k, j)) ?_ n 0 (lv_args 0 As) [] (M, 0, 0) ad s.heap [] _ hrun hl ⟨hP, hD0.self, va_S.rf⟩ hwf (fun _ _ => rfl) (fun _ => rfl) (Nat.le_refl _) (Nat.zero_le _) (Nat.zero_le _)
    intro ad' H locs pc ls hW hag h0 c1 c2 hcs
    have hBt : ∀ t : State, t.heap = H → gh_B D ca z ad s.heap.size M M' ad' t := fun t ht => ⟨by rw [ht]; exact hW.1, hW.2.1, hag, h0⟩
    refine W.widen (k := (gh_bud z).1) (n := (gh_bud z).2) c1 c2 ?_
    rcases hcs with ⟨r, hd, hrt, hy, hz1⟩ | ⟨r, hd, hrt, hy⟩ | ⟨hd, hrt, hy⟩
    · have hy : y = some (.int r) := hy
      subst hy
      rcases hrt with hrt | hrt
      · rw [hrt] at hr
        exact W.iret hx hb hr (fun t ht hWm => ⟨⟨r, ad', rfl, rfl, hBt t ht⟩, hW.2.2.F ht⟩) hW.2.2.2.2 hd
      · rw [hrt] at hr
        exact W.zret hx hb hr (gh_isB_nar (hz1 (by unfold gh_zr; rw [hrt]))) (fun t ht hWm => ⟨⟨r, ad', rfl, rfl, hBt t ht⟩, hW.2.2.F ht⟩) hW.2.2.2.2 hd
    · have hy : y = some (.long r) := hy
      subst hy
      rw [hrt] at hr
      exact W.lret hx hb hr (fun t ht hWm => ⟨⟨r, ad', rfl, rfl, hBt t ht⟩, hW.2.2.F ht⟩) hW.2.2.2.2 hd
    · have hy : y = none := hy
      subst hy
      rw [hrt] at hr
      exact W.vret hx hb hr (fun t ht hWm => ⟨⟨ad', rfl, trivial, hBt t ht⟩, hW.2.2.F ht⟩) hW.2.2.2.2 hd

/-! ===== one step, and a run ===== -/
theorem gh_kds3 : ∀ u, u < 11 → ∀ k, k < (gh_ft u).length → gh_kd (gh_tn u k) ≤ 3 := by decide +kernel
theorem gh_fs_none {ad1 ad2 : Nat → Nat} {M : gh_M} {c ci : Nat} (h : ∀ k, M.2.2.2 c k = none) : gh_fs ad1 M c ci = gh_fs ad2 M c ci := by
  unfold gh_fs
  congr 1
  funext k kd
  unfold gh_fv
  rw [h k]
  rfl
theorem gh_def {t : FieldType} (h : gh_kd t ≤ 3) {ad : Nat → Nat} {M : gh_M} {c k : Nat} (h1 : M.2.1 c k = 0) (h2 : M.2.2.1 c k = 0) (h3 : M.2.2.2 c k = none) : defaultValue t = gh_fv ad M c k (gh_kd t) := by
  cases t with
  | int => simp [gh_kd, gh_fv, h1, defaultValue]
  | long => simp [gh_kd, gh_fv, h2, defaultValue]
  | boolean => simp [gh_kd, gh_fv, h1, defaultValue]
  | array a => simp [gh_kd, gh_fv, h3, defaultValue, va_rf]
  | object a => simp [gh_kd, gh_fv, h3, defaultValue, va_rf]
  | _ => exact absurd h (by decide)
theorem gh_mk_I (M : gh_M) (sh : gh_Sh) (k : Nat) : (gh_mk M sh).2.1 M.1.length k = 0 := by
  show gh_up M.2.1 M.1.length (fun _ => 0) M.1.length k = 0
  rw [gh_up_eq]
theorem gh_mk_L (M : gh_M) (sh : gh_Sh) (k : Nat) : (gh_mk M sh).2.2.1 M.1.length k = 0 := by
  show gh_up M.2.2.1 M.1.length (fun _ => 0) M.1.length k = 0
  rw [gh_up_eq]
theorem gh_mk_R (M : gh_M) (sh : gh_Sh) (k : Nat) : (gh_mk M sh).2.2.2 M.1.length k = none := by
  show gh_up M.2.2.2 M.1.length (fun _ => none) M.1.length k = none
  rw [gh_up_eq]
theorem gh_ae_mk (M : gh_M) (sh : gh_Sh) (t n : Nat) : gh_ae (gh_mk M sh) M.1.length t n = (match t with
  | 1 => (n, .inr (.inl (fun _ => 0)))
  | _ => (n, .inl (fun _ => 0)) : vp_A) := by
  have e1 : (gh_mk M sh).2.1 M.1.length = fun _ => 0 := funext (gh_mk_I M sh)
  have e2 : (gh_mk M sh).2.2.1 M.1.length = fun _ => 0 := funext (gh_mk_L M sh)
  unfold gh_ae
  rw [e1, e2]
  match t with
  | 0 => rfl
  | 1 => rfl
  | _ + 2 => rfl
theorem gh_go_inv {pc : Nat} {lv : gh_L} {st : List Value} {W : gh_W} {pc' : Nat} {lv' : gh_L} {st' : List Value} {W' : gh_W} (h : gh_go pc lv st W = some (.inl (pc', lv', st', W'))) : pc' = pc ∧ lv' = lv ∧ st' = st ∧ W' = W := by
  unfold gh_go at h
  cases h
  exact ⟨rfl, rfl, rfl, rfl⟩
theorem gh_lift_inv {lv : gh_L} {o : Option gh_N} {pc' : Nat} {lv' : gh_L} {st' : List Value} {W' : gh_W} (h : gh_lift lv o = some (.inl (pc', lv', st', W'))) : o = some (.inl (pc', st', W')) ∧ lv' = lv := by
  unfold gh_lift at h
  split at h
  · obtain ⟨rfl, rfl, rfl, rfl⟩ := gh_go_inv h
    exact ⟨rfl, rfl⟩
  · cases h
  · cases h
theorem gh_lift_ret {lv : gh_L} {o : Option gh_N} {r : gh_R} (h : gh_lift lv o = some (.inr r)) : o = some (.inr r) := by
  unfold gh_lift at h
  split at h
  · cases h
  · cases h
    rfl
  · cases h
theorem gh_lifv_inv {n : Nat} {lv : gh_L} {st : List Value} {o : Option gh_N} {pc' : Nat} {lv' : gh_L} {st' : List Value} {W' : gh_W} (h : gh_lifv n lv st o = some (.inl (pc', lv', st', W'))) : st.all (gh_vv n) = true ∧ n < gh_SC ∧ o = some (.inl (pc', st', W')) ∧ lv' = lv.filter (fun q => gh_vv n q.2) := by
  unfold gh_lifv at h
  obtain ⟨hb, h⟩ := gh_bif h
  obtain ⟨h1, h2⟩ := gh_lift_inv h
  exact ⟨gh_b1 hb, gh_bl (gh_b2 hb), h1, h2⟩
section GhStep
variable {p : Program} {l : Launch} {e : Env} {R : Room} {s : State} {m : MethodId} {args : Array Value} {below : List Frame} {meth : Method} {c : Code} {Q : State → Prop} {cc : ByteArray} {nL o : Nat} {D : va_G} {ca : Nat → ClassId} {A : Nat → Prop} {rt : Option FieldType} {ls : Array Slot} {H : Heap} {locs : List Loc} {adK adV ad : Nat → Nat}
theorem gh_snd_step {d : Nat} {O : gh_O} {bc bs : Nat} {sc : Option (Nat × (Nat → Int32))} {zr ini : Bool} {i : Instr} {len u v : Nat} {w : Int32} {x : Int64} {pc : Nat} {lv lv' : gh_L} {st : List Value} {Wm W' : gh_W} {pc' : Nat} {st' : List Value}
    (C : gh_C p s m args c cc nL o D ca adK adV A) (hd : decode cc pc = .ok (i, len)) (hck : gh_ck o nL rt pc i len u v w x = true) (h : gh_stp O bc bs sc zr ini i u v w x pc lv st Wm = some (.inl (pc', lv', st', W'))) (hl : lv_has ls nL (gh_tl ad lv)) (hW : gh_Wd D ca A s ad Wm.1 H locs) (hwf : gh_wf Wm.1) (hsc : gh_Sc sc (ad gh_SC) A s) (hini : ini = true → meth.name = "<init>")
    (had : gh_ad adK ad) (hR : d + 7 ≤ R.frames ∧ 60 * d + 460 ≤ R.locals ∧ R.cells = bc ∧ R.slots = bs) (hcs : Wm.2.1 ≤ bc ∧ Wm.2.2 ≤ bs) (hO : gh_Os l D ca adK adV d O)
    (kk : ∀ ad' H' locs' ls', lv_has ls' nL (gh_tl ad' lv') → gh_Wd D ca A s ad' W'.1 H' locs' → gh_wf W'.1 → gh_ag Wm.1.1.length ad ad' → (bc = 0 → ad' = ad) → Wm.1.1.length ≤ W'.1.1.length → W'.2.1 ≤ bc → W'.2.2 ≤ bs → W p l e R s m args below meth c H' locs' W'.2.1 W'.2.2 Q (F0 m pc' ls' (st'.map (gh_tv ad')))) : W p l e R s m args below meth c H locs Wm.2.1 Wm.2.2 Q (F0 m pc ls (st.map (gh_tv ad))) := by
  have hC := C
  obtain ⟨hx, hb, hml, hown, hts, hX, hA, hJ⟩ := C
  unfold gh_stp at h
  split at h
  · simp only [gh_ck] at hck
    have hln := gh_be hck
    subst hln
    unfold gh_il at h
    split at h
    · rename_i y hy
      obtain ⟨rfl, rfl, rfl, rfl⟩ := gh_go_inv h
      exact lv_iload hx hb hd (gh_lk_slot hl hy) (kk ad H locs ls hl hW hwf (fun _ _ => rfl) (fun _ => rfl) (Nat.le_refl _) hcs.1 hcs.2)
    · cases h
  · simp only [gh_ck] at hck
    have hln := gh_be hck
    subst hln
    unfold gh_il at h
    split at h
    · rename_i y hy
      obtain ⟨rfl, rfl, rfl, rfl⟩ := gh_go_inv h
      exact lv_iload_n hx hb hd rfl (gh_lk_slot hl hy) (kk ad H locs ls hl hW hwf (fun _ _ => rfl) (fun _ => rfl) (Nat.le_refl _) hcs.1 hcs.2)
    · cases h
  · simp only [gh_ck] at hck
    have hln := gh_be hck
    subst hln
    unfold gh_jl at h
    split at h
    · rename_i y hy
      obtain ⟨rfl, rfl, rfl, rfl⟩ := gh_go_inv h
      exact lv_lload hx hb hd (gh_lk_slot hl hy) (kk ad H locs ls hl hW hwf (fun _ _ => rfl) (fun _ => rfl) (Nat.le_refl _) hcs.1 hcs.2)
    · cases h
  · simp only [gh_ck] at hck
    have hln := gh_be hck
    subst hln
    unfold gh_jl at h
    split at h
    · rename_i y hy
      obtain ⟨rfl, rfl, rfl, rfl⟩ := gh_go_inv h
      exact lv_lload_n hx hb hd rfl (gh_lk_slot hl hy) (kk ad H locs ls hl hW hwf (fun _ _ => rfl) (fun _ => rfl) (Nat.le_refl _) hcs.1 hcs.2)
    · cases h
  · simp only [gh_ck] at hck
    have hln := gh_be hck
    subst hln
    unfold gh_al at h
    split at h
    · rename_i y hy
      obtain ⟨rfl, rfl, rfl, rfl⟩ := gh_go_inv h
      exact lv_aload_n hx hb hd rfl (gh_lk_slot hl hy) (kk ad H locs ls hl hW hwf (fun _ _ => rfl) (fun _ => rfl) (Nat.le_refl _) hcs.1 hcs.2)
    · cases h
  · simp only [gh_ck, Bool.and_eq_true] at hck
    have hln := gh_be hck.1
    subst hln
    unfold gh_is at h
    split at h
    · rename_i y r
      obtain ⟨rfl, rfl, rfl, rfl⟩ := gh_go_inv h
      exact lv_istore hx hb hd hl (gh_bl hck.2) (gh_tl_s1 (v := .int y)) (fun ls' hl' => kk ad H locs ls' hl' hW hwf (fun _ _ => rfl) (fun _ => rfl) (Nat.le_refl _) hcs.1 hcs.2)
    · cases h
  · simp only [gh_ck, Bool.and_eq_true] at hck
    have hln := gh_be hck.1
    subst hln
    unfold gh_is at h
    split at h
    · rename_i y r
      obtain ⟨rfl, rfl, rfl, rfl⟩ := gh_go_inv h
      exact lv_istore_n hx hb hd rfl hl (gh_bl hck.2) (gh_tl_s1 (v := .int y)) (fun ls' hl' => kk ad H locs ls' hl' hW hwf (fun _ _ => rfl) (fun _ => rfl) (Nat.le_refl _) hcs.1 hcs.2)
    · cases h
  · simp only [gh_ck, Bool.and_eq_true] at hck
    have hln := gh_be hck.1
    subst hln
    unfold gh_js at h
    split at h
    · rename_i y r
      obtain ⟨rfl, rfl, rfl, rfl⟩ := gh_go_inv h
      exact lv_lstore hx hb hd hl (gh_bl hck.2) (gh_tl_s2 (v := .long y)) (fun ls' hl' => kk ad H locs ls' hl' hW hwf (fun _ _ => rfl) (fun _ => rfl) (Nat.le_refl _) hcs.1 hcs.2)
    · cases h
  · simp only [gh_ck, Bool.and_eq_true] at hck
    have hln := gh_be hck.1
    subst hln
    unfold gh_js at h
    split at h
    · rename_i y r
      obtain ⟨rfl, rfl, rfl, rfl⟩ := gh_go_inv h
      exact lv_lstore_n hx hb hd rfl hl (gh_bl hck.2) (gh_tl_s2 (v := .long y)) (fun ls' hl' => kk ad H locs ls' hl' hW hwf (fun _ _ => rfl) (fun _ => rfl) (Nat.le_refl _) hcs.1 hcs.2)
    · cases h
  · simp only [gh_ck, Bool.and_eq_true] at hck
    have hln := gh_be hck.1
    subst hln
    unfold gh_as at h
    split at h
    · rename_i y r
      obtain ⟨rfl, rfl, rfl, rfl⟩ := gh_go_inv h
      exact lv_astore_n hx hb hd rfl hl (gh_bl hck.2) (gh_tl_s1 (v := .ref y)) (fun ls' hl' => kk ad H locs ls' hl' hW hwf (fun _ _ => rfl) (fun _ => rfl) (Nat.le_refl _) hcs.1 hcs.2)
    · cases h
  · simp only [gh_ck, Bool.and_eq_true, decide_eq_true_eq] at hck
    have hln := gh_be hck.1.1
    subst hln
    unfold gh_inc at h
    split at h
    · rename_i y hy
      obtain ⟨rfl, rfl, rfl, rfl⟩ := gh_go_inv h
      obtain ⟨k, hk⟩ := gh_lk_place (ad := ad) hy
      refine lv_iinc (v := y + w) hx hb hd hl hk (by rw [hck.1.2]) (gh_bl hck.2) (gh_tl_s1 (v := .int (y + w))) (fun ls' hl' => kk ad H locs ls' hl' hW hwf (fun _ _ => rfl) (fun _ => rfl) (Nat.le_refl _) hcs.1 hcs.2)
    · cases h
  · simp only [gh_ck, Bool.and_eq_true] at hck
    have hln := gh_be hck.1
    subst hln
    obtain ⟨hv, hn, h9, rfl⟩ := gh_lifv_inv h
    obtain ⟨h1, h2, hu, rfl, rfl, rfl⟩ := gh_new_inv h9
    obtain ⟨hcl, hin, hty, hnm⟩ := gh_cl u hu
    have hfs : ∀ j, j < (gh_ft u).length → defaultValue (gh_tn u j) = vp_V (gh_fs ad (gh_mk Wm.1 (.inr u)) Wm.1.1.length u) j := by
      intro j hj
      have e1 := gh_fs_get (ad := ad) (M := gh_mk Wm.1 (.inr u)) (c := Wm.1.1.length) (gh_kds u hu j hj)
      rw [gh_def (gh_kds3 u hu j hj) (ad := ad) (gh_mk_I Wm.1 (.inr u) j) (gh_mk_L Wm.1 (.inr u) j) (gh_mk_R Wm.1 (.inr u) j)]
      unfold vp_V
      rw [List.getD_eq_getElem?_getD, e1]
      rfl
    refine va_new (D := D) (cl := vwCl) (ws := gh_ws ad ca Wm.1) (C := gh_Rn u) (T := gh_Tn u) (N := (gh_ft u).length) (ci := u) hx hb hts hin (gh_tn u) hty hown (hts _ (gh_clt_ok (o, _, u) (gh_bc3 hck.2))) (hts _ (gh_w_in u hu).1) (hts _ (gh_w_in u hu).2) hX.1 hW.1 hW.2.1 hW.2.2 hA hcl hfs (by omega) (by omega) hd (fun q H1 g1 g2 g3 => ?_)
    have e2 := gh_ws_mk (ad := ad) (ca := ca) hwf (.inr u) q
    have e3 : gh_ent (va_up ad Wm.1.1.length q) ca (gh_mk Wm.1 (.inr u)) Wm.1.1.length (.inr u) = (q, .inr (u, gh_fs ad (gh_mk Wm.1 (.inr u)) Wm.1.1.length u)) := by
      simp only [gh_ent]
      rw [gh_fs_none (ad2 := ad) (gh_mk_R Wm.1 (.inr u))]
      simp [va_up]
    rw [e3] at e2
    have hag := gh_ag_up ad q hn
    have k2 := kk (va_up ad Wm.1.1.length q) H1 locs ls (by rw [gh_ag_tl hag]; exact gh_has_filter _ hl) ⟨by rw [e2]; exact g1, by rw [e2]; exact g2, g3⟩ (gh_wf_mk hwf _) hag (fun z => by omega) (by show Wm.1.1.length ≤ (Wm.1.1 ++ [_]).length; simp) h1 h2
    have e4 : (Value.ref Wm.1.1.length :: st).map (gh_tv (va_up ad Wm.1.1.length q)) = .ref q :: st.map (gh_tv ad) := by
      rw [List.map_cons, gh_ag_st hag hv]
      simp [gh_tv, va_up]
    rw [e4] at k2
    exact k2
  · simp only [gh_ck, Bool.and_eq_true, decide_eq_true_eq] at hck
    have hln := gh_be hck.1
    subst hln
    obtain ⟨hv, hn, h9, rfl⟩ := gh_lifv_inv h
    obtain ⟨n, r, rfl, h1, h2, h3, h4, h5, rfl, rfl, rfl⟩ := gh_newa_inv h9
    have ha : ∀ cA : ClassId, vp_cell cA (gh_ae (gh_mk Wm.1 (.inl (u, n.toNatClampNeg))) Wm.1.1.length u n.toNatClampNeg) = arrV cA n.toNatClampNeg (fun _ => defaultValue (gh_ty u)) := by
      intro cA
      rw [gh_ae_mk]
      match u, h5 with
      | 0, _ => rfl
      | 1, _ => rfl
      | 2, _ => rfl
      | 3, _ => rfl
    have hbytes : n.toNatClampNeg * componentBytes (gh_ty u) ≤ 536870912 := by
      have : componentBytes (gh_ty u) ≤ 8 := by
        match u, h5 with
        | 0, _ => decide
        | 1, _ => decide
        | 2, _ => decide
        | 3, _ => decide
      calc n.toNatClampNeg * componentBytes (gh_ty u) ≤ 1000 * 8 := Nat.mul_le_mul h2 this
        _ ≤ 536870912 := by decide
    refine va_newa (D := D) (cl := vwCl) (ws := gh_ws ad ca Wm.1) hx hb (by rw [hck.2]; exact hts _ (gh_w_ac u h5)) hck.2 hX.1 hW.1 hW.2.1 hW.2.2 hA ha h1 rfl hbytes (by omega) (by omega) hd (fun q cA H1 g0 g1 g2 g3 => ?_)
    have ec : cA = ca u := by
      have a1 := (g0.2 4 (cA, gh_ty u) rfl).2
      have a2 := (hX.1.2 u _ (gh_tys_get u h5)).2
      match u, h5, a1, a2 with
      | 0, _, a1, a2 => exact Option.some.inj (a1.symm.trans a2)
      | 1, _, a1, a2 => exact Option.some.inj (a1.symm.trans a2)
      | 2, _, a1, a2 => exact Option.some.inj (a1.symm.trans a2)
      | 3, _, a1, a2 => exact Option.some.inj (a1.symm.trans a2)
    subst ec
    have e2 := gh_ws_mk (ad := ad) (ca := ca) hwf (.inl (u, n.toNatClampNeg)) q
    have e3 : gh_ent (va_up ad Wm.1.1.length q) ca (gh_mk Wm.1 (.inl (u, n.toNatClampNeg))) Wm.1.1.length (.inl (u, n.toNatClampNeg)) = (q, .inl (ca u, gh_ae (gh_mk Wm.1 (.inl (u, n.toNatClampNeg))) Wm.1.1.length u n.toNatClampNeg)) := by
      simp [gh_ent, va_up]
    rw [e3] at e2
    have hag := gh_ag_up ad q hn
    have hvr : r.all (gh_vv Wm.1.1.length) = true := by
      rw [List.all_cons] at hv
      exact gh_b2 hv
    have k2 := kk (va_up ad Wm.1.1.length q) H1 locs ls (by rw [gh_ag_tl hag]; exact gh_has_filter _ hl) ⟨by rw [e2]; exact g1, by rw [e2]; exact g2, g3⟩ (gh_wf_mk hwf _) hag (fun z => by omega) (by show Wm.1.1.length ≤ (Wm.1.1 ++ [_]).length; simp) h3 h4
    have e4 : (Value.ref Wm.1.1.length :: r).map (gh_tv (va_up ad Wm.1.1.length q)) = .ref q :: r.map (gh_tv ad) := by
      rw [List.map_cons, gh_ag_st hag hvr]
      simp [gh_tv, va_up]
    rw [e4] at k2
    exact k2
  · simp only [gh_ck, Bool.and_eq_true] at hck
    have hln := gh_be hck.1
    subst hln
    have hq := hck.2
    obtain ⟨hv, hn, h9, rfl⟩ := gh_lifv_inv h
    cases hu : Nat.beq u 2000 with
    | true =>
      have hu2 := gh_be hu
      subst hu2
      rw [hu] at hq
      have hq : gh_xlt.contains (o, _, 2000) = true := hq
      have h8 : gh_oi pc st Wm = some (.inl (pc', st', W')) := h9
      obtain ⟨q, r, rfl, h1, rfl, rfl, rfl⟩ := gh_oi_inv h8
      exact W.objInit hx hb hown (hts _ (gh_xlt_ok (o, _, 2000) (gh_bc3 hq))) (hts _ gh_w_oi) (hts _ gh_w_oc) rfl (by rw [hml]; exact hl.1) rfl hd (by omega) (by
        have h7 := gh_rm_le h1
        have h6 := lv_room (m := m) (pc := pc) (ls := ls) (rest := (Value.ref q :: st').map (gh_tv ad)) (st := st'.map (gh_tv ad)) (by rw [gh_cat]; exact h7)
        omega) (kk ad H locs ls (gh_has_filter _ hl) hW hwf (fun _ _ => rfl) (fun _ => rfl) (Nat.le_refl _) hcs.1 hcs.2)
    | false =>
      rw [hu] at hq
      simp only [cond_false, Bool.and_eq_true, Bool.or_eq_true] at hq
      exact gh_snd_spe hC hd (gh_bl hq.1.1.1) (gh_be hq.1.1.2) (gh_be hq.1.2) (hq.2.imp gh_bc3 gh_bc4) h9 hv hl.1 hW hwf had hR hO (fun ad' H' locs' hag h0 hW' hwf' hle c1 c2 => kk ad' H' locs' ls (by rw [gh_ag_tl hag]; exact gh_has_filter _ hl) hW' hwf' hag h0 hle c1 c2)
  · obtain ⟨h9, rfl⟩ := gh_lift_inv h
    exact gh_snd_rest hC hd hck h9 hl.1 hW hwf hsc hini had hR hcs hO (fun H' locs' hW' hwf' hle c1 c2 => kk ad H' locs' ls hl hW' hwf' (fun _ _ => rfl) (fun _ => rfl) hle c1 c2)
end GhStep

theorem gh_bc4 {l : List (Nat × Nat × Nat × Nat)} {a : Nat × Nat × Nat × Nat} (h : l.contains a = true) : a ∈ l := List.contains_iff_mem.mp h
theorem gh_bc3 {l : List (Nat × Nat × Nat)} {a : Nat × Nat × Nat} (h : l.contains a = true) : a ∈ l := List.contains_iff_mem.mp h
theorem gh_bci {l : List (Nat × Nat × Int32)} {a : Nat × Nat × Int32} (h : l.contains a = true) : a ∈ l := List.contains_iff_mem.mp h
theorem gh_bcj {l : List (Nat × Nat × Int64)} {a : Nat × Nat × Int64} (h : l.contains a = true) : a ∈ l := List.contains_iff_mem.mp h
section GhRest3
variable {p : Program} {l : Launch} {e : Env} {R : Room} {s : State} {m : MethodId} {args : Array Value} {below : List Frame} {meth : Method} {c : Code} {Q : State → Prop} {cc : ByteArray} {nL o : Nat} {D : va_G} {ca : Nat → ClassId} {A : Nat → Prop} {rt : Option FieldType} {ls : Array Slot} {H : Heap} {locs : List Loc} {adK adV ad : Nat → Nat}
theorem gh_snd_rest {d : Nat} {O : gh_O} {bc bs : Nat} {sc : Option (Nat × (Nat → Int32))} {zr ini : Bool} {i : Instr} {len u v : Nat} {w : Int32} {x : Int64} {pc : Nat} {st : List Value} {Wm W' : gh_W} {pc' : Nat} {st' : List Value}
    (C : gh_C p s m args c cc nL o D ca adK adV A) (hd : decode cc pc = .ok (i, len)) (hck : gh_ck o nL rt pc i len u v w x = true) (h : gh_rest O bc bs sc zr ini i u v w x pc st Wm = some (.inl (pc', st', W'))) (hls : ls.size = nL) (hW : gh_Wd D ca A s ad Wm.1 H locs) (hwf : gh_wf Wm.1) (hsc : gh_Sc sc (ad gh_SC) A s) (hini : ini = true → meth.name = "<init>")
    (had : gh_ad adK ad) (hR : d + 7 ≤ R.frames ∧ 60 * d + 460 ≤ R.locals ∧ R.cells = bc ∧ R.slots = bs) (hcs : Wm.2.1 ≤ bc ∧ Wm.2.2 ≤ bs) (hO : gh_Os l D ca adK adV d O)
    (kk : ∀ H' locs', gh_Wd D ca A s ad W'.1 H' locs' → gh_wf W'.1 → Wm.1.1.length ≤ W'.1.1.length → W'.2.1 ≤ bc → W'.2.2 ≤ bs → W p l e R s m args below meth c H' locs' W'.2.1 W'.2.2 Q (F0 m pc' ls (st'.map (gh_tv ad)))) : W p l e R s m args below meth c H locs Wm.2.1 Wm.2.2 Q (F0 m pc ls (st.map (gh_tv ad))) := by
  have hC := C
  obtain ⟨hx, hb, hml, hown, hts, hX, hA, hJ⟩ := C
  unfold gh_rest at h
  split at h
  · simp only [gh_ck, Bool.and_eq_true, decide_eq_true_eq] at hck
    obtain ⟨rfl, rfl, rfl⟩ := gh_k_inv h
    have hl := gh_be hck.1
    subst hl
    exact lv_iconst hx hb hd hck.2 (kk H locs hW hwf (Nat.le_refl _) hcs.1 hcs.2)
  · simp only [gh_ck, Bool.and_eq_true, decide_eq_true_eq] at hck
    obtain ⟨rfl, rfl, rfl⟩ := gh_k_inv h
    have hl := gh_be hck.1
    subst hl
    exact lv_bipush hx hb hd hck.2 (kk H locs hW hwf (Nat.le_refl _) hcs.1 hcs.2)
  · simp only [gh_ck, Bool.and_eq_true, decide_eq_true_eq] at hck
    obtain ⟨rfl, rfl, rfl⟩ := gh_k_inv h
    have hl := gh_be hck.1
    subst hl
    exact lv_sipush hx hb hd hck.2 (kk H locs hW hwf (Nat.le_refl _) hcs.1 hcs.2)
  · simp only [gh_ck, Bool.and_eq_true, decide_eq_true_eq] at hck
    obtain ⟨rfl, rfl, rfl⟩ := gh_k_inv h
    have hl := gh_be hck.1
    subst hl
    exact lv_lconst hx hb hd hck.2 (kk H locs hW hwf (Nat.le_refl _) hcs.1 hcs.2)
  · simp only [gh_ck, Bool.and_eq_true] at hck
    have hl := gh_be hck.1
    subst hl
    have hq := hck.2
    cases hv : Nat.beq v 0 with
    | true =>
      rw [hv] at h hq
      obtain ⟨rfl, rfl, rfl⟩ := gh_k_inv h
      exact lv_ldc hx hb hown (hts _ (gh_kit_ok (o, _, w) (gh_bci hq))) hd (kk H locs hW hwf (Nat.le_refl _) hcs.1 hcs.2)
    | false =>
      rw [hv] at h hq
      simp only [cond_false, Bool.and_eq_true, Bool.or_eq_true] at hq
      obtain ⟨rfl, rfl, rfl⟩ := gh_k_inv h
      have ho := gh_be hq.1
      subst ho
      rcases hq.2 with ⟨hv1, hk1⟩ | ⟨hv1, hk1⟩
      · have e1 := gh_be hv1
        have e2 := gh_be hk1
        subst e1
        subst e2
        refine va_ldcS hx hb hown hJ.2.2.2.1 hd ?_
        rw [← had.1]
        exact (kk H locs hW hwf (Nat.le_refl _) hcs.1 hcs.2)
      · have e1 := gh_be hv1
        have e2 := gh_be hk1
        subst e1
        subst e2
        refine va_ldcS hx hb hown hJ.2.2.2.2 hd ?_
        rw [← had.2]
        exact (kk H locs hW hwf (Nat.le_refl _) hcs.1 hcs.2)
  · simp only [gh_ck, Bool.and_eq_true, decide_eq_true_eq] at hck
    obtain ⟨rfl, rfl, rfl⟩ := gh_k_inv h
    have hl := gh_be hck.1
    subst hl
    exact lv_ldcw hx hb hown (hts _ (gh_kit_ok (o, _, w) (gh_bci hck.2))) hd (kk H locs hW hwf (Nat.le_refl _) hcs.1 hcs.2)
  · simp only [gh_ck, Bool.and_eq_true, decide_eq_true_eq] at hck
    obtain ⟨rfl, rfl, rfl⟩ := gh_k_inv h
    have hl := gh_be hck.1
    subst hl
    exact lv_ldc2 hx hb hown (hts _ (gh_kjt_ok (o, _, x) (gh_bcj hck.2))) hd (kk H locs hW hwf (Nat.le_refl _) hcs.1 hcs.2)
  · simp only [gh_ck, Bool.and_eq_true, decide_eq_true_eq] at hck
    obtain ⟨a, b, r, rfl, rfl, rfl, rfl⟩ := gh_ii_inv h
    have hl := gh_be hck
    subst hl
    exact lv_iadd hx hb hd (kk H locs hW hwf (Nat.le_refl _) hcs.1 hcs.2)
  · simp only [gh_ck, Bool.and_eq_true, decide_eq_true_eq] at hck
    obtain ⟨a, b, r, rfl, rfl, rfl, rfl⟩ := gh_ii_inv h
    have hl := gh_be hck
    subst hl
    exact lv_isub hx hb hd (kk H locs hW hwf (Nat.le_refl _) hcs.1 hcs.2)
  · simp only [gh_ck, Bool.and_eq_true, decide_eq_true_eq] at hck
    obtain ⟨a, b, r, rfl, rfl, rfl, rfl⟩ := gh_ii_inv h
    have hl := gh_be hck
    subst hl
    exact lv_imul hx hb hd (kk H locs hW hwf (Nat.le_refl _) hcs.1 hcs.2)
  · simp only [gh_ck, Bool.and_eq_true, decide_eq_true_eq] at hck
    obtain ⟨a, b, r, rfl, rfl, rfl, rfl⟩ := gh_ii_inv h
    have hl := gh_be hck
    subst hl
    exact lv_iand hx hb hd (kk H locs hW hwf (Nat.le_refl _) hcs.1 hcs.2)
  · simp only [gh_ck, Bool.and_eq_true, decide_eq_true_eq] at hck
    obtain ⟨a, b, r, rfl, rfl, rfl, rfl⟩ := gh_ii_inv h
    have hl := gh_be hck
    subst hl
    exact lv_ior hx hb hd (kk H locs hW hwf (Nat.le_refl _) hcs.1 hcs.2)
  · simp only [gh_ck, Bool.and_eq_true, decide_eq_true_eq] at hck
    obtain ⟨a, b, r, rfl, rfl, rfl, rfl⟩ := gh_ii_inv h
    have hl := gh_be hck
    subst hl
    exact lv_ixor hx hb hd (kk H locs hW hwf (Nat.le_refl _) hcs.1 hcs.2)
  · simp only [gh_ck, Bool.and_eq_true, decide_eq_true_eq] at hck
    obtain ⟨a, b, r, rfl, rfl, rfl, rfl⟩ := gh_ii_inv h
    have hl := gh_be hck
    subst hl
    exact lv_ishl hx hb hd (kk H locs hW hwf (Nat.le_refl _) hcs.1 hcs.2)
  · simp only [gh_ck, Bool.and_eq_true, decide_eq_true_eq] at hck
    obtain ⟨a, b, r, rfl, rfl, rfl, rfl⟩ := gh_ii_inv h
    have hl := gh_be hck
    subst hl
    exact lv_ishr hx hb hd (kk H locs hW hwf (Nat.le_refl _) hcs.1 hcs.2)
  · simp only [gh_ck, Bool.and_eq_true, decide_eq_true_eq] at hck
    obtain ⟨a, b, r, rfl, rfl, rfl, rfl⟩ := gh_ii_inv h
    have hl := gh_be hck
    subst hl
    exact lv_iushr hx hb hd rfl (kk H locs hW hwf (Nat.le_refl _) hcs.1 hcs.2)
  · simp only [gh_ck, Bool.and_eq_true, decide_eq_true_eq] at hck
    obtain ⟨a, b, r, rfl, hne, rfl, rfl, rfl⟩ := gh_iid_inv h
    have hl := gh_be hck
    subst hl
    exact lv_idiv hx hb hd hne (kk H locs hW hwf (Nat.le_refl _) hcs.1 hcs.2)
  · simp only [gh_ck, Bool.and_eq_true, decide_eq_true_eq] at hck
    obtain ⟨a, b, r, rfl, hne, rfl, rfl, rfl⟩ := gh_iid_inv h
    have hl := gh_be hck
    subst hl
    exact lv_irem hx hb hd hne (kk H locs hW hwf (Nat.le_refl _) hcs.1 hcs.2)
  · simp only [gh_ck, Bool.and_eq_true, decide_eq_true_eq] at hck
    obtain ⟨a, r, rfl, rfl, rfl, rfl⟩ := gh_i_inv h
    have hl := gh_be hck
    subst hl
    exact lv_ineg hx hb hd (kk H locs hW hwf (Nat.le_refl _) hcs.1 hcs.2)
  · simp only [gh_ck, Bool.and_eq_true, decide_eq_true_eq] at hck
    obtain ⟨a, r, rfl, rfl, rfl, rfl⟩ := gh_i_inv h
    have hl := gh_be hck
    subst hl
    exact lv_i2b hx hb hd rfl (kk H locs hW hwf (Nat.le_refl _) hcs.1 hcs.2)
  · simp only [gh_ck, Bool.and_eq_true, decide_eq_true_eq] at hck
    obtain ⟨a, b, r, rfl, rfl, rfl, rfl⟩ := gh_jj_inv h
    have hl := gh_be hck
    subst hl
    exact lv_ladd hx hb hd (kk H locs hW hwf (Nat.le_refl _) hcs.1 hcs.2)
  · simp only [gh_ck, Bool.and_eq_true, decide_eq_true_eq] at hck
    obtain ⟨a, b, r, rfl, rfl, rfl, rfl⟩ := gh_jj_inv h
    have hl := gh_be hck
    subst hl
    exact lv_lsub hx hb hd (kk H locs hW hwf (Nat.le_refl _) hcs.1 hcs.2)
  · simp only [gh_ck, Bool.and_eq_true, decide_eq_true_eq] at hck
    obtain ⟨a, b, r, rfl, rfl, rfl, rfl⟩ := gh_jj_inv h
    have hl := gh_be hck
    subst hl
    exact lv_lmul hx hb hd (kk H locs hW hwf (Nat.le_refl _) hcs.1 hcs.2)
  · simp only [gh_ck, Bool.and_eq_true, decide_eq_true_eq] at hck
    obtain ⟨a, b, r, rfl, hne, rfl, rfl, rfl⟩ := gh_jjd_inv h
    have hl := gh_be hck
    subst hl
    exact lv_ldiv hx hb hd hne (kk H locs hW hwf (Nat.le_refl _) hcs.1 hcs.2)
  · simp only [gh_ck, Bool.and_eq_true, decide_eq_true_eq] at hck
    obtain ⟨a, b, r, rfl, rfl, rfl, rfl⟩ := gh_lcmp_inv h
    have hl := gh_be hck
    subst hl
    exact W.lcmp hx hb hd (kk H locs hW hwf (Nat.le_refl _) hcs.1 hcs.2)
  · simp only [gh_ck, Bool.and_eq_true, decide_eq_true_eq] at hck
    obtain ⟨a, r, rfl, rfl, rfl, rfl⟩ := gh_i2l_inv h
    have hl := gh_be hck
    subst hl
    exact lv_i2l hx hb hd rfl (kk H locs hW hwf (Nat.le_refl _) hcs.1 hcs.2)
  · simp only [gh_ck, Bool.and_eq_true, decide_eq_true_eq] at hck
    obtain ⟨a, r, rfl, rfl, rfl, rfl⟩ := gh_l2i_inv h
    have hl := gh_be hck
    subst hl
    exact lv_l2i hx hb hd rfl (kk H locs hW hwf (Nat.le_refl _) hcs.1 hcs.2)
  · simp only [gh_ck, Bool.and_eq_true, decide_eq_true_eq] at hck
    obtain ⟨a, r, ha, rfl, rfl, rfl, rfl⟩ := gh_dup_inv h
    have hl := gh_be hck
    subst hl
    exact lv_dup hx hb hd (by rw [gh_tv_cat]; exact ha) (kk H locs hW hwf (Nat.le_refl _) hcs.1 hcs.2)
  · simp only [gh_ck, Bool.and_eq_true, decide_eq_true_eq] at hck
    have hl := gh_be hck
    subst hl
    rcases gh_dup2_inv h with ⟨a, r, rfl, rfl, rfl, rfl⟩ | ⟨a, b, r, rfl, rfl, rfl, rfl⟩
    · exact lv_dup2_2 hx hb hd rfl (kk H locs hW hwf (Nat.le_refl _) hcs.1 hcs.2)
    · exact lv_dup2_11 hx hb hd rfl rfl (kk H locs hW hwf (Nat.le_refl _) hcs.1 hcs.2)
  · simp only [gh_ck, Bool.and_eq_true, decide_eq_true_eq] at hck
    obtain ⟨a, r, rfl, rfl, rfl, rfl⟩ := gh_pop_inv h
    have hl := gh_be hck
    subst hl
    exact lv_pop hx hb hd rfl (kk H locs hW hwf (Nat.le_refl _) hcs.1 hcs.2)
  · simp only [gh_ck, Bool.and_eq_true, decide_eq_true_eq] at hck
    obtain ⟨a, r, rfl, rfl, rfl, rfl⟩ := gh_if_inv h
    have hl := gh_be hck.1
    subst hl
    rename_i cnd off
    cases cnd with
    | eq =>
      refine lv_if_eq hx hb hd hck.2 (fun hc => ?_) (fun hc => ?_)
      · have e1 : gh_cmp .eq a 0 = true := decide_eq_true hc
        rw [e1] at kk
        exact (kk H locs hW hwf (Nat.le_refl _) hcs.1 hcs.2)
      · have e1 : gh_cmp .eq a 0 = false := decide_eq_false hc
        rw [e1] at kk
        exact (kk H locs hW hwf (Nat.le_refl _) hcs.1 hcs.2)
    | ne =>
      refine lv_if_ne hx hb hd hck.2 (fun hc => ?_) (fun hc => ?_)
      · have e1 : gh_cmp .ne a 0 = true := decide_eq_true hc
        rw [e1] at kk
        exact (kk H locs hW hwf (Nat.le_refl _) hcs.1 hcs.2)
      · have e1 : gh_cmp .ne a 0 = false := decide_eq_false (fun z => z hc)
        rw [e1] at kk
        exact (kk H locs hW hwf (Nat.le_refl _) hcs.1 hcs.2)
    | lt =>
      refine lv_if_lt hx hb hd hck.2 (fun hc => ?_) (fun hc => ?_)
      · have e1 : gh_cmp .lt a 0 = true := decide_eq_true hc
        rw [e1] at kk
        exact (kk H locs hW hwf (Nat.le_refl _) hcs.1 hcs.2)
      · have e1 : gh_cmp .lt a 0 = false := decide_eq_false hc
        rw [e1] at kk
        exact (kk H locs hW hwf (Nat.le_refl _) hcs.1 hcs.2)
    | ge =>
      refine lv_if_ge hx hb hd hck.2 (fun hc => ?_) (fun hc => ?_)
      · have e1 : gh_cmp .ge a 0 = true := decide_eq_true hc
        rw [e1] at kk
        exact (kk H locs hW hwf (Nat.le_refl _) hcs.1 hcs.2)
      · have e1 : gh_cmp .ge a 0 = false := decide_eq_false hc
        rw [e1] at kk
        exact (kk H locs hW hwf (Nat.le_refl _) hcs.1 hcs.2)
    | gt =>
      refine lv_if_gt hx hb hd hck.2 (fun hc => ?_) (fun hc => ?_)
      · have e1 : gh_cmp .gt a 0 = true := decide_eq_true hc
        rw [e1] at kk
        exact (kk H locs hW hwf (Nat.le_refl _) hcs.1 hcs.2)
      · have e1 : gh_cmp .gt a 0 = false := decide_eq_false hc
        rw [e1] at kk
        exact (kk H locs hW hwf (Nat.le_refl _) hcs.1 hcs.2)
    | le =>
      refine lv_if_le hx hb hd hck.2 (fun hc => ?_) (fun hc => ?_)
      · have e1 : gh_cmp .le a 0 = true := decide_eq_true hc
        rw [e1] at kk
        exact (kk H locs hW hwf (Nat.le_refl _) hcs.1 hcs.2)
      · have e1 : gh_cmp .le a 0 = false := decide_eq_false hc
        rw [e1] at kk
        exact (kk H locs hW hwf (Nat.le_refl _) hcs.1 hcs.2)
  · simp only [gh_ck, Bool.and_eq_true, decide_eq_true_eq] at hck
    obtain ⟨a, b, r, rfl, rfl, rfl, rfl⟩ := gh_icmp_inv h
    have hl := gh_be hck.1
    subst hl
    rename_i cnd off
    cases cnd with
    | eq =>
      refine lv_icmp_eq hx hb hd hck.2 (fun hc => ?_) (fun hc => ?_)
      · have e1 : gh_cmp .eq a b = true := decide_eq_true hc
        rw [e1] at kk
        exact (kk H locs hW hwf (Nat.le_refl _) hcs.1 hcs.2)
      · have e1 : gh_cmp .eq a b = false := decide_eq_false hc
        rw [e1] at kk
        exact (kk H locs hW hwf (Nat.le_refl _) hcs.1 hcs.2)
    | ne =>
      refine lv_icmp_ne hx hb hd hck.2 (fun hc => ?_) (fun hc => ?_)
      · have e1 : gh_cmp .ne a b = true := decide_eq_true hc
        rw [e1] at kk
        exact (kk H locs hW hwf (Nat.le_refl _) hcs.1 hcs.2)
      · have e1 : gh_cmp .ne a b = false := decide_eq_false (fun z => z hc)
        rw [e1] at kk
        exact (kk H locs hW hwf (Nat.le_refl _) hcs.1 hcs.2)
    | lt =>
      refine lv_icmp_lt hx hb hd hck.2 (fun hc => ?_) (fun hc => ?_)
      · have e1 : gh_cmp .lt a b = true := decide_eq_true hc
        rw [e1] at kk
        exact (kk H locs hW hwf (Nat.le_refl _) hcs.1 hcs.2)
      · have e1 : gh_cmp .lt a b = false := decide_eq_false hc
        rw [e1] at kk
        exact (kk H locs hW hwf (Nat.le_refl _) hcs.1 hcs.2)
    | ge =>
      refine lv_icmp_ge hx hb hd hck.2 (fun hc => ?_) (fun hc => ?_)
      · have e1 : gh_cmp .ge a b = true := decide_eq_true hc
        rw [e1] at kk
        exact (kk H locs hW hwf (Nat.le_refl _) hcs.1 hcs.2)
      · have e1 : gh_cmp .ge a b = false := decide_eq_false hc
        rw [e1] at kk
        exact (kk H locs hW hwf (Nat.le_refl _) hcs.1 hcs.2)
    | gt =>
      refine lv_icmp_gt hx hb hd hck.2 (fun hc => ?_) (fun hc => ?_)
      · have e1 : gh_cmp .gt a b = true := decide_eq_true hc
        rw [e1] at kk
        exact (kk H locs hW hwf (Nat.le_refl _) hcs.1 hcs.2)
      · have e1 : gh_cmp .gt a b = false := decide_eq_false hc
        rw [e1] at kk
        exact (kk H locs hW hwf (Nat.le_refl _) hcs.1 hcs.2)
    | le =>
      refine lv_icmp_le hx hb hd hck.2 (fun hc => ?_) (fun hc => ?_)
      · have e1 : gh_cmp .le a b = true := decide_eq_true hc
        rw [e1] at kk
        exact (kk H locs hW hwf (Nat.le_refl _) hcs.1 hcs.2)
      · have e1 : gh_cmp .le a b = false := decide_eq_false hc
        rw [e1] at kk
        exact (kk H locs hW hwf (Nat.le_refl _) hcs.1 hcs.2)
  · simp only [gh_ck, Bool.and_eq_true, decide_eq_true_eq] at hck
    obtain ⟨rfl, rfl, rfl⟩ := gh_k_inv h
    have hl := gh_be hck.1
    subst hl
    exact lv_goto hx hb hd hck.2 (kk H locs hW hwf (Nat.le_refl _) hcs.1 hcs.2)
  · obtain ⟨a, r, rfl, rfl, rfl, hq⟩ := gh_tab_inv h
    rcases hq with ⟨h1, h2⟩ | ⟨h1, h2, off, h3, h4⟩
    · exact lv_tableOut hx hb hd h1 h2 (kk H locs hW hwf (Nat.le_refl _) hcs.1 hcs.2)
    · exact lv_tableIn hx hb hd h1 h2 h3 h4 (kk H locs hW hwf (Nat.le_refl _) hcs.1 hcs.2)
  · obtain ⟨a, r, rfl, rfl, rfl, h1, h2⟩ := gh_luk_inv h
    exact lv_lookup hx hb hd h1 rfl h2 (kk H locs hW hwf (Nat.le_refl _) hcs.1 hcs.2)
  · simp only [gh_ck, Bool.and_eq_true, decide_eq_true_eq] at hck
    have hl := gh_be hck.1.1.1
    subst hl
    obtain ⟨q, r, kd, y, rfl, h1, h2, h3, rfl, rfl, rfl⟩ := gh_get_inv h
    exact gh_snd_get hC hW hd (gh_bc4 hck.1.1.2) (gh_bl hck.1.2) (gh_bl hck.2) h1 h2 (h3 ad) (kk H locs hW hwf (Nat.le_refl _) hcs.1 hcs.2)
  · simp only [gh_ck, Bool.and_eq_true] at hck
    have hl := gh_be hck.1.1.1.1
    subst hl
    have hu := gh_bl hck.1.1.2
    have hv := gh_bl hck.1.2
    have hfw : (gh_Tn u v).2.2.2 = true → w = 1 ∧ (gh_Tn u v).1 = gh_Rn o := by
      intro hf
      have h2 := hck.2
      rw [hf] at h2
      have h3 : (decide (w = 1) && decide ((gh_Tn u v).1 = gh_Rn o)) = true := h2
      exact ⟨of_decide_eq_true (gh_b1 h3), of_decide_eq_true (gh_b2 h3)⟩
    have hkd := gh_kds u hu v hv
    obtain ⟨y, q, r, rfl, h1, h2, rfl, rfl, h3⟩ := gh_put_inv h
    rcases h3 with ⟨a, h4, rfl, rfl⟩ | ⟨a, h4, rfl, rfl⟩ | ⟨a, h4, rfl, h5, rfl⟩ | ⟨a, h4, rfl, h5, rfl⟩
    · have ht : gh_tn u v = .int := gh_kind0 (Option.some.inj (hkd.symm.trans h4))
      exact gh_snd_put (M' := gh_mI Wm.1 q (upd (Wm.1.2.1 q) v a)) hC hW hd (gh_bc4 hck.1.1.1.2) hu hv h1 h2 hfw hini (by rw [ht]; rfl) (by rw [ht]; rfl) (gh_fs_putI h1 h4 (by decide) (by decide)) (fun H' locs' hW' => kk H' locs' hW' (gh_wf_mI hwf _ _) (Nat.le_refl _) hcs.1 hcs.2)
    · have ht : gh_tn u v = .long := gh_kind1 (Option.some.inj (hkd.symm.trans h4))
      exact gh_snd_put (M' := gh_mL Wm.1 q (vp_updL (Wm.1.2.2.1 q) v a)) hC hW hd (gh_bc4 hck.1.1.1.2) hu hv h1 h2 hfw hini (by rw [ht]; rfl) (by rw [ht]; rfl) (gh_fs_putL h1 h4) (fun H' locs' hW' => kk H' locs' hW' (gh_wf_mL hwf _ _) (Nat.le_refl _) hcs.1 hcs.2)
    · have ht := gh_kind2 (Option.some.inj (hkd.symm.trans h4)) (ad a)
      exact gh_snd_put (M' := gh_mR Wm.1 q (gh_upR (Wm.1.2.2.2 q) v (some a))) hC hW hd (gh_bc4 hck.1.1.1.2) hu hv h1 h2 hfw hini ht.1 ht.2 (gh_fs_putR h1 h4) (fun H' locs' hW' => kk H' locs' hW' (gh_wf_mR hwf _ _ _ h5) (Nat.le_refl _) hcs.1 hcs.2)
    · have ht : gh_tn u v = .boolean := gh_kind3 (Option.some.inj (hkd.symm.trans h4))
      have h6 : a = 0 ∨ a = 1 := by
        unfold gh_isB at h5
        simpa using h5
      exact gh_snd_put (M' := gh_mI Wm.1 q (upd (Wm.1.2.1 q) v a)) hC hW hd (gh_bc4 hck.1.1.1.2) hu hv h1 h2 hfw hini (by rw [ht]; rcases h6 with rfl | rfl <;> rfl) (by rw [ht]; rcases h6 with rfl | rfl <;> rfl) (gh_fs_putI h1 h4 (by decide) (by decide)) (fun H' locs' hW' => kk H' locs' hW' (gh_wf_mI hwf _ _) (Nat.le_refl _) hcs.1 hcs.2)
  · simp only [gh_ck, Bool.and_eq_true, decide_eq_true_eq] at hck
    have hl := gh_be hck
    subst hl
    obtain ⟨i, q, r, rfl, rfl, rfl, hq⟩ := gh_iald_inv h
    rcases hq with ⟨n, h1, h2, rfl⟩ | ⟨L, xs, h1, rfl, h2, rfl⟩
    · exact va_iald (D := D) (cl := vwCl) (ws := gh_ws ad ca W'.1) hx hb hX.1 hW.1 q 0 (gh_get_arr h1) rfl h2 hd (kk H locs hW hwf (Nat.le_refl _) hcs.1 hcs.2)
    · obtain ⟨hs1, hs2, hs3⟩ := hsc L xs h1
      exact va_sld hx hb hs1 hs2 hs3 hW.2.2 h2 hd (kk H locs hW hwf (Nat.le_refl _) hcs.1 hcs.2)
  · simp only [gh_ck, Bool.and_eq_true, decide_eq_true_eq] at hck
    have hl := gh_be hck
    subst hl
    obtain ⟨i, q, r, n, rfl, rfl, rfl, h1, h2, rfl⟩ := gh_lald_inv h
    exact va_lald (D := D) (cl := vwCl) (ws := gh_ws ad ca W'.1) hx hb hX.1 hW.1 q 1 (gh_get_arr h1) rfl h2 hd (kk H locs hW hwf (Nat.le_refl _) hcs.1 hcs.2)
  · simp only [gh_ck, Bool.and_eq_true, decide_eq_true_eq] at hck
    have hl := gh_be hck
    subst hl
    obtain ⟨i, q, r, n, rfl, rfl, rfl, h1, h2, rfl⟩ := gh_bald_inv h
    rcases h1 with h1 | h1
    · exact va_bald (D := D) (cl := vwCl) (ws := gh_ws ad ca W'.1) hx hb hX.1 hW.1 q 2 (gh_get_arr h1) rfl h2 hd (kk H locs hW hwf (Nat.le_refl _) hcs.1 hcs.2)
    · exact va_zald (D := D) (cl := vwCl) (ws := gh_ws ad ca W'.1) hx hb hX.1 hW.1 q 3 (gh_get_arr h1) rfl h2 hd (kk H locs hW hwf (Nat.le_refl _) hcs.1 hcs.2)
  · simp only [gh_ck, Bool.and_eq_true, decide_eq_true_eq] at hck
    have hl := gh_be hck
    subst hl
    obtain ⟨y, i, q, r, n, rfl, rfl, rfl, h1, h2, rfl⟩ := gh_iast_inv h
    refine va_iast (D := D) (cl := vwCl) (ws := gh_ws ad ca Wm.1) hx hb hX.1 hW.1 hW.2.1 hW.2.2 q 0 (gh_get_arr h1) rfl h2 hd (fun H1 locs1 g1 g2 g3 => ?_)
    have e1 := gh_ws_mI (ad := ad) (ca := ca) (upd (Wm.1.2.1 q) i.toNatClampNeg y) h1
    rw [gh_ent_mI (by decide)] at e1
    exact kk H1 locs1 ⟨by rw [e1]; exact g1, by rw [e1]; exact g2, g3⟩ (gh_wf_mI hwf _ _) (Nat.le_refl _) hcs.1 hcs.2
  · simp only [gh_ck, Bool.and_eq_true, decide_eq_true_eq] at hck
    have hl := gh_be hck
    subst hl
    obtain ⟨y, i, q, r, n, rfl, rfl, rfl, h1, h2, rfl⟩ := gh_last_inv h
    refine va_last (D := D) (cl := vwCl) (ws := gh_ws ad ca Wm.1) hx hb hX.1 hW.1 hW.2.1 hW.2.2 q 1 (gh_get_arr h1) rfl h2 hd (fun H1 locs1 g1 g2 g3 => ?_)
    have e1 := gh_ws_mL (ad := ad) (ca := ca) (vp_updL (Wm.1.2.2.1 q) i.toNatClampNeg y) h1
    rw [gh_ent_mL] at e1
    exact kk H1 locs1 ⟨by rw [e1]; exact g1, by rw [e1]; exact g2, g3⟩ (gh_wf_mL hwf _ _) (Nat.le_refl _) hcs.1 hcs.2
  · simp only [gh_ck, Bool.and_eq_true, decide_eq_true_eq] at hck
    have hl := gh_be hck
    subst hl
    obtain ⟨y, i, q, r, n, rfl, rfl, rfl, h2, hq⟩ := gh_bast_inv h
    rcases hq with ⟨h1, rfl⟩ | ⟨h1, rfl⟩
    · refine va_bast (D := D) (cl := vwCl) (ws := gh_ws ad ca Wm.1) hx hb hX.1 hW.1 hW.2.1 hW.2.2 q 2 (gh_get_arr h1) rfl h2 hd (fun H1 locs1 g1 g2 g3 => ?_)
      have e1 := gh_ws_mI (ad := ad) (ca := ca) (upd (Wm.1.2.1 q) i.toNatClampNeg (vp_nar .byte y)) h1
      rw [gh_ent_mI (by decide)] at e1
      exact kk H1 locs1 ⟨by rw [e1]; exact g1, by rw [e1]; exact g2, g3⟩ (gh_wf_mI hwf _ _) (Nat.le_refl _) hcs.1 hcs.2
    · refine va_zast (D := D) (cl := vwCl) (ws := gh_ws ad ca Wm.1) hx hb hX.1 hW.1 hW.2.1 hW.2.2 q 3 (gh_get_arr h1) rfl h2 hd (fun H1 locs1 g1 g2 g3 => ?_)
      have e1 := gh_ws_mI (ad := ad) (ca := ca) (upd (Wm.1.2.1 q) i.toNatClampNeg (vp_nar .boolean y)) h1
      rw [gh_ent_mI (by decide)] at e1
      exact kk H1 locs1 ⟨by rw [e1]; exact g1, by rw [e1]; exact g2, g3⟩ (gh_wf_mI hwf _ _) (Nat.le_refl _) hcs.1 hcs.2
  · simp only [gh_ck, Bool.and_eq_true, decide_eq_true_eq] at hck
    have hl := gh_be hck
    subst hl
    obtain ⟨q, r, rfl, rfl, rfl, hq⟩ := gh_alen_inv h
    rcases hq with ⟨t, n, h1, h2, rfl⟩ | ⟨L, xs, h1, rfl, rfl⟩
    · have en : (gh_ae W'.1 q t n).1 = n := by
        unfold gh_ae
        split <;> rfl
      exact va_alen (D := D) (cl := vwCl) (ws := gh_ws ad ca W'.1) hx hb hX.1 hW.1 q t (gh_get_arr h1) (gh_tys_get t h2) (by rw [en]) hd (kk H locs hW hwf (Nat.le_refl _) hcs.1 hcs.2)
    · obtain ⟨hs1, hs2, hs3⟩ := hsc L xs h1
      exact va_slen hx hb hs1 hs2 hs3 hW.2.2 hd (kk H locs hW hwf (Nat.le_refl _) hcs.1 hcs.2)
  · simp only [gh_ck, Bool.and_eq_true] at hck
    have hl := gh_be hck.1
    subst hl
    have hq := hck.2
    cases hu : Nat.blt u gh_NZ with
    | true =>
      rw [hu] at hq
      simp only [cond_true, Bool.and_eq_true, Bool.or_eq_true] at hq
      have hz := gh_bl hu
      unfold gh_sta at h
      split at h
      · exact absurd hz (by decide)
      · exact absurd hz (by decide)
      · exact absurd hz (by decide)
      · exact absurd hz (by decide)
      · exact gh_snd_sta hC hd hz (gh_be hq.1.1.1.1) (gh_be hq.1.1.1.2) (gh_be hq.1.1.2) (hq.2.imp gh_bc3 gh_bc4) h hls hW hwf had hR hO (fun H' locs' hW' hwf' hle => by
          obtain ⟨-, h⟩ := gh_ivs_inv h
          obtain ⟨-, c1, c2, -, y, M', -, -, rfl⟩ := gh_cal_inv h
          exact kk H' locs' hW' hwf' hle c1 c2)
    | false =>
      rw [hu] at hq
      simp only [cond_false, Bool.and_eq_true] at hq
      have hlk := hts _ (gh_xlt_ok (o, _, u) (gh_bc3 hq.2))
      unfold gh_sta at h
      split at h
      · obtain ⟨a, b, r, rfl, h1, rfl, rfl, rfl⟩ := gh_mmx_inv h
        exact va_mmax hx hb (by rw [hls]; exact hml) hown hlk (hts _ gh_w_xst0) (hts _ gh_w_im) (hts _ gh_w_c0) (by omega) (by rw [gh_cat]; have := gh_rm_le h1; omega) (by omega) (by omega) hd (kk H locs hW hwf (Nat.le_refl _) hcs.1 hcs.2)
      · obtain ⟨a, b, r, rfl, h1, rfl, rfl, rfl⟩ := gh_mmn_inv h
        exact va_mmin hx hb (by rw [hls]; exact hml) hown hlk (hts _ gh_w_xst1) (hts _ gh_w_im) (hts _ gh_w_c1) (by omega) (by rw [gh_cat]; have := gh_rm_le h1; omega) (by omega) (by omega) hd (kk H locs hW hwf (Nat.le_refl _) hcs.1 hcs.2)
      · obtain ⟨a, b, r, rfl, h1, rfl, rfl, rfl⟩ := gh_mml_inv h
        exact va_mmax_long hx hb (by rw [hls]; exact hml) hown hlk (hts _ gh_w_xst2) (hts _ gh_w_im) (hts _ gh_w_c2) (by omega) (by rw [gh_cat]; have := gh_rm_le h1; omega) (by omega) (by omega) hd (kk H locs hW hwf (Nat.le_refl _) hcs.1 hcs.2)
      · obtain ⟨n, dp, a, sp, b, r, n0, n1, rfl, ha, hb1, h1, k1, k2, k3, k4, k5, rfl, rfl, rfl⟩ := gh_acp_inv h
        refine va_copyi (D := D) (cl := vwCl) (ws := gh_ws ad ca Wm.1) (ty := .int) hx hb (by rw [hls]; exact hml) hown hlk (hts _ gh_w_nat) (hts _ gh_w_xst3) (hts _ gh_w_is) hX.1 hW.1 hW.2.1 hW.2.2 b a 0 0 (gh_get_arr hb1) (gh_get_arr ha) rfl rfl rfl k1 k2 k3 k4 k5 (fun _ _ => rfl) (by omega) (by rw [gh_cat]; have h9 := gh_rm_le h1; have h8 : nativeFrameWords "java/lang/System" "arraycopy" 5 ≤ 40 := (by decide); omega) hd (fun H1 locs1 g1 g2 g3 => ?_)
        have e1 := gh_ws_mI (ad := ad) (ca := ca) (va_cpy (Wm.1.2.1 b) (Wm.1.2.1 a) sp.toNatClampNeg dp.toNatClampNeg n.toNatClampNeg) ha
        rw [gh_ent_mI (by decide)] at e1
        exact kk H1 locs1 ⟨by rw [e1]; exact g1, by rw [e1]; exact g2, g3⟩ (gh_wf_mI hwf _ _) (Nat.le_refl _) hcs.1 hcs.2
      · rename_i n1 n2 n3 n4
        have h1 := Nat.le_of_ble_eq_true hq.1.1
        have h2 := Nat.le_of_ble_eq_true hq.1.2
        have : u = 1000 ∨ u = 1001 ∨ u = 1002 ∨ u = 1003 := by omega
        rcases this with q | q | q | q
        · exact absurd q n1
        · exact absurd q n2
        · exact absurd q n3
        · exact absurd q n4
  · simp only [gh_ck, Bool.and_eq_true] at hck
    have hl := gh_be hck.1
    subst hl
    have hq := hck.2
    cases hu : Nat.blt u gh_NZ with
    | true =>
      rw [hu] at hq
      simp only [cond_true, Bool.and_eq_true] at hq
      have hz := gh_bl hu
      unfold gh_vir at h
      split at h
      · exact absurd hz (by decide)
      · exact absurd hz (by decide)
      · exact gh_snd_vir hC hd hz (gh_be hq.1.1.1.1) (gh_be hq.1.1.1.2) (gh_be hq.1.1.2) (gh_bc3 hq.2) h hls hW hwf had hR hO (fun H' locs' hW' hwf' hle => by
          obtain ⟨-, b, r, -, -, h⟩ := gh_ivv_inv h
          obtain ⟨-, c1, c2, -, y, M', -, -, rfl⟩ := gh_cal_inv h
          exact kk H' locs' hW' hwf' hle c1 c2)
    | false =>
      rw [hu] at hq
      simp only [cond_false, Bool.and_eq_true, Bool.or_eq_true] at hq
      have ho := gh_be hq.1
      subst ho
      refine gh_snd_str (d := d) (bc := bc) (bs := bs) (pc' := pc') (st' := st') (W' := W') hC hd ?_ hls hW had hR hcs (fun H' locs' hW' e1 => ?_)
      · rcases hq.2 with ⟨h1, h2⟩ | ⟨h1, h2⟩
        · have e1 := gh_be h1
          have e2 := gh_be h2
          subst e1
          subst e2
          exact Or.inl ⟨rfl, h⟩
        · have e1 := gh_be h1
          have e2 := gh_be h2
          subst e1
          subst e2
          exact Or.inr ⟨rfl, h⟩
      · subst e1
        exact kk H' locs' hW' hwf (Nat.le_refl _) hcs.1 hcs.2
  · unfold gh_ire at h
    split at h
    · obtain ⟨-, h⟩ := gh_bif h
      cases h
    · cases h
  · unfold gh_lre at h
    split at h <;> cases h
  · unfold gh_vre at h
    split at h <;> cases h
  · cases h
end GhRest3

/-! ===== feed, end, fault ===== -/
def gl_F (S : gh_St) : Prop := ∃ u : Bool, S.1 45 0 = gq_B u ∧ (u = true → S.1 45 1 = S.1 56 38 ∧ S.1 45 2 = S.1 56 39) ∧ (u = false → S.1 56 38 = -1 ∧ S.1 56 39 = -1)
def gl_P (S : gh_St) : Prop := ∃ (nd : Nat) (da dl pc : Nat → Nat), nd ≤ 8 ∧ S.1 (gh_pl S.2.2) 4 = nI nd ∧ S.1 56 45 = nI nd ∧ (∀ k, k < 4 → S.1 (gh_pl S.2.2 + 1) k = nI (pc k) ∧ S.1 80 k = nI (pc k) ∧ pc k ≤ 9999) ∧ ∀ i, i < nd → S.1 (gh_pl S.2.2 + 3) i = nI (da i) ∧ S.1 81 i = nI (da i) ∧ S.1 (gh_pl S.2.2 + 4) i = nI (dl i) ∧ S.1 82 i = nI (dl i) ∧ da i ≤ 400 ∧ dl i ≤ 50
/-- what tape, faults and prices are, on both sides -/
def gl_R (S : gh_St) : Prop := (∃ n bs, n ≤ 200 ∧ (∀ k, bs k < 256) ∧ gt_W S n bs ∧ gt_V S n bs) ∧ gl_F S ∧ gl_P S
/-- their places -/
def gl_C (c k : Nat) : Bool := (Nat.ble 43 c && Nat.ble c 55) || (Nat.ble 76 c && Nat.ble c 82) || (Nat.beq c 56 && ((Nat.ble 31 k && Nat.ble k 39) || Nat.beq k 41 || Nat.beq k 45))
theorem gl_C_CC : ∀ c k, gt_CC c k = true → gl_C c k = true := by
  intro c k h
  unfold gt_CC at h
  unfold gl_C
  simp only [Bool.or_eq_true, Bool.and_eq_true, Nat.beq_eq, Nat.ble_eq] at h ⊢
  omega
theorem gl_C_CR : ∀ c k, gt_CR c k = true → gl_C c k = true := by
  intro c k h
  unfold gt_CR at h
  unfold gl_C
  simp only [Bool.or_eq_true, Bool.and_eq_true, Nat.beq_eq, Nat.ble_eq] at h ⊢
  omega
/-- places that neither faults nor prices are kept in -/
def gl_CT (c k : Nat) : Bool := gt_CC c k || gt_CR c k
theorem gl_F_fr {S S' : gh_St} (h : gl_F S) (hf : gh_fr gl_CT S S') : gl_F S' := by
  obtain ⟨u, h1, h2, h3⟩ := h
  refine ⟨u, (hf.1 45 0 rfl).trans h1, fun e => ?_, fun e => ?_⟩
  · rw [hf.1 45 1 rfl, hf.1 45 2 rfl, hf.1 56 38 rfl, hf.1 56 39 rfl]
    exact h2 e
  · rw [hf.1 56 38 rfl, hf.1 56 39 rfl]
    exact h3 e
theorem gl_P_fr {S S' : gh_St} (h : gl_P S) (hf : gh_fr gl_CT S S') : gl_P S' := by
  obtain ⟨nd, da, dl, pc, h1, h2, h3, h4, h5⟩ := h
  have e : ∀ b j k, j ≤ 4 → S'.1 (gh_pl b + j) k = S.1 (gh_pl b + j) k := by
    intro b j k hj
    refine hf.1 _ _ (gf_bf (fun w => ?_))
    unfold gl_CT gt_CC gt_CR gh_pl at w
    simp only [Bool.or_eq_true, Bool.and_eq_true, Nat.beq_eq] at w
    cases b
    · simp only [cond_false] at w
      omega
    · simp only [cond_true] at w
      omega
  have e0 : S'.1 (gh_pl S.2.2) 4 = S.1 (gh_pl S.2.2) 4 := e S.2.2 0 4 (by omega)
  refine ⟨nd, da, dl, pc, h1, ?_, (hf.1 56 45 rfl).trans h3, fun k hk => ?_, fun i hi => ?_⟩
  · rw [hf.2.2, e0]
    exact h2
  · rw [hf.2.2, e S.2.2 1 k (by omega), hf.1 80 k rfl]
    exact h4 k hk
  · rw [hf.2.2, e S.2.2 3 i (by omega), e S.2.2 4 i (by omega), hf.1 81 i rfl, hf.1 82 i rfl]
    exact h5 i hi
theorem gt_V_fr {S S' : gh_St} {n : Nat} {bs : Nat → Nat} (h : gt_V S n bs) (hf : gh_fr gt_CC S S') : gt_V S' n bs := ⟨(hf.1 56 31 rfl).trans h.1, fun k hk => (hf.1 76 k rfl).trans (h.2 k hk)⟩
theorem gt_W_fr {S S' : gh_St} {n : Nat} {bs : Nat → Nat} (h : gt_W S n bs) (hf : gh_fr gt_CR S S') : gt_W S' n bs := ⟨(hf.1 43 1 rfl).trans h.1, fun k hk => (hf.1 44 k rfl).trans (h.2 k hk)⟩
theorem gl_CT_CC : ∀ c k, gt_CC c k = true → gl_CT c k = true := fun c k h => by unfold gl_CT; rw [h]; rfl
theorem gl_CT_CR : ∀ c k, gt_CR c k = true → gl_CT c k = true := fun c k h => by unfold gl_CT; rw [h, Bool.or_true]
theorem gl_C_CT : ∀ c k, gl_CT c k = true → gl_C c k = true := fun c k h => by
  unfold gl_CT at h
  rw [Bool.or_eq_true] at h
  rcases h with h | h
  · exact gl_C_CC c k h
  · exact gl_C_CR c k h
theorem gl_feed {S : gh_St} (N : Nat) (hN : 100 ≤ N) (a1 a2 a3 a4 a5 : Int32) (hR : gl_R S) : gq_P (sX9_feed N a1 a2 a3 a4 a5) (sX10_feed N a1 a2 a3 a4 a5) gl_C gl_R S := by
  obtain ⟨⟨n, bs, hn, hb, hW, hV⟩, hF, hP⟩ := hR
  have hR : gl_R S := ⟨⟨n, bs, hn, hb, hW, hV⟩, hF, hP⟩
  have c1 : gh_cmp .gt (nI n + 20) 200 = decide (200 < n + 20) := by
    rw [show (20 : Int32) = nI 20 from rfl, nI_add]
    exact gh_n_gt (b := 200) (by omega) (by omega)
  have c2 : gh_cmp .le (nI n + 20) 200 = decide (n + 20 ≤ 200) := by
    rw [show (20 : Int32) = nI 20 from rfl, nI_add]
    exact gh_n_le (b := 200) (by omega) (by omega)
  by_cases h : n + 20 ≤ 200
  case neg =>
    rw [decide_eq_true (by omega)] at c1
    rw [decide_eq_false h] at c2
    exact gq_P0 (-1) (by simp only [sX9_feed, sX8_hasRoom, hW.1, c1, cond_true, gq_bs]; rfl) (by simp only [sX10_feed, hV.1, c2, cond_false]) hR
  rw [decide_eq_false (by omega)] at c1
  rw [decide_eq_true h] at c2
  obtain ⟨S1, p1, q1, f1⟩ := gt_putC N hN a1 hW (by omega)
  obtain ⟨S2, p2, q2, f2⟩ := gt_putC N hN a2 q1 (by omega)
  obtain ⟨S3, p3, q3, f3⟩ := gt_putC N hN a3 q2 (by omega)
  obtain ⟨S4, p4, q4, f4⟩ := gt_putC N hN a4 q3 (by omega)
  obtain ⟨S5, p5, q5, f5⟩ := gt_putC N hN a5 q4 (by omega)
  have fC := gh_fr_trans f1 (gh_fr_trans f2 (gh_fr_trans f3 (gh_fr_trans f4 f5)))
  have hV5 := gt_V_fr hV fC
  obtain ⟨T1, r1, s1, g1⟩ := gt_putR N a1 hV5 (by omega)
  obtain ⟨T2, r2, s2, g2⟩ := gt_putR N a2 s1 (by omega)
  obtain ⟨T3, r3, s3, g3⟩ := gt_putR N a3 s2 (by omega)
  obtain ⟨T4, r4, s4, g4⟩ := gt_putR N a4 s3 (by omega)
  obtain ⟨T5, r5, s5, g5⟩ := gt_putR N a5 s4 (by omega)
  have fR := gh_fr_trans g1 (gh_fr_trans g2 (gh_fr_trans g3 (gh_fr_trans g4 g5)))
  have fT : gh_fr gl_CT S T5 := gh_fr_trans (gh_fr_mono fC gl_CT_CC) (gh_fr_mono fR gl_CT_CR)
  refine ⟨nI (n + 4 + 4 + 4 + 4 + 4), S5, T5, ?_, ?_, ⟨⟨n + 4 + 4 + 4 + 4 + 4, _, by omega, gt_put_le (gt_put_le (gt_put_le (gt_put_le (gt_put_le hb)))), gt_W_fr q5 fR, s5⟩, gl_F_fr hF fT, gl_P_fr hP fT⟩, gh_fr_mono fT gl_C_CT⟩
  · simp only [sX9_feed, sX8_hasRoom, hW.1, c1, cond_false, gq_bs, show gh_cmp .ne (1 : Int32) 0 = true from rfl, cond_true, p1, p2, p3, p4, p5, q5.1]
  · simp only [sX10_feed, hV5.1, c2, cond_true, r1, r2, r3, r4, r5, gq_bs, s5.1]
theorem gl_end {S : gh_St} (N : Nat) (a : Int32) (hR : gl_R S) : gq_P (sX9_end N a) (sX10_end N a) gl_C gl_R S := by
  obtain ⟨⟨n, bs, hn, hb, hW, hV⟩, hF, hP⟩ := hR
  have hR : gl_R S := ⟨⟨n, bs, hn, hb, hW, hV⟩, hF, hP⟩
  have et : (nI n).toInt = (n : Int) := nI_toInt (by omega)
  cases c1 : gh_rg a.toInt 0 n with
  | false => exact gq_P0 (-1) (by simp only [sX9_end, gq_bs, gq_B_eq, gq_B_ne, gq_B_gB, Bool.not_true, Bool.not_false, Bool.true_and, Bool.false_and, Bool.and_true, Bool.and_false, cond_true, cond_false, gh_isBin9, gh_isKind9, gh_isFarmer9, gh_within, gh_inR, gh_isBin10, gh_isKind10, Int32.toInt_toInt64, Int32.reduceToInt, Int64.reduceToInt, decide_true, decide_false, hW.1, et, c1]) (by simp only [sX10_end, gq_bs, gq_B_eq, gq_B_ne, gq_B_gB, Bool.not_true, Bool.not_false, Bool.true_and, Bool.false_and, Bool.and_true, Bool.and_false, cond_true, cond_false, gh_isBin9, gh_isKind9, gh_isFarmer9, gh_within, gh_inR, gh_isBin10, gh_isKind10, Int32.toInt_toInt64, Int32.reduceToInt, Int64.reduceToInt, decide_true, decide_false, hV.1, et, c1]) hR
  | true =>
  obtain ⟨m, -, rfl, -, hm, -⟩ := gh_rgN c1 (by decide)
  have fT : gh_fr gl_CT S (gh_fI (gh_fI S 43 1 (nI m)) 56 31 (nI m)) := gh_fr_fI (gh_fr_fI (gh_fr_refl _ _) rfl) rfl
  have hV1 : (gh_fI S 43 1 (nI m)).1 56 31 = nI n := by rw [gh_fI_1, if_neg (by omega)]; exact hV.1
  refine ⟨nI m, gh_fI S 43 1 (nI m), gh_fI (gh_fI S 43 1 (nI m)) 56 31 (nI m), by simp only [sX9_end, gq_bs, gq_B_eq, gq_B_ne, gq_B_gB, Bool.not_true, Bool.not_false, Bool.true_and, Bool.false_and, Bool.and_true, Bool.and_false, cond_true, cond_false, gh_isBin9, gh_isKind9, gh_isFarmer9, gh_within, gh_inR, gh_isBin10, gh_isKind10, Int32.toInt_toInt64, Int32.reduceToInt, Int64.reduceToInt, decide_true, decide_false, hW.1, et, c1], by simp only [sX10_end, gq_bs, gq_B_eq, gq_B_ne, gq_B_gB, Bool.not_true, Bool.not_false, Bool.true_and, Bool.false_and, Bool.and_true, Bool.and_false, cond_true, cond_false, gh_isBin9, gh_isKind9, gh_isFarmer9, gh_within, gh_inR, gh_isBin10, gh_isKind10, Int32.toInt_toInt64, Int32.reduceToInt, Int64.reduceToInt, decide_true, decide_false, hV1, et, c1], ⟨⟨m, bs, by omega, hb, ⟨by simp [gh_fI_1], fun k hk => by simpa [gh_fI_1] using hW.2 k hk⟩, ⟨by simp [gh_fI_1], fun k hk => by simpa [gh_fI_1] using hV.2 k hk⟩⟩, gl_F_fr hF fT, gl_P_fr hP fT⟩, gh_fr_mono fT gl_C_CT⟩
theorem gl_fault {S : gh_St} (N : Nat) (a : Int32) (hR : gl_R S) : gq_P (sX9_fault N a) (sX10_fault N a) gl_C gl_R S := by
  obtain ⟨u, h1, h2, h3⟩ := hR.2.1
  have n0 : gh_cmp .ne a 0 = !gh_cmp .eq a 0 := by rw [gh_c_ne, gh_c_eq]; exact gq_nd (by omega)
  have n1 : gh_cmp .ne a 1 = !gh_cmp .eq a 1 := by rw [gh_c_ne, gh_c_eq]; exact gq_nd (by omega)
  cases u with
  | false =>
    obtain ⟨e1, e2⟩ := h3 rfl
    refine gq_P0 (-1) (by simp only [sX9_fault, h1, gq_B_ne, cond_false]) ?_ hR
    unfold sX10_fault
    rw [n0, n1, e1, e2]
    cases gh_cmp .eq a 0 <;> cases gh_cmp .eq a 1 <;> rfl
  | true =>
    obtain ⟨e1, e2⟩ := h2 rfl
    cases c0 : gh_cmp .eq a 0 with
    | true => exact gq_P0 (S.1 56 38) (by simp only [sX9_fault, h1, gq_B_ne, cond_true, c0, e1]) (by simp only [sX10_fault, n0, c0, Bool.not_true, cond_false]) hR
    | false =>
      cases c1 : gh_cmp .eq a 1 with
      | true => exact gq_P0 (S.1 56 39) (by simp only [sX9_fault, h1, gq_B_ne, cond_true, c0, c1, cond_false, e2]) (by simp only [sX10_fault, n0, n1, c0, c1, Bool.not_true, Bool.not_false, cond_false, cond_true]) hR
      | false => exact gq_P0 (-1) (by simp only [sX9_fault, h1, gq_B_ne, cond_true, c0, c1, cond_false]) (by simp only [sX10_fault, n0, n1, c0, c1, Bool.not_false, cond_true]) hR

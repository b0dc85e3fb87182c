/-! ===== ship, binOf, dryIn ===== -/
theorem gq_canTake {S : gh_St} (N : Nat) {j k m : Nat} (hj : j < 8) (h3 : S.1 3 j = nI k) (hk : k < 2 ^ 31) (a : Int32) : sX0_canTake N (nI j) a S = some (gq_B (gh_rg a.toInt 1 k), S) := by
  have hb : gh_rg (nI j).toInt 0 7 = true := gq_nrg (by omega) (by omega) (by omega)
  have e : (nI k).toInt = (k : Int) := nI_toInt hk
  simp only [sX0_canTake, gq_bs, gq_B_eq, gq_B_ne, gq_B_gB, Bool.not_true, Bool.not_false, Bool.true_and, Bool.false_and, Bool.and_true, Bool.and_false, cond_true, cond_false, gh_isBin9, gh_isKind9, gh_isFarmer9, gh_within, gh_inR, gh_isBin10, gh_isKind10, Int32.toInt_toInt64, Int32.reduceToInt, Int64.reduceToInt, decide_true, decide_false, hb, gh_ra_n hj (show 8 < 2 ^ 31 by decide), h3, e]
  cases gh_rg a.toInt 1 k <;> rfl
theorem gq_canTake_no {S : gh_St} (N : Nat) {a b : Int32} (h : gh_rg a.toInt 0 7 = false) : sX0_canTake N a b S = some (0, S) := by
  simp only [sX0_canTake, gq_bs, gq_B_eq, gq_B_ne, gq_B_gB, Bool.not_true, Bool.not_false, Bool.true_and, Bool.false_and, Bool.and_true, Bool.and_false, cond_true, cond_false, gh_isBin9, gh_isKind9, gh_isFarmer9, gh_within, gh_inR, gh_isBin10, gh_isKind10, Int32.toInt_toInt64, Int32.reduceToInt, Int64.reduceToInt, decide_true, decide_false, h]
theorem gq_dle {r m k : Nat} (h : m ≤ k) : r * m / k ≤ r := by
  refine Nat.div_le_of_le_mul ?_
  rw [Nat.mul_comm k r]
  exact Nat.mul_le_mul_left r h
theorem gq_ship {S : gh_St} (N : Nat) (a b : Int32) (hR : gq_R1 S) : gq_P (sX9_ship N a b) (sX10_ship N a b) gq_C1 gq_R1 S := by
  obtain ⟨n, kd, kg, rm, g, fa, ki, mo, gr, hB, hL, hH⟩ := hR
  have hR : gq_R1 S := ⟨n, kd, kg, rm, g, fa, ki, mo, gr, hB, hL, hH⟩
  cases h1 : gh_rg a.toInt 0 7 with
  | false => exact gq_P0 (-1) (by simp only [sX9_ship, gq_bs, gq_B_eq, gq_B_ne, gq_B_gB, Bool.not_true, Bool.not_false, Bool.true_and, Bool.false_and, Bool.and_true, Bool.and_false, cond_true, cond_false, gh_isBin9, gh_isKind9, gh_isFarmer9, gh_within, gh_inR, gh_isBin10, gh_isKind10, Int32.toInt_toInt64, Int32.reduceToInt, Int64.reduceToInt, decide_true, decide_false, gq_canTake_no N h1]; rfl) (by simp only [sX10_ship, gq_bs, gq_B_eq, gq_B_ne, gq_B_gB, Bool.not_true, Bool.not_false, Bool.true_and, Bool.false_and, Bool.and_true, Bool.and_false, cond_true, cond_false, gh_isBin9, gh_isKind9, gh_isFarmer9, gh_within, gh_inR, gh_isBin10, gh_isKind10, Int32.toInt_toInt64, Int32.reduceToInt, Int64.reduceToInt, decide_true, decide_false, h1]) hR
  | true =>
  obtain ⟨j, -, rfl, -, hj, -⟩ := gh_rgN h1 (by decide)
  have hj8 : j < 8 := by omega
  obtain ⟨e1, e2, e3, e4, e5, e6, e7, e8, q1, q2, q3⟩ := hB.1 j hj8
  have ct := gq_canTake (m := 0) N hj8 e3 (by omega) b
  have ek : (nI (kg j)).toInt = (kg j : Int) := nI_toInt (by omega)
  cases h2 : gh_rg b.toInt 1 (kg j) with
  | false => exact gq_P0 (-1) (by simp only [sX9_ship, gq_bs, gq_B_eq, gq_B_ne, gq_B_gB, Bool.not_true, Bool.not_false, Bool.true_and, Bool.false_and, Bool.and_true, Bool.and_false, cond_true, cond_false, gh_isBin9, gh_isKind9, gh_isFarmer9, gh_within, gh_inR, gh_isBin10, gh_isKind10, Int32.toInt_toInt64, Int32.reduceToInt, Int64.reduceToInt, decide_true, decide_false, ct, h2]) (by simp only [sX10_ship, gq_bs, gq_B_eq, gq_B_ne, gq_B_gB, Bool.not_true, Bool.not_false, Bool.true_and, Bool.false_and, Bool.and_true, Bool.and_false, cond_true, cond_false, gh_isBin9, gh_isKind9, gh_isFarmer9, gh_within, gh_inR, gh_isBin10, gh_isKind10, Int32.toInt_toInt64, Int32.reduceToInt, Int64.reduceToInt, decide_true, decide_false, h1, gh_ra_n hj8 (show 8 < 2 ^ 31 by decide), e4, ek, h2]) hR
  | true =>
  obtain ⟨m, -, rfl, hm1, hm2, -⟩ := gh_rgN h2 (by decide)
  have hgj := gq_gle hB.2 hL.1 hj8
  have hdl : g j * m / kg j ≤ g j := gq_dle (by omega)
  obtain ⟨S1, hS1⟩ : ∃ S1, S1 = gh_fL (gh_fL (gh_fL (gh_fI S 3 j (nI (kg j - m))) 5 j (lN (g j - g j * m / kg j))) 0 11 (S.2.1 0 11 + (nI m).toInt64)) 0 12 (S.2.1 0 12 + lN (g j * m / kg j)) := ⟨_, rfl⟩
  have r9 : sX9_ship N (nI j) (nI m) S = some (lN (g j * m / kg j), S1) := by
    rw [hS1]
    simp only [sX9_ship, gq_bs, gq_B_eq, gq_B_ne, gq_B_gB, Bool.not_true, Bool.not_false, Bool.true_and, Bool.false_and, Bool.and_true, Bool.and_false, cond_true, cond_false, gh_isBin9, gh_isKind9, gh_isFarmer9, gh_within, gh_inR, gh_isBin10, gh_isKind10, Int32.toInt_toInt64, Int32.reduceToInt, Int64.reduceToInt, decide_true, decide_false, ct, h2, gq_take N hj8 e3 e7 (by omega) (by omega) (show m ≤ kg j by omega) hgj]
    simp [gh_fL_1, gh_fI_2]
  have k4 : S1.1 59 j = nI (kg j) := by rw [hS1]; simp [gh_fI_1, gh_fL_2, e4]
  have k8 : S1.2.1 60 j = lN (g j) := by rw [hS1]; simp [gh_fI_2, gh_fL_1, e8]
  have k11 : S1.2.1 56 17 = S.2.1 0 11 := by rw [hS1]; simp [gh_fI_2, gh_fL_1, hH.2.1]
  have k12 : S1.2.1 56 18 = S.2.1 0 12 := by rw [hS1]; simp [gh_fI_2, gh_fL_1, hH.2.2]
  obtain ⟨S2, hS2⟩ : ∃ S2, S2 = gh_fL (gh_fL (gh_fI (gh_fL S1 60 j (lN (g j - g j * m / kg j))) 59 j (nI (kg j - m))) 56 17 (S.2.1 0 11 + (nI m).toInt64)) 56 18 (S.2.1 0 12 + lN (g j * m / kg j)) := ⟨_, rfl⟩
  have r10 : sX10_ship N (nI j) (nI m) S1 = some (lN (g j * m / kg j), S2) := by
    rw [hS2]
    simp only [sX10_ship, gq_bs, gq_B_eq, gq_B_ne, gq_B_gB, Bool.not_true, Bool.not_false, Bool.true_and, Bool.false_and, Bool.and_true, Bool.and_false, cond_true, cond_false, gh_isBin9, gh_isKind9, gh_isFarmer9, gh_within, gh_inR, gh_isBin10, gh_isKind10, Int32.toInt_toInt64, Int32.reduceToInt, Int64.reduceToInt, decide_true, decide_false, h1, gh_ra_n hj8 (show 8 < 2 ^ 31 by decide), k4, ek, h2, gq_dryOf N hj8 k4 k8 (by omega) (by omega) (show m ≤ kg j by omega) hgj, gq_takes N hj8 k4 k8 (by omega) (by omega) (show m ≤ kg j by omega) hgj]
    simp [gh_fL_1, gh_fI_2, k11, k12]
  refine ⟨_, S1, S2, r9, r10, ⟨n, gh_nu kd j (kd j), gh_nu kg j (kg j - m), rm, gh_nu g j (g j - g j * m / kg j), fa, ki, mo, gr, ⟨?_, ?_⟩, ?_, ?_⟩, ?_⟩
  · refine gq_RBb_at (S := S) hB.1 ?_ (by omega) (fun _ => by omega)
    rw [hS2, hS1]
    refine ⟨?_, ?_, ?_, ?_, ?_, ?_, ?_, ?_⟩ <;> intro b <;> simp [gh_fI_1, gh_fI_2, gh_fL_1, gh_fL_2]
    · intro h
      rw [h, e1]
    · intro h
      rw [h, e2]
  · have := gh_sm_nu g j (g j - g j * m / kg j) 8 hj8
    have := hB.2
    have : g j - g j * m / kg j ≤ g j := Nat.sub_le _ _
    omega
  · rw [hS2, hS1]
    simpa [gq_RL, gh_fI_1, gh_fI_2, gh_fL_1, gh_fL_2] using hL
  · rw [hS2, hS1]
    unfold gq_RH at hH ⊢
    simp [gh_fI_2, gh_fL_1, hH.1]
  · rw [hS2, hS1]
    repeat first | exact gh_fr_refl _ _ | refine gh_fr_fI ?_ rfl | refine gh_fr_fL ?_ rfl
theorem gq_binOf {S : gh_St} (N : Nat) (a b : Int32) (hR : gq_R1 S) : gq_P (sX9_binOf N a b) (sX10_binOf N a b) gq_C1 gq_R1 S := by
  obtain ⟨n, kd, kg, rm, g, fa, ki, mo, gr, hB, hL, hH⟩ := hR
  have hR : gq_R1 S := ⟨n, kd, kg, rm, g, fa, ki, mo, gr, hB, hL, hH⟩
  cases h1 : gh_rg a.toInt 0 7 with
  | false => exact gq_P0 (-1) (by simp only [sX9_binOf, gq_bs, gq_B_eq, gq_B_ne, gq_B_gB, Bool.not_true, Bool.not_false, Bool.true_and, Bool.false_and, Bool.and_true, Bool.and_false, cond_true, cond_false, gh_isBin9, gh_isKind9, gh_isFarmer9, gh_within, gh_inR, gh_isBin10, gh_isKind10, Int32.toInt_toInt64, Int32.reduceToInt, Int64.reduceToInt, decide_true, decide_false, h1]) (by simp only [sX10_binOf, gq_bs, gq_B_eq, gq_B_ne, gq_B_gB, Bool.not_true, Bool.not_false, Bool.true_and, Bool.false_and, Bool.and_true, Bool.and_false, cond_true, cond_false, gh_isBin9, gh_isKind9, gh_isFarmer9, gh_within, gh_inR, gh_isBin10, gh_isKind10, Int32.toInt_toInt64, Int32.reduceToInt, Int64.reduceToInt, decide_true, decide_false, h1]) hR
  | true =>
  obtain ⟨j, -, rfl, -, hj, -⟩ := gh_rgN h1 (by decide)
  have hj8 : j < 8 := by omega
  obtain ⟨e1, e2, e3, e4, e5, e6, e7, e8, q1, q2, q3⟩ := hB.1 j hj8
  have hgj := gq_gle hB.2 hL.1 hj8
  have ra : ∀ c, gh_ra S c 8 (nI j) = some (S.1 c j) := fun c => gh_ra_n hj8 (by decide)
  have rj : ∀ c, gh_rj S c 8 (nI j) = some (S.2.1 c j) := fun c => gh_rj_n hj8 (by decide)
  have c0 : gh_cmp .ne (nI (kg j)) 0 = decide (kg j ≠ 0) := gh_n_ne (b := 0) (by omega) (by omega)
  by_cases h0 : kg j = 0
  · have e3' := e3
    rw [h0] at e3'
    have hm := gq_moist0 N hj8 e3'
    cases b0 : gh_cmp .eq b 0 with
    | true => exact gq_P0 (-1) (by simp [sX9_binOf, gq_bs, gq_B_eq, gq_B_ne, gq_B_gB, Bool.not_true, Bool.not_false, Bool.true_and, Bool.false_and, Bool.and_true, Bool.and_false, cond_true, cond_false, gh_isBin9, gh_isKind9, gh_isFarmer9, gh_within, gh_inR, gh_isBin10, gh_isKind10, Int32.toInt_toInt64, Int32.reduceToInt, Int64.reduceToInt, decide_true, decide_false, h1, b0, ra, e3, c0, h0]; rfl) (by simp [sX10_binOf, sX10_binOf_23, gq_bs, gq_B_eq, gq_B_ne, gq_B_gB, Bool.not_true, Bool.not_false, Bool.true_and, Bool.false_and, Bool.and_true, Bool.and_false, cond_true, cond_false, gh_isBin9, gh_isKind9, gh_isFarmer9, gh_within, gh_inR, gh_isBin10, gh_isKind10, Int32.toInt_toInt64, Int32.reduceToInt, Int64.reduceToInt, decide_true, decide_false, h1, b0, ra, e4, c0, h0]; rfl) hR
    | false =>
    cases b1 : gh_cmp .eq b 1 with
    | true => exact gq_P0 (nI (kg j)) (by simp [sX9_binOf, gq_bs, gq_B_eq, gq_B_ne, gq_B_gB, Bool.not_true, Bool.not_false, Bool.true_and, Bool.false_and, Bool.and_true, Bool.and_false, cond_true, cond_false, gh_isBin9, gh_isKind9, gh_isFarmer9, gh_within, gh_inR, gh_isBin10, gh_isKind10, Int32.toInt_toInt64, Int32.reduceToInt, Int64.reduceToInt, decide_true, decide_false, h1, b0, b1, ra, e3]) (by simp [sX10_binOf, sX10_binOf_23, gq_bs, gq_B_eq, gq_B_ne, gq_B_gB, Bool.not_true, Bool.not_false, Bool.true_and, Bool.false_and, Bool.and_true, Bool.and_false, cond_true, cond_false, gh_isBin9, gh_isKind9, gh_isFarmer9, gh_within, gh_inR, gh_isBin10, gh_isKind10, Int32.toInt_toInt64, Int32.reduceToInt, Int64.reduceToInt, decide_true, decide_false, h1, b0, b1, ra, e4, c0, h0]) hR
    | false =>
    cases b2 : gh_cmp .eq b 2 with
    | true => exact gq_P0 (-1) (by simp [sX9_binOf, gq_bs, gq_B_eq, gq_B_ne, gq_B_gB, Bool.not_true, Bool.not_false, Bool.true_and, Bool.false_and, Bool.and_true, Bool.and_false, cond_true, cond_false, gh_isBin9, gh_isKind9, gh_isFarmer9, gh_within, gh_inR, gh_isBin10, gh_isKind10, Int32.toInt_toInt64, Int32.reduceToInt, Int64.reduceToInt, decide_true, decide_false, h1, b0, b1, b2, hm]) (by simp [sX10_binOf, sX10_binOf_23, gq_bs, gq_B_eq, gq_B_ne, gq_B_gB, Bool.not_true, Bool.not_false, Bool.true_and, Bool.false_and, Bool.and_true, Bool.and_false, cond_true, cond_false, gh_isBin9, gh_isKind9, gh_isFarmer9, gh_within, gh_inR, gh_isBin10, gh_isKind10, Int32.toInt_toInt64, Int32.reduceToInt, Int64.reduceToInt, decide_true, decide_false, h1, b0, b1, b2, ra, e4, c0, h0]; rfl) hR
    | false =>
    cases b3 : gh_cmp .eq b 3 with
    | true => exact gq_P0 (nI (rm j)) (by simp [sX9_binOf, gq_bs, gq_B_eq, gq_B_ne, gq_B_gB, Bool.not_true, Bool.not_false, Bool.true_and, Bool.false_and, Bool.and_true, Bool.and_false, cond_true, cond_false, gh_isBin9, gh_isKind9, gh_isFarmer9, gh_within, gh_inR, gh_isBin10, gh_isKind10, Int32.toInt_toInt64, Int32.reduceToInt, Int64.reduceToInt, decide_true, decide_false, h1, b0, b1, b2, b3, ra, e5]) (by simp [sX10_binOf, sX10_binOf_23, gq_bs, gq_B_eq, gq_B_ne, gq_B_gB, Bool.not_true, Bool.not_false, Bool.true_and, Bool.false_and, Bool.and_true, Bool.and_false, cond_true, cond_false, gh_isBin9, gh_isKind9, gh_isFarmer9, gh_within, gh_inR, gh_isBin10, gh_isKind10, Int32.toInt_toInt64, Int32.reduceToInt, Int64.reduceToInt, decide_true, decide_false, h1, b0, b1, b2, b3, ra, e4, e6, c0, h0]) hR
    | false => exact gq_P0 (-1) (by simp [sX9_binOf, gq_bs, gq_B_eq, gq_B_ne, gq_B_gB, Bool.not_true, Bool.not_false, Bool.true_and, Bool.false_and, Bool.and_true, Bool.and_false, cond_true, cond_false, gh_isBin9, gh_isKind9, gh_isFarmer9, gh_within, gh_inR, gh_isBin10, gh_isKind10, Int32.toInt_toInt64, Int32.reduceToInt, Int64.reduceToInt, decide_true, decide_false, h1, b0, b1, b2, b3]) (by simp [sX10_binOf, sX10_binOf_23, gq_bs, gq_B_eq, gq_B_ne, gq_B_gB, Bool.not_true, Bool.not_false, Bool.true_and, Bool.false_and, Bool.and_true, Bool.and_false, cond_true, cond_false, gh_isBin9, gh_isKind9, gh_isFarmer9, gh_within, gh_inR, gh_isBin10, gh_isKind10, Int32.toInt_toInt64, Int32.reduceToInt, Int64.reduceToInt, decide_true, decide_false, h1, b0, b1, b2, b3, ra, e4, c0, h0]) hR
  · have hm := gq_moist N hj8 e3 e7 (by omega) (by omega) hgj
    have hmr := gq_moistOf (S := S) N (k := kg j) (r := g j) (by omega) (by omega) hgj
    have hl : (nI (kg j)).toInt64 = lN (kg j) := nI_l (by omega)
    cases b0 : gh_cmp .eq b 0 with
    | true => exact gq_P0 (nI (kd j)) (by simp [sX9_binOf, gq_bs, gq_B_eq, gq_B_ne, gq_B_gB, Bool.not_true, Bool.not_false, Bool.true_and, Bool.false_and, Bool.and_true, Bool.and_false, cond_true, cond_false, gh_isBin9, gh_isKind9, gh_isFarmer9, gh_within, gh_inR, gh_isBin10, gh_isKind10, Int32.toInt_toInt64, Int32.reduceToInt, Int64.reduceToInt, decide_true, decide_false, h1, b0, ra, e3, c0, h0, e1]) (by simp [sX10_binOf, sX10_binOf_23, gq_bs, gq_B_eq, gq_B_ne, gq_B_gB, Bool.not_true, Bool.not_false, Bool.true_and, Bool.false_and, Bool.and_true, Bool.and_false, cond_true, cond_false, gh_isBin9, gh_isKind9, gh_isFarmer9, gh_within, gh_inR, gh_isBin10, gh_isKind10, Int32.toInt_toInt64, Int32.reduceToInt, Int64.reduceToInt, decide_true, decide_false, h1, b0, ra, e4, c0, h0, e2]; rfl) hR
    | false =>
    cases b1 : gh_cmp .eq b 1 with
    | true => exact gq_P0 (nI (kg j)) (by simp [sX9_binOf, gq_bs, gq_B_eq, gq_B_ne, gq_B_gB, Bool.not_true, Bool.not_false, Bool.true_and, Bool.false_and, Bool.and_true, Bool.and_false, cond_true, cond_false, gh_isBin9, gh_isKind9, gh_isFarmer9, gh_within, gh_inR, gh_isBin10, gh_isKind10, Int32.toInt_toInt64, Int32.reduceToInt, Int64.reduceToInt, decide_true, decide_false, h1, b0, b1, ra, e3]) (by simp [sX10_binOf, sX10_binOf_23, gq_bs, gq_B_eq, gq_B_ne, gq_B_gB, Bool.not_true, Bool.not_false, Bool.true_and, Bool.false_and, Bool.and_true, Bool.and_false, cond_true, cond_false, gh_isBin9, gh_isKind9, gh_isFarmer9, gh_within, gh_inR, gh_isBin10, gh_isKind10, Int32.toInt_toInt64, Int32.reduceToInt, Int64.reduceToInt, decide_true, decide_false, h1, b0, b1, ra, e4, c0, h0]) hR
    | false =>
    cases b2 : gh_cmp .eq b 2 with
    | true => exact gq_P0 (nI (1000 - g j / kg j)) (by simp [sX9_binOf, gq_bs, gq_B_eq, gq_B_ne, gq_B_gB, Bool.not_true, Bool.not_false, Bool.true_and, Bool.false_and, Bool.and_true, Bool.and_false, cond_true, cond_false, gh_isBin9, gh_isKind9, gh_isFarmer9, gh_within, gh_inR, gh_isBin10, gh_isKind10, Int32.toInt_toInt64, Int32.reduceToInt, Int64.reduceToInt, decide_true, decide_false, h1, b0, b1, b2, hm]) (by simp [sX10_binOf, sX10_binOf_23, gq_bs, gq_B_eq, gq_B_ne, gq_B_gB, Bool.not_true, Bool.not_false, Bool.true_and, Bool.false_and, Bool.and_true, Bool.and_false, cond_true, cond_false, gh_isBin9, gh_isKind9, gh_isFarmer9, gh_within, gh_inR, gh_isBin10, gh_isKind10, Int32.toInt_toInt64, Int32.reduceToInt, Int64.reduceToInt, decide_true, decide_false, h1, b0, b1, b2, ra, rj, e4, e8, c0, h0, hl, hmr]; rfl) hR
    | false =>
    cases b3 : gh_cmp .eq b 3 with
    | true => exact gq_P0 (nI (rm j)) (by simp [sX9_binOf, gq_bs, gq_B_eq, gq_B_ne, gq_B_gB, Bool.not_true, Bool.not_false, Bool.true_and, Bool.false_and, Bool.and_true, Bool.and_false, cond_true, cond_false, gh_isBin9, gh_isKind9, gh_isFarmer9, gh_within, gh_inR, gh_isBin10, gh_isKind10, Int32.toInt_toInt64, Int32.reduceToInt, Int64.reduceToInt, decide_true, decide_false, h1, b0, b1, b2, b3, ra, e5]) (by simp [sX10_binOf, sX10_binOf_23, gq_bs, gq_B_eq, gq_B_ne, gq_B_gB, Bool.not_true, Bool.not_false, Bool.true_and, Bool.false_and, Bool.and_true, Bool.and_false, cond_true, cond_false, gh_isBin9, gh_isKind9, gh_isFarmer9, gh_within, gh_inR, gh_isBin10, gh_isKind10, Int32.toInt_toInt64, Int32.reduceToInt, Int64.reduceToInt, decide_true, decide_false, h1, b0, b1, b2, b3, ra, e4, e6, c0, h0]) hR
    | false => exact gq_P0 (-1) (by simp [sX9_binOf, gq_bs, gq_B_eq, gq_B_ne, gq_B_gB, Bool.not_true, Bool.not_false, Bool.true_and, Bool.false_and, Bool.and_true, Bool.and_false, cond_true, cond_false, gh_isBin9, gh_isKind9, gh_isFarmer9, gh_within, gh_inR, gh_isBin10, gh_isKind10, Int32.toInt_toInt64, Int32.reduceToInt, Int64.reduceToInt, decide_true, decide_false, h1, b0, b1, b2, b3]) (by simp [sX10_binOf, sX10_binOf_23, gq_bs, gq_B_eq, gq_B_ne, gq_B_gB, Bool.not_true, Bool.not_false, Bool.true_and, Bool.false_and, Bool.and_true, Bool.and_false, cond_true, cond_false, gh_isBin9, gh_isKind9, gh_isFarmer9, gh_within, gh_inR, gh_isBin10, gh_isKind10, Int32.toInt_toInt64, Int32.reduceToInt, Int64.reduceToInt, decide_true, decide_false, h1, b0, b1, b2, b3, ra, e4, c0, h0]) hR
theorem gq_dryIn {S : gh_St} (N : Nat) (a : Int32) (hR : gq_R1 S) : gq_P (sX9_dryIn N a) (sX10_dryIn N a) gq_C1 gq_R1 S := by
  obtain ⟨n, kd, kg, rm, g, fa, ki, mo, gr, hB, hL, hH⟩ := hR
  have hR : gq_R1 S := ⟨n, kd, kg, rm, g, fa, ki, mo, gr, hB, hL, hH⟩
  cases h1 : gh_rg a.toInt 0 7 with
  | false => exact gq_P0 (-1) (by simp only [sX9_dryIn, gq_bs, gq_B_eq, gq_B_ne, gq_B_gB, Bool.not_true, Bool.not_false, Bool.true_and, Bool.false_and, Bool.and_true, Bool.and_false, cond_true, cond_false, gh_isBin9, gh_isKind9, gh_isFarmer9, gh_within, gh_inR, gh_isBin10, gh_isKind10, Int32.toInt_toInt64, Int32.reduceToInt, Int64.reduceToInt, decide_true, decide_false, h1]) (by simp only [sX10_dryIn, gq_bs, gq_B_eq, gq_B_ne, gq_B_gB, Bool.not_true, Bool.not_false, Bool.true_and, Bool.false_and, Bool.and_true, Bool.and_false, cond_true, cond_false, gh_isBin9, gh_isKind9, gh_isFarmer9, gh_within, gh_inR, gh_isBin10, gh_isKind10, Int32.toInt_toInt64, Int32.reduceToInt, Int64.reduceToInt, decide_true, decide_false, h1]) hR
  | true =>
  obtain ⟨j, -, rfl, -, hj, -⟩ := gh_rgN h1 (by decide)
  have hj8 : j < 8 := by omega
  obtain ⟨e1, e2, e3, e4, e5, e6, e7, e8, q1, q2, q3⟩ := hB.1 j hj8
  have rj : ∀ c, gh_rj S c 8 (nI j) = some (S.2.1 c j) := fun c => gh_rj_n hj8 (by decide)
  exact gq_P0 (lN (g j)) (by simp only [sX9_dryIn, gq_bs, gq_B_eq, gq_B_ne, gq_B_gB, Bool.not_true, Bool.not_false, Bool.true_and, Bool.false_and, Bool.and_true, Bool.and_false, cond_true, cond_false, gh_isBin9, gh_isKind9, gh_isFarmer9, gh_within, gh_inR, gh_isBin10, gh_isKind10, Int32.toInt_toInt64, Int32.reduceToInt, Int64.reduceToInt, decide_true, decide_false, h1, rj, e7]) (by simp only [sX10_dryIn, gq_bs, gq_B_eq, gq_B_ne, gq_B_gB, Bool.not_true, Bool.not_false, Bool.true_and, Bool.false_and, Bool.and_true, Bool.and_false, cond_true, cond_false, gh_isBin9, gh_isKind9, gh_isFarmer9, gh_within, gh_inR, gh_isBin10, gh_isKind10, Int32.toInt_toInt64, Int32.reduceToInt, Int64.reduceToInt, decide_true, decide_false, h1, rj, e8]) hR

/-! ===== what the methods of the bins do ===== -/
section GqBins
variable {S : gh_St} {j q m k r x kk : Nat} (N : Nat)
theorem gq_canPut (hj : j < 8) (hm : m < 2 ^ 30) (hq : q < 2 ^ 30) (h2 : S.1 2 j = nI kk) (hkk : kk < 2 ^ 30) (h3 : S.1 3 j = nI k) (h4 : S.1 4 j = nI r) (hk : k ≤ r) (hr : r ≤ 500000) : sX0_canPut N (nI j) (nI q) (nI m) S = some (gq_B (decide ((k = 0 ∨ kk = q) ∧ k + m ≤ r)), S) := by
  have hb : gh_rg (nI j).toInt 0 7 = true := gh_rg_iff.mpr (by rw [nI_toInt (by omega)]; omega)
  have e28 : sX0_canPut_28 N (nI j) (nI m) S = some (gq_B (decide (k + m ≤ r)), S) := by
    unfold sX0_canPut_28
    rw [gh_ra_n hj (by decide), gq_bs, gh_ra_n hj (by decide), gq_bs, h3, h4, pk_sub hk, gh_n_gt (by omega) (by omega)]
    by_cases h : k + m ≤ r
    · rw [decide_eq_true h, decide_eq_false (by omega)]
      rfl
    · rw [decide_eq_false h, decide_eq_true (by omega)]
      rfl
  unfold sX0_canPut
  rw [gh_isBin9, gq_bs, hb, gq_B_ne, cond_true, gh_ra_n hj (by decide), gq_bs, h3, show (0 : Int32) = nI 0 from rfl, gh_n_eq (by omega) (by omega), e28]
  by_cases h0 : k = 0
  · rw [decide_eq_true h0]
    simp [h0]
  · rw [decide_eq_false h0, cond_false, gh_ra_n hj (by decide), gq_bs, h2, gh_n_ne (by omega) (by omega)]
    by_cases h1 : kk = q
    · rw [decide_eq_false (by omega), cond_false]
      simp [h1]
    · rw [decide_eq_true (by omega), cond_true, decide_eq_false (by omega)]
      rfl
theorem gq_canPut_no {a b c : Int32} (h : gh_rg a.toInt 0 7 = false) : sX0_canPut N a b c S = some (0, S) := by
  unfold sX0_canPut
  rw [gh_isBin9, gq_bs, h]
  rfl
theorem gq_canPutR (hj : j < 8) (hm : m < 2 ^ 30) (hq : q < 2 ^ 30) (h2 : S.1 58 j = nI kk) (hkk : kk < 2 ^ 30) (h3 : S.1 59 j = nI k) (h4 : S.1 57 j = nI r) (hk : k ≤ r) (hr : r ≤ 500000) : sX10_canPut N (nI j) (nI q) (nI m) S = some (gq_B (decide ((k = 0 ∨ kk = q) ∧ k + m ≤ r)), S) := by
  have e28 : sX10_canPut_19 N (nI j) (nI m) S = some (gq_B (decide (k + m ≤ r)), S) := by
    unfold sX10_canPut_19
    rw [gh_ra_n hj (by decide), gq_bs, gh_ra_n hj (by decide), gq_bs, h3, h4, nI_add, gh_n_gt (by omega) (by omega)]
    by_cases h : k + m ≤ r
    · rw [decide_eq_true h, decide_eq_false (by omega)]
      rfl
    · rw [decide_eq_false h, decide_eq_true (by omega)]
      rfl
  unfold sX10_canPut
  rw [gh_ra_n hj (by decide), gq_bs, h3, show (0 : Int32) = nI 0 from rfl, gh_n_eq (by omega) (by omega), e28]
  by_cases h0 : k = 0
  · rw [decide_eq_true h0]
    simp [h0]
  · rw [decide_eq_false h0, cond_false, gh_ra_n hj (by decide), gq_bs, h2, gh_n_ne (by omega) (by omega)]
    by_cases h1 : kk = q
    · rw [decide_eq_false (by omega), cond_false]
      simp [h1]
    · rw [decide_eq_true (by omega), cond_true, decide_eq_false (by omega)]
      rfl
theorem gq_put (hj : j < 8) (h3 : S.1 3 j = nI k) (h5 : S.2.1 5 j = lN r) : sX0_put N (nI j) (nI q) (nI m) (lN x) S = some (gh_fL (gh_fI (gh_fI S 2 j (nI q)) 3 j (nI (k + m))) 5 j (lN (r + x))) := by
  unfold sX0_put
  rw [gh_wa_n hj (by decide), gq_bs, gh_ra_n hj (by decide), gq_bs, gh_wa_n hj (by decide), gq_bs, gh_rj_n hj (by decide), gq_bs, gh_wj_n hj (by decide), gq_bs, gh_fI_1]
  simp only [gh_fI_2]
  rw [if_neg (by omega), h3, h5, nI_add, lN_add]
theorem gq_putR (hj : j < 8) (h3 : S.1 59 j = nI k) (h5 : S.2.1 60 j = lN r) : sX10_puts N (nI j) (nI q) (nI m) (lN x) S = some (gh_fL (gh_fI (gh_fI S 58 j (nI q)) 59 j (nI (k + m))) 60 j (lN (r + x))) := by
  unfold sX10_puts
  rw [gh_wa_n hj (by decide), gq_bs, gh_ra_n hj (by decide), gq_bs, gh_wa_n hj (by decide), gq_bs, gh_rj_n hj (by decide), gq_bs, gh_wj_n hj (by decide), gq_bs, gh_fI_1]
  simp only [gh_fI_2]
  rw [if_neg (by omega), h3, h5, nI_add, lN_add]
theorem gq_gb {g m k : Nat} (hg : g ≤ 4000000000) (hm : m ≤ k) (hk : k ≤ 500000) : g * m < 2 ^ 63 := by
  have : g * m ≤ 4000000000 * 500000 := Nat.mul_le_mul hg (by omega)
  omega
theorem gq_part (hj : j < 8) (h3 : S.1 3 j = nI k) (h5 : S.2.1 5 j = lN r) (h1 : 1 ≤ k) (hk : k ≤ 500000) (hm : m ≤ k) (hr : r ≤ 4000000000) : sX0_part N (nI j) (nI m) S = some (lN (r * m / k), S) := by
  unfold sX0_part
  rw [gh_ra_n hj (by decide), gq_bs, h3, show (0 : Int32) = nI 0 from rfl, gh_n_ne (by omega) (by omega), decide_eq_true (by omega), cond_true, gh_rj_n hj (by decide), gq_bs, gq_bs, h5, nI_l (by omega), nI_l (by omega), lN_mul]
  unfold gh_dj
  rw [if_neg (by rw [show (0 : Int64) = lN 0 from rfl, lN_eq (by omega) (by omega)]; omega), pk_lDiv (gq_gb hr hm hk) (by omega) (by omega)]
  rfl
theorem gq_dryOf (hj : j < 8) (h3 : S.1 59 j = nI k) (h5 : S.2.1 60 j = lN r) (h1 : 1 ≤ k) (hk : k ≤ 500000) (hm : m ≤ k) (hr : r ≤ 4000000000) : sX10_dryOf N (nI j) (nI m) S = some (lN (r * m / k), S) := by
  unfold sX10_dryOf
  rw [gh_ra_n hj (by decide), gq_bs, h3, gh_n_ne (by omega) (by omega), gh_rj_n hj (by decide), gq_bs, gq_bs, h5]
  by_cases e : m = k
  · subst e
    rw [decide_eq_false (by omega), cond_false, Nat.mul_div_cancel _ (by omega)]
    rfl
  · rw [decide_eq_true e, cond_true, nI_l (by omega), nI_l (by omega), lN_mul]
    unfold gh_dj
    rw [if_neg (by rw [show (0 : Int64) = lN 0 from rfl, lN_eq (by omega) (by omega)]; omega), pk_lDiv (gq_gb hr hm hk) (by omega) (by omega)]
    rfl
theorem gq_take (hj : j < 8) (h3 : S.1 3 j = nI k) (h5 : S.2.1 5 j = lN r) (h1 : 1 ≤ k) (hk : k ≤ 500000) (hm : m ≤ k) (hr : r ≤ 4000000000) : sX0_take N (nI j) (nI m) S = some (lN (r * m / k), gh_fL (gh_fI S 3 j (nI (k - m))) 5 j (lN (r - r * m / k))) := by
  unfold sX0_take
  rw [gq_part N hj h3 h5 h1 hk hm hr, gq_bs, gh_ra_n hj (by decide), gq_bs, gh_wa_n hj (by decide), gq_bs, gh_rj_n hj (by decide), gq_bs, gh_wj_n hj (by decide), gq_bs]
  simp only [gh_fI_2]
  have hle : r * m / k ≤ r := by
    refine Nat.div_le_of_le_mul ?_
    rw [Nat.mul_comm k r]
    exact Nat.mul_le_mul_left r hm
  rw [h3, h5, pk_sub hm, lN_sub hle]
theorem gq_takes (hj : j < 8) (h3 : S.1 59 j = nI k) (h5 : S.2.1 60 j = lN r) (h1 : 1 ≤ k) (hk : k ≤ 500000) (hm : m ≤ k) (hr : r ≤ 4000000000) : sX10_takes N (nI j) (nI m) S = some (gh_fI (gh_fL S 60 j (lN (r - r * m / k))) 59 j (nI (k - m))) := by
  unfold sX10_takes
  rw [gh_rj_n hj (by decide), gq_bs, gq_dryOf N hj h3 h5 h1 hk hm hr, gq_bs, gh_wj_n hj (by decide), gq_bs, gh_ra_n hj (by decide), gq_bs, gh_wa_n hj (by decide), gq_bs]
  have hle : r * m / k ≤ r := by
    refine Nat.div_le_of_le_mul ?_
    rw [Nat.mul_comm k r]
    exact Nat.mul_le_mul_left r hm
  rw [gh_fL_2, h3, h5, pk_sub hm, lN_sub hle]
theorem gq_mst {d : Nat} (hd : d ≤ 4000000000) : (gh_mxj 0 ((1000 : Int64) - lN d) : Int64).toInt32 = nI (1000 - d) := by
  unfold gh_mxj
  rw [show (1000 : Int64) = lN 1000 from rfl]
  by_cases h : d ≤ 1000
  · rw [lN_sub h, show (0 : Int64) = lN 0 from rfl, if_neg (by rw [pk_lLT (by omega) (by omega)]; omega), lN_i]
  · have : (lN 1000 - lN d).toInt = 1000 - (d : Int) := by
      rw [Int64.toInt_sub, pk_lT (by omega), pk_lT (by omega)]
      exact Int.bmod_eq_of_le (by omega) (by omega)
    rw [if_pos (by rw [Int64.lt_iff_toInt_lt, this]; show (1000 - (d : Int)) < 0; omega), show 1000 - d = 0 by omega]
    rfl
theorem gq_moist (hj : j < 8) (h3 : S.1 3 j = nI k) (h5 : S.2.1 5 j = lN r) (h1 : 1 ≤ k) (hk : k ≤ 500000) (hr : r ≤ 4000000000) : sX0_moist N (nI j) S = some (nI (1000 - r / k), S) := by
  unfold sX0_moist
  rw [gh_ra_n hj (by decide), gq_bs, h3, show (0 : Int32) = nI 0 from rfl, gh_n_ne (by omega) (by omega), decide_eq_true (by omega), cond_true, gh_rj_n hj (by decide), gq_bs, gq_bs, h5, nI_l (by omega)]
  unfold gh_dj
  have hle : r / k ≤ r := Nat.div_le_self r k
  rw [if_neg (by rw [show (0 : Int64) = lN 0 from rfl, lN_eq (by omega) (by omega)]; omega), pk_lDiv (by omega) (by omega) (by omega), gq_bs, gq_mst (by omega)]
theorem gq_moist0 (hj : j < 8) (h3 : S.1 3 j = nI 0) : sX0_moist N (nI j) S = some (-1, S) := by
  unfold sX0_moist
  rw [gh_ra_n hj (by decide), gq_bs, h3]
  rfl
theorem gq_moistOf (h1 : 1 ≤ k) (hk : k ≤ 500000) (hr : r ≤ 4000000000) : sX10_moistOf N (lN r) (lN k) S = some (nI (1000 - r / k), S) := by
  unfold sX10_moistOf gh_dj
  have hle : r / k ≤ r := Nat.div_le_self r k
  rw [if_neg (by rw [show (0 : Int64) = lN 0 from rfl, lN_eq (by omega) (by omega)]; omega), pk_lDiv (by omega) (by omega) (by omega), gq_bs, gh_lg_ge]
  generalize r / k = d at hle ⊢
  have e : ((1000 : Int64) - lN d).toInt = 1000 - (d : Int) := by
    rw [show (1000 : Int64) = lN 1000 from rfl, Int64.toInt_sub, pk_lT (by omega), pk_lT (by omega)]
    exact Int.bmod_eq_of_le (by omega) (by omega)
  rw [e]
  by_cases h : d ≤ 1000
  · rw [decide_eq_true (show (0 : Int64).toInt ≤ _ by show (0 : Int) ≤ _; omega), cond_true, show (1000 : Int64) = lN 1000 from rfl, lN_sub h, lN_i]
  · rw [decide_eq_false (show ¬ (0 : Int64).toInt ≤ _ by show ¬ (0 : Int) ≤ _; omega), cond_false, show 1000 - d = 0 by omega]
    rfl
end GqBins

/-! ===== dry ===== -/
theorem gq_come {x d : Nat} (hx : x ≤ 4000000000) (h0 : 1 ≤ d) (hd : d ≤ 1000) : gh_dj (lN x) (lN d) = some (lN (x / d)) := by
  unfold gh_dj
  rw [if_neg (by rw [show (0 : Int64) = lN 0 from rfl, lN_eq (by omega) (by omega)]; omega), pk_lDiv (by omega) (by omega) (by omega)]
theorem gq_dry {S : gh_St} {j : Nat} (N : Nat) (hN : 2000000000 ≤ N) (hj : j < 512) (xa xb xm xw : Int32) (hR : gq_R12 j S) : gq_P (sX9_dry N xa xb xm xw) (sX10_dry N xa xb xm xw) gq_C12 (gq_R12 (j + 1)) S := by
  obtain ⟨⟨n, kd, kg, rm, g, fa, ki, mo, gr, hB, hL, hH⟩, hR2⟩ := hR
  have hR1 : gq_R1 S := ⟨n, kd, kg, rm, g, fa, ki, mo, gr, hB, hL, hH⟩
  have hS : gq_R12 (j + 1) S := ⟨hR1, gq_R2_mono hR2 (by omega)⟩
  cases h1 : gh_rg xa.toInt 0 7 with
  | false => exact gq_P0 (-1) (by simp only [sX9_dry, gq_bs, gq_B_eq, gq_B_ne, gq_B_gB, Bool.not_true, Bool.not_false, Bool.true_and, Bool.false_and, Bool.and_true, Bool.and_false, cond_true, cond_false, gh_isBin9, gh_isKind9, gh_isFarmer9, gh_within, gh_inR, gh_isBin10, gh_isKind10, Int32.toInt_toInt64, Int32.reduceToInt, Int64.reduceToInt, decide_true, decide_false, gq_canTake_no N h1]; rfl) (by simp only [sX10_dry, gq_bs, gq_B_eq, gq_B_ne, gq_B_gB, Bool.not_true, Bool.not_false, Bool.true_and, Bool.false_and, Bool.and_true, Bool.and_false, cond_true, cond_false, gh_isBin9, gh_isKind9, gh_isFarmer9, gh_within, gh_inR, gh_isBin10, gh_isKind10, Int32.toInt_toInt64, Int32.reduceToInt, Int64.reduceToInt, decide_true, decide_false, h1]) hS
  | true =>
  obtain ⟨a, -, rfl, -, ha, -⟩ := gh_rgN h1 (by decide)
  have ha8 : a < 8 := by omega
  obtain ⟨a1, a2, a3, a4, a5, a6, a7, a8, qa1, qa2, qa3⟩ := hB.1 a ha8
  have ct := gq_canTake (m := 0) N ha8 a3 (by omega) xm
  have ek : (nI (kg a)).toInt = (kg a : Int) := nI_toInt (by omega)
  have raS : ∀ (T : gh_St) c, gh_ra T c 8 (nI a) = some (T.1 c a) := fun T c => gh_ra_n ha8 (by decide)
  have rjS : ∀ (T : gh_St) c, gh_rj T c 8 (nI a) = some (T.2.1 c a) := fun T c => gh_rj_n ha8 (by decide)
  cases h2 : gh_rg xm.toInt 1 (kg a) with
  | false => exact gq_P0 (-1) (by simp only [sX9_dry, gq_bs, gq_B_eq, gq_B_ne, gq_B_gB, Bool.not_true, Bool.not_false, Bool.true_and, Bool.false_and, Bool.and_true, Bool.and_false, cond_true, cond_false, gh_isBin9, gh_isKind9, gh_isFarmer9, gh_within, gh_inR, gh_isBin10, gh_isKind10, Int32.toInt_toInt64, Int32.reduceToInt, Int64.reduceToInt, decide_true, decide_false, ct, h2]) (by simp only [sX10_dry, gq_bs, gq_B_eq, gq_B_ne, gq_B_gB, Bool.not_true, Bool.not_false, Bool.true_and, Bool.false_and, Bool.and_true, Bool.and_false, cond_true, cond_false, gh_isBin9, gh_isKind9, gh_isFarmer9, gh_within, gh_inR, gh_isBin10, gh_isKind10, Int32.toInt_toInt64, Int32.reduceToInt, Int64.reduceToInt, decide_true, decide_false, h1, raS, a4, ek, h2]) hS
  | true =>
  obtain ⟨m, -, rfl, hm1, hm2, -⟩ := gh_rgN h2 (by decide)
  have hga := gq_gle hB.2 hL.1 ha8
  cases h4 : gh_rg xw.toInt 0 300 with
  | false => exact gq_P0 (-1) (by simp only [sX9_dry, gq_bs, gq_B_eq, gq_B_ne, gq_B_gB, Bool.not_true, Bool.not_false, Bool.true_and, Bool.false_and, Bool.and_true, Bool.and_false, cond_true, cond_false, gh_isBin9, gh_isKind9, gh_isFarmer9, gh_within, gh_inR, gh_isBin10, gh_isKind10, Int32.toInt_toInt64, Int32.reduceToInt, Int64.reduceToInt, decide_true, decide_false, ct, h2, h4]) (by simp only [sX10_dry, gq_bs, gq_B_eq, gq_B_ne, gq_B_gB, Bool.not_true, Bool.not_false, Bool.true_and, Bool.false_and, Bool.and_true, Bool.and_false, cond_true, cond_false, gh_isBin9, gh_isKind9, gh_isFarmer9, gh_within, gh_inR, gh_isBin10, gh_isKind10, Int32.toInt_toInt64, Int32.reduceToInt, Int64.reduceToInt, decide_true, decide_false, h1, raS, a4, ek, h2, h4]) hS
  | true =>
  obtain ⟨w, -, rfl, -, hw, -⟩ := gh_rgN h4 (by decide)
  have ms := gq_moist N ha8 a3 a7 (by omega) (by omega) hga
  have msR : ∀ T : gh_St, sX10_moistOf N (lN (g a)) (lN (kg a)) T = some (nI (1000 - g a / kg a), T) := fun T => gq_moistOf N (by omega) (by omega) hga
  have hl : (nI (kg a)).toInt64 = lN (kg a) := nI_l (by omega)
  have c1 : gh_cmp .lt (nI w) (nI (1000 - g a / kg a)) = decide (w < 1000 - g a / kg a) := gh_n_lt (by omega) (Nat.lt_of_le_of_lt (Nat.sub_le _ _) (by decide))
  have c2 : gh_cmp .ge (nI w) (nI (1000 - g a / kg a)) = decide (1000 - g a / kg a ≤ w) := gh_n_ge (by omega) (Nat.lt_of_le_of_lt (Nat.sub_le _ _) (by decide))
  by_cases hmw : w < 1000 - g a / kg a
  case neg =>
    rw [decide_eq_false hmw] at c1
    rw [decide_eq_true (by omega)] at c2
    exact gq_P0 (-1) (by simp only [sX9_dry, gq_bs, gq_B_eq, gq_B_ne, gq_B_gB, Bool.not_true, Bool.not_false, Bool.true_and, Bool.false_and, Bool.and_true, Bool.and_false, cond_true, cond_false, gh_isBin9, gh_isKind9, gh_isFarmer9, gh_within, gh_inR, gh_isBin10, gh_isKind10, Int32.toInt_toInt64, Int32.reduceToInt, Int64.reduceToInt, decide_true, decide_false, ct, h2, h4, ms, c1]) (by simp only [sX10_dry, gq_bs, gq_B_eq, gq_B_ne, gq_B_gB, Bool.not_true, Bool.not_false, Bool.true_and, Bool.false_and, Bool.and_true, Bool.and_false, cond_true, cond_false, gh_isBin9, gh_isKind9, gh_isFarmer9, gh_within, gh_inR, gh_isBin10, gh_isKind10, Int32.toInt_toInt64, Int32.reduceToInt, Int64.reduceToInt, decide_true, decide_false, h1, raS, rjS, a4, a8, ek, h2, h4, hl, msR, c2]) hS
  rw [decide_eq_true hmw] at c1
  rw [decide_eq_false (by omega)] at c2
  have pt := gq_part N ha8 a3 a7 (by omega) (by omega) (show m ≤ kg a by omega) hga
  have hxg : g a * m / kg a ≤ g a := gq_dle (show m ≤ kg a by omega)
  have hd : ((1000 : Int32) - nI w).toInt64 = lN (1000 - w) := by
    rw [show (1000 : Int32) = nI 1000 from rfl, pk_sub (by omega), nI_l (by omega)]
  have hcm := gq_come (x := g a * m / kg a) (d := 1000 - w) (by omega) (by omega) (by omega)
  obtain ⟨x, hx⟩ : ∃ x, x = g a * m / kg a := ⟨_, rfl⟩
  rw [← hx] at pt hcm hxg
  obtain ⟨c, hc0⟩ : ∃ c, c = x / (1000 - w) := ⟨_, rfl⟩
  have hcb : c ≤ 4000000000 / 700 := by
    rw [hc0]
    exact Nat.div_le_div (by omega) (by omega) (by omega)
  have hcb : c ≤ 10000000 := by omega
  rw [← hc0] at hcm
  have d1' : gh_cmp .lt (nI c) 1 = decide (c < 1) := gh_n_lt (b := 1) (by omega) (by omega)
  have d2' : gh_cmp .eq (nI c) 0 = decide (c = 0) := gh_n_eq (b := 0) (by omega) (by omega)
  cases h3 : gh_rg xb.toInt 0 7 with
  | false => exact gq_P0 (-1) (by simp only [sX9_dry, gq_bs, gq_B_eq, gq_B_ne, gq_B_gB, Bool.not_true, Bool.not_false, Bool.true_and, Bool.false_and, Bool.and_true, Bool.and_false, cond_true, cond_false, gh_isBin9, gh_isKind9, gh_isFarmer9, gh_within, gh_inR, gh_isBin10, gh_isKind10, Int32.toInt_toInt64, Int32.reduceToInt, Int64.reduceToInt, decide_true, decide_false, ct, h2, h4, ms, c1, raS, a1, pt, hd, hcm, lN_i, gq_canPut_no N h3]; cases gh_cmp .lt (nI c) 1 <;> rfl) (by simp only [sX10_dry, gq_bs, gq_B_eq, gq_B_ne, gq_B_gB, Bool.not_true, Bool.not_false, Bool.true_and, Bool.false_and, Bool.and_true, Bool.and_false, cond_true, cond_false, gh_isBin9, gh_isKind9, gh_isFarmer9, gh_within, gh_inR, gh_isBin10, gh_isKind10, Int32.toInt_toInt64, Int32.reduceToInt, Int64.reduceToInt, decide_true, decide_false, h1, raS, rjS, a4, a8, a2, ek, h2, h4, hl, msR, c2, gq_isWay_no N (Or.inr (Or.inr (Or.inl h3)))]; rfl) hS
  | true =>
  obtain ⟨b, -, rfl, -, hb, -⟩ := gh_rgN h3 (by decide)
  have hb8 : b < 8 := by omega
  obtain ⟨b1, b2, b3, b4, b5, b6, b7, b8, qb1, qb2, qb3⟩ := hB.1 b hb8
  have cp := gq_canPut N hb8 (m := c) (q := kd a) (by omega) (by omega) b1 (by omega) b3 b5 qb2 qb3
  have cpR : ∀ T : gh_St, T.1 58 b = nI (kd b) → T.1 59 b = nI (kg b) → T.1 57 b = nI (rm b) → _ := fun T x y z => gq_canPutR (S := T) N hb8 (m := c) (q := kd a) (by omega) (by omega) x (by omega) y z qb2 qb3
  by_cases hab : a = b
  · have hbad : gh_rg (nI (kd a)).toInt 0 3 = false ∨ gh_rg (nI a).toInt 0 7 = false ∨ gh_rg (nI b).toInt 0 7 = false ∨ (nI a : Int32) = nI b := by rw [hab]; simp
    have r10 : ∀ T : gh_St, T.1 58 a = nI (kd a) → T.1 59 a = nI (kg a) → T.2.1 60 a = lN (g a) → sX10_dry N (nI a) (nI b) (nI m) (nI w) T = some (-1, T) := by
      intro T t1 t2 t3
      simp only [sX10_dry, gq_bs, gq_B_eq, gq_B_ne, gq_B_gB, Bool.not_true, Bool.not_false, Bool.true_and, Bool.false_and, Bool.and_true, Bool.and_false, cond_true, cond_false, gh_isBin9, gh_isKind9, gh_isFarmer9, gh_within, gh_inR, gh_isBin10, gh_isKind10, Int32.toInt_toInt64, Int32.reduceToInt, Int64.reduceToInt, decide_true, decide_false, h1, raS, rjS, t1, t2, t3, ek, h2, h4, hl, msR, c2, gq_isWay_no N hbad]
      rfl
    by_cases hc1 : c < 1
    · rw [decide_eq_true hc1] at d1'
      exact gq_P0 (-1) (by simp only [sX9_dry, gq_bs, gq_B_eq, gq_B_ne, gq_B_gB, Bool.not_true, Bool.not_false, Bool.true_and, Bool.false_and, Bool.and_true, Bool.and_false, cond_true, cond_false, gh_isBin9, gh_isKind9, gh_isFarmer9, gh_within, gh_inR, gh_isBin10, gh_isKind10, Int32.toInt_toInt64, Int32.reduceToInt, Int64.reduceToInt, decide_true, decide_false, ct, h2, h4, ms, c1, raS, a1, pt, hd, hcm, lN_i, d1']) (r10 S a2 a4 a8) hS
    rw [decide_eq_false hc1] at d1'
    by_cases hc : (kg b = 0 ∨ kd b = kd a) ∧ kg b + c ≤ rm b
    · have hf : gh_fr gq_CF S (gh_fI S 11 6 0) := gh_fr_fI (gh_fr_refl _ _) rfl
      refine ⟨-1, gh_fI S 11 6 0, gh_fI S 11 6 0, ?_, r10 _ (by simp [gh_fI_1, a2]) (by simp [gh_fI_1, a4]) (by simp [gh_fI_2, a8]), gq_R12_C2 hR1 (gq_R2_CF hR2 hf) (gh_fr_mono hf gq_C2_CF), gh_fr_mono hf gq_C12_F⟩
      rw [decide_eq_true hc] at cp
      simp only [sX9_dry, gq_bs, gq_B_eq, gq_B_ne, gq_B_gB, Bool.not_true, Bool.not_false, Bool.true_and, Bool.false_and, Bool.and_true, Bool.and_false, cond_true, cond_false, gh_isBin9, gh_isKind9, gh_isFarmer9, gh_within, gh_inR, gh_isBin10, gh_isKind10, Int32.toInt_toInt64, Int32.reduceToInt, Int64.reduceToInt, decide_true, decide_false, ct, h2, h4, ms, c1, raS, a1, pt, hd, hcm, lN_i, d1', cp, gq_find_no N hbad]
      rfl
    · rw [decide_eq_false hc] at cp
      exact gq_P0 (-1) (by simp only [sX9_dry, gq_bs, gq_B_eq, gq_B_ne, gq_B_gB, Bool.not_true, Bool.not_false, Bool.true_and, Bool.false_and, Bool.and_true, Bool.and_false, cond_true, cond_false, gh_isBin9, gh_isKind9, gh_isFarmer9, gh_within, gh_inR, gh_isBin10, gh_isKind10, Int32.toInt_toInt64, Int32.reduceToInt, Int64.reduceToInt, decide_true, decide_false, ct, h2, h4, ms, c1, raS, a1, pt, hd, hcm, lN_i, d1', cp]) (r10 S a2 a4 a8) hS
  obtain ⟨ln, A, B, M, la, cl, u, hRN, hu⟩ := hR2
  have hR2 : gq_R2 j S := ⟨ln, A, B, M, la, cl, u, hRN, hu⟩
  obtain ⟨best, st, S1, hbest, hst5, e1, e2, e6, e7⟩ := gq_fw N hRN hN (q := kd a) (by omega) ha8 hb8 hab
  have dr : ∀ T : gh_St, T.1 59 a = nI (kg a) → T.2.1 60 a = lN (g a) → sX10_dryOf N (nI a) (nI m) T = some (lN x, T) := fun T t1 t2 => by
    rw [hx]
    exact gq_dryOf N ha8 t1 t2 (by omega) (by omega) (show m ≤ kg a by omega) hga
  by_cases hbad2 : c < 1 ∨ ¬ ((kg b = 0 ∨ kd b = kd a) ∧ kg b + c ≤ rm b)
  · obtain ⟨D, dd, -⟩ := e7 S (gq_RR_of hRN)
    have hfr : gh_fr gq_C2 S (gq_vr S D) := gq_vr_fr D (fun _ => rfl)
    have hcr := cpR (gq_vr S D) b2 b4 b6
    have v58 : (gq_vr S D).1 58 a = nI (kd a) := a2
    have hdr := dr (gq_vr S D) a4 a8
    refine ⟨-1, S, gq_vr S D, ?_, ?_, gq_R12_C2 hR1 (gq_R2_vr D hR2) hfr, gq_C12_R1 hfr⟩
    · by_cases hc1 : c < 1
      · rw [decide_eq_true hc1] at d1'
        simp only [sX9_dry, gq_bs, gq_B_eq, gq_B_ne, gq_B_gB, Bool.not_true, Bool.not_false, Bool.true_and, Bool.false_and, Bool.and_true, Bool.and_false, cond_true, cond_false, gh_isBin9, gh_isKind9, gh_isFarmer9, gh_within, gh_inR, gh_isBin10, gh_isKind10, Int32.toInt_toInt64, Int32.reduceToInt, Int64.reduceToInt, decide_true, decide_false, ct, h2, h4, ms, c1, raS, a1, pt, hd, hcm, lN_i, d1']
      · rw [decide_eq_false hc1] at d1'
        rw [decide_eq_false (hbad2.resolve_left hc1)] at cp
        simp only [sX9_dry, gq_bs, gq_B_eq, gq_B_ne, gq_B_gB, Bool.not_true, Bool.not_false, Bool.true_and, Bool.false_and, Bool.and_true, Bool.and_false, cond_true, cond_false, gh_isBin9, gh_isKind9, gh_isFarmer9, gh_within, gh_inR, gh_isBin10, gh_isKind10, Int32.toInt_toInt64, Int32.reduceToInt, Int64.reduceToInt, decide_true, decide_false, ct, h2, h4, ms, c1, raS, a1, pt, hd, hcm, lN_i, d1', cp]
    · simp only [sX10_dry, gq_bs, gq_B_eq, gq_B_ne, gq_B_gB, Bool.not_true, Bool.not_false, Bool.true_and, Bool.false_and, Bool.and_true, Bool.and_false, cond_true, cond_false, gh_isBin9, gh_isKind9, gh_isFarmer9, gh_within, gh_inR, gh_isBin10, gh_isKind10, Int32.toInt_toInt64, Int32.reduceToInt, Int64.reduceToInt, decide_true, decide_false, h1, raS, rjS, a2, a4, a8, ek, h2, h4, hl, msR, c2, dd]
      cases decide (st ≠ 0) with
      | false => rfl
      | true =>
        simp only [gq_bs, gq_B_eq, gq_B_ne, gq_B_gB, Bool.not_true, Bool.not_false, Bool.true_and, Bool.false_and, Bool.and_true, Bool.and_false, cond_true, cond_false, gh_isBin9, gh_isKind9, gh_isFarmer9, gh_within, gh_inR, gh_isBin10, gh_isKind10, Int32.toInt_toInt64, Int32.reduceToInt, Int64.reduceToInt, decide_true, decide_false, hdr, hd, hcm, lN_i, d2', raS, v58, hcr]
        by_cases hc1 : c < 1
        · rw [decide_eq_true (by omega)]
          rfl
        · rw [decide_eq_false (by omega), decide_eq_false (hbad2.resolve_left hc1)]
          rfl
  have hc1 : ¬ c < 1 := fun h => hbad2 (Or.inl h)
  have hc : (kg b = 0 ∨ kd b = kd a) ∧ kg b + c ≤ rm b := Decidable.byContradiction fun h => hbad2 (Or.inr h)
  rw [decide_eq_true hc] at cp
  rw [decide_eq_false hc1] at d1'
  rw [decide_eq_false (by omega)] at d2'
  have hRN1 := gq_RN_fr hRN e2 gq_CN_CF
  by_cases h0 : st = 0
  · obtain ⟨D, dd, -⟩ := e7 S1 (gq_RR_of hRN1)
    rw [if_pos h0] at e1
    rw [decide_eq_false (by omega)] at dd
    have hfr : gh_fr gq_C2 S (gq_vr S1 D) := gh_fr_trans (gh_fr_mono e2 gq_C2_CF) (gq_vr_fr D (fun _ => rfl))
    have v58 : S1.1 58 a = nI (kd a) := (e2.1 58 a rfl).trans a2
    have v59 : S1.1 59 a = nI (kg a) := (e2.1 59 a rfl).trans a4
    have v60 : S1.2.1 60 a = lN (g a) := (e2.2.1 60 a rfl).trans a8
    refine ⟨-1, S1, gq_vr S1 D, ?_, by simp only [sX10_dry, gq_bs, gq_B_eq, gq_B_ne, gq_B_gB, Bool.not_true, Bool.not_false, Bool.true_and, Bool.false_and, Bool.and_true, Bool.and_false, cond_true, cond_false, gh_isBin9, gh_isKind9, gh_isFarmer9, gh_within, gh_inR, gh_isBin10, gh_isKind10, Int32.toInt_toInt64, Int32.reduceToInt, Int64.reduceToInt, decide_true, decide_false, h1, raS, rjS, v58, v59, v60, ek, h2, h4, hl, msR, c2, dd], gq_R12_C2 hR1 (gq_R2_vr D (gq_R2_CF hR2 e2)) hfr, gq_C12_R1 hfr⟩
    simp only [sX9_dry, gq_bs, gq_B_eq, gq_B_ne, gq_B_gB, Bool.not_true, Bool.not_false, Bool.true_and, Bool.false_and, Bool.and_true, Bool.and_false, cond_true, cond_false, gh_isBin9, gh_isKind9, gh_isFarmer9, gh_within, gh_inR, gh_isBin10, gh_isKind10, Int32.toInt_toInt64, Int32.reduceToInt, Int64.reduceToInt, decide_true, decide_false, ct, h2, h4, ms, c1, raS, a1, pt, hd, hcm, lN_i, d1', cp, e1]
    rfl
  · rw [if_neg h0] at e1
    have hm1' : gh_cmp .ne (nI best) (-1) = true := by
      rw [gh_c_ne, nI_toInt (by omega)]
      exact decide_eq_true (by show ¬ (best : Int) = -1; omega)
    obtain ⟨D0, -, w0⟩ := e7 S1 (gq_RR_of hRN1)
    obtain ⟨-, -, hw17⟩ := w0 h0
    obtain ⟨S2, S3, S4, k1, k2, k3, k4, k5, k6, k7, k8, k9⟩ := gq_go9 (q := kd a) (c := c) (best := best) N (by omega) hst5 (by omega) e6 hw17 (fun k hk => (hRN1.2.2.2.2.2.2.2.2 k hk).2.2.2.2.2.2.1) hRN1.2.2.2.2.2.2.1 ha8 hb8 hab ((e2.1 3 a rfl).trans a3) ((e2.2.1 5 a rfl).trans a7) ((e2.1 3 b rfl).trans b3) ((e2.2.1 5 b rfl).trans b7) (show 1 ≤ m by omega) (by omega) (by omega) hga
    rw [← hx] at k2 k3 k7
    have f4 : gh_fr gq_CM S S4 := gh_fr_trans (gh_fr_mono e2 (fun c k h => by unfold gq_CM; rw [h]; simp)) (gh_fr_mono k4 (fun c k h => by unfold gq_CM; rw [h]; simp))
    obtain ⟨wt, hwt⟩ : ∃ wt, wt = S.2.1 0 10 + (nI m - nI c : Int32).toInt64 := ⟨_, rfl⟩
    have s10 : S4.2.1 0 10 = S.2.1 0 10 := (k4.2.1 0 10 rfl).trans (e2.2.1 0 10 rfl)
    obtain ⟨S5, hS5⟩ : ∃ S5, S5 = gh_fL S4 0 10 wt := ⟨_, rfl⟩
    have r9 : sX9_dry N (nI a) (nI b) (nI m) (nI w) S = some (nI c, S5) := by
      simp only [sX9_dry, gq_bs, gq_B_eq, gq_B_ne, gq_B_gB, Bool.not_true, Bool.not_false, Bool.true_and, Bool.false_and, Bool.and_true, Bool.and_false, cond_true, cond_false, gh_isBin9, gh_isKind9, gh_isFarmer9, gh_within, gh_inR, gh_isBin10, gh_isKind10, Int32.toInt_toInt64, Int32.reduceToInt, Int64.reduceToInt, decide_true, decide_false, ct, h2, h4, ms, c1, raS, a1, pt, hd, hcm, lN_i, d1', cp, e1, hm1', k1, k2, k3, s10, hS5, hwt]
    have k4' : gh_fr (fun c k => gq_CG c k || Nat.beq c 0) S1 S5 := by
      rw [hS5]
      exact gh_fr_fL (gh_fr_mono k4 (fun c k h => by show (gq_CG c k || _) = true; rw [h]; rfl)) rfl
    have hRR4 : gq_RR S5 ln A B M la cl u := gq_RR_fr (gq_RR_of hRN1) k4' (fun c k hc => by
      cases e : (gq_CG c k || Nat.beq c 0) with
      | false => rfl
      | true =>
        unfold gq_CR at hc
        unfold gq_CG gq_C15 at e
        simp only [Bool.or_eq_true, Bool.and_eq_true, Nat.beq_eq, Nat.ble_eq] at hc e
        omega)
    have x57 : ∀ i, S5.1 57 i = S.1 57 i := fun i => (k4'.1 57 i rfl).trans (e2.1 57 i rfl)
    have x58 : ∀ i, S5.1 58 i = S.1 58 i := fun i => (k4'.1 58 i rfl).trans (e2.1 58 i rfl)
    have x59 : ∀ i, S5.1 59 i = S.1 59 i := fun i => (k4'.1 59 i rfl).trans (e2.1 59 i rfl)
    have x60 : ∀ i, S5.2.1 60 i = S.2.1 60 i := fun i => (k4'.2.1 60 i rfl).trans (e2.2.1 60 i rfl)
    obtain ⟨D, dd, w1⟩ := e7 S5 hRR4
    obtain ⟨hWY, hDa, hw17'⟩ := w1 h0
    rw [decide_eq_true h0] at dd
    have v58 : (gq_vr S5 D).1 58 a = nI (kd a) := (x58 a).trans a2
    have v59 : (gq_vr S5 D).1 59 a = nI (kg a) := (x59 a).trans a4
    have v60 : (gq_vr S5 D).2.1 60 a = lN (g a) := (x60 a).trans a8
    have w58 : (gq_vr S5 D).1 58 b = nI (kd b) := (x58 b).trans b2
    have w59 : (gq_vr S5 D).1 59 b = nI (kg b) := (x59 b).trans b4
    have w57 : (gq_vr S5 D).1 57 b = nI (rm b) := (x57 b).trans b6
    have w60 : (gq_vr S5 D).2.1 60 b = lN (g b) := (x60 b).trans b8
    have hcr := cpR (gq_vr S5 D) w58 w59 w57
    rw [decide_eq_true hc] at hcr
    have hdr := dr (gq_vr S5 D) v59 v60
    obtain ⟨T2, T3, T4, t1, t2, t3, t4, t5, t6, t7, t8, t9, t10, t11⟩ := gq_go10 (c := c) (m := m) N hWY (by omega) (best := best) (by omega) hDa (by omega) ha8 hb8 hab v59 v60 w59 w60 (by omega) (by omega) (by omega) hga
    rw [← hx] at t5 t9
    have s16 : T4.2.1 56 16 = S.2.1 0 10 := (t6.2.1 56 16 rfl).trans ((k4'.2.1 56 16 rfl).trans ((e2.2.1 56 16 rfl).trans hH.1))
    obtain ⟨T5, hT5⟩ : ∃ T5, T5 = gh_fL T4 56 16 wt := ⟨_, rfl⟩
    have r10 : sX10_dry N (nI a) (nI b) (nI m) (nI w) S5 = some (nI c, T5) := by
      have t3 : T3.1 58 a = nI (kd a) := t3.trans v58
      simp only [sX10_dry, gq_bs, gq_B_eq, gq_B_ne, gq_B_gB, Bool.not_true, Bool.not_false, Bool.true_and, Bool.false_and, Bool.and_true, Bool.and_false, cond_true, cond_false, gh_isBin9, gh_isKind9, gh_isFarmer9, gh_within, gh_inR, gh_isBin10, gh_isKind10, Int32.toInt_toInt64, Int32.reduceToInt, Int64.reduceToInt, decide_true, decide_false, h1, raS, rjS, x59, x58, x60, a2, a4, a8, ek, h2, h4, hl, msR, c2, dd, v58, hdr, hd, hcm, lN_i, d2', hcr, t1, t2, t3, t5, s16, hT5, hwt]
    have f4' : gh_fr gq_CM S S5 := by rw [hS5]; exact gh_fr_fL f4 rfl
    have f5 : gh_fr gq_CM S5 T4 := gh_fr_trans (gq_vr_fr D (fun _ => rfl)) (gh_fr_mono t6 (fun c k h => by unfold gq_CM; rw [h]; simp))
    have f6 : gh_fr gq_CM S5 T5 := by rw [hT5]; exact gh_fr_fL f5 rfl
    have fall : gh_fr gq_CM S T5 := gh_fr_trans f4' f6
    refine ⟨nI c, S5, T5, r9, r10, ?_, gh_fr_mono fall gq_CM_12⟩
    have cg : ∀ c, (∀ k, gq_CH c k = false) → c ≠ 83 → ∀ k, T5.1 c k = S4.1 c k := by
      intro c hc h83 k
      rw [hT5, gh_fL_2, t6.1 c k (hc k), gq_vr_1, if_neg (by omega), hS5, gh_fL_2]
    have cgL : ∀ c, (∀ k, gq_CH c k = false) → c ≠ 56 → c ≠ 0 → ∀ k, T5.2.1 c k = S4.2.1 c k := by
      intro c hc h56 h0 k
      rw [hT5, gh_fL_1, if_neg (by omega), t6.2.1 c k (hc k)]
      show S5.2.1 c k = _
      rw [hS5, gh_fL_1, if_neg (by omega)]
    refine gq_mv_end (st := st) (x := x) (c := c) (wl := gq_wl A B (gq_cst M la cl (kd a)) ln a b D) hB hL hRN fall ha8 hb8 hab (show m ≤ kg a by omega) hxg hc.2 ?_ ?_ ?_ ?_ ?_ ?_ ?_ ?_ ?_ ?_ hu hbest ?_
    · intro i; rw [cg 2 (fun _ => rfl) (by omega), k5, e2.1 2 i rfl]
    · intro i; rw [hT5, gh_fL_2, t7]; show _ = if i = b then _ else S.1 58 i; rw [← x58 i]; rfl
    · intro i; rw [cg 3 (fun _ => rfl) (by omega), k6, e2.1 3 i rfl]
    · intro i; rw [hT5, gh_fL_2, t8]; show _ = if i = b then _ else if i = a then _ else S.1 59 i; rw [← x59 i]; rfl
    · intro i; rw [cgL 5 (fun _ => rfl) (by omega) (by omega), k7, e2.2.1 5 i rfl]
    · intro i; rw [hT5, gh_fL_1, if_neg (by omega), t9]; show _ = if i = b then _ else if i = a then _ else S.2.1 60 i; rw [← x60 i]; rfl
    · intro k hk
      rw [cg 15 (fun _ => rfl) (by omega), k8 k hk]
      refine congrArg gq_kd (gq_sl_congr (fun i hi => ?_) k)
      have y1 := hw17 i hi
      have y2 := hw17' i hi
      have y3 := y1.1.symm.trans y2.1
      exact (nI_eq (by omega) (by omega)).mp y3
    · intro k hk; rw [hT5, gh_fL_2]; exact t10 k hk
    · rw [cgL 11 (fun _ => rfl) (by omega) (by omega)]; exact k9
    · rw [hT5, gh_fL_2]; exact t11
    · have l0 : ∀ k, k ≠ 10 → T5.2.1 0 k = S.2.1 0 k := by
        intro k hk
        rw [hT5, gh_fL_1, if_neg (by omega), t6.2.1 0 k rfl]
        show S5.2.1 0 k = _
        rw [hS5, gh_fL_1, if_neg (by omega), k4.2.1 0 k rfl, e2.2.1 0 k rfl]
      have l10 : T5.2.1 0 10 = wt := by
        rw [hT5, gh_fL_1, if_neg (by omega), t6.2.1 0 10 rfl]
        show S5.2.1 0 10 = _
        rw [hS5, gh_fL_1, if_pos ⟨rfl, rfl⟩]
      have l16 : T5.2.1 56 16 = wt := by rw [hT5, gh_fL_1, if_pos ⟨rfl, rfl⟩]
      have l56 : ∀ k, k ≠ 16 → k ≠ 15 → T5.2.1 56 k = S.2.1 56 k := by
        intro k h16 h15
        have hch : gq_CH 56 k = false := by
          unfold gq_CH gq_C68
          rw [gq_bq h15]
          rfl
        rw [hT5, gh_fL_1, if_neg (by omega), t6.2.1 56 k hch]
        show S5.2.1 56 k = _
        rw [k4'.2.1 56 k rfl, e2.2.1 56 k rfl]
      unfold gq_RH at hH ⊢
      rw [l0 11 (by omega), l0 12 (by omega), l10, l16, l56 17 (by omega) (by omega), l56 18 (by omega) (by omega)]
      exact ⟨rfl, hH.2⟩

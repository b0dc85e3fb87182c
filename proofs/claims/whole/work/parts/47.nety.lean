/-! ===== leg, cleaning, way, wayLeg ===== -/
def gq_R2 (j : Nat) (S : gh_St) : Prop := ∃ n A B M la cl u, gq_RN S n A B M la cl u ∧ u ≤ 1000 * j
def gq_C2 (c k : Nat) : Bool := (Nat.ble 11 c && Nat.ble c 17) || (Nat.beq c 56 && (Nat.beq k 9 || Nat.beq k 14 || Nat.beq k 15)) || (Nat.ble 65 c && Nat.ble c 68) || Nat.beq c 83 || Nat.beq c 84
theorem gq_C2_CF (c k : Nat) (h : gq_CF c k = true) : gq_C2 c k = true := by
  unfold gq_CF at h
  unfold gq_C2
  simp only [Bool.or_eq_true, Bool.and_eq_true, Nat.beq_eq, Nat.ble_eq] at h ⊢
  omega
theorem gq_vr_fr {S : gh_St} (D : Nat → Nat) {C : Nat → Nat → Bool} (h : ∀ k, C 83 k = true) : gh_fr C S (gq_vr S D) := by
  refine ⟨fun c k hc => ?_, fun _ _ _ => rfl, rfl⟩
  have : c ≠ 83 := fun e => by rw [e, h] at hc; cases hc
  rw [gq_vr_1, if_neg (by omega)]
theorem gq_di {x d : Nat} (hx : x < 2 ^ 31) (h0 : 0 < d) (hd : d < 2 ^ 31) : gh_di (nI x) (nI d) = some (nI (x / d)) := by
  unfold gh_di
  rw [if_neg (by rw [show (0 : Int32) = nI 0 from rfl, nI_eq hd (by decide)]; omega), pk_div hx h0 hd]
section GqNetOps
variable {S : gh_St} {j : Nat} (N : Nat)
theorem gq_R2_mono {j' : Nat} (h : gq_R2 j S) (hj : j ≤ j') : gq_R2 j' S := by
  obtain ⟨n, A, B, M, la, cl, u, h1, h2⟩ := h
  exact ⟨n, A, B, M, la, cl, u, h1, by omega⟩
theorem gq_leg (x y z : Int32) (hR : gq_R2 j S) : gq_P (sX9_leg N x y z) (sX10_leg N x y z) gq_C2 (gq_R2 j) S := by
  obtain ⟨n, A, B, M, la, cl, u, hN, hu⟩ := hR
  have hR : gq_R2 j S := ⟨n, A, B, M, la, cl, u, hN, hu⟩
  obtain ⟨g1, g2, g3, g4, g5, g6, g7, g8, g9⟩ := hN
  cases h1 : gh_rg x.toInt 0 11 with
  | false => exact gq_P0 (-1) (by simp only [sX9_leg, sX4_add, gq_bs, gq_B_eq, gq_B_ne, gq_B_gB, Bool.not_true, Bool.not_false, Bool.true_and, Bool.false_and, Bool.and_true, Bool.and_false, cond_true, cond_false, gh_isBin9, gh_isKind9, gh_isFarmer9, gh_within, gh_inR, gh_isBin10, gh_isKind10, Int32.toInt_toInt64, Int32.reduceToInt, Int64.reduceToInt, decide_true, decide_false, h1]) (by simp only [sX10_leg, gq_bs, gq_B_eq, gq_B_ne, gq_B_gB, Bool.not_true, Bool.not_false, Bool.true_and, Bool.false_and, Bool.and_true, Bool.and_false, cond_true, cond_false, gh_isBin9, gh_isKind9, gh_isFarmer9, gh_within, gh_inR, gh_isBin10, gh_isKind10, Int32.toInt_toInt64, Int32.reduceToInt, Int64.reduceToInt, decide_true, decide_false, h1]) hR
  | true =>
  cases h2 : gh_rg y.toInt 0 11 with
  | false => exact gq_P0 (-1) (by simp only [sX9_leg, sX4_add, gq_bs, gq_B_eq, gq_B_ne, gq_B_gB, Bool.not_true, Bool.not_false, Bool.true_and, Bool.false_and, Bool.and_true, Bool.and_false, cond_true, cond_false, gh_isBin9, gh_isKind9, gh_isFarmer9, gh_within, gh_inR, gh_isBin10, gh_isKind10, Int32.toInt_toInt64, Int32.reduceToInt, Int64.reduceToInt, decide_true, decide_false, h1, h2]) (by simp only [sX10_leg, gq_bs, gq_B_eq, gq_B_ne, gq_B_gB, Bool.not_true, Bool.not_false, Bool.true_and, Bool.false_and, Bool.and_true, Bool.and_false, cond_true, cond_false, gh_isBin9, gh_isKind9, gh_isFarmer9, gh_within, gh_inR, gh_isBin10, gh_isKind10, Int32.toInt_toInt64, Int32.reduceToInt, Int64.reduceToInt, decide_true, decide_false, h1, h2]) hR
  | true =>
  obtain ⟨a, -, rfl, -, ha, -⟩ := gh_rgN h1 (by decide)
  obtain ⟨b, -, rfl, -, hb, -⟩ := gh_rgN h2 (by decide)
  have c1 : gh_cmp .ne (nI a) (nI b) = decide (a ≠ b) := gh_n_ne (by omega) (by omega)
  have c2 : gh_cmp .eq (nI a) (nI b) = decide (a = b) := gh_n_eq (by omega) (by omega)
  by_cases hab : a = b
  · rw [decide_eq_false (by omega)] at c1
    rw [decide_eq_true hab] at c2
    exact gq_P0 (-1) (by simp only [sX9_leg, sX4_add, gq_bs, gq_B_eq, gq_B_ne, gq_B_gB, Bool.not_true, Bool.not_false, Bool.true_and, Bool.false_and, Bool.and_true, Bool.and_false, cond_true, cond_false, gh_isBin9, gh_isKind9, gh_isFarmer9, gh_within, gh_inR, gh_isBin10, gh_isKind10, Int32.toInt_toInt64, Int32.reduceToInt, Int64.reduceToInt, decide_true, decide_false, h1, h2, c1]) (by simp only [sX10_leg, gq_bs, gq_B_eq, gq_B_ne, gq_B_gB, Bool.not_true, Bool.not_false, Bool.true_and, Bool.false_and, Bool.and_true, Bool.and_false, cond_true, cond_false, gh_isBin9, gh_isKind9, gh_isFarmer9, gh_within, gh_inR, gh_isBin10, gh_isKind10, Int32.toInt_toInt64, Int32.reduceToInt, Int64.reduceToInt, decide_true, decide_false, h1, h2, c2]) hR
  rw [decide_eq_true hab] at c1
  rw [decide_eq_false hab] at c2
  cases h3 : gh_rg z.toInt 1 60 with
  | false => exact gq_P0 (-1) (by simp only [sX9_leg, sX4_add, gq_bs, gq_B_eq, gq_B_ne, gq_B_gB, Bool.not_true, Bool.not_false, Bool.true_and, Bool.false_and, Bool.and_true, Bool.and_false, cond_true, cond_false, gh_isBin9, gh_isKind9, gh_isFarmer9, gh_within, gh_inR, gh_isBin10, gh_isKind10, Int32.toInt_toInt64, Int32.reduceToInt, Int64.reduceToInt, decide_true, decide_false, h1, h2, c1, h3]) (by simp only [sX10_leg, gq_bs, gq_B_eq, gq_B_ne, gq_B_gB, Bool.not_true, Bool.not_false, Bool.true_and, Bool.false_and, Bool.and_true, Bool.and_false, cond_true, cond_false, gh_isBin9, gh_isKind9, gh_isFarmer9, gh_within, gh_inR, gh_isBin10, gh_isKind10, Int32.toInt_toInt64, Int32.reduceToInt, Int64.reduceToInt, decide_true, decide_false, h1, h2, c2, h3]) hR
  | true =>
  obtain ⟨m, -, rfl, hm1, hm2, -⟩ := gh_rgN h3 (by decide)
  have c3 : gh_cmp .lt (nI n) 20 = decide (n < 20) := gh_n_lt (b := 20) (by omega) (by decide)
  have c4 : gh_cmp .ne (nI n) 20 = decide (n ≠ 20) := gh_n_ne (b := 20) (by omega) (by decide)
  by_cases hn : n = 20
  · rw [decide_eq_false (by omega)] at c3 c4
    exact gq_P0 (-1) (by simp only [sX9_leg, sX4_add, gq_bs, gq_B_eq, gq_B_ne, gq_B_gB, Bool.not_true, Bool.not_false, Bool.true_and, Bool.false_and, Bool.and_true, Bool.and_false, cond_true, cond_false, gh_isBin9, gh_isKind9, gh_isFarmer9, gh_within, gh_inR, gh_isBin10, gh_isKind10, Int32.toInt_toInt64, Int32.reduceToInt, Int64.reduceToInt, decide_true, decide_false, h1, h2, c1, h3, g3, c3]) (by simp only [sX10_leg, gq_bs, gq_B_eq, gq_B_ne, gq_B_gB, Bool.not_true, Bool.not_false, Bool.true_and, Bool.false_and, Bool.and_true, Bool.and_false, cond_true, cond_false, gh_isBin9, gh_isKind9, gh_isFarmer9, gh_within, gh_inR, gh_isBin10, gh_isKind10, Int32.toInt_toInt64, Int32.reduceToInt, Int64.reduceToInt, decide_true, decide_false, h1, h2, c2, h3, g4, c4]) hR
  have hn' : n < 20 := by omega
  rw [decide_eq_true hn'] at c3
  rw [decide_eq_true hn] at c4
  obtain ⟨S1, hS1⟩ : ∃ S1, S1 = gh_fI (gh_fI (gh_fI (gh_fI (gh_fI S 12 n (nI a)) 13 n (nI b)) 14 n (nI m)) 15 n (-1)) 11 7 (nI (n + 1)) := ⟨_, rfl⟩
  have r9 : sX9_leg N (nI a) (nI b) (nI m) S = some (nI n, S1) := by
    rw [hS1]
    simp only [sX9_leg, sX4_add, gq_bs, gq_B_eq, gq_B_ne, gq_B_gB, Bool.not_true, Bool.not_false, Bool.true_and, Bool.false_and, Bool.and_true, Bool.and_false, cond_true, cond_false, gh_isBin9, gh_isKind9, gh_isFarmer9, gh_within, gh_inR, gh_isBin10, gh_isKind10, Int32.toInt_toInt64, Int32.reduceToInt, Int64.reduceToInt, decide_true, decide_false, h1, h2, c1, h3, g3, c3]
    simp [gh_wa_n, hn', gq_bs, gq_B_eq, gq_B_ne, gq_B_gB, Bool.not_true, Bool.not_false, Bool.true_and, Bool.false_and, Bool.and_true, Bool.and_false, cond_true, cond_false, gh_isBin9, gh_isKind9, gh_isFarmer9, gh_within, gh_inR, gh_isBin10, gh_isKind10, Int32.toInt_toInt64, Int32.reduceToInt, Int64.reduceToInt, decide_true, decide_false, gh_fI_1, g3, nI_1, nI_pred]
  have k4 : S1.1 56 9 = nI n := by rw [hS1]; simp [gh_fI_1, g4]
  obtain ⟨S2, hS2⟩ : ∃ S2, S2 = gh_fI (gh_fI (gh_fI (gh_fI (gh_fI S1 65 n (nI a)) 66 n (nI b)) 67 n (nI m)) 68 n (-1)) 56 9 (nI (n + 1)) := ⟨_, rfl⟩
  have r10 : sX10_leg N (nI a) (nI b) (nI m) S1 = some (nI n, S2) := by
    rw [hS2]
    simp only [sX10_leg, gq_bs, gq_B_eq, gq_B_ne, gq_B_gB, Bool.not_true, Bool.not_false, Bool.true_and, Bool.false_and, Bool.and_true, Bool.and_false, cond_true, cond_false, gh_isBin9, gh_isKind9, gh_isFarmer9, gh_within, gh_inR, gh_isBin10, gh_isKind10, Int32.toInt_toInt64, Int32.reduceToInt, Int64.reduceToInt, decide_true, decide_false, h1, h2, c2, h3, k4, c4]
    simp [gh_wa_n, hn', gq_bs, gq_B_eq, gq_B_ne, gq_B_gB, Bool.not_true, Bool.not_false, Bool.true_and, Bool.false_and, Bool.and_true, Bool.and_false, cond_true, cond_false, gh_isBin9, gh_isKind9, gh_isFarmer9, gh_within, gh_inR, gh_isBin10, gh_isKind10, Int32.toInt_toInt64, Int32.reduceToInt, Int64.reduceToInt, decide_true, decide_false, gh_fI_1, k4, nI_1, nI_pred]
  refine ⟨nI n, S1, S2, r9, r10, ⟨n + 1, gh_nu A n a, gh_nu B n b, gh_nu M n m, gh_nu la n 0, cl, u, ⟨by omega, g2, ?_, ?_, ?_, ?_, ?_, ?_, fun k hk => ?_⟩, hu⟩, ?_⟩
  · rw [hS2, hS1]; simp [gh_fI_1]
  · rw [hS2, hS1]; simp [gh_fI_1]
  · rw [hS2, hS1]; simp [gh_fI_1, g5]
  · rw [hS2, hS1]; simp [gh_fI_1, g6]
  · rw [hS2, hS1]; simp [gh_fI_2, g7]
  · rw [hS2, hS1]; simp [gh_fI_1, g8]
  · obtain ⟨l1, l2, l3, l4, l5, l6, l7, l8, l9, l10, l11, l12, l13⟩ := g9 k hk
    rw [hS2, hS1]
    by_cases e : k = n
    · subst e
      simp [gh_fI_1, gh_nu_s, gq_kd]
      omega
    · simp [gh_fI_1, gh_nu_n _ _ e, e, l1, l2, l3, l4, l5, l6, l7, l8, l9, l10, l11, l12]
      intro h
      exact l13 (by omega)
  · rw [hS2, hS1]
    repeat first | exact gh_fr_refl _ _ | refine gh_fr_fI ?_ rfl
theorem gq_cleaning (x : Int32) (hR : gq_R2 j S) : gq_P (sX9_cleaning N x) (sX10_cleaning N x) gq_C2 (gq_R2 j) S := by
  obtain ⟨n, A, B, M, la, cl, u, hN, hu⟩ := hR
  have hR : gq_R2 j S := ⟨n, A, B, M, la, cl, u, hN, hu⟩
  obtain ⟨g1, g2, g3, g4, g5, g6, g7, g8, g9⟩ := hN
  cases h1 : gh_rg x.toInt 0 99 with
  | false => exact gq_P0 0 (by simp only [sX9_cleaning, gq_bs, gq_B_eq, gq_B_ne, gq_B_gB, Bool.not_true, Bool.not_false, Bool.true_and, Bool.false_and, Bool.and_true, Bool.and_false, cond_true, cond_false, gh_isBin9, gh_isKind9, gh_isFarmer9, gh_within, gh_inR, gh_isBin10, gh_isKind10, Int32.toInt_toInt64, Int32.reduceToInt, Int64.reduceToInt, decide_true, decide_false, h1]) (by simp only [sX10_cleaning, gq_bs, gq_B_eq, gq_B_ne, gq_B_gB, Bool.not_true, Bool.not_false, Bool.true_and, Bool.false_and, Bool.and_true, Bool.and_false, cond_true, cond_false, gh_isBin9, gh_isKind9, gh_isFarmer9, gh_within, gh_inR, gh_isBin10, gh_isKind10, Int32.toInt_toInt64, Int32.reduceToInt, Int64.reduceToInt, decide_true, decide_false, h1]) hR
  | true =>
  obtain ⟨m, -, rfl, -, hm, -⟩ := gh_rgN h1 (by decide)
  refine ⟨1, gh_fI S 11 8 (nI m), gh_fI (gh_fI S 11 8 (nI m)) 56 14 (nI m), by simp only [sX9_cleaning, gq_bs, gq_B_eq, gq_B_ne, gq_B_gB, Bool.not_true, Bool.not_false, Bool.true_and, Bool.false_and, Bool.and_true, Bool.and_false, cond_true, cond_false, gh_isBin9, gh_isKind9, gh_isFarmer9, gh_within, gh_inR, gh_isBin10, gh_isKind10, Int32.toInt_toInt64, Int32.reduceToInt, Int64.reduceToInt, decide_true, decide_false, h1], by simp only [sX10_cleaning, gq_bs, gq_B_eq, gq_B_ne, gq_B_gB, Bool.not_true, Bool.not_false, Bool.true_and, Bool.false_and, Bool.and_true, Bool.and_false, cond_true, cond_false, gh_isBin9, gh_isKind9, gh_isFarmer9, gh_within, gh_inR, gh_isBin10, gh_isKind10, Int32.toInt_toInt64, Int32.reduceToInt, Int64.reduceToInt, decide_true, decide_false, h1], ⟨n, A, B, M, la, m, u, ⟨g1, by omega, ?_, ?_, ?_, ?_, ?_, ?_, fun k hk => ?_⟩, hu⟩, gh_fr_fI (gh_fr_fI (gh_fr_refl _ _) rfl) rfl⟩
  · simp [gh_fI_1, g3]
  · simp [gh_fI_1, g4]
  · simp [gh_fI_1]
  · simp [gh_fI_1]
  · simp [gh_fI_2, g7]
  · simp [gh_fI_1, g8]
  · simpa [gh_fI_1] using g9 k hk
theorem gq_way_gd {x y z : Int32} (h : ¬ (gh_rg x.toInt 0 3 = false ∨ gh_rg y.toInt 0 7 = false ∨ gh_rg z.toInt 0 7 = false ∨ y = z)) : ∃ q a b : Nat, x = nI q ∧ y = nI a ∧ z = nI b ∧ q ≤ 3 ∧ a < 8 ∧ b < 8 ∧ a ≠ b := by
  simp only [not_or, Bool.not_eq_false] at h
  obtain ⟨h1, h2, h3, h4⟩ := h
  obtain ⟨q, -, rfl, -, hq, -⟩ := gh_rgN h1 (by decide)
  obtain ⟨a, -, rfl, -, ha, -⟩ := gh_rgN h2 (by decide)
  obtain ⟨b, -, rfl, -, hb, -⟩ := gh_rgN h3 (by decide)
  exact ⟨q, a, b, rfl, rfl, rfl, by omega, by omega, by omega, fun e => h4 (by rw [e])⟩
theorem gq_way (hN : 2000000000 ≤ N) (x y z : Int32) (hR : gq_R2 j S) : gq_P (sX9_way N x y z) (sX10_way N x y z) gq_C2 (gq_R2 j) S := by
  obtain ⟨n, A, B, M, la, cl, u, h, hu⟩ := hR
  by_cases hbad : gh_rg x.toInt 0 3 = false ∨ gh_rg y.toInt 0 7 = false ∨ gh_rg z.toInt 0 7 = false ∨ y = z
  · have hf : gh_fr gq_CF S (gh_fI S 11 6 0) := gh_fr_fI (gh_fr_refl _ _) rfl
    refine ⟨-1, _, _, by unfold sX9_way; rw [gq_find_no N hbad]; rfl, by unfold sX10_way; rw [gq_isWay_no N hbad]; rfl, ⟨n, A, B, M, la, cl, u, gq_RN_fr h hf gq_CN_CF, hu⟩, gh_fr_mono hf gq_C2_CF⟩
  · obtain ⟨q, a, b, rfl, rfl, rfl, hq, ha, hb, hab⟩ := gq_way_gd hbad
    obtain ⟨best, st, L, S1, hL, hB, e1, e2, e3, -⟩ := gq_find N h hN hq ha hb hab
    have h1 := gq_RN_fr h e2 gq_CN_CF
    obtain ⟨D, d1, d2⟩ := gq_isWay N (gq_RR_of h1) hN hq ha hb hab
    have hbd := gq_D_best ha hb hab (gq_RN_AB h) hL d2 hB
    have hfr : gh_fr gq_C2 S (gq_vr S1 D) := gh_fr_trans (gh_fr_mono e2 gq_C2_CF) (gq_vr_fr D (fun _ => rfl))
    have hR2 : gq_RN (gq_vr S1 D) n A B M la cl u := gq_RN_fr (C := fun c _ => Nat.beq c 83) h1 (gq_vr_fr D (fun _ => rfl)) (fun c k hc => by
      cases e : Nat.beq c 83 with
      | false => rfl
      | true =>
        unfold gq_CN at hc
        simp only [Bool.or_eq_true, Bool.and_eq_true, Nat.beq_eq, Nat.ble_eq] at hc e
        omega)
    refine ⟨_, S1, gq_vr S1 D, by unfold sX9_way; rw [e1]; rfl, ?_, ⟨n, A, B, M, la, cl, u, hR2, hu⟩, hfr⟩
    unfold sX10_way
    rw [d1, gq_bs, gq_B_eq]
    by_cases h0 : st = 0
    · rw [decide_eq_false (hbd.1 h0), if_pos h0]
      rfl
    · obtain ⟨f1, f2⟩ := hbd.2 h0
      have hst := hB.1
      rw [decide_eq_true f2, Bool.not_true, cond_false, gh_ra_n (by omega) (by decide), gq_bs, gq_vr_r _ _ (by omega), show (100 : Int32) = nI 100 from rfl, gq_di (by omega) (by omega) (by omega), gq_bs, if_neg h0]
      rw [show D a / 100 = best by omega]
end GqNetOps

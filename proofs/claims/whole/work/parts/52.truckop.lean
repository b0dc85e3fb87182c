/-! ===== truck, pit, gone ===== -/
def gr_kn (S : gh_St) (n : Nat) (mi ki we : Nat → Nat) (u c : Nat) : Prop :=
  ∃ a o, gr_best n mi ki we u c = some (a, o) ∧ S.1 18 10 = nI a ∧ (∀ k, k < n → S.1 24 k = nI (gr_at o k)) ∧ (∀ k, k < n → S.1 25 k = nI (gr_go mi ki we u c (gr_at o) (k + 1)).1)
/-- what the trucks are, on both sides -/
def gr_R (S : gh_St) : Prop := ∃ n mi ki we u c hv kn, gr_RS S n mi ki we u c ∧ (∀ k, k < n → S.1 22 k = nI (hv k)) ∧ gr_hv we hv n ∧ S.1 18 11 = gq_B kn ∧ (kn = true → gr_kn S n mi ki we u c)
theorem gr_truck {S : gh_St} (N : Nat) (hN : 100 ≤ N) (a1 a2 a3 : Int32) (hR : gr_R S) : gq_P (sX9_truck N a1 a2 a3) (sX10_truck N a1 a2 a3) gr_C gr_R S := by
  obtain ⟨n, mi, ki, we, u, c, hv, kn, hS, h22, hh, h11, hk⟩ := hR
  have hR : gr_R S := ⟨n, mi, ki, we, u, c, hv, kn, hS, h22, hh, h11, hk⟩
  cases h1 : gh_rg a1.toInt 0 999 with
  | false => exact gq_P0 (-1) (by simp only [sX9_truck, sX7_add, gq_bs, gq_B_eq, gq_B_ne, gq_B_gB, Bool.not_true, Bool.not_false, Bool.true_and, Bool.false_and, Bool.and_true, Bool.and_false, cond_true, cond_false, gh_isBin9, gh_isKind9, gh_isFarmer9, gh_within, gh_inR, gh_isBin10, gh_isKind10, Int32.toInt_toInt64, Int32.reduceToInt, Int64.reduceToInt, decide_true, decide_false, h1]) (by simp only [sX10_truck, gq_bs, gq_B_eq, gq_B_ne, gq_B_gB, Bool.not_true, Bool.not_false, Bool.true_and, Bool.false_and, Bool.and_true, Bool.and_false, cond_true, cond_false, gh_isBin9, gh_isKind9, gh_isFarmer9, gh_within, gh_inR, gh_isBin10, gh_isKind10, Int32.toInt_toInt64, Int32.reduceToInt, Int64.reduceToInt, decide_true, decide_false, h1]) hR
  | true =>
  cases h2 : gh_rg a2.toInt 0 3 with
  | false => exact gq_P0 (-1) (by simp only [sX9_truck, sX7_add, gq_bs, gq_B_eq, gq_B_ne, gq_B_gB, Bool.not_true, Bool.not_false, Bool.true_and, Bool.false_and, Bool.and_true, Bool.and_false, cond_true, cond_false, gh_isBin9, gh_isKind9, gh_isFarmer9, gh_within, gh_inR, gh_isBin10, gh_isKind10, Int32.toInt_toInt64, Int32.reduceToInt, Int64.reduceToInt, decide_true, decide_false, h1, h2]) (by simp only [sX10_truck, gq_bs, gq_B_eq, gq_B_ne, gq_B_gB, Bool.not_true, Bool.not_false, Bool.true_and, Bool.false_and, Bool.and_true, Bool.and_false, cond_true, cond_false, gh_isBin9, gh_isKind9, gh_isFarmer9, gh_within, gh_inR, gh_isBin10, gh_isKind10, Int32.toInt_toInt64, Int32.reduceToInt, Int64.reduceToInt, decide_true, decide_false, h1, h2]) hR
  | true =>
  cases h3 : gh_rg a3.toInt 1 9 with
  | false => exact gq_P0 (-1) (by simp only [sX9_truck, sX7_add, gq_bs, gq_B_eq, gq_B_ne, gq_B_gB, Bool.not_true, Bool.not_false, Bool.true_and, Bool.false_and, Bool.and_true, Bool.and_false, cond_true, cond_false, gh_isBin9, gh_isKind9, gh_isFarmer9, gh_within, gh_inR, gh_isBin10, gh_isKind10, Int32.toInt_toInt64, Int32.reduceToInt, Int64.reduceToInt, decide_true, decide_false, h1, h2, h3]) (by simp only [sX10_truck, gq_bs, gq_B_eq, gq_B_ne, gq_B_gB, Bool.not_true, Bool.not_false, Bool.true_and, Bool.false_and, Bool.and_true, Bool.and_false, cond_true, cond_false, gh_isBin9, gh_isKind9, gh_isFarmer9, gh_within, gh_inR, gh_isBin10, gh_isKind10, Int32.toInt_toInt64, Int32.reduceToInt, Int64.reduceToInt, decide_true, decide_false, h1, h2, h3]) hR
  | true =>
  obtain ⟨s1, s2, s3, s4, s5, s6, s7, s8, s9, s10, s11⟩ := hS
  have c1 : gh_cmp .lt (nI n) 7 = decide (n < 7) := gh_n_lt (b := 7) (by omega) (by omega)
  have c2 : gh_cmp .ne (nI n) 7 = decide (n ≠ 7) := gh_n_ne (b := 7) (by omega) (by omega)
  by_cases h7 : n < 7
  case neg =>
    rw [decide_eq_false h7] at c1
    rw [decide_eq_false (by omega)] at c2
    exact gq_P0 (-1) (by simp only [sX9_truck, sX7_add, gq_bs, gq_B_eq, gq_B_ne, gq_B_gB, Bool.not_true, Bool.not_false, Bool.true_and, Bool.false_and, Bool.and_true, Bool.and_false, cond_true, cond_false, gh_isBin9, gh_isKind9, gh_isFarmer9, gh_within, gh_inR, gh_isBin10, gh_isKind10, Int32.toInt_toInt64, Int32.reduceToInt, Int64.reduceToInt, decide_true, decide_false, h1, h2, h3, s5, c1]) (by simp only [sX10_truck, gq_bs, gq_B_eq, gq_B_ne, gq_B_gB, Bool.not_true, Bool.not_false, Bool.true_and, Bool.false_and, Bool.and_true, Bool.and_false, cond_true, cond_false, gh_isBin9, gh_isKind9, gh_isFarmer9, gh_within, gh_inR, gh_isBin10, gh_isKind10, Int32.toInt_toInt64, Int32.reduceToInt, Int64.reduceToInt, decide_true, decide_false, h1, h2, h3, s6, c2]) hR
  rw [decide_eq_true h7] at c1
  rw [decide_eq_true (by omega)] at c2
  obtain ⟨m, -, rfl, -, hm, -⟩ := gh_rgN h1 (by decide)
  obtain ⟨q, -, rfl, -, hq, -⟩ := gh_rgN h2 (by decide)
  obtain ⟨w, -, rfl, -, hw, -⟩ := gh_rgN h3 (by decide)
  obtain ⟨S3, hS3⟩ : ∃ S3, S3 = gh_fI (gh_fI (gh_fI S 19 n (nI m)) 20 n (nI q)) 21 n (nI w) := ⟨_, rfl⟩
  have w21 : ∀ k, k < 7 → S3.1 21 k = nI (gh_nu we n w k) := by
    intro k hk
    rw [hS3]
    unfold gh_nu
    simp only [gh_fI_1]
    by_cases e : k = n
    · simp [e]
    · simp [e, (s11 k hk).2.2.2.2.1]
  have w9 : ∀ k, k < 7 → gh_nu we n w k ≤ 9 := by
    intro k hk
    unfold gh_nu
    have := (s11 k hk).2.2.2.2.2.2.2.2
    split <;> omega
  obtain ⟨p, S4, i1, i2, i3, i4, i5, i6, i7⟩ := gr_sort2 N (n := n) (t := n) (we := gh_nu we n w) (hv := hv) h7 h7 w9 (fun k hk => by have := gr_hv_lt hh hk; omega) N n S3 (Nat.le_refl _) (by omega) w21 (fun k hk => by rw [hS3]; simp only [gh_fI_1]; simpa using h22 k hk) (fun k hk hk2 => by omega)
  have e18 : S3.1 18 7 = nI n := by rw [hS3]; simp only [gh_fI_1]; simpa using s5
  have e18' : S4.1 18 7 = nI n := (i3.1 18 7 rfl).trans e18
  obtain ⟨S5, hS5⟩ : ∃ S5, S5 = gh_fI (gh_fI S4 18 7 (nI (n + 1))) 18 11 0 := ⟨_, rfl⟩
  have r9 : sX9_truck N (nI m) (nI q) (nI w) S = some (nI n, S5) := by
    simp only [sX9_truck, sX7_add, gq_bs, gq_B_eq, gq_B_ne, gq_B_gB, Bool.not_true, Bool.not_false, Bool.true_and, Bool.false_and, Bool.and_true, Bool.and_false, cond_true, cond_false, gh_isBin9, gh_isKind9, gh_isFarmer9, gh_within, gh_inR, gh_isBin10, gh_isKind10, Int32.toInt_toInt64, Int32.reduceToInt, Int64.reduceToInt, decide_true, decide_false, h1, h2, h3, s5, c1, gh_wa_n h7 (show 7 < 2 ^ 31 by decide), gh_fI_1, Nat.reduceEqDiff, false_and, if_false, ← hS3, e18, sX7_sortIn, i1, e18', nI_1, ← hS5]
    rw [hS5]
    simp [gh_fI_1, nI_pred]
  have f5 : gh_fr gr_C S S5 := by
    rw [hS5]
    refine gh_fr_fI (gh_fr_fI (gh_fr_trans ?_ (gh_fr_mono i3 (fun c k h => ?_))) rfl) rfl
    · rw [hS3]
      exact gh_fr_fI (gh_fr_fI (gh_fr_fI (gh_fr_refl _ _) rfl) rfl) rfl
    · rw [Nat.eq_of_beq_eq_true h]
      rfl
  have k19 : S5.1 56 19 = nI n := by
    rw [hS5]
    simp only [gh_fI_1, Nat.reduceEqDiff, false_and, if_false]
    rw [i3.1 56 19 rfl, hS3]
    simp only [gh_fI_1, Nat.reduceEqDiff, false_and, if_false]
    exact s6
  obtain ⟨S6, hS6⟩ : ∃ S6, S6 = gh_fI (gh_fI (gh_fI (gh_fI S5 69 n (nI m)) 70 n (nI q)) 71 n (nI w)) 56 19 (nI (n + 1)) := ⟨_, rfl⟩
  have r10 : sX10_truck N (nI m) (nI q) (nI w) S5 = some (nI n, S6) := by
    simp only [sX10_truck, gq_bs, gq_B_eq, gq_B_ne, gq_B_gB, Bool.not_true, Bool.not_false, Bool.true_and, Bool.false_and, Bool.and_true, Bool.and_false, cond_true, cond_false, gh_isBin9, gh_isKind9, gh_isFarmer9, gh_within, gh_inR, gh_isBin10, gh_isKind10, Int32.toInt_toInt64, Int32.reduceToInt, Int64.reduceToInt, decide_true, decide_false, h1, h2, h3, k19, c2, gh_wa_n h7 (show 7 < 2 ^ 31 by decide), gh_fI_1, Nat.reduceEqDiff, false_and, if_false, nI_1]
    rw [hS6]
    simp [nI_pred]
  have rd : ∀ c k, gr_C c k = false ∨ (c ≠ 19 ∧ c ≠ 20 ∧ c ≠ 21 ∧ c ≠ 22 ∧ c ≠ 69 ∧ c ≠ 70 ∧ c ≠ 71 ∧ (c ≠ 18 ∨ (k ≠ 7 ∧ k ≠ 11)) ∧ (c ≠ 56 ∨ k ≠ 19)) → S6.1 c k = S.1 c k := by
    intro c k h
    rcases h with h | ⟨n1, n2, n3, n4, n5, n6, n7, n8, n9⟩
    · rw [hS6]
      refine ((gh_fr_fI (C := gr_C) (gh_fr_fI (gh_fr_fI (gh_fr_fI f5 rfl) rfl) rfl) rfl).1 c k h)
    · rw [hS6, hS5]
      simp only [gh_fI_1]
      rw [if_neg (by omega), if_neg (by omega), if_neg (by omega), if_neg (by omega), if_neg (by omega), if_neg (by omega), i3.1 c k (by cases e : Nat.beq c 22 with
        | false => exact e
        | true => exact absurd (Nat.eq_of_beq_eq_true e) n4), hS3]
      simp only [gh_fI_1]
      rw [if_neg (by omega), if_neg (by omega), if_neg (by omega)]
  have hhv' : ∀ k, S6.1 22 k = S4.1 22 k := by
    intro k
    rw [hS6, hS5]
    simp only [gh_fI_1, Nat.reduceEqDiff, false_and, if_false]
  have hrow : ∀ (c1 c2 : Nat), (c1 = 19 ∧ c2 = 69) ∨ (c1 = 20 ∧ c2 = 70) ∨ (c1 = 21 ∧ c2 = 71) → ∀ k, k < 7 → k ≠ n → S6.1 c1 k = S.1 c1 k ∧ S6.1 c2 k = S.1 c2 k := by
    intro c1 c2 hc k hk hne
    have g : ∀ cc, (cc = 19 ∨ cc = 20 ∨ cc = 21 ∨ cc = 69 ∨ cc = 70 ∨ cc = 71) → S6.1 cc k = S.1 cc k := by
      intro cc hcc
      rw [hS6, hS5]
      simp only [gh_fI_1]
      rw [if_neg (by omega), if_neg (by omega), if_neg (by omega), if_neg (by omega), if_neg (by omega), if_neg (by omega), i3.1 cc k (by rcases hcc with rfl | rfl | rfl | rfl | rfl | rfl <;> rfl), hS3]
      simp only [gh_fI_1]
      rw [if_neg (by omega), if_neg (by omega), if_neg (by omega)]
    exact ⟨g c1 (by omega), g c2 (by omega)⟩
  have hat : S6.1 19 n = nI m ∧ S6.1 69 n = nI m ∧ S6.1 20 n = nI q ∧ S6.1 70 n = nI q ∧ S6.1 21 n = nI w ∧ S6.1 71 n = nI w := by
    have g19 : S4.1 19 n = nI m := by rw [i3.1 19 n rfl, hS3]; simp [gh_fI_1]
    have g20 : S4.1 20 n = nI q := by rw [i3.1 20 n rfl, hS3]; simp [gh_fI_1]
    have g21 : S4.1 21 n = nI w := by rw [i3.1 21 n rfl, hS3]; simp [gh_fI_1]
    rw [hS6, hS5]
    simp [gh_fI_1, g19, g20, g21]
  refine ⟨nI n, S5, S6, r9, r10, ⟨n + 1, gh_nu mi n m, gh_nu ki n q, gh_nu we n w, u, c, fun k => if k < p then hv k else if k = p then n else hv (k - 1), false, ⟨by omega, s2, s3, s4, ?_, ?_, (rd 18 8 (Or.inr (by omega))).trans s7, (rd 56 23 (Or.inr (by omega))).trans s8, (rd 18 9 (Or.inr (by omega))).trans s9, (rd 56 24 (Or.inr (by omega))).trans s10, fun k hk => ?_⟩, fun k hk => ?_, ?_, ?_, fun h => by cases h⟩, ?_⟩
  · rw [hS6, hS5]; simp [gh_fI_1]
  · rw [hS6]; simp [gh_fI_1]
  · obtain ⟨t1, t2, t3, t4, t5, t6, t7, t8, t9⟩ := s11 k hk
    by_cases e : k = n
    · subst e
      simp only [gh_nu_s]
      obtain ⟨x1, x2, x3, x4, x5, x6⟩ := hat
      exact ⟨x1, x2, x3, x4, x5, x6, by omega, by omega, by omega⟩
    · simp only [gh_nu_n _ _ e]
      obtain ⟨x1, x2⟩ := hrow 19 69 (Or.inl ⟨rfl, rfl⟩) k hk e
      obtain ⟨x3, x4⟩ := hrow 20 70 (Or.inr (Or.inl ⟨rfl, rfl⟩)) k hk e
      obtain ⟨x5, x6⟩ := hrow 21 71 (Or.inr (Or.inr ⟨rfl, rfl⟩)) k hk e
      exact ⟨x1.trans t1, x2.trans t2, x3.trans t3, x4.trans t4, x5.trans t5, x6.trans t6, t7, t8, t9⟩
  · rw [hhv' k]
    show _ = nI (if k < p then hv k else if k = p then n else hv (k - 1))
    by_cases e1 : k < p
    · rw [if_pos e1]
      exact i4 k e1
    · rw [if_neg e1]
      by_cases e2 : k = p
      · rw [if_pos e2, e2]
        exact i5
      · rw [if_neg e2]
        have := (i6 (k - 1) (by omega) (by omega)).1
        rw [show k - 1 + 1 = k by omega] at this
        exact this
  · refine gr_hv_in (p := p) hh i2 (fun k hk => by show (if _ then _ else _) = _; rw [if_pos hk]) (by show (if _ then _ else _) = _; rw [if_neg (by omega), if_pos rfl]) (fun k h1 h2 => ⟨?_, (i6 k h1 h2).2⟩) i7 (fun k hk => gh_nu_n _ _ (by omega))
    show (if k + 1 < p then _ else _) = _
    rw [if_neg (by omega), if_neg (by omega), Nat.add_sub_cancel]
  · rw [hS6, hS5]; simp [gh_fI_1]; rfl
  · rw [hS6]
    exact gh_fr_fI (gh_fr_fI (gh_fr_fI (gh_fr_fI f5 rfl) rfl) rfl) rfl
theorem gr_pit {S : gh_St} (N : Nat) (a1 a2 : Int32) (hR : gr_R S) : gq_P (sX9_pit N a1 a2) (sX10_pit N a1 a2) gr_C gr_R S := by
  obtain ⟨n, mi, ki, we, u, c, hv, kn, hS, h22, hh, h11, hk⟩ := hR
  have hR : gr_R S := ⟨n, mi, ki, we, u, c, hv, kn, hS, h22, hh, h11, hk⟩
  cases h1 : gh_rg a1.toInt 1 60 with
  | false => exact gq_P0 0 (by simp only [sX9_pit, gq_bs, gq_B_eq, gq_B_ne, gq_B_gB, Bool.not_true, Bool.not_false, Bool.true_and, Bool.false_and, Bool.and_true, Bool.and_false, cond_true, cond_false, gh_isBin9, gh_isKind9, gh_isFarmer9, gh_within, gh_inR, gh_isBin10, gh_isKind10, Int32.toInt_toInt64, Int32.reduceToInt, Int64.reduceToInt, decide_true, decide_false, h1]) (by simp only [sX10_pit, gq_bs, gq_B_eq, gq_B_ne, gq_B_gB, Bool.not_true, Bool.not_false, Bool.true_and, Bool.false_and, Bool.and_true, Bool.and_false, cond_true, cond_false, gh_isBin9, gh_isKind9, gh_isFarmer9, gh_within, gh_inR, gh_isBin10, gh_isKind10, Int32.toInt_toInt64, Int32.reduceToInt, Int64.reduceToInt, decide_true, decide_false, h1]) hR
  | true =>
  cases h2 : gh_rg a2.toInt 0 60 with
  | false => exact gq_P0 0 (by simp only [sX9_pit, gq_bs, gq_B_eq, gq_B_ne, gq_B_gB, Bool.not_true, Bool.not_false, Bool.true_and, Bool.false_and, Bool.and_true, Bool.and_false, cond_true, cond_false, gh_isBin9, gh_isKind9, gh_isFarmer9, gh_within, gh_inR, gh_isBin10, gh_isKind10, Int32.toInt_toInt64, Int32.reduceToInt, Int64.reduceToInt, decide_true, decide_false, h1, h2]) (by simp only [sX10_pit, gq_bs, gq_B_eq, gq_B_ne, gq_B_gB, Bool.not_true, Bool.not_false, Bool.true_and, Bool.false_and, Bool.and_true, Bool.and_false, cond_true, cond_false, gh_isBin9, gh_isKind9, gh_isFarmer9, gh_within, gh_inR, gh_isBin10, gh_isKind10, Int32.toInt_toInt64, Int32.reduceToInt, Int64.reduceToInt, decide_true, decide_false, h1, h2]) hR
  | true =>
  obtain ⟨s1, s2, s3, s4, s5, s6, s7, s8, s9, s10, s11⟩ := hS
  obtain ⟨x, -, rfl, hx1, hx2, -⟩ := gh_rgN h1 (by decide)
  obtain ⟨y, -, rfl, hy1, hy2, -⟩ := gh_rgN h2 (by decide)
  refine ⟨1, gh_fI (gh_fI (gh_fI S 18 8 (nI x)) 18 9 (nI y)) 18 11 0, gh_fI (gh_fI (gh_fI (gh_fI (gh_fI S 18 8 (nI x)) 18 9 (nI y)) 18 11 0) 56 23 (nI x)) 56 24 (nI y), by simp only [sX9_pit, gq_bs, gq_B_eq, gq_B_ne, gq_B_gB, Bool.not_true, Bool.not_false, Bool.true_and, Bool.false_and, Bool.and_true, Bool.and_false, cond_true, cond_false, gh_isBin9, gh_isKind9, gh_isFarmer9, gh_within, gh_inR, gh_isBin10, gh_isKind10, Int32.toInt_toInt64, Int32.reduceToInt, Int64.reduceToInt, decide_true, decide_false, h1, h2, sX7_setPit], by simp only [sX10_pit, gq_bs, gq_B_eq, gq_B_ne, gq_B_gB, Bool.not_true, Bool.not_false, Bool.true_and, Bool.false_and, Bool.and_true, Bool.and_false, cond_true, cond_false, gh_isBin9, gh_isKind9, gh_isFarmer9, gh_within, gh_inR, gh_isBin10, gh_isKind10, Int32.toInt_toInt64, Int32.reduceToInt, Int64.reduceToInt, decide_true, decide_false, h1, h2], ⟨n, mi, ki, we, x, y, hv, false, ⟨s1, by omega, by omega, by omega, ?_, ?_, ?_, ?_, ?_, ?_, fun k hk => ?_⟩, fun k hk => ?_, hh, ?_, fun h => by cases h⟩, ?_⟩
  · simp [gh_fI_1, s5]
  · simp [gh_fI_1, s6]
  · simp [gh_fI_1]
  · simp [gh_fI_1]
  · simp [gh_fI_1]
  · simp [gh_fI_1]
  · simpa [gh_fI_1] using s11 k hk
  · simpa [gh_fI_1] using h22 k hk
  · simp [gh_fI_1]; rfl
  · repeat first | exact gh_fr_refl _ _ | refine gh_fr_fI ?_ rfl
theorem gr_gone {S : gh_St} (N : Nat) (hR : gr_R S) : gq_P (sX9_gone N) (sX10_gone N) gr_C gr_R S := by
  obtain ⟨n, mi, ki, we, u, c, hv, kn, hS, h22, hh, h11, hk⟩ := hR
  obtain ⟨s1, s2, s3, s4, s5, s6, s7, s8, s9, s10, s11⟩ := hS
  refine ⟨nI n, gh_fI (gh_fI (gh_fI S 18 7 0) 18 10 0) 18 11 1, gh_fI (gh_fI (gh_fI (gh_fI S 18 7 0) 18 10 0) 18 11 1) 56 19 0, by simp only [sX9_gone, sX7_clear, gq_bs, s5], by simp [sX10_gone, gh_fI_1, s6], ⟨0, mi, ki, we, u, c, hv, true, ⟨by omega, s2, s3, s4, ?_, ?_, ?_, ?_, ?_, ?_, fun k hk => ?_⟩, fun k hk => by omega, ⟨List.Perm.refl _, fun i j _ h => by omega⟩, ?_, fun _ => ⟨0, [], rfl, ?_, fun k hk => by omega, fun k hk => by omega⟩⟩, ?_⟩
  · simp [gh_fI_1]; rfl
  · simp [gh_fI_1]; rfl
  · simp [gh_fI_1, s7]
  · simp [gh_fI_1, s8]
  · simp [gh_fI_1, s9]
  · simp [gh_fI_1, s10]
  · simpa [gh_fI_1] using s11 k hk
  · simp [gh_fI_1]; rfl
  · simp [gh_fI_1]; rfl
  · repeat first | exact gh_fr_refl _ _ | refine gh_fr_fI ?_ rfl

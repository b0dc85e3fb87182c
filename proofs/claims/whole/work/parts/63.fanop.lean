/-! ===== hour, needs ===== -/
def gf_RS (S : gh_St) (dr : Nat → Bool) (p nd li : Nat → Nat) (pw : Nat) : Prop :=
  1 ≤ pw ∧ pw ≤ 8 ∧ S.1 26 10 = nI pw ∧ S.1 56 29 = nI pw ∧ (∀ h, h < 12 → S.1 27 h = gq_B (dr h) ∧ S.1 72 h = gq_B (dr h) ∧ S.1 28 h = nI (p h) ∧ S.1 73 h = nI (p h) ∧ p h ≤ 99) ∧ (∀ b, b < 8 → S.1 29 b = nI (nd b) ∧ S.1 74 b = nI (nd b) ∧ S.1 30 b = nI (li b) ∧ S.1 75 b = nI (li b) ∧ nd b ≤ 12 ∧ li b ≤ 12)
def gf_may (dr : Nat → Bool) (li : Nat → Nat) (b h : Nat) : Bool := dr h && Nat.blt h (li b)
def gf_kn (S : gh_St) (dr : Nat → Bool) (p nd li : Nat → Nat) (pw : Nat) : Prop :=
  (S.1 26 13 = -1 ∧ ∀ x, ¬ gf_feas (gf_may dr li) nd pw x) ∨ (∃ x, gf_feas (gf_may dr li) nd pw x ∧ gf_opt (gf_may dr li) nd pw p x ∧ gf_lex (gf_may dr li) nd pw p x ∧ S.1 26 13 = nI (gf_cost p (gf_col x)) ∧ ∀ b, b < 8 → S.1 36 b = nI (gf_mk (x b)))
/-- what the fans' plan is, on both sides -/
def gf_R (S : gh_St) : Prop := ∃ dr p nd li pw kn, gf_RS S dr p nd li pw ∧ S.1 26 14 = gq_B kn ∧ (kn = true → gf_kn S dr p nd li pw)
/-- the places of the fans -/
def gf_C (c k : Nat) : Bool := (Nat.ble 26 c && Nat.ble c 36) || (Nat.ble 72 c && Nat.ble c 75) || (Nat.ble 87 c && Nat.ble c 91) || (Nat.beq c 56 && Nat.beq k 29)
/-- places that no wish is kept in -/
def gf_CW (c k : Nat) : Bool := (Nat.ble 31 c && Nat.ble c 36) || (Nat.beq c 26 && !Nat.beq k 10) || (Nat.ble 87 c && Nat.ble c 91)
theorem gf_C_CW : ∀ c k, gf_CW c k = true → gf_C c k = true := by
  intro c k h
  unfold gf_CW at h
  unfold gf_C
  simp only [Bool.or_eq_true, Bool.and_eq_true, Nat.beq_eq, Nat.ble_eq] at h ⊢
  omega
theorem gf_RS_fr {S S' : gh_St} {dr : Nat → Bool} {p nd li : Nat → Nat} {pw : Nat} (h : gf_RS S dr p nd li pw) (hf : gh_fr gf_CW S S') : gf_RS S' dr p nd li pw := by
  obtain ⟨h1, h2, h3, h4, h5, h6⟩ := h
  refine ⟨h1, h2, (hf.1 _ _ rfl).trans h3, (hf.1 _ _ rfl).trans h4, fun k hk => ?_, fun k hk => ?_⟩
  · obtain ⟨a1, a2, a3, a4, a5⟩ := h5 k hk
    exact ⟨(hf.1 _ _ rfl).trans a1, (hf.1 _ _ rfl).trans a2, (hf.1 _ _ rfl).trans a3, (hf.1 _ _ rfl).trans a4, a5⟩
  · obtain ⟨a1, a2, a3, a4, a5, a6⟩ := h6 k hk
    exact ⟨(hf.1 _ _ rfl).trans a1, (hf.1 _ _ rfl).trans a2, (hf.1 _ _ rfl).trans a3, (hf.1 _ _ rfl).trans a4, a5, a6⟩
theorem gf_hour {S : gh_St} (N : Nat) (a1 a3 : Int32) (v : Bool) (hR : gf_R S) : gq_P (sX9_hour N a1 (gq_B v) a3) (sX10_hour N a1 (gq_B v) a3) gf_C gf_R S := by
  obtain ⟨dr, p, nd, li, pw, kn, hS, h14, hk⟩ := hR
  have hR : gf_R S := ⟨dr, p, nd, li, pw, kn, hS, h14, hk⟩
  cases h1 : gh_rg a1.toInt 0 11 with
  | false => exact gq_P0 0 (by simp only [sX9_hour, sX2_setHour, gq_bs, gq_B_eq, gq_B_ne, gq_B_gB, Bool.not_true, Bool.not_false, Bool.true_and, Bool.false_and, Bool.and_true, Bool.and_false, cond_true, cond_false, gh_isBin9, gh_isKind9, gh_isFarmer9, gh_within, gh_inR, gh_isBin10, gh_isKind10, Int32.toInt_toInt64, Int32.reduceToInt, Int64.reduceToInt, decide_true, decide_false, h1]; rfl) (by simp only [sX10_hour, gq_bs, gq_B_eq, gq_B_ne, gq_B_gB, Bool.not_true, Bool.not_false, Bool.true_and, Bool.false_and, Bool.and_true, Bool.and_false, cond_true, cond_false, gh_isBin9, gh_isKind9, gh_isFarmer9, gh_within, gh_inR, gh_isBin10, gh_isKind10, Int32.toInt_toInt64, Int32.reduceToInt, Int64.reduceToInt, decide_true, decide_false, h1]) hR
  | true =>
  cases h2 : gh_rg a3.toInt 0 99 with
  | false => exact gq_P0 0 (by simp only [sX9_hour, sX2_setHour, gq_bs, gq_B_eq, gq_B_ne, gq_B_gB, Bool.not_true, Bool.not_false, Bool.true_and, Bool.false_and, Bool.and_true, Bool.and_false, cond_true, cond_false, gh_isBin9, gh_isKind9, gh_isFarmer9, gh_within, gh_inR, gh_isBin10, gh_isKind10, Int32.toInt_toInt64, Int32.reduceToInt, Int64.reduceToInt, decide_true, decide_false, h1, h2]; rfl) (by simp only [sX10_hour, gq_bs, gq_B_eq, gq_B_ne, gq_B_gB, Bool.not_true, Bool.not_false, Bool.true_and, Bool.false_and, Bool.and_true, Bool.and_false, cond_true, cond_false, gh_isBin9, gh_isKind9, gh_isFarmer9, gh_within, gh_inR, gh_isBin10, gh_isKind10, Int32.toInt_toInt64, Int32.reduceToInt, Int64.reduceToInt, decide_true, decide_false, h1, h2]) hR
  | true =>
  obtain ⟨h, -, rfl, -, hh, -⟩ := gh_rgN h1 (by decide)
  obtain ⟨m, -, rfl, -, hm, -⟩ := gh_rgN h2 (by decide)
  have hh12 : h < 12 := by omega
  obtain ⟨s1, s2, s3, s4, s5, s6⟩ := hS
  obtain ⟨S1, hS1⟩ : ∃ S1, S1 = gh_fI (gh_fI (gh_fI S 27 h (gq_B v)) 28 h (nI m)) 26 14 0 := ⟨_, rfl⟩
  obtain ⟨S2, hS2⟩ : ∃ S2, S2 = gh_fI (gh_fI S1 72 h (gq_B v)) 73 h (nI m) := ⟨_, rfl⟩
  have wa : ∀ (T : gh_St) c x, gh_wa T c 12 (nI h) x = some (gh_fI T c h x) := fun T c x => gh_wa_n hh12 (by decide)
  refine ⟨1, S1, S2, ?_, ?_, ⟨gh_nu dr h v, gh_nu p h m, nd, li, pw, false, ⟨s1, s2, ?_, ?_, fun k hk => ?_, fun k hk => ?_⟩, ?_, fun h => by cases h⟩, ?_⟩
  · simp only [sX9_hour, sX2_setHour, gq_bs, gq_B_eq, gq_B_ne, gq_B_gB, Bool.not_true, Bool.not_false, Bool.true_and, Bool.false_and, Bool.and_true, Bool.and_false, cond_true, cond_false, gh_isBin9, gh_isKind9, gh_isFarmer9, gh_within, gh_inR, gh_isBin10, gh_isKind10, Int32.toInt_toInt64, Int32.reduceToInt, Int64.reduceToInt, decide_true, decide_false, h1, h2, wa, gq_B_nar, ← hS1]
    rfl
  · simp only [sX10_hour, gq_bs, gq_B_eq, gq_B_ne, gq_B_gB, Bool.not_true, Bool.not_false, Bool.true_and, Bool.false_and, Bool.and_true, Bool.and_false, cond_true, cond_false, gh_isBin9, gh_isKind9, gh_isFarmer9, gh_within, gh_inR, gh_isBin10, gh_isKind10, Int32.toInt_toInt64, Int32.reduceToInt, Int64.reduceToInt, decide_true, decide_false, h1, h2, wa, gq_B_nar, ← hS2]
  · rw [hS2, hS1]; simp [gh_fI_1, s3]
  · rw [hS2, hS1]; simp [gh_fI_1, s4]
  · obtain ⟨t1, t2, t3, t4, t5⟩ := s5 k hk
    rw [hS2, hS1]
    by_cases e : k = h
    · subst e
      simp [gh_fI_1, gh_nu_s]
      omega
    · simp [gh_fI_1, gh_nu_n _ _ e, e, t1, t2, t3, t4, t5]
  · rw [hS2, hS1]
    simpa [gh_fI_1] using s6 k hk
  · rw [hS2, hS1]; simp [gh_fI_1]; rfl
  · rw [hS2, hS1]
    repeat first | exact gh_fr_refl _ _ | refine gh_fr_fI ?_ rfl
theorem gf_needs {S : gh_St} (N : Nat) (a1 a2 a3 : Int32) (hR : gf_R S) : gq_P (sX9_needs N a1 a2 a3) (sX10_needs N a1 a2 a3) gf_C gf_R S := by
  obtain ⟨dr, p, nd, li, pw, kn, hS, h14, hk⟩ := hR
  have hR : gf_R S := ⟨dr, p, nd, li, pw, kn, hS, h14, hk⟩
  obtain ⟨s1, s2, s3, s4, s5, s6⟩ := hS
  cases h0 : gh_cmp .ne a1 (-1) with
  | false =>
    cases h2 : gh_rg a2.toInt 1 8 with
    | false =>
      have e : gh_fI S 56 29 (nI pw) = S := by
        refine Prod.ext ?_ rfl
        funext c k
        rw [gh_fI_1]
        split
        · rename_i q
          rw [q.1, q.2, s4]
        · rfl
      exact gq_P0 0 (by simp only [sX9_needs, sX2_setPower, gq_bs, gq_B_eq, gq_B_ne, gq_B_gB, Bool.not_true, Bool.not_false, Bool.true_and, Bool.false_and, Bool.and_true, Bool.and_false, cond_true, cond_false, gh_isBin9, gh_isKind9, gh_isFarmer9, gh_within, gh_inR, gh_isBin10, gh_isKind10, Int32.toInt_toInt64, Int32.reduceToInt, Int64.reduceToInt, decide_true, decide_false, h0, h2]; rfl) (by simp only [sX10_needs, sX10_needs_26, gq_bs, gq_B_eq, gq_B_ne, gq_B_gB, Bool.not_true, Bool.not_false, Bool.true_and, Bool.false_and, Bool.and_true, Bool.and_false, cond_true, cond_false, gh_isBin9, gh_isKind9, gh_isFarmer9, gh_within, gh_inR, gh_isBin10, gh_isKind10, Int32.toInt_toInt64, Int32.reduceToInt, Int64.reduceToInt, decide_true, decide_false, h0, h2, s4, e]; rfl) hR
    | true =>
      obtain ⟨m, -, rfl, hm1, hm2, -⟩ := gh_rgN h2 (by decide)
      refine ⟨1, gh_fI (gh_fI S 26 10 (nI m)) 26 14 0, gh_fI (gh_fI (gh_fI S 26 10 (nI m)) 26 14 0) 56 29 (nI m), by simp only [sX9_needs, sX2_setPower, gq_bs, gq_B_eq, gq_B_ne, gq_B_gB, Bool.not_true, Bool.not_false, Bool.true_and, Bool.false_and, Bool.and_true, Bool.and_false, cond_true, cond_false, gh_isBin9, gh_isKind9, gh_isFarmer9, gh_within, gh_inR, gh_isBin10, gh_isKind10, Int32.toInt_toInt64, Int32.reduceToInt, Int64.reduceToInt, decide_true, decide_false, h0, h2]; rfl, by simp only [sX10_needs, sX10_needs_26, gq_bs, gq_B_eq, gq_B_ne, gq_B_gB, Bool.not_true, Bool.not_false, Bool.true_and, Bool.false_and, Bool.and_true, Bool.and_false, cond_true, cond_false, gh_isBin9, gh_isKind9, gh_isFarmer9, gh_within, gh_inR, gh_isBin10, gh_isKind10, Int32.toInt_toInt64, Int32.reduceToInt, Int64.reduceToInt, decide_true, decide_false, h0, h2]; rfl, ⟨dr, p, nd, li, m, false, ⟨by omega, by omega, ?_, ?_, fun k hk => ?_, fun k hk => ?_⟩, ?_, fun h => by cases h⟩, ?_⟩
      · simp [gh_fI_1]
      · simp [gh_fI_1]
      · simpa [gh_fI_1] using s5 k hk
      · simpa [gh_fI_1] using s6 k hk
      · simp [gh_fI_1]; rfl
      · repeat first | exact gh_fr_refl _ _ | refine gh_fr_fI ?_ rfl
  | true =>
  cases h1 : gh_rg a1.toInt 0 7 with
  | false => exact gq_P0 0 (by simp only [sX9_needs, sX2_setNeed, gq_bs, gq_B_eq, gq_B_ne, gq_B_gB, Bool.not_true, Bool.not_false, Bool.true_and, Bool.false_and, Bool.and_true, Bool.and_false, cond_true, cond_false, gh_isBin9, gh_isKind9, gh_isFarmer9, gh_within, gh_inR, gh_isBin10, gh_isKind10, Int32.toInt_toInt64, Int32.reduceToInt, Int64.reduceToInt, decide_true, decide_false, h0, h1]; rfl) (by simp only [sX10_needs, gq_bs, gq_B_eq, gq_B_ne, gq_B_gB, Bool.not_true, Bool.not_false, Bool.true_and, Bool.false_and, Bool.and_true, Bool.and_false, cond_true, cond_false, gh_isBin9, gh_isKind9, gh_isFarmer9, gh_within, gh_inR, gh_isBin10, gh_isKind10, Int32.toInt_toInt64, Int32.reduceToInt, Int64.reduceToInt, decide_true, decide_false, h0, h1]) hR
  | true =>
  cases h2 : gh_rg a2.toInt 0 12 with
  | false => exact gq_P0 0 (by simp only [sX9_needs, sX2_setNeed, gq_bs, gq_B_eq, gq_B_ne, gq_B_gB, Bool.not_true, Bool.not_false, Bool.true_and, Bool.false_and, Bool.and_true, Bool.and_false, cond_true, cond_false, gh_isBin9, gh_isKind9, gh_isFarmer9, gh_within, gh_inR, gh_isBin10, gh_isKind10, Int32.toInt_toInt64, Int32.reduceToInt, Int64.reduceToInt, decide_true, decide_false, h0, h1, h2]; rfl) (by simp only [sX10_needs, gq_bs, gq_B_eq, gq_B_ne, gq_B_gB, Bool.not_true, Bool.not_false, Bool.true_and, Bool.false_and, Bool.and_true, Bool.and_false, cond_true, cond_false, gh_isBin9, gh_isKind9, gh_isFarmer9, gh_within, gh_inR, gh_isBin10, gh_isKind10, Int32.toInt_toInt64, Int32.reduceToInt, Int64.reduceToInt, decide_true, decide_false, h0, h1, h2]) hR
  | true =>
  cases h3 : gh_rg a3.toInt 0 12 with
  | false => exact gq_P0 0 (by simp only [sX9_needs, sX2_setNeed, gq_bs, gq_B_eq, gq_B_ne, gq_B_gB, Bool.not_true, Bool.not_false, Bool.true_and, Bool.false_and, Bool.and_true, Bool.and_false, cond_true, cond_false, gh_isBin9, gh_isKind9, gh_isFarmer9, gh_within, gh_inR, gh_isBin10, gh_isKind10, Int32.toInt_toInt64, Int32.reduceToInt, Int64.reduceToInt, decide_true, decide_false, h0, h1, h2, h3]; rfl) (by simp only [sX10_needs, gq_bs, gq_B_eq, gq_B_ne, gq_B_gB, Bool.not_true, Bool.not_false, Bool.true_and, Bool.false_and, Bool.and_true, Bool.and_false, cond_true, cond_false, gh_isBin9, gh_isKind9, gh_isFarmer9, gh_within, gh_inR, gh_isBin10, gh_isKind10, Int32.toInt_toInt64, Int32.reduceToInt, Int64.reduceToInt, decide_true, decide_false, h0, h1, h2, h3]) hR
  | true =>
  obtain ⟨b, -, rfl, -, hb, -⟩ := gh_rgN h1 (by decide)
  obtain ⟨m, -, rfl, -, hm, -⟩ := gh_rgN h2 (by decide)
  obtain ⟨q, -, rfl, -, hq, -⟩ := gh_rgN h3 (by decide)
  have hb8 : b < 8 := by omega
  obtain ⟨S1, hS1⟩ : ∃ S1, S1 = gh_fI (gh_fI (gh_fI S 29 b (nI m)) 30 b (nI q)) 26 14 0 := ⟨_, rfl⟩
  obtain ⟨S2, hS2⟩ : ∃ S2, S2 = gh_fI (gh_fI S1 74 b (nI m)) 75 b (nI q) := ⟨_, rfl⟩
  have wa : ∀ (T : gh_St) c x, gh_wa T c 8 (nI b) x = some (gh_fI T c b x) := fun T c x => gh_wa_n hb8 (by decide)
  refine ⟨1, S1, S2, ?_, ?_, ⟨dr, p, gh_nu nd b m, gh_nu li b q, pw, false, ⟨s1, s2, ?_, ?_, fun k hk => ?_, fun k hk => ?_⟩, ?_, fun h => by cases h⟩, ?_⟩
  · simp only [sX9_needs, sX2_setNeed, gq_bs, gq_B_eq, gq_B_ne, gq_B_gB, Bool.not_true, Bool.not_false, Bool.true_and, Bool.false_and, Bool.and_true, Bool.and_false, cond_true, cond_false, gh_isBin9, gh_isKind9, gh_isFarmer9, gh_within, gh_inR, gh_isBin10, gh_isKind10, Int32.toInt_toInt64, Int32.reduceToInt, Int64.reduceToInt, decide_true, decide_false, h0, h1, h2, h3, wa, ← hS1]
    rfl
  · simp only [sX10_needs, gq_bs, gq_B_eq, gq_B_ne, gq_B_gB, Bool.not_true, Bool.not_false, Bool.true_and, Bool.false_and, Bool.and_true, Bool.and_false, cond_true, cond_false, gh_isBin9, gh_isKind9, gh_isFarmer9, gh_within, gh_inR, gh_isBin10, gh_isKind10, Int32.toInt_toInt64, Int32.reduceToInt, Int64.reduceToInt, decide_true, decide_false, h0, h1, h2, h3, wa, ← hS2]
  · rw [hS2, hS1]; simp [gh_fI_1, s3]
  · rw [hS2, hS1]; simp [gh_fI_1, s4]
  · rw [hS2, hS1]
    simpa [gh_fI_1] using s5 k hk
  · obtain ⟨t1, t2, t3, t4, t5, t6⟩ := s6 k hk
    rw [hS2, hS1]
    by_cases e : k = b
    · subst e
      simp [gh_fI_1, gh_nu_s]
      omega
    · simp [gh_fI_1, gh_nu_n _ _ e, e, t1, t2, t3, t4, t5, t6]
  · rw [hS2, hS1]; simp [gh_fI_1]; rfl
  · rw [hS2, hS1]
    repeat first | exact gh_fr_refl _ _ | refine gh_fr_fI ?_ rfl

/-! ===== load, ship, binOf, dryIn ===== -/
/-- the bins' rows with one of them set anew, on both sides -/
def gq_RBb (S : gh_St) (kd kg rm g : Nat → Nat) : Prop := ∀ b, b < 8 → S.1 2 b = nI (kd b) ∧ S.1 58 b = nI (kd b) ∧ S.1 3 b = nI (kg b) ∧ S.1 59 b = nI (kg b) ∧ S.1 4 b = nI (rm b) ∧ S.1 57 b = nI (rm b) ∧ S.2.1 5 b = lN (g b) ∧ S.2.1 60 b = lN (g b) ∧ kd b ≤ 3 ∧ kg b ≤ rm b ∧ rm b ≤ 500000
/-- S2 is S but for bin j: its kind, kg and dry -/
def gq_at (S S2 : gh_St) (j q k x : Nat) : Prop :=
  (∀ b, S2.1 4 b = S.1 4 b) ∧ (∀ b, S2.1 57 b = S.1 57 b) ∧
  (∀ b, S2.1 2 b = if b = j then nI q else S.1 2 b) ∧ (∀ b, S2.1 58 b = if b = j then nI q else S.1 58 b) ∧
  (∀ b, S2.1 3 b = if b = j then nI k else S.1 3 b) ∧ (∀ b, S2.1 59 b = if b = j then nI k else S.1 59 b) ∧
  (∀ b, S2.2.1 5 b = if b = j then lN x else S.2.1 5 b) ∧ (∀ b, S2.2.1 60 b = if b = j then lN x else S.2.1 60 b)
theorem gq_RBb_at {S S2 : gh_St} {kd kg rm g : Nat → Nat} {j q k x : Nat} (h : gq_RBb S kd kg rm g) (ha : gq_at S S2 j q k x) (hq : q ≤ 3) (hk : j < 8 → k ≤ rm j) : gq_RBb S2 (gh_nu kd j q) (gh_nu kg j k) rm (gh_nu g j x) := by
  intro b hb
  obtain ⟨a1, a2, a3, a4, a5, a6, a7, a8⟩ := ha
  obtain ⟨e1, e2, e3, e4, e5, e6, e7, e8, q1, q2, q3⟩ := h b hb
  rw [a1, a2, a3, a4, a5, a6, a7, a8]
  by_cases e : b = j
  · subst e
    rw [gh_nu_s, gh_nu_s, gh_nu_s, if_pos rfl, if_pos rfl, if_pos rfl, if_pos rfl, if_pos rfl, if_pos rfl]
    exact ⟨rfl, rfl, rfl, rfl, e5, e6, rfl, rfl, hq, hk hb, q3⟩
  · rw [gh_nu_n _ _ e, gh_nu_n _ _ e, gh_nu_n _ _ e, if_neg e, if_neg e, if_neg e, if_neg e, if_neg e, if_neg e]
    exact ⟨e1, e2, e3, e4, e5, e6, e7, e8, q1, q2, q3⟩
theorem gq_nrg {x : Nat} {lo hi : Int} (hx : x < 2 ^ 31) (h1 : lo ≤ (x : Int)) (h2 : (x : Int) ≤ hi) : gh_rg (nI x).toInt lo hi = true := gh_rg_iff.mpr (by rw [nI_toInt hx]; exact ⟨h1, h2⟩)
theorem gq_gle {g : Nat → Nat} {n j : Nat} (h : gh_sm g 8 ≤ 40000000 * n) (hn : n ≤ 100) (hj : j < 8) : g j ≤ 4000000000 := by
  have := gh_sm_ge g j 8 hj
  omega
theorem gq_load {S : gh_St} (N : Nat) (a1 a2 a3 a4 a5 : Int32) (hR : gq_R1 S) : gq_P (sX9_load N a1 a2 a3 a4 a5) (sX10_load N a1 a2 a3 a4 a5) gq_C1 gq_R1 S := by
  obtain ⟨n, kd, kg, rm, g, fa, ki, mo, gr, hB, hL, hH⟩ := hR
  have hR : gq_R1 S := ⟨n, kd, kg, rm, g, fa, ki, mo, gr, hB, hL, hH⟩
  obtain ⟨hn, hn1, hn2, hl⟩ := hL
  have hful : ∀ T : gh_St, T.1 6 4 = nI n → sX3_isFull N T = some (gq_B (decide (100 ≤ n)), T) := by
    intro T hT
    unfold sX3_isFull
    rw [hT, show (100 : Int32) = nI 100 from rfl, gh_n_lt (by omega) (by omega)]
    by_cases h : n < 100
    · rw [decide_eq_true h, decide_eq_false (by omega)]
      rfl
    · rw [decide_eq_false h, decide_eq_true (by omega)]
      rfl
  have hful2 : gh_cmp .eq (nI n) 100 = decide (100 ≤ n) := by
    rw [show (100 : Int32) = nI 100 from rfl, gh_n_eq (by omega) (by omega)]
    exact decide_eq_decide.mpr (by omega)
  cases h1 : gh_rg a1.toInt 0 9 with
  | false => exact gq_P0 (-1) (by simp only [sX9_load, gq_bs, gq_B_eq, gq_B_ne, gq_B_gB, Bool.not_true, Bool.not_false, Bool.true_and, Bool.false_and, Bool.and_true, Bool.and_false, cond_true, cond_false, gh_isBin9, gh_isKind9, gh_isFarmer9, gh_within, gh_inR, gh_isBin10, gh_isKind10, Int32.toInt_toInt64, Int32.reduceToInt, Int64.reduceToInt, decide_true, decide_false, h1]) (by simp only [sX10_load, gq_bs, gq_B_eq, gq_B_ne, gq_B_gB, Bool.not_true, Bool.not_false, Bool.true_and, Bool.false_and, Bool.and_true, Bool.and_false, cond_true, cond_false, gh_isBin9, gh_isKind9, gh_isFarmer9, gh_within, gh_inR, gh_isBin10, gh_isKind10, Int32.toInt_toInt64, Int32.reduceToInt, Int64.reduceToInt, decide_true, decide_false, h1]) hR
  | true =>
  cases h2 : gh_rg a2.toInt 0 3 with
  | false => exact gq_P0 (-1) (by simp only [sX9_load, gq_bs, gq_B_eq, gq_B_ne, gq_B_gB, Bool.not_true, Bool.not_false, Bool.true_and, Bool.false_and, Bool.and_true, Bool.and_false, cond_true, cond_false, gh_isBin9, gh_isKind9, gh_isFarmer9, gh_within, gh_inR, gh_isBin10, gh_isKind10, Int32.toInt_toInt64, Int32.reduceToInt, Int64.reduceToInt, decide_true, decide_false, h1, h2]) (by simp only [sX10_load, gq_bs, gq_B_eq, gq_B_ne, gq_B_gB, Bool.not_true, Bool.not_false, Bool.true_and, Bool.false_and, Bool.and_true, Bool.and_false, cond_true, cond_false, gh_isBin9, gh_isKind9, gh_isFarmer9, gh_within, gh_inR, gh_isBin10, gh_isKind10, Int32.toInt_toInt64, Int32.reduceToInt, Int64.reduceToInt, decide_true, decide_false, h1, h2]) hR
  | true =>
  cases h3 : gh_rg a3.toInt 1 40000 with
  | false => exact gq_P0 (-1) (by simp only [sX9_load, gq_bs, gq_B_eq, gq_B_ne, gq_B_gB, Bool.not_true, Bool.not_false, Bool.true_and, Bool.false_and, Bool.and_true, Bool.and_false, cond_true, cond_false, gh_isBin9, gh_isKind9, gh_isFarmer9, gh_within, gh_inR, gh_isBin10, gh_isKind10, Int32.toInt_toInt64, Int32.reduceToInt, Int64.reduceToInt, decide_true, decide_false, h1, h2, h3]) (by simp only [sX10_load, gq_bs, gq_B_eq, gq_B_ne, gq_B_gB, Bool.not_true, Bool.not_false, Bool.true_and, Bool.false_and, Bool.and_true, Bool.and_false, cond_true, cond_false, gh_isBin9, gh_isKind9, gh_isFarmer9, gh_within, gh_inR, gh_isBin10, gh_isKind10, Int32.toInt_toInt64, Int32.reduceToInt, Int64.reduceToInt, decide_true, decide_false, h1, h2, h3]) hR
  | true =>
  cases h4 : gh_rg a4.toInt 0 400 with
  | false => exact gq_P0 (-1) (by simp only [sX9_load, gq_bs, gq_B_eq, gq_B_ne, gq_B_gB, Bool.not_true, Bool.not_false, Bool.true_and, Bool.false_and, Bool.and_true, Bool.and_false, cond_true, cond_false, gh_isBin9, gh_isKind9, gh_isFarmer9, gh_within, gh_inR, gh_isBin10, gh_isKind10, Int32.toInt_toInt64, Int32.reduceToInt, Int64.reduceToInt, decide_true, decide_false, h1, h2, h3, h4]) (by simp only [sX10_load, gq_bs, gq_B_eq, gq_B_ne, gq_B_gB, Bool.not_true, Bool.not_false, Bool.true_and, Bool.false_and, Bool.and_true, Bool.and_false, cond_true, cond_false, gh_isBin9, gh_isKind9, gh_isFarmer9, gh_within, gh_inR, gh_isBin10, gh_isKind10, Int32.toInt_toInt64, Int32.reduceToInt, Int64.reduceToInt, decide_true, decide_false, h1, h2, h3, h4]) hR
  | true =>
  cases h5 : gh_rg a5.toInt 0 7 with
  | false => exact gq_P0 (-1) (by simp only [sX9_load, gq_bs, gq_B_eq, gq_B_ne, gq_B_gB, Bool.not_true, Bool.not_false, Bool.true_and, Bool.false_and, Bool.and_true, Bool.and_false, cond_true, cond_false, gh_isBin9, gh_isKind9, gh_isFarmer9, gh_within, gh_inR, gh_isBin10, gh_isKind10, Int32.toInt_toInt64, Int32.reduceToInt, Int64.reduceToInt, decide_true, decide_false, h1, h2, h3, h4, hful S hn1, gq_canPut_no N h5]; cases decide (100 ≤ n) <;> rfl) (by simp only [sX10_load, gq_bs, gq_B_eq, gq_B_ne, gq_B_gB, Bool.not_true, Bool.not_false, Bool.true_and, Bool.false_and, Bool.and_true, Bool.and_false, cond_true, cond_false, gh_isBin9, gh_isKind9, gh_isFarmer9, gh_within, gh_inR, gh_isBin10, gh_isKind10, Int32.toInt_toInt64, Int32.reduceToInt, Int64.reduceToInt, decide_true, decide_false, h1, h2, h3, h4, h5]) hR
  | true =>
  by_cases h6 : 100 ≤ n
  case pos => exact gq_P0 (-1) (by simp only [sX9_load, gq_bs, gq_B_eq, gq_B_ne, gq_B_gB, Bool.not_true, Bool.not_false, Bool.true_and, Bool.false_and, Bool.and_true, Bool.and_false, cond_true, cond_false, gh_isBin9, gh_isKind9, gh_isFarmer9, gh_within, gh_inR, gh_isBin10, gh_isKind10, Int32.toInt_toInt64, Int32.reduceToInt, Int64.reduceToInt, decide_true, decide_false, h1, h2, h3, h4, hful S hn1, h6]) (by simp only [sX10_load, gq_bs, gq_B_eq, gq_B_ne, gq_B_gB, Bool.not_true, Bool.not_false, Bool.true_and, Bool.false_and, Bool.and_true, Bool.and_false, cond_true, cond_false, gh_isBin9, gh_isKind9, gh_isFarmer9, gh_within, gh_inR, gh_isBin10, gh_isKind10, Int32.toInt_toInt64, Int32.reduceToInt, Int64.reduceToInt, decide_true, decide_false, h1, h2, h3, h4, h5, hn2, hful2, h6]) hR
  case neg =>
  obtain ⟨f1, -, rfl, -, hf1, -⟩ := gh_rgN h1 (by decide)
  obtain ⟨q, -, rfl, -, hq, -⟩ := gh_rgN h2 (by decide)
  obtain ⟨m, -, rfl, hm1, hm2, -⟩ := gh_rgN h3 (by decide)
  obtain ⟨w, -, rfl, -, hw, -⟩ := gh_rgN h4 (by decide)
  obtain ⟨j, -, rfl, -, hj, -⟩ := gh_rgN h5 (by decide)
  have hj8 : j < 8 := by omega
  have h6' : n < 100 := by omega
  obtain ⟨e1, e2, e3, e4, e5, e6, e7, e8, q1, q2, q3⟩ := hB.1 j hj8
  have hx : (nI m).toInt64 * ((1000 : Int32) - nI w).toInt64 = lN (m * (1000 - w)) := by
    rw [show (1000 : Int32) = nI 1000 from rfl, pk_sub (by omega), nI_l (by omega), nI_l (by omega), lN_mul]
  have hxb : m * (1000 - w) ≤ 40000000 := by
    have : m * (1000 - w) ≤ 40000 * 1000 := Nat.mul_le_mul (by omega) (by omega)
    omega
  have c9 := gq_canPut N hj8 (m := m) (q := q) (by omega) (by omega) e1 (by omega) e3 e5 q2 q3
  have c10 : ∀ T : gh_St, T.1 58 j = nI (kd j) → T.1 59 j = nI (kg j) → T.1 57 j = nI (rm j) → _ := fun T a b c => gq_canPutR (S := T) N hj8 (m := m) (q := q) (by omega) (by omega) a (by omega) b c q2 q3
  generalize m * (1000 - w) = x at hx hxb
  by_cases hc : (kg j = 0 ∨ kd j = q) ∧ kg j + m ≤ rm j
  case neg =>
    exact gq_P0 (-1) (by simp only [sX9_load, gq_bs, gq_B_eq, gq_B_ne, gq_B_gB, Bool.not_true, Bool.not_false, Bool.true_and, Bool.false_and, Bool.and_true, Bool.and_false, cond_true, cond_false, gh_isBin9, gh_isKind9, gh_isFarmer9, gh_within, gh_inR, gh_isBin10, gh_isKind10, Int32.toInt_toInt64, Int32.reduceToInt, Int64.reduceToInt, decide_true, decide_false, h1, h2, h3, h4, h5, hful S hn1, h6, c9, hc]) (by simp only [sX10_load, gq_bs, gq_B_eq, gq_B_ne, gq_B_gB, Bool.not_true, Bool.not_false, Bool.true_and, Bool.false_and, Bool.and_true, Bool.and_false, cond_true, cond_false, gh_isBin9, gh_isKind9, gh_isFarmer9, gh_within, gh_inR, gh_isBin10, gh_isKind10, Int32.toInt_toInt64, Int32.reduceToInt, Int64.reduceToInt, decide_true, decide_false, h1, h2, h3, h4, h5, hn2, hful2, h6, c10 S e2 e4 e6, hc]) hR
  have hadd : ∀ T : gh_St, T.1 6 4 = nI n → sX3_add N (nI f1) (nI q) (nI w) (lN x) T = some (nI n, gh_fI (gh_fI (gh_fI (gh_fI (gh_fI T 7 n (nI f1)) 8 n (nI q)) 9 n (nI w)) 10 n (nI x)) 6 4 (nI (n + 1))) := by
    intro T hT
    simp [sX3_add, hful T hT, h6, gq_bs, gq_B_eq, gq_B_ne, gq_B_gB, Bool.not_true, Bool.not_false, Bool.true_and, Bool.false_and, Bool.and_true, Bool.and_false, cond_true, cond_false, gh_isBin9, gh_isKind9, gh_isFarmer9, gh_within, gh_inR, gh_isBin10, gh_isKind10, Int32.toInt_toInt64, Int32.reduceToInt, Int64.reduceToInt, decide_true, decide_false, hT, gh_wa_n, h6', gh_fI_1, lN_i, nI_1, nI_pred]
  obtain ⟨S1, hS1⟩ : ∃ S1, S1 = gh_fI (gh_fI (gh_fI (gh_fI (gh_fI (gh_fL (gh_fI (gh_fI S 2 j (nI q)) 3 j (nI (kg j + m))) 5 j (lN (g j + x))) 7 n (nI f1)) 8 n (nI q)) 9 n (nI w)) 10 n (nI x)) 6 4 (nI (n + 1)) := ⟨_, rfl⟩
  have r9 : sX9_load N (nI f1) (nI q) (nI m) (nI w) (nI j) S = some (nI n, S1) := by
    rw [hS1]
    simp only [sX9_load, gq_bs, gq_B_eq, gq_B_ne, gq_B_gB, Bool.not_true, Bool.not_false, Bool.true_and, Bool.false_and, Bool.and_true, Bool.and_false, cond_true, cond_false, gh_isBin9, gh_isKind9, gh_isFarmer9, gh_within, gh_inR, gh_isBin10, gh_isKind10, Int32.toInt_toInt64, Int32.reduceToInt, Int64.reduceToInt, decide_true, decide_false, h1, h2, h3, h4, h5, hful S hn1, h6, c9, hc, hx, gq_put N hj8 e3 e7]
    rw [hadd _ (by simp [gh_fI_1, gh_fL_2, hn1])]
    rfl
  have k1 : S1.1 56 4 = nI n := by rw [hS1]; simp [gh_fI_1, gh_fL_2, hn2]
  have k2 : S1.1 58 j = nI (kd j) := by rw [hS1]; simp [gh_fI_1, gh_fL_2, e2]
  have k3 : S1.1 59 j = nI (kg j) := by rw [hS1]; simp [gh_fI_1, gh_fL_2, e4]
  have k4 : S1.1 57 j = nI (rm j) := by rw [hS1]; simp [gh_fI_1, gh_fL_2, e6]
  have k5 : S1.2.1 60 j = lN (g j) := by rw [hS1]; simp [gh_fI_2, gh_fL_1, e8]
  obtain ⟨S2, hS2⟩ : ∃ S2, S2 = gh_fL (gh_fI (gh_fI (gh_fI (gh_fL (gh_fI (gh_fI (gh_fI S1 61 n (nI f1)) 62 n (nI q)) 63 n (nI w)) 64 n (lN x)) 56 4 (nI (n + 1))) 58 j (nI q)) 59 j (nI (kg j + m))) 60 j (lN (g j + x)) := ⟨_, rfl⟩
  have r10 : sX10_load N (nI f1) (nI q) (nI m) (nI w) (nI j) S1 = some (nI n, S2) := by
    rw [hS2]
    simp only [sX10_load, gq_bs, gq_B_eq, gq_B_ne, gq_B_gB, Bool.not_true, Bool.not_false, Bool.true_and, Bool.false_and, Bool.and_true, Bool.and_false, cond_true, cond_false, gh_isBin9, gh_isKind9, gh_isFarmer9, gh_within, gh_inR, gh_isBin10, gh_isKind10, Int32.toInt_toInt64, Int32.reduceToInt, Int64.reduceToInt, decide_true, decide_false, h1, h2, h3, h4, h5, k1, hful2, h6, c10 S1 k2 k3 k4, hc, hx]
    simp only [gh_wa_n h6' (show 100 < 2 ^ 31 by decide), gq_bs, gh_fI_1, k1]
    simp [gh_wa_n, gh_wj_n, h6', gq_bs, gq_B_eq, gq_B_ne, gq_B_gB, Bool.not_true, Bool.not_false, Bool.true_and, Bool.false_and, Bool.and_true, Bool.and_false, cond_true, cond_false, gh_isBin9, gh_isKind9, gh_isFarmer9, gh_within, gh_inR, gh_isBin10, gh_isKind10, Int32.toInt_toInt64, Int32.reduceToInt, Int64.reduceToInt, decide_true, decide_false, gh_fI_1, gh_fL_2, k1, nI_1]
    rw [gq_putR N hj8 (k := kg j) (r := g j) (by simp [gh_fI_1, gh_fL_2, k3]) (by simp [gh_fI_2, gh_fL_1, k5])]
    simp [gh_fI_1, gh_fL_2, nI_pred]
  refine ⟨nI n, S1, S2, r9, r10, ⟨n + 1, gh_nu kd j q, gh_nu kg j (kg j + m), rm, gh_nu g j (g j + x), gh_nu fa n f1, gh_nu ki n q, gh_nu mo n w, gh_nu gr n x, ⟨?_, ?_⟩, ⟨by omega, ?_, ?_, ?_⟩, ?_⟩, ?_⟩
  · refine gq_RBb_at (S := S) hB.1 ?_ (by omega) (fun _ => hc.2)
    rw [hS2, hS1]
    refine ⟨?_, ?_, ?_, ?_, ?_, ?_, ?_, ?_⟩ <;> intro b <;> simp [gh_fI_1, gh_fI_2, gh_fL_1, gh_fL_2]
  · have := gh_sm_nu g j (g j + x) 8 hj8
    have := hB.2
    omega
  · rw [hS2, hS1]; simp [gh_fI_1, gh_fL_2]
  · rw [hS2, hS1]; simp [gh_fI_1, gh_fL_2]
  · intro k hk
    obtain ⟨l1, l2, l3, l4, l5, l6, l7, l8, l9, l10, l11, l12⟩ := hl k hk
    rw [hS2, hS1]
    by_cases e : k = n
    · subst e
      simp [gh_fI_1, gh_fI_2, gh_fL_1, gh_fL_2, gh_nu_s]
      omega
    · simp [gh_fI_1, gh_fI_2, gh_fL_1, gh_fL_2, gh_nu_n _ _ e, e, l1, l2, l3, l4, l5, l6, l7, l8, l9, l10, l11, l12]
  · unfold gq_RH at hH ⊢
    rw [hS2, hS1]
    simpa [gh_fI_2, gh_fL_1] using hH
  · rw [hS2, hS1]
    repeat first | exact gh_fr_refl _ _ | refine gh_fr_fI ?_ rfl | refine gh_fr_fL ?_ rfl

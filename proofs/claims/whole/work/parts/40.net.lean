/-! ===== THE NET: data ===== -/
def gq_kd : Nat → Int32
  | 0 => -1
  | q + 1 => nI q
theorem gq_kd_m1 {x : Nat} (h : x < 2 ^ 30) : gh_cmp .eq (gq_kd x) (-1) = decide (x = 0) := by
  cases x with
  | zero => rfl
  | succ q =>
    rw [gh_c_eq, show gq_kd (q + 1) = nI q from rfl, nI_toInt (by omega)]
    exact decide_eq_decide.mpr (by show (q : Int) = -1 ↔ _; omega)
theorem gq_kd_lt0 {x : Nat} (h : x < 2 ^ 30) : gh_cmp .lt (gq_kd x) 0 = decide (x = 0) := by
  cases x with
  | zero => rfl
  | succ q =>
    rw [gh_c_lt, show gq_kd (q + 1) = nI q from rfl, nI_toInt (by omega)]
    exact decide_eq_decide.mpr (by show (q : Int) < 0 ↔ _; omega)
theorem gq_kd_eq {x q : Nat} (h : x < 2 ^ 30) (hq : q < 2 ^ 30) : gh_cmp .eq (gq_kd x) (nI q) = decide (x = q + 1) := by
  cases x with
  | zero =>
    rw [gh_c_eq, nI_toInt (by omega)]
    exact decide_eq_decide.mpr (by show (-1 : Int) = q ↔ _; omega)
  | succ y =>
    rw [show gq_kd (y + 1) = nI y from rfl, gh_n_eq (by omega) (by omega)]
    exact decide_eq_decide.mpr (by omega)
theorem gq_kd_ne {x q : Nat} (h : x < 2 ^ 30) (hq : q < 2 ^ 30) : gh_cmp .ne (gq_kd x) (nI q) = decide (x ≠ q + 1) := by
  have h1 := gq_kd_eq h hq
  rw [gh_c_ne]
  rw [gh_c_eq] at h1
  have h2 : ((gq_kd x).toInt = (nI q).toInt) ↔ x = q + 1 := decide_eq_decide.mp h1
  exact decide_eq_decide.mpr (not_congr h2)
/-- legs: their nodes, minutes, last kinds, on both sides; the cleaning; the minutes used, at most u0 -/
def gq_RN (S : gh_St) (n : Nat) (A B M la : Nat → Nat) (cl u : Nat) : Prop :=
  n ≤ 20 ∧ cl ≤ 99 ∧ S.1 11 7 = nI n ∧ S.1 56 9 = nI n ∧ S.1 11 8 = nI cl ∧ S.1 56 14 = nI cl ∧ S.2.1 11 9 = lN u ∧ S.1 56 15 = nI u ∧
  ∀ k, k < 20 → S.1 12 k = nI (A k) ∧ S.1 65 k = nI (A k) ∧ S.1 13 k = nI (B k) ∧ S.1 66 k = nI (B k) ∧ S.1 14 k = nI (M k) ∧ S.1 67 k = nI (M k) ∧ S.1 15 k = gq_kd (la k) ∧ S.1 68 k = gq_kd (la k) ∧ A k < 12 ∧ B k < 12 ∧ M k ≤ 60 ∧ la k ≤ 4 ∧ (k < n → A k ≠ B k ∧ 1 ≤ M k)
/-- the reference's side of it alone -/
def gq_RR (S : gh_St) (n : Nat) (A B M la : Nat → Nat) (cl u : Nat) : Prop :=
  n ≤ 20 ∧ cl ≤ 99 ∧ True ∧ S.1 56 9 = nI n ∧ True ∧ S.1 56 14 = nI cl ∧ True ∧ S.1 56 15 = nI u ∧
  ∀ k, k < 20 → True ∧ S.1 65 k = nI (A k) ∧ True ∧ S.1 66 k = nI (B k) ∧ True ∧ S.1 67 k = nI (M k) ∧ True ∧ S.1 68 k = gq_kd (la k) ∧ A k < 12 ∧ B k < 12 ∧ M k ≤ 60 ∧ la k ≤ 4 ∧ (k < n → A k ≠ B k ∧ 1 ≤ M k)
theorem gq_RR_of {S : gh_St} {n : Nat} {A B M la : Nat → Nat} {cl u : Nat} (h : gq_RN S n A B M la cl u) : gq_RR S n A B M la cl u := by
  obtain ⟨h1, h2, h3, h4, h5, h6, h7, h8, h9⟩ := h
  refine ⟨h1, h2, trivial, h4, trivial, h6, trivial, h8, fun k hk => ?_⟩
  obtain ⟨l1, l2, l3, l4, l5, l6, l7, l8, l9, l10, l11, l12, l13⟩ := h9 k hk
  exact ⟨trivial, l2, trivial, l4, trivial, l6, trivial, l8, l9, l10, l11, l12, l13⟩
def gq_CR (c k : Nat) : Bool := (Nat.beq c 56 && (Nat.beq k 9 || Nat.beq k 14 || Nat.beq k 15)) || (Nat.ble 65 c && Nat.ble c 68)
theorem gq_RR_fr {S S' : gh_St} {n : Nat} {A B M la : Nat → Nat} {cl u : Nat} {C : Nat → Nat → Bool} (h : gq_RR S n A B M la cl u) (hf : gh_fr C S S') (hC : ∀ c k, gq_CR c k = true → C c k = false) : gq_RR S' n A B M la cl u := by
  obtain ⟨h1, h2, h3, h4, h5, h6, h7, h8, h9⟩ := h
  refine ⟨h1, h2, trivial, ?_, trivial, ?_, trivial, ?_, fun k hk => ?_⟩
  · rw [hf.1 _ _ (hC _ _ rfl)]; exact h4
  · rw [hf.1 _ _ (hC _ _ rfl)]; exact h6
  · rw [hf.1 _ _ (hC _ _ rfl)]; exact h8
  · have h := h9 k hk
    rw [← hf.1 65 k (hC 65 k rfl), ← hf.1 66 k (hC 66 k rfl), ← hf.1 67 k (hC 67 k rfl), ← hf.1 68 k (hC 68 k rfl)] at h
    exact h
def gq_cst (M la : Nat → Nat) (cl q k : Nat) : Nat := M k + (if la k = 0 ∨ la k = q + 1 then 0 else cl)
section GqNet
variable {S : gh_St} {n : Nat} {A B M la : Nat → Nat} {cl u : Nat} (N : Nat)
theorem gq_cst_le (h : gq_RN S n A B M la cl u) {q k : Nat} (hk : k < 20) : gq_cst M la cl q k ≤ 159 := by
  obtain ⟨h1, h2, -, -, -, -, -, -, h3⟩ := h
  obtain ⟨-, -, -, -, -, -, -, -, -, -, h4, -⟩ := h3 k hk
  unfold gq_cst
  split <;> omega
theorem gq_cst_leR (h : gq_RR S n A B M la cl u) {q k : Nat} (hk : k < 20) : gq_cst M la cl q k ≤ 159 := by
  obtain ⟨h1, h2, -, -, -, -, -, -, h3⟩ := h
  obtain ⟨-, -, -, -, -, -, -, -, -, -, h4, -⟩ := h3 k hk
  unfold gq_cst
  split <;> omega
theorem gq_cst_ge (h : gq_RN S n A B M la cl u) {q k : Nat} (hk : k < n) : 1 ≤ gq_cst M la cl q k := by
  obtain ⟨h1, h2, -, -, -, -, -, -, h3⟩ := h
  obtain ⟨-, -, -, -, -, -, -, -, -, -, h4, -, h5⟩ := h3 k (by omega)
  have := (h5 hk).2
  unfold gq_cst
  omega
theorem gq_costOf {T : gh_St} {q k : Nat} (hk : k < 20) (hq : q ≤ 3) (h14 : T.1 14 k = nI (M k)) (h15 : T.1 15 k = gq_kd (la k)) (h8 : T.1 11 8 = nI cl) (hl : la k ≤ 4) : sX4_costOf N (nI k) (nI q) T = some (nI (gq_cst M la cl q k), T) := by
  have e25 : ∀ b : Bool, sX4_costOf_25 N (nI k) (gq_B b) T = some (nI (M k + if b = true then 0 else cl), T) := by
    intro b
    cases b
    · simp [sX4_costOf_25, gq_bs, gq_B_eq, gq_B_ne, gq_B_gB, Bool.not_true, Bool.not_false, Bool.true_and, Bool.false_and, Bool.and_true, Bool.and_false, cond_true, cond_false, gh_isBin9, gh_isKind9, gh_isFarmer9, gh_within, gh_inR, gh_isBin10, gh_isKind10, Int32.toInt_toInt64, Int32.reduceToInt, Int64.reduceToInt, decide_true, decide_false, gh_ra_n, hk, h14, h8, nI_add]
    · simp [sX4_costOf_25, gq_bs, gq_B_eq, gq_B_ne, gq_B_gB, Bool.not_true, Bool.not_false, Bool.true_and, Bool.false_and, Bool.and_true, Bool.and_false, cond_true, cond_false, gh_isBin9, gh_isKind9, gh_isFarmer9, gh_within, gh_inR, gh_isBin10, gh_isKind10, Int32.toInt_toInt64, Int32.reduceToInt, Int64.reduceToInt, decide_true, decide_false, gh_ra_n, hk, h14]
  have e1 := e25 true
  have e0 := e25 false
  simp only [sX4_costOf, sX4_costOf_20, gq_bs, gq_B_eq, gq_B_ne, gq_B_gB, Bool.not_true, Bool.not_false, Bool.true_and, Bool.false_and, Bool.and_true, Bool.and_false, cond_true, cond_false, gh_isBin9, gh_isKind9, gh_isFarmer9, gh_within, gh_inR, gh_isBin10, gh_isKind10, Int32.toInt_toInt64, Int32.reduceToInt, Int64.reduceToInt, decide_true, decide_false, gh_ra_n hk (show 20 < 2 ^ 31 by decide), h15, gq_kd_m1 (show la k < 2 ^ 30 by omega), gq_kd_ne (show la k < 2 ^ 30 by omega) (show q < 2 ^ 30 by omega)]
  unfold gq_cst
  by_cases a1 : la k = 0
  · rw [decide_eq_true a1, if_pos (Or.inl a1)]
    exact e1
  · rw [decide_eq_false a1, cond_false]
    by_cases a2 : la k = q + 1
    · rw [decide_eq_false (by omega), if_pos (Or.inr a2)]
      exact e1
    · rw [decide_eq_true a2, if_neg (by omega)]
      exact e0
theorem gq_legCost {T : gh_St} {q k : Nat} (hk : k < 20) (hq : q ≤ 3) (h14 : T.1 67 k = nI (M k)) (h15 : T.1 68 k = gq_kd (la k)) (h8 : T.1 56 14 = nI cl) (hl : la k ≤ 4) : sX10_legCost N (nI k) (nI q) T = some (nI (100 * gq_cst M la cl q k + 1), T) := by
  have e35 : ∀ x : Nat, sX10_legCost_35 N (nI x) (nI (M k)) 100 T = some (nI (100 * (M k + x) + 1), T) := by
    intro x
    unfold sX10_legCost_35
    rw [show (100 : Int32) = nI 100 from rfl, nI_add, pk_mul, nI_1]
  simp only [sX10_legCost, sX10_legCost_34, gq_bs, gq_B_eq, gq_B_ne, gq_B_gB, Bool.not_true, Bool.not_false, Bool.true_and, Bool.false_and, Bool.and_true, Bool.and_false, cond_true, cond_false, gh_isBin9, gh_isKind9, gh_isFarmer9, gh_within, gh_inR, gh_isBin10, gh_isKind10, Int32.toInt_toInt64, Int32.reduceToInt, Int64.reduceToInt, decide_true, decide_false, gh_ra_n hk (show 20 < 2 ^ 31 by decide), h14, h15, h8, gq_kd_lt0 (show la k < 2 ^ 30 by omega), gq_kd_eq (show la k < 2 ^ 30 by omega) (show q < 2 ^ 30 by omega)]
  unfold gq_cst
  by_cases a1 : la k = 0
  · rw [decide_eq_true a1, if_pos (Or.inl a1)]
    exact e35 0
  · rw [decide_eq_false a1, cond_false]
    by_cases a2 : la k = q + 1
    · rw [decide_eq_true a2, if_pos (Or.inr a2)]
      exact e35 0
    · rw [decide_eq_false a2, if_neg (by omega)]
      exact e35 cl
end GqNet
/-! the class's table of costs: cell 16 -/
def gq_vn (S : gh_St) (f : Nat → Nat) : gh_St := (fun c k => if c = 16 ∧ k < 72 then nI (f k) else S.1 c k, S.2)
theorem gq_vn_1 (S : gh_St) (f : Nat → Nat) (c k : Nat) : (gq_vn S f).1 c k = if c = 16 ∧ k < 72 then nI (f k) else S.1 c k := rfl
theorem gq_vn_r (S : gh_St) (f : Nat → Nat) {k : Nat} (h : k < 72) : (gq_vn S f).1 16 k = nI (f k) := if_pos ⟨rfl, h⟩
theorem gq_vn_fI (S : gh_St) (f : Nat → Nat) {i : Nat} (x : Nat) (hi : i < 72) : gh_fI (gq_vn S f) 16 i (nI x) = gq_vn S (gh_nu f i x) := by
  refine Prod.ext ?_ rfl
  funext c k
  rw [gh_fI_1, gq_vn_1, gq_vn_1]
  unfold gh_nu
  by_cases hc : c = 16
  · by_cases hk : k = i
    · simp [hc, hk, hi]
    · simp [hc, hk]
  · simp [hc]
def gq_spO (f : Nat → Nat) (x y co a m : Nat) : Nat → Nat := if y = a ∨ (x ≠ a ∧ x < 8) then f else gh_nu f (m * 12 + x) (min (f (m * 12 + x)) (co + f ((m - 1) * 12 + y)))
theorem gq_min {a b : Nat} (ha : a < 2 ^ 31) (hb : b < 2 ^ 31) : gh_min (nI a) (nI b) = nI (min a b) := by
  unfold gh_min
  by_cases h : b < a
  · rw [if_pos ((nI_ltI hb ha).mpr h), Nat.min_eq_right (by omega)]
  · rw [if_neg (fun q => h ((nI_ltI hb ha).mp q)), Nat.min_eq_left (by omega)]
theorem gq_max {a b : Nat} (ha : a < 2 ^ 31) (hb : b < 2 ^ 31) : gh_max (nI a) (nI b) = nI (max a b) := by
  unfold gh_max
  by_cases h : a < b
  · rw [if_pos ((nI_ltI ha hb).mpr h), Nat.max_eq_right (by omega)]
  · rw [if_neg (fun q => h ((nI_ltI ha hb).mp q)), Nat.max_eq_left (by omega)]
theorem gq_spreadOver (N : Nat) {S : gh_St} {f : Nat → Nat} {x y co a m : Nat} (hx : x < 12) (hy : y < 12) (hco : co ≤ 1000) (ha : a < 12) (hm1 : 1 ≤ m) (hm5 : m ≤ 5) (hf : ∀ i, f i ≤ 1000000) : sX4_spreadOver N (nI x) (nI y) (nI co) (nI a) (nI m) (gq_vn S f) = some (gq_vn S (gq_spO f x y co a m)) := by
  have e1 : nI m * (12 : Int32) + nI x = nI (m * 12 + x) := by rw [show (12 : Int32) = nI 12 from rfl, pk_mul, nI_add]
  have e2 : (nI m - (1 : Int32)) * (12 : Int32) + nI y = nI ((m - 1) * 12 + y) := by rw [show (12 : Int32) = nI 12 from rfl, show (1 : Int32) = nI 1 from rfl, pk_sub hm1, pk_mul, nI_add]
  have f1 := hf (m * 12 + x)
  have f2 := hf ((m - 1) * 12 + y)
  have e19 : sX4_spreadOver_19 N (nI x) (nI y) (nI co) (nI m) (gq_vn S f) = some (gq_vn S (gh_nu f (m * 12 + x) (min (f (m * 12 + x)) (co + f ((m - 1) * 12 + y))))) := by
    unfold sX4_spreadOver_19
    rw [e1, e2, gh_ra_n (by omega) (by decide), gq_bs, gh_ra_n (by omega) (by decide), gq_bs, gh_wa_n (by omega) (by decide), gq_bs, gq_vn_r _ _ (by omega), gq_vn_r _ _ (by omega), nI_add, gq_min (by omega) (by omega), gq_vn_fI _ _ _ (by omega)]
  unfold sX4_spreadOver
  rw [e19, gh_n_eq (by omega) (by omega), gh_n_eq (by omega) (by omega), show (8 : Int32) = nI 8 from rfl, gh_n_ge (by omega) (by omega)]
  unfold gq_spO
  by_cases h1 : y = a
  · rw [decide_eq_true h1, if_pos (Or.inl h1)]
    rfl
  · rw [decide_eq_false h1, cond_false]
    by_cases h2 : x = a
    · rw [decide_eq_true h2, if_neg (by omega)]
      rfl
    · rw [decide_eq_false h2, cond_false]
      by_cases h3 : 8 ≤ x
      · rw [decide_eq_true h3, if_neg (by omega)]
        rfl
      · rw [decide_eq_false h3, if_pos (by omega)]
        rfl
theorem gq_spO_le {f : Nat → Nat} {x y co a m : Nat} (hf : ∀ i, f i ≤ 1000000) : ∀ i, gq_spO f x y co a m i ≤ 1000000 := by
  intro i
  unfold gq_spO
  split
  · exact hf i
  · unfold gh_nu
    split
    · exact Nat.le_trans (Nat.min_le_left _ _) (hf _)
    · exact hf i
def gq_spL (A B c : Nat → Nat) (a m : Nat) (f : Nat → Nat) : Nat → Nat → Nat
  | 0 => f
  | k + 1 => gq_spO (gq_spO (gq_spL A B c a m f k) (A k) (B k) (c k) a m) (B k) (A k) (c k) a m
theorem gq_spL_le {A B c : Nat → Nat} {a m : Nat} {f : Nat → Nat} (hf : ∀ i, f i ≤ 1000000) : ∀ k i, gq_spL A B c a m f k i ≤ 1000000 := by
  intro k
  induction k with
  | zero => exact hf
  | succ k ih => exact gq_spO_le (gq_spO_le ih)
theorem gq_spread {S : gh_St} {n : Nat} {A B M la : Nat → Nat} {cl u : Nat} (N : Nat) (h : gq_RN S n A B M la cl u) {q a m : Nat} (hq : q ≤ 3) (ha : a < 8) (hm1 : 1 ≤ m) (hm5 : m ≤ 5) {f : Nat → Nat} (hf : ∀ i, f i ≤ 1000000) : ∀ (fu k : Nat), k ≤ n → n - k < fu → sX4_spread_3 N fu (nI q) (nI a) (nI m) (nI k) (gq_vn S (gq_spL A B (gq_cst M la cl q) a m f k)) = some (gq_vn S (gq_spL A B (gq_cst M la cl q) a m f n)) := by
  intro fu
  induction fu with
  | zero => intro k _ h; omega
  | succ fu ih =>
    intro k hk hfu
    obtain ⟨h1, h2, h3, h4, h5, h6, h7, h8, h9⟩ := h
    have hR : gq_RN S n A B M la cl u := ⟨h1, h2, h3, h4, h5, h6, h7, h8, h9⟩
    rw [sX4_spread_3, gq_vn_1, if_neg (by omega), h3, gh_n_ge (by omega) (by omega)]
    by_cases e : k = n
    · subst e
      rw [decide_eq_true (Nat.le_refl _)]
      rfl
    · have hk20 : k < 20 := by omega
      obtain ⟨l1, l2, l3, l4, l5, l6, l7, l8, l9, l10, l11, l12, l13⟩ := h9 k hk20
      have hc := gq_cst_le hR (q := q) hk20
      have hcost : ∀ g : Nat → Nat, sX4_costOf N (nI k) (nI q) (gq_vn S g) = some (nI (gq_cst M la cl q k), gq_vn S g) := fun g => gq_costOf N hk20 hq l5 l7 h5 l12
      rw [decide_eq_false (by omega), cond_false, hcost, gq_bs, gh_ra_n hk20 (by decide), gq_bs, gh_ra_n hk20 (by decide), gq_bs]
      simp only [gq_vn_1, Nat.reduceEqDiff, false_and, if_false, l1, l3]
      rw [gq_spreadOver N l9 l10 (by omega) (by omega) hm1 hm5 (gq_spL_le hf k), gq_bs, gh_ra_n hk20 (by decide), gq_bs, gh_ra_n hk20 (by decide), gq_bs]
      simp only [gq_vn_1, Nat.reduceEqDiff, false_and, if_false, l1, l3]
      rw [gq_spreadOver N l10 l9 (by omega) (by omega) hm1 hm5 (gq_spO_le (gq_spL_le hf k)), gq_bs, nI_1]
      exact ih (k + 1) (by omega) (by omega)
/-! find -/
def gq_CN (c k : Nat) : Bool := (Nat.beq c 11 && (Nat.beq k 7 || Nat.beq k 8 || Nat.beq k 9)) || (Nat.ble 12 c && Nat.ble c 15) || (Nat.beq c 56 && (Nat.beq k 9 || Nat.beq k 14 || Nat.beq k 15)) || (Nat.ble 65 c && Nat.ble c 68)
theorem gq_RN_fr {S S' : gh_St} {n : Nat} {A B M la : Nat → Nat} {cl u : Nat} {C : Nat → Nat → Bool} (h : gq_RN S n A B M la cl u) (hf : gh_fr C S S') (hC : ∀ c k, gq_CN c k = true → C c k = false) : gq_RN S' n A B M la cl u := by
  obtain ⟨h1, h2, h3, h4, h5, h6, h7, h8, h9⟩ := h
  refine ⟨h1, h2, ?_, ?_, ?_, ?_, ?_, ?_, fun k hk => ?_⟩
  · rw [hf.1 _ _ (hC _ _ rfl)]; exact h3
  · rw [hf.1 _ _ (hC _ _ rfl)]; exact h4
  · rw [hf.1 _ _ (hC _ _ rfl)]; exact h5
  · rw [hf.1 _ _ (hC _ _ rfl)]; exact h6
  · rw [hf.2.1 _ _ (hC _ _ rfl)]; exact h7
  · rw [hf.1 _ _ (hC _ _ rfl)]; exact h8
  · have h := h9 k hk
    rw [← hf.1 12 k (hC 12 k rfl), ← hf.1 13 k (hC 13 k rfl), ← hf.1 14 k (hC 14 k rfl), ← hf.1 15 k (hC 15 k rfl), ← hf.1 65 k (hC 65 k rfl), ← hf.1 66 k (hC 66 k rfl), ← hf.1 67 k (hC 67 k rfl), ← hf.1 68 k (hC 68 k rfl)] at h
    exact h
def gq_F (A B c : Nat → Nat) (n a b : Nat) : Nat → Nat → Nat
  | 0 => gh_nu (fun _ => 1000000) b 0
  | m + 1 => gq_spL A B c a (m + 1) (gq_F A B c n a b m) n
def gq_bst (A B c : Nat → Nat) (n a b : Nat) : Nat → Nat × Nat
  | 0 => (1000000, 0)
  | m + 1 => if gq_F A B c n a b (m + 1) ((m + 1) * 12 + a) < (gq_bst A B c n a b m).1 then (gq_F A B c n a b (m + 1) ((m + 1) * 12 + a), m + 1) else gq_bst A B c n a b m
theorem gq_F_le (A B c : Nat → Nat) (n a b : Nat) : ∀ m i, gq_F A B c n a b m i ≤ 1000000 := by
  intro m
  induction m with
  | zero =>
    intro i
    show gh_nu _ b 0 i ≤ _
    unfold gh_nu
    split <;> simp
  | succ m ih => exact gq_spL_le ih n
theorem gq_bst_le (A B c : Nat → Nat) (n a b : Nat) : ∀ m, (gq_bst A B c n a b m).1 ≤ 1000000 ∧ (gq_bst A B c n a b m).2 ≤ m := by
  intro m
  induction m with
  | zero => exact ⟨Nat.le_refl _, Nat.le_refl _⟩
  | succ m ih =>
    rw [gq_bst]
    split
    · exact ⟨gq_F_le A B c n a b _ _, Nat.le_refl _⟩
    · exact ⟨ih.1, by omega⟩
def gq_vf (S : gh_St) (m : Nat) : gh_St := (fun c k => if c = 16 ∧ k < m then nI 1000000 else S.1 c k, S.2)
theorem gq_vf_fI (S : gh_St) (m : Nat) : gh_fI (gq_vf S m) 16 m (nI 1000000) = gq_vf S (m + 1) := by
  refine Prod.ext ?_ rfl
  funext c k
  rw [gh_fI_1]
  show _ = if c = 16 ∧ k < m + 1 then nI 1000000 else S.1 c k
  by_cases hc : c = 16
  · by_cases hk : k = m
    · simp [hc, hk]
    · have : (k < m + 1) = (k < m) := by rw [eq_iff_iff]; omega
      simp [hc, hk, this, gq_vf]
  · simp [hc, gq_vf]
theorem gq_vn_6 (S : gh_St) (f : Nat → Nat) (x : Int32) : gh_fI (gq_vn S f) 11 6 x = gq_vn (gh_fI S 11 6 x) f := by
  refine Prod.ext ?_ rfl
  funext c k
  rw [gh_fI_1, gq_vn_1, gq_vn_1, gh_fI_1]
  by_cases hc : c = 16
  · simp [hc]
  · simp [hc]
theorem gq_fI_66 (S : gh_St) (c k : Nat) (x y : Int32) : gh_fI (gh_fI S c k x) c k y = gh_fI S c k y := by
  refine Prod.ext ?_ rfl
  funext d j
  rw [gh_fI_1, gh_fI_1, gh_fI_1]
  by_cases h : d = c ∧ j = k
  · rw [if_pos h, if_pos h]
  · rw [if_neg h, if_neg h, if_neg h]
section GqFind
variable {S : gh_St} {n : Nat} {A B M la : Nat → Nat} {cl u : Nat} (N : Nat) {q a b : Nat}
theorem gq_find36 (hb : b < 8) : ∀ (fu m : Nat), m ≤ 72 → 72 - m < fu → sX4_find_36 N fu (nI q) (nI a) (nI b) (nI m) (gq_vf S m) = sX4_find_75 N N (nI q) (nI a) (nI 1000000) (nI 1) (gq_vn S (gh_nu (fun _ => 1000000) b 0)) := by
  intro fu
  induction fu with
  | zero => intro m _ h; omega
  | succ fu ih =>
    intro m hm hfu
    rw [sX4_find_36, show (72 : Int32) = nI 72 from rfl, gh_n_ge (by omega) (by omega)]
    by_cases e : m = 72
    · subst e
      rw [decide_eq_true (Nat.le_refl _), cond_true, gh_wa_n (by omega) (by decide), gq_bs, show gq_vf S 72 = gq_vn S (fun _ => 1000000) from rfl, show (0 : Int32) = nI 0 from rfl, gq_vn_fI _ _ _ (by omega)]
      rfl
    · rw [decide_eq_false (by omega), cond_false, gh_wa_n (by omega) (by decide), gq_bs, show (1000000 : Int32) = nI 1000000 from rfl, gq_vf_fI, nI_1]
      exact ih (m + 1) (by omega) (by omega)
theorem gq_find75 (h : gq_RN S n A B M la cl u) (hN : 100 ≤ N) (hq : q ≤ 3) (ha : a < 8) : ∀ (fu m : Nat), m ≤ 5 → 5 - m < fu → sX4_find_75 N fu (nI q) (nI a) (nI (gq_bst A B (gq_cst M la cl q) n a b m).1) (nI (m + 1)) (gq_vn (gh_fI S 11 6 (nI (gq_bst A B (gq_cst M la cl q) n a b m).2)) (gq_F A B (gq_cst M la cl q) n a b m)) = (bif decide ((gq_bst A B (gq_cst M la cl q) n a b 5).2 ≠ 0) then ((sX4_trace N (nI q) (nI a) (gq_vn (gh_fI S 11 6 (nI (gq_bst A B (gq_cst M la cl q) n a b 5).2)) (gq_F A B (gq_cst M la cl q) n a b 5))).bind fun q1 => some (nI (gq_bst A B (gq_cst M la cl q) n a b 5).1, q1)) else some (-1, gq_vn (gh_fI S 11 6 (nI (gq_bst A B (gq_cst M la cl q) n a b 5).2)) (gq_F A B (gq_cst M la cl q) n a b 5))) := by
  intro fu
  induction fu with
  | zero => intro m _ h; omega
  | succ fu ih =>
    intro m hm hfu
    have hb5 := gq_bst_le A B (gq_cst M la cl q) n a b m
    rw [sX4_find_75, show (5 : Int32) = nI 5 from rfl, gh_n_gt (by omega) (by omega)]
    by_cases e : m = 5
    · subst e
      rw [decide_eq_true (by omega), cond_true, gq_vn_1, if_neg (by omega), gh_fI_1, if_pos ⟨rfl, rfl⟩, show (0 : Int32) = nI 0 from rfl, gh_n_ne (by omega) (by omega)]
    · have hR : ∀ x, gq_RN (gh_fI S 11 6 x) n A B M la cl u := fun x => gq_RN_fr (C := fun c k => Nat.beq c 11 && Nat.beq k 6) h (gh_fr_fI (gh_fr_refl _ _) rfl) (fun c k hc => by
        unfold gq_CN at hc
        cases h1 : Nat.beq c 11 with
        | false => rfl
        | true =>
          have := Nat.eq_of_beq_eq_true h1
          subst this
          cases h2 : Nat.beq k 6 with
          | false => rfl
          | true =>
            have := Nat.eq_of_beq_eq_true h2
            subst this
            exact absurd hc (by decide))
      have hF := gq_F_le A B (gq_cst M la cl q) n a b
      have e1 : nI (m + 1) * (12 : Int32) + nI a = nI ((m + 1) * 12 + a) := by rw [show (12 : Int32) = nI 12 from rfl, pk_mul, nI_add]
      have hsp := gq_spread N (hR (nI (gq_bst A B (gq_cst M la cl q) n a b m).2)) hq ha (m := m + 1) (by omega) (by omega) (hF m) N 0 (by omega) (by have := h.1; omega)
      rw [decide_eq_false (by omega), cond_false]
      unfold sX4_spread
      rw [show gq_spL A B (gq_cst M la cl q) a (m + 1) (gq_F A B (gq_cst M la cl q) n a b m) 0 = gq_F A B (gq_cst M la cl q) n a b m from rfl, show nI 0 = 0 from rfl] at hsp
      rw [hsp, gq_bs, e1, gh_ra_n (by omega) (by decide), gq_bs, gq_bs, gq_vn_r _ _ (by omega)]
      have hF1 := gq_F_le A B (gq_cst M la cl q) n a b (m + 1) ((m + 1) * 12 + a)
      rw [show gq_spL A B (gq_cst M la cl q) a (m + 1) (gq_F A B (gq_cst M la cl q) n a b m) n = gq_F A B (gq_cst M la cl q) n a b (m + 1) from rfl, gh_n_ge (by omega) (by omega)]
      have ih1 := ih (m + 1) (by omega) (by omega)
      unfold sX4_find_126
      rw [nI_1, gq_vn_6, gq_fI_66]
      by_cases hlt : gq_F A B (gq_cst M la cl q) n a b (m + 1) ((m + 1) * 12 + a) < (gq_bst A B (gq_cst M la cl q) n a b m).1
      · rw [decide_eq_false (by omega), cond_false, ← ih1]
        rw [show gq_bst A B (gq_cst M la cl q) n a b (m + 1) = (gq_F A B (gq_cst M la cl q) n a b (m + 1) ((m + 1) * 12 + a), m + 1) from if_pos hlt]
      · rw [decide_eq_true (by omega), cond_true, ← ih1]
        rw [show gq_bst A B (gq_cst M la cl q) n a b (m + 1) = gq_bst A B (gq_cst M la cl q) n a b m from if_neg hlt]
end GqFind

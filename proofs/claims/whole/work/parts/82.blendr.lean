/-! ===== BLENDS: the reference ===== -/
def gb_dg (B : Nat) : Nat → Nat → Nat → Nat
  | 0, _ => fun _ => 0
  | k + 1, r => gh_nu (gb_dg B k (r / B)) k (r % B)
def gb_ds (B : Nat) : Nat → Nat → Nat
  | 0, _ => 0
  | k + 1, r => r % B + gb_ds B k (r / B)
theorem gb_ds_eq (B : Nat) : ∀ k r, gb_ds B k r = gh_sm (gb_dg B k r) k := by
  intro k
  induction k with
  | zero => intro r; rfl
  | succ k ih =>
    intro r
    rw [gb_ds, gh_sm, gb_dg, gh_nu_s, gh_sm_out _ k _ k (Nat.le_refl _), ← ih]
    omega
theorem gb_dg_lt {B : Nat} (hB : 0 < B) : ∀ k r i, i < k → gb_dg B k r i < B := by
  intro k
  induction k with
  | zero => intro r i h; omega
  | succ k ih =>
    intro r i h
    rw [gb_dg]
    by_cases e : i = k
    · rw [e, gh_nu_s]
      exact Nat.mod_lt _ hB
    · rw [gh_nu_n _ _ e]
      exact ih _ i (by omega)
theorem gb_lex {B : Nat} (hB : 0 < B) : ∀ k w w', w < w' → w' < B ^ k → ∃ i, i < k ∧ (∀ j, j < i → gb_dg B k w j = gb_dg B k w' j) ∧ gb_dg B k w i < gb_dg B k w' i := by
  intro k
  induction k with
  | zero => intro w w' h1 h2; rw [Nat.pow_zero] at h2; omega
  | succ k ih =>
    intro w w' h1 h2
    have hle : w / B ≤ w' / B := Nat.div_le_div_right (by omega)
    by_cases e : w / B < w' / B
    · obtain ⟨i, i1, i2, i3⟩ := ih (w / B) (w' / B) e (by rw [Nat.pow_succ, Nat.mul_comm] at h2; exact Nat.div_lt_of_lt_mul h2)
      refine ⟨i, by omega, fun j hj => ?_, ?_⟩
      · rw [gb_dg, gb_dg, gh_nu_n _ _ (by omega), gh_nu_n _ _ (by omega)]
        exact i2 j hj
      · rw [gb_dg, gb_dg, gh_nu_n _ _ (by omega), gh_nu_n _ _ (by omega)]
        exact i3
    · have e2 : w / B = w' / B := by omega
      have m1 := Nat.div_add_mod w B
      have m2 := Nat.div_add_mod w' B
      rw [e2] at m1
      refine ⟨k, by omega, fun j hj => ?_, ?_⟩
      · rw [gb_dg, gb_dg, gh_nu_n _ _ (by omega), gh_nu_n _ _ (by omega), e2]
      · rw [gb_dg, gb_dg, gh_nu_s, gh_nu_s]
        omega
theorem gb_sur {B : Nat} (hB : 0 < B) : ∀ k (d : Nat → Nat), (∀ i, i < k → d i < B) → ∃ w, w < B ^ k ∧ ∀ i, i < k → gb_dg B k w i = d i := by
  intro k
  induction k with
  | zero => intro d _; exact ⟨0, by rw [Nat.pow_zero]; omega, fun i hi => absurd hi (Nat.not_lt_zero _)⟩
  | succ k ih =>
    intro d hd
    obtain ⟨w, w1, w2⟩ := ih d (fun i hi => hd i (by omega))
    have hk := hd k (by omega)
    have ed : (w * B + d k) / B = w := by
      rw [Nat.mul_comm, Nat.mul_add_div hB, Nat.div_eq_of_lt hk, Nat.add_zero]
    have em : (w * B + d k) % B = d k := by
      rw [Nat.mul_comm, Nat.mul_add_mod, Nat.mod_eq_of_lt hk]
    refine ⟨w * B + d k, ?_, fun i hi => ?_⟩
    · rw [Nat.pow_succ]
      have h1 : (w + 1) * B ≤ B ^ k * B := Nat.mul_le_mul_right B (by omega)
      rw [Nat.add_mul, Nat.one_mul] at h1
      omega
    · rw [gb_dg, ed, em]
      by_cases e : i = k
      · rw [e, gh_nu_s]
      · rw [gh_nu_n _ _ e]
        exact w2 i (by omega)
/-- the blend of a number -/
def gb_pt (q m w i : Nat) : Nat := if i + 1 < m then gb_dg (q + 1) (m - 1) w i else if i + 1 = m then q - gb_ds (q + 1) (m - 1) w else 0
def gb_tw (q m w : Nat) : Nat × Nat × Nat × Nat := (gb_pt q m w 0, gb_pt q m w 1, gb_pt q m w 2, gb_pt q m w 3)
theorem gb_ti_tw {q m w i : Nat} (hi : i < 4) : gb_ti (gb_tw q m w) i = gb_pt q m w i := by
  match i, hi with
  | 0, _ => rfl
  | 1, _ => rfl
  | 2, _ => rfl
  | 3, _ => rfl
theorem gb_pt_sum {q m w : Nat} (h1 : 1 ≤ m) (h4 : m ≤ 4) : gb_pt q m w 0 + gb_pt q m w 1 + gb_pt q m w 2 + gb_pt q m w 3 = gb_ds (q + 1) (m - 1) w + (q - gb_ds (q + 1) (m - 1) w) := by
  rw [gb_ds_eq]
  have hm : m = 1 ∨ m = 2 ∨ m = 3 ∨ m = 4 := by omega
  rcases hm with rfl | rfl | rfl | rfl <;> simp [gb_pt, gh_sm, gb_ds_eq] <;> omega
theorem gb_ok_iff {q m w : Nat} {l : List Nat} {kg : Nat → Nat} (hm : m = l.length) (h1 : 1 ≤ m) (h4 : m ≤ 4) : gb_ok q (gb_mo l kg q) (gb_tw q m w) ↔ gb_ds (q + 1) (m - 1) w ≤ q ∧ ∀ i, i < m → 1000 * gb_pt q m w i ≤ kg (gr_at l i) := by
  have hs := gb_pt_sum (q := q) (w := w) h1 h4
  have hz : ∀ i, m ≤ i → gb_pt q m w i = 0 := fun i hi => by
    unfold gb_pt
    rw [if_neg (by omega), if_neg (by omega)]
  have hmo : ∀ i, i < m → gb_mo l kg q i = min q (kg (gr_at l i) / 1000) := fun i hi => if_pos (by omega)
  have hmz : ∀ i, m ≤ i → gb_mo l kg q i = 0 := fun i hi => if_neg (by omega)
  have hpq : ∀ i, i < 4 → gb_pt q m w i ≤ gb_pt q m w 0 + gb_pt q m w 1 + gb_pt q m w 2 + gb_pt q m w 3 := fun i hi => by
    match i, hi with
    | 0, _ => omega
    | 1, _ => omega
    | 2, _ => omega
    | 3, _ => omega
  constructor
  · intro h
    obtain ⟨k0, k1, k2, k3, k4⟩ := h
    have k0 : gb_pt q m w 0 + gb_pt q m w 1 + gb_pt q m w 2 + gb_pt q m w 3 = q := k0
    refine ⟨by omega, fun i hi => ?_⟩
    have : gb_pt q m w i ≤ gb_mo l kg q i := by
      match i, (show i < 4 by omega) with
      | 0, _ => exact k1
      | 1, _ => exact k2
      | 2, _ => exact k3
      | 3, _ => exact k4
    rw [hmo i hi] at this
    omega
  · intro h
    obtain ⟨k0, k1⟩ := h
    have hle : ∀ i, i < 4 → gb_pt q m w i ≤ gb_mo l kg q i := fun i hi => by
      by_cases e : i < m
      · have a1 := k1 i e
        have a2 := hpq i hi
        rw [hmo i e]
        omega
      · rw [hz i (by omega)]
        exact Nat.zero_le _
    exact ⟨by show gb_pt q m w 0 + gb_pt q m w 1 + gb_pt q m w 2 + gb_pt q m w 3 = q; omega, hle 0 (by omega), hle 1 (by omega), hle 2 (by omega), hle 3 (by omega)⟩
theorem gb_ok_sur {q m : Nat} {l : List Nat} {kg : Nat → Nat} (hm : m = l.length) (h1 : 1 ≤ m) (h4 : m ≤ 4) {t : Nat × Nat × Nat × Nat} (ht : gb_ok q (gb_mo l kg q) t) : ∃ w, w < (q + 1) ^ (m - 1) ∧ t = gb_tw q m w := by
  obtain ⟨k0, k1, k2, k3, k4⟩ := ht
  have hmz : ∀ i, m ≤ i → gb_mo l kg q i = 0 := fun i hi => if_neg (by omega)
  obtain ⟨w, w1, w2⟩ := gb_sur (B := q + 1) (by omega) (m - 1) (gb_ti t) (fun i hi => by
    match i, (show i < 4 by omega) with
    | 0, _ => show t.1 < q + 1; omega
    | 1, _ => show t.2.1 < q + 1; omega
    | 2, _ => show t.2.2.1 < q + 1; omega
    | 3, _ => show t.2.2.2 < q + 1; omega)
  refine ⟨w, w1, ?_⟩
  have hds : gb_ds (q + 1) (m - 1) w = gh_sm (gb_ti t) (m - 1) := by
    rw [gb_ds_eq]
    exact gn_cg _ w2
  have e : ∀ i, i < 4 → gb_pt q m w i = gb_ti t i := by
    intro i hi
    unfold gb_pt
    by_cases c1 : i + 1 < m
    · rw [if_pos c1]
      exact w2 i (by omega)
    · rw [if_neg c1]
      by_cases c2 : i + 1 = m
      · rw [if_pos c2, hds]
        have hm4 : m = 1 ∨ m = 2 ∨ m = 3 ∨ m = 4 := by omega
        rcases hm4 with e | e | e | e
        · have z1 := hmz 1 (by omega)
          have z2 := hmz 2 (by omega)
          have z3 := hmz 3 (by omega)
          rw [show i = 0 by omega, e]
          show q - 0 = t.1
          omega
        · have z2 := hmz 2 (by omega)
          have z3 := hmz 3 (by omega)
          rw [show i = 1 by omega, e]
          show q - (0 + t.1) = t.2.1
          omega
        · have z3 := hmz 3 (by omega)
          rw [show i = 2 by omega, e]
          show q - (0 + t.1 + t.2.1) = t.2.2.1
          omega
        · rw [show i = 3 by omega, e]
          show q - (0 + t.1 + t.2.1 + t.2.2.1) = t.2.2.2
          omega
      · rw [if_neg c2]
        have z := hmz i (by omega)
        match i, hi with
        | 0, _ => show 0 = t.1; omega
        | 1, _ => show 0 = t.2.1; omega
        | 2, _ => show 0 = t.2.2.1; omega
        | 3, _ => show 0 = t.2.2.2; omega
  refine Prod.ext ?_ (Prod.ext ?_ (Prod.ext ?_ ?_))
  · exact (e 0 (by omega)).symm
  · exact (e 1 (by omega)).symm
  · exact (e 2 (by omega)).symm
  · exact (e 3 (by omega)).symm
theorem gb_tw_gt {q m w w' : Nat} (h4 : m ≤ 4) (h : w < w') (hw : w' < (q + 1) ^ (m - 1)) : gb_gt (gb_tw q m w') (gb_tw q m w) := by
  obtain ⟨i, i1, i2, i3⟩ := gb_lex (B := q + 1) (by omega) (m - 1) w w' h hw
  have e : ∀ v j, j + 1 < m → gb_pt q m v j = gb_dg (q + 1) (m - 1) v j := fun v j hj => if_pos hj
  show gb_pt q m w 0 < gb_pt q m w' 0 ∨ (gb_pt q m w' 0 = gb_pt q m w 0 ∧ (gb_pt q m w 1 < gb_pt q m w' 1 ∨ (gb_pt q m w' 1 = gb_pt q m w 1 ∧ gb_pt q m w 2 < gb_pt q m w' 2)))
  match i, (show i < 3 by omega) with
  | 0, _ =>
    refine Or.inl ?_
    rw [e w 0 (by omega), e w' 0 (by omega)]
    exact i3
  | 1, _ =>
    refine Or.inr ⟨?_, Or.inl ?_⟩
    · rw [e w 0 (by omega), e w' 0 (by omega)]
      exact (i2 0 (by omega)).symm
    · rw [e w 1 (by omega), e w' 1 (by omega)]
      exact i3
  | 2, _ =>
    refine Or.inr ⟨?_, Or.inr ⟨?_, ?_⟩⟩
    · rw [e w 0 (by omega), e w' 0 (by omega)]
      exact (i2 0 (by omega)).symm
    · rw [e w 1 (by omega), e w' 1 (by omega)]
      exact (i2 1 (by omega)).symm
    · rw [e w 2 (by omega), e w' 2 (by omega)]
      exact i3
def gb_C93 (c _k : Nat) : Bool := Nat.beq c 93
def gb_CR2 (c k : Nat) : Bool := (Nat.ble 92 c && Nat.ble c 95) || (Nat.beq c 56 && Nat.beq k 62)
theorem gb_C_CR2 : ∀ c k, gb_CR2 c k = true → gb_C c k = true := by
  intro c k h
  unfold gb_CR2 at h
  unfold gb_C
  simp only [Bool.or_eq_true, Bool.and_eq_true, Nat.beq_eq, Nat.ble_eq] at h ⊢
  omega
theorem gb_CR2_93 : ∀ c k, gb_C93 c k = true → gb_CR2 c k = true := by
  intro c k h
  unfold gb_C93 at h
  unfold gb_CR2
  rw [Nat.eq_of_beq_eq_true h]
  rfl
section GbRef
variable {q m w : Nat} {kd kg g : Nat → Nat} {l : List Nat} (N : Nat)
theorem gb_185 (hq : q ≤ 20) (hm1 : 1 ≤ m) (hm4 : m ≤ 4) (kc : Int32 → Int32 → Int32 → Int64 → Int32 → gh_St → Option (Int64 × gh_St)) (l4 : Int32) (l6 : Int64) (l9 : Int32) : ∀ (k fu : Nat) (S : gh_St) (r s : Nat), k < fu → k + 1 ≤ m → r < 10000 → s + 20 * k ≤ 100 → ∃ S', sX10_blend_185 N kc fu (nI q) l4 (nI m) l6 l9 (nI r) (nI s) (gq_Z ((k : Int) - 1)) S = sX10_blend_253 N kc (nI q) l4 (nI m) l6 l9 (gq_B (decide (s + gb_ds (q + 1) k r ≤ q))) S' ∧ (∀ i, i < k → S'.1 93 i = nI (gb_dg (q + 1) k r i)) ∧ (∀ i, k ≤ i → i + 1 ≠ m → S'.1 93 i = S.1 93 i) ∧ (s + gb_ds (q + 1) k r ≤ q → S'.1 93 (m - 1) = nI (q - (s + gb_ds (q + 1) k r))) ∧ gh_fr gb_C93 S S' := by
  intro k
  induction k with
  | zero =>
    intro fu S r s hfu hkm hr hs
    obtain ⟨fu, rfl⟩ : ∃ v, fu = v + 1 := ⟨fu - 1, by omega⟩
    obtain ⟨m', rfl⟩ : ∃ m', m = m' + 1 := ⟨m - 1, by omega⟩
    rw [sX10_blend_185, gb_z0, cond_true, nI_pred, gh_wa_n (by omega) (by decide), gq_bs, gh_n_gt (by omega) (by omega)]
    refine ⟨gh_fI S 93 m' (nI q - nI s), ?_, fun i hi => absurd hi (Nat.not_lt_zero _), fun i _ hne => by rw [gh_fI_1, if_neg (by omega)], fun hle => ?_, gh_fr_fI (gh_fr_refl _ _) rfl⟩
    · by_cases e : s ≤ q
      · rw [decide_eq_false (by omega), cond_false, decide_eq_true (show s + gb_ds (q + 1) 0 r ≤ q from e)]
        rfl
      · rw [decide_eq_true (by omega), cond_true, decide_eq_false (show ¬ s + gb_ds (q + 1) 0 r ≤ q from e)]
        rfl
    · have hle : s ≤ q := hle
      show (gh_fI S 93 m' (nI q - nI s)).1 93 m' = nI (q - s)
      rw [gh_fI_1, if_pos ⟨rfl, rfl⟩, pk_sub hle]
  | succ k ih =>
    intro fu S r s hfu hkm hr hs
    obtain ⟨fu, rfl⟩ : ∃ v, fu = v + 1 := ⟨fu - 1, by omega⟩
    have hmod : r % (q + 1) < q + 1 := Nat.mod_lt _ (by omega)
    have hdiv : r / (q + 1) ≤ r := Nat.div_le_self _ _
    have er : gh_re (nI r) (nI (q + 1)) = some (nI (r % (q + 1))) := by
      unfold gh_re
      rw [if_neg (nI_ne0 (by omega) (by omega)), pk_rem (by omega) (by omega) (by omega)]
    have ed : gh_di (nI r) (nI (q + 1)) = some (nI (r / (q + 1))) := by
      unfold gh_di
      rw [if_neg (nI_ne0 (by omega) (by omega)), pk_div (by omega) (by omega) (by omega)]
    rw [gb_zs, sX10_blend_185, gb_n0 (by omega), cond_false, nI_1, er, gq_bs, gh_wa_n (by omega) (by decide), gq_bs, ed, gq_bs, gh_ra_n (by omega) (by decide), gq_bs, gh_fI_1, if_pos ⟨rfl, rfl⟩, nI_add, gb_zpred]
    have f1 : gh_fr gb_C93 S (gh_fI S 93 k (nI (r % (q + 1)))) := gh_fr_fI (gh_fr_refl _ _) rfl
    obtain ⟨S', a1, a2, a3, a4, a5⟩ := ih fu (gh_fI S 93 k (nI (r % (q + 1)))) (r / (q + 1)) (s + r % (q + 1)) (by omega) (by omega) (by omega) (by omega)
    have es : s + r % (q + 1) + gb_ds (q + 1) k (r / (q + 1)) = s + gb_ds (q + 1) (k + 1) r := by
      rw [gb_ds]
      omega
    rw [es] at a1 a4
    refine ⟨S', a1, fun i hi => ?_, fun i hi hne => ?_, a4, gh_fr_trans f1 a5⟩
    · rw [gb_dg]
      by_cases e : i = k
      · rw [e, gh_nu_s, a3 k (Nat.le_refl _) (by omega), gh_fI_1, if_pos ⟨rfl, rfl⟩]
      · rw [gh_nu_n _ _ e]
        exact a2 i (by omega)
    · rw [a3 i (by omega) hne, gh_fI_1, if_neg (by omega)]
/-- the bins chosen, as the reference keeps them -/
def gb_who (S : gh_St) (l : List Nat) : Prop := ∀ i, i < l.length → S.1 94 i = nI (gr_at l i)
theorem gb_isThere {S : gh_St} (hB : gb_bins S kd kg g) (hl : ∀ i, i < l.length → gr_at l i < 8) (hl4 : l.length ≤ 4) (hw : gb_who S l) {i n : Nat} (hi : i < l.length) (hn : n ≤ 100) : sX10_isThere N (nI i) (nI n) S = some (gq_B (decide (1000 * n ≤ kg (gr_at l i))), S) := by
  obtain ⟨a1, a2, a3, a4, a5, a6, a7, a8, a9⟩ := hB _ (hl i hi)
  unfold sX10_isThere
  rw [gh_ra_n (by omega) (by decide), gq_bs, hw i hi, gh_ra_n (hl i hi) (by decide), gq_bs, a4, show (1000 : Int32) = nI 1000 from rfl, pk_mul, gh_n_gt (by omega) (by omega)]
  by_cases e : 1000 * n ≤ kg (gr_at l i)
  · rw [decide_eq_false (by omega), cond_false, decide_eq_true e]
    rfl
  · rw [decide_eq_true (by omega), cond_true, decide_eq_false e]
    rfl
theorem gb_258 {S : gh_St} (hB : gb_bins S kd kg g) (hl : ∀ i, i < l.length → gr_at l i < 8) (hl4 : l.length ≤ 4) (hw : gb_who S l) {pt : Nat → Nat} (hp : ∀ i, i < l.length → pt i ≤ 20) (kc : Int32 → Int32 → Int32 → Int64 → Int32 → gh_St → Option (Int64 × gh_St)) (l3 l4 : Int32) (l6 : Int64) (l9 : Int32) : ∀ (j i fu : Nat) (f : Bool), i + j = l.length → j < fu → (f = true → ∀ i', i' < l.length → S.1 93 i' = nI (pt i')) → ∃ f', sX10_blend_258 N kc fu l3 l4 (nI l.length) l6 l9 (gq_B f) (nI i) S = sX10_blend_291 N kc l3 l4 (nI l.length) l6 l9 (gq_B f') S ∧ (f' = true ↔ f = true ∧ ∀ i', i ≤ i' → i' < l.length → 1000 * pt i' ≤ kg (gr_at l i')) := by
  intro j
  induction j with
  | zero =>
    intro i fu f hi hfu hpt
    obtain ⟨fu, rfl⟩ : ∃ v, fu = v + 1 := ⟨fu - 1, by omega⟩
    rw [sX10_blend_258, gh_n_ge (by omega) (by omega), decide_eq_true (by omega), cond_true]
    exact ⟨f, rfl, fun h => ⟨h, fun i' h1 h2 => by omega⟩, fun h => h.1⟩
  | succ j ih =>
    intro i fu f hi hfu hpt
    obtain ⟨fu, rfl⟩ : ∃ v, fu = v + 1 := ⟨fu - 1, by omega⟩
    rw [sX10_blend_258, gh_n_ge (by omega) (by omega), decide_eq_false (by omega), cond_false, gq_B_eq]
    cases f with
    | false =>
      rw [Bool.not_false, cond_true]
      exact ⟨false, rfl, (fun h => by cases h), (fun h => by cases h.1)⟩
    | true =>
      have hpi := hp i (by omega)
      rw [Bool.not_true, cond_false, gh_ra_n (by omega) (by decide), gq_bs, hpt rfl i (by omega), gb_isThere N hB hl hl4 hw (by omega) (by omega), gq_bs, nI_1]
      obtain ⟨f', a1, a2⟩ := ih (i + 1) fu (decide (1000 * pt i ≤ kg (gr_at l i))) (by omega) (by omega) (fun _ => hpt rfl)
      refine ⟨f', a1, a2.trans ⟨fun h => ⟨rfl, fun i' h1 h2 => ?_⟩, fun h => ⟨decide_eq_true (h.2 i (Nat.le_refl _) (by omega)), fun i' h1 h2 => h.2 i' (by omega) h2⟩⟩⟩
      by_cases e : i' = i
      · rw [e]
        exact decide_eq_true_iff.mp h.1
      · exact h.2 i' (by omega) h2
theorem gb_blends {S : gh_St} (hB : gb_bins S kd kg g) (hl : ∀ i, i < l.length → gr_at l i < 8 ∧ 0 < kg (gr_at l i)) (hl4 : l.length ≤ 4) (hw : gb_who S l) {pt : Nat → Nat} (hp : ∀ i, i < l.length → pt i ≤ 20) (hpt : ∀ i, i < l.length → S.1 93 i = nI (pt i)) (hth : ∀ i, i < l.length → 1000 * pt i ≤ kg (gr_at l i)) : ∀ (j i fu : Nat), i + j = l.length → j < fu → sX10_blends_5 N fu (nI l.length) (lN (gh_sm (fun i => gb_G l kg g i (pt i)) i)) (nI i) S = some (lN (gh_sm (fun i => gb_G l kg g i (pt i)) l.length), S) := by
  intro j
  induction j with
  | zero =>
    intro i fu hi hfu
    obtain ⟨fu, rfl⟩ : ∃ v, fu = v + 1 := ⟨fu - 1, by omega⟩
    rw [sX10_blends_5, gh_n_ge (by omega) (by omega), decide_eq_true (by omega), cond_true, show i = l.length by omega]
  | succ j ih =>
    intro i fu hi hfu
    obtain ⟨fu, rfl⟩ : ∃ v, fu = v + 1 := ⟨fu - 1, by omega⟩
    have hil : i < l.length := by omega
    obtain ⟨b8, bk⟩ := hl i hil
    obtain ⟨a1, a2, a3, a4, a5, a6, a7, a8, a9⟩ := hB _ b8
    have hpi := hp i hil
    have hti := hth i hil
    have hnext := ih (i + 1) fu (by omega) (by omega)
    rw [gh_sm] at hnext
    rw [sX10_blends_5, gh_n_ge (by omega) (by omega), decide_eq_false (by omega), cond_false, gh_ra_n (by omega) (by decide), gq_bs, hpt i hil, show gh_cmp .ne (nI (pt i)) 0 = decide (pt i ≠ 0) from gh_n_ne (b := 0) (by omega) (by omega)]
    unfold sX10_blends_48
    rw [nI_1]
    by_cases e : pt i = 0
    · rw [decide_eq_false (not_not_intro e), cond_false]
      rw [e, gb_G0, Nat.add_zero] at hnext
      rw [show (0 : Int64) = lN 0 from rfl, lN_add, Nat.add_zero]
      exact hnext
    · rw [decide_eq_true e, cond_true, gh_ra_n (by omega) (by decide), gq_bs, hw i hil, gq_bs, show (1000 : Int32) = nI 1000 from rfl, pk_mul, gq_dryOf N b8 a4 a6 (by omega) a8 hti a9, gq_bs]
      show sX10_blends_5 N fu (nI l.length) (lN (gh_sm (fun i => gb_G l kg g i (pt i)) i) + lN (g (gr_at l i) * (1000 * pt i) / kg (gr_at l i))) (nI (i + 1)) S = _
      rw [lN_add, show g (gr_at l i) * (1000 * pt i) / kg (gr_at l i) = gb_G l kg g i (pt i) from by unfold gb_G; rw [Nat.mul_comm 1000 (pt i)]]
      exact hnext
theorem gb_366 (hl : ∀ i, i < l.length → gr_at l i < 8) (hl4 : l.length ≤ 4) {t : Nat × Nat × Nat × Nat} (kc : Int32 → Int32 → Int32 → Int64 → Int32 → gh_St → Option (Int64 × gh_St)) (l3 l4 : Int32) (l6 : Int64) (l9 : Int32) : ∀ (j i fu : Nat) (S : gh_St), i + j = l.length → j < fu → gb_who S l → (∀ i', i' < l.length → S.1 93 i' = nI (gb_ti t i')) → (∀ b, b < 8 → S.1 95 b = nI (gb_tn l t i b)) → ∃ S', sX10_blend_366 N kc fu l3 l4 (nI l.length) l6 l9 (nI i) S = sX10_blend_398 N kc l3 l4 (nI l.length) l6 l9 S' ∧ (∀ b, b < 8 → S'.1 95 b = nI (gb_tn l t l.length b)) ∧ gh_fr (fun c _ => Nat.beq c 95) S S' := by
  intro j
  induction j with
  | zero =>
    intro i fu S hi hfu hw hp hd
    obtain ⟨fu, rfl⟩ : ∃ v, fu = v + 1 := ⟨fu - 1, by omega⟩
    rw [sX10_blend_366, gh_n_ge (by omega) (by omega), decide_eq_true (by omega), cond_true]
    exact ⟨S, rfl, fun b hb => by rw [show l.length = i by omega]; exact hd b hb, gh_fr_refl _ _⟩
  | succ j ih =>
    intro i fu S hi hfu hw hp hd
    obtain ⟨fu, rfl⟩ : ∃ v, fu = v + 1 := ⟨fu - 1, by omega⟩
    rw [sX10_blend_366, gh_n_ge (by omega) (by omega), decide_eq_false (by omega), cond_false, gh_ra_n (by omega) (by decide), gq_bs, gh_ra_n (by omega) (by decide), gq_bs, hw i (by omega), hp i (by omega), gh_wa_n (hl i (by omega)) (by decide), gq_bs, nI_1]
    have f1 : gh_fr (fun c _ => Nat.beq c 95) S (gh_fI S 95 (gr_at l i) (nI (gb_ti t i))) := gh_fr_fI (gh_fr_refl _ _) rfl
    obtain ⟨S', a1, a2, a3⟩ := ih (i + 1) fu (gh_fI S 95 (gr_at l i) (nI (gb_ti t i))) (by omega) (by omega) (fun i' hi' => by rw [gh_fI_1, if_neg (by omega)]; exact hw i' hi') (fun i' hi' => by rw [gh_fI_1, if_neg (by omega)]; exact hp i' hi') (fun b hb => by
      rw [gh_fI_1, gb_tn]
      unfold gh_nu
      by_cases e : b = gr_at l i
      · rw [if_pos ⟨rfl, e⟩, if_pos e]
      · rw [if_neg (fun w => e w.2), if_neg e]
        exact hd b hb)
    exact ⟨S', a1, a2, gh_fr_trans f1 a3⟩
theorem gb_342 (hN : 100 ≤ N) (hl : ∀ i, i < l.length → gr_at l i < 8) (hl4 : l.length ≤ 4) {t : Nat × Nat × Nat × Nat} (kc : Int32 → Int32 → Int32 → Int64 → Int32 → gh_St → Option (Int64 × gh_St)) (l3 l4 : Int32) (l6 : Int64) (l9 : Int32) : ∀ (j k fu : Nat) (S : gh_St), k + j = 8 → j < fu → gb_who S l → (∀ i', i' < l.length → S.1 93 i' = nI (gb_ti t i')) → (∀ b, b < k → S.1 95 b = nI 0) → ∃ S', sX10_blend_342 N kc fu l3 l4 (nI l.length) l6 l9 (nI k) S = sX10_blend_398 N kc l3 l4 (nI l.length) l6 l9 S' ∧ (∀ b, b < 8 → S'.1 95 b = nI (gb_tn l t l.length b)) ∧ gh_fr (fun c _ => Nat.beq c 95) S S' := by
  intro j
  induction j with
  | zero =>
    intro k fu S hk hfu hw hp hd
    obtain ⟨fu, rfl⟩ : ∃ v, fu = v + 1 := ⟨fu - 1, by omega⟩
    rw [sX10_blend_342, show gh_cmp .ge (nI k) 8 = decide (8 ≤ k) from gh_n_ge (b := 8) (by omega) (by omega), decide_eq_true (by omega), cond_true]
    exact gb_366 N hl hl4 kc l3 l4 l6 l9 l.length 0 N S (by omega) (by omega) hw hp (fun b hb => hd b (by omega))
  | succ j ih =>
    intro k fu S hk hfu hw hp hd
    obtain ⟨fu, rfl⟩ : ∃ v, fu = v + 1 := ⟨fu - 1, by omega⟩
    rw [sX10_blend_342, show gh_cmp .ge (nI k) 8 = decide (8 ≤ k) from gh_n_ge (b := 8) (by omega) (by omega), decide_eq_false (by omega), cond_false, gh_wa_n (by omega) (by decide), gq_bs, nI_1]
    have f1 : gh_fr (fun c _ => Nat.beq c 95) S (gh_fI S 95 k 0) := gh_fr_fI (gh_fr_refl _ _) rfl
    obtain ⟨S', a1, a2, a3⟩ := ih (k + 1) fu (gh_fI S 95 k 0) (by omega) (by omega) (fun i' hi' => by rw [gh_fI_1, if_neg (by omega)]; exact hw i' hi') (fun i' hi' => by rw [gh_fI_1, if_neg (by omega)]; exact hp i' hi') (fun b hb => by
      rw [gh_fI_1]
      by_cases e : b = k
      · rw [if_pos ⟨rfl, e⟩]; rfl
      · rw [if_neg (fun w => e w.2)]
        exact hd b (by omega))
    exact ⟨S', a1, a2, gh_fr_trans f1 a3⟩
theorem gb_moistOf {S : gh_St} {k r : Nat} (h1 : 1 ≤ k) (hk : k ≤ 500000) (hr : r ≤ 16000000000) : sX10_moistOf N (lN r) (lN k) S = some (nI (1000 - r / k), S) := by
  unfold sX10_moistOf gh_dj
  have hle : r / k ≤ r := Nat.div_le_self r k
  rw [if_neg (by rw [show (0 : Int64) = lN 0 from rfl, lN_eq (by omega) (by omega)]; omega), pk_lDiv (by omega) (by omega) (by omega), gq_bs, gh_lg_ge]
  generalize r / k = d at hle ⊢
  have e : ((1000 : Int64) - lN d).toInt = 1000 - (d : Int) := by
    rw [show (1000 : Int64) = lN 1000 from rfl, Int64.toInt_sub, pk_lT (by omega), pk_lT (by omega)]
    exact Int.bmod_eq_of_le (by omega) (by omega)
  rw [e]
  by_cases h : d ≤ 1000
  · rw [decide_eq_true (show (0 : Int64).toInt ≤ _ by show (0 : Int) ≤ _; omega), cond_true, show (1000 : Int64) = lN 1000 from rfl, lN_sub h, lN_i]
  · rw [decide_eq_false (show ¬ (0 : Int64).toInt ≤ _ by show ¬ (0 : Int) ≤ _; omega), cond_false, show 1000 - d = 0 by omega]
    rfl
/-- what the reference holds as the best so far -/
def gb_rr (S : gh_St) (l : List Nat) (l6 : Int64) (acc : Option (Nat × Nat × Nat × Nat × Nat)) : Prop :=
  match acc with
  | none => l6 = -1
  | some (v, t) => l6 = lN v ∧ v ≤ 16000000000 ∧ ∀ b, b < 8 → S.1 95 b = nI (gb_tn l t l.length b)
theorem gb_neg1 : gh_cmp .lt (lg_cmp (-1 : Int64) 0) 0 = true := by decide
theorem gb_nneg {v : Nat} (hv : v < 2 ^ 63) : gh_cmp .lt (lg_cmp (lN v) 0) 0 = false := by
  rw [show (0 : Int64) = lN 0 from rfl, gb_l_lt hv (by omega)]
  exact decide_eq_false (Nat.not_lt_zero _)
theorem gb_419 {v : Nat} : ∀ (j k fu : Nat) (S : gh_St), k + j = 8 → j < fu → (∀ b, b < k → S.1 92 b = S.1 95 b) → ∃ S', sX10_blend_419 N fu (lN v) (nI k) S = some (lN v, S') ∧ (∀ b, b < 8 → S'.1 92 b = S.1 95 b) ∧ gh_fr (fun c _ => Nat.beq c 92) S S' := by
  intro j
  induction j with
  | zero =>
    intro k fu S hk hfu hd
    obtain ⟨fu, rfl⟩ : ∃ v, fu = v + 1 := ⟨fu - 1, by omega⟩
    rw [sX10_blend_419, show gh_cmp .ge (nI k) 8 = decide (8 ≤ k) from gh_n_ge (b := 8) (by omega) (by omega), decide_eq_true (by omega), cond_true]
    exact ⟨S, rfl, fun b hb => hd b (by omega), gh_fr_refl _ _⟩
  | succ j ih =>
    intro k fu S hk hfu hd
    obtain ⟨fu, rfl⟩ : ∃ v, fu = v + 1 := ⟨fu - 1, by omega⟩
    rw [sX10_blend_419, show gh_cmp .ge (nI k) 8 = decide (8 ≤ k) from gh_n_ge (b := 8) (by omega) (by omega), decide_eq_false (by omega), cond_false, gh_ra_n (by omega) (by decide), gq_bs, gh_wa_n (by omega) (by decide), gq_bs, nI_1]
    have f1 : gh_fr (fun c _ => Nat.beq c 92) S (gh_fI S 92 k (S.1 95 k)) := gh_fr_fI (gh_fr_refl _ _) rfl
    have e95 : ∀ b, (gh_fI S 92 k (S.1 95 k)).1 95 b = S.1 95 b := fun b => by rw [gh_fI_1, if_neg (by omega)]
    obtain ⟨S', a1, a2, a3⟩ := ih (k + 1) fu (gh_fI S 92 k (S.1 95 k)) (by omega) (by omega) (fun b hb => by
      rw [e95, gh_fI_1]
      by_cases e : b = k
      · rw [if_pos ⟨rfl, e⟩, e]
      · rw [if_neg (fun w => e w.2)]
        exact hd b (by omega))
    exact ⟨S', a1, fun b hb => (a2 b hb).trans (e95 b), gh_fr_trans f1 a3⟩
theorem gb_sm4 {pt : Nat → Nat} {G : Nat → Nat → Nat} (h1 : 1 ≤ m) (h4 : m ≤ 4) (hz : ∀ i, m ≤ i → i < 4 → G i (pt i) = 0) : gh_sm (fun i => G i (pt i)) m = G 0 (pt 0) + G 1 (pt 1) + G 2 (pt 2) + G 3 (pt 3) := by
  have hm : m = 1 ∨ m = 2 ∨ m = 3 ∨ m = 4 := by omega
  rcases hm with e | e | e | e
  · have z1 := hz 1 (by omega) (by omega)
    have z2 := hz 2 (by omega) (by omega)
    have z3 := hz 3 (by omega) (by omega)
    rw [e]
    show 0 + G 0 (pt 0) = _
    omega
  · have z2 := hz 2 (by omega) (by omega)
    have z3 := hz 3 (by omega) (by omega)
    rw [e]
    show 0 + G 0 (pt 0) + G 1 (pt 1) = _
    omega
  · have z3 := hz 3 (by omega) (by omega)
    rw [e]
    show 0 + G 0 (pt 0) + G 1 (pt 1) + G 2 (pt 2) = _
    omega
  · rw [e]
    show 0 + G 0 (pt 0) + G 1 (pt 1) + G 2 (pt 2) + G 3 (pt 3) = _
    omega
theorem gb_167 (hN : 100 ≤ N) (hq1 : 1 ≤ q) (hq : q ≤ 20) (hw : w ≤ 1000) (hl : ∀ i, i < l.length → gr_at l i < 8 ∧ 0 < kg (gr_at l i)) (hl1 : 1 ≤ l.length) (hl4 : l.length ≤ 4) : ∀ (y fu : Nat) (S : gh_St) (l6 : Int64) (acc : Option (Nat × Nat × Nat × Nat × Nat)), y < fu → y ≤ (q + 1) ^ (l.length - 1) → y < 10000 → gb_bins S kd kg g → gb_who S l → gb_rr S l l6 acc → gb_bst q (gb_mo l kg q) (gb_G l kg g) ((1000 - w) * 1000 * q) (fun t => ∃ w', y ≤ w' ∧ w' < (q + 1) ^ (l.length - 1) ∧ t = gb_tw q l.length w') acc → ∃ S' acc', gb_bst q (gb_mo l kg q) (gb_G l kg g) ((1000 - w) * 1000 * q) (fun _ => True) acc' ∧ gh_fr gb_CR2 S S' ∧ (match acc' with
    | none => sX10_blend_167 N fu (nI q) (nI w) (nI l.length) l6 (gq_Z ((y : Int) - 1)) S = some (-1, S') ∧ S'.1 56 62 = S.1 56 62 ∧ ∀ b, S'.1 92 b = S.1 92 b
    | some (v, t) => sX10_blend_167 N fu (nI q) (nI w) (nI l.length) l6 (gq_Z ((y : Int) - 1)) S = some (lN v, S') ∧ S'.1 56 62 = gq_B true ∧ ∀ b, b < 8 → S'.1 92 b = nI (gb_tn l t l.length b)) := by
  intro y
  induction y with
  | zero =>
    intro fu S l6 acc hfu hy hy2 hB hwho hr hbst
    obtain ⟨fu, rfl⟩ : ∃ v, fu = v + 1 := ⟨fu - 1, by omega⟩
    have hfin := gb_bst_cg (Pr' := fun _ => True) hbst (fun t ht => ⟨fun _ => trivial, fun _ => by
      obtain ⟨w', h1, h2⟩ := gb_ok_sur rfl hl1 hl4 ht
      exact ⟨w', Nat.zero_le _, h1, h2⟩⟩)
    cases acc with
    | none =>
      refine ⟨S, none, hfin, gh_fr_refl _ _, ?_, rfl, fun _ => rfl⟩
      rw [sX10_blend_167, gb_z0, cond_true, show l6 = -1 from hr, gb_neg1]
      rfl
    | some x =>
      obtain ⟨v, t⟩ := x
      obtain ⟨r1, r2, r3⟩ := hr
      obtain ⟨S', a1, a2, a3⟩ := gb_419 (v := v) N 8 0 N (gh_fI S 56 62 1) (by omega) (by omega) (fun b hb => absurd hb (Nat.not_lt_zero _))
      refine ⟨S', some (v, t), hfin, gh_fr_trans (gh_fr_fI (gh_fr_refl _ _) rfl) (gh_fr_mono a3 (fun c k h => by rw [Nat.eq_of_beq_eq_true h]; rfl)), ?_, ?_, fun b hb => ?_⟩
      · rw [sX10_blend_167, gb_z0, cond_true, r1, gb_nneg (by omega), cond_false]
        exact a1
      · rw [a3.1 56 62 rfl, gh_fI_1, if_pos ⟨rfl, rfl⟩]
        rfl
      · rw [a2 b hb, gh_fI_1, if_neg (by omega)]
        exact r3 b hb
  | succ y ih =>
    intro fu S l6 acc hfu hy hy2 hB hwho hr hbst
    obtain ⟨fu, rfl⟩ : ∃ v, fu = v + 1 := ⟨fu - 1, by omega⟩
    have e2 : nI l.length - 2 = gq_Z (((l.length - 1 : Nat) : Int) - 1) := by
      rw [← gq_Z_n, show (2 : Int32) = gq_Z 2 from rfl, gq_Z_sub]
      exact congrArg gq_Z (by omega)
    obtain ⟨S1, a1, a2, a3, a4, a5⟩ := gb_185 (q := q) (m := l.length) N hq hl1 hl4 (sX10_blend_167 N fu) (nI w) l6 (nI y) (l.length - 1) N S y 0 (by omega) (by omega) (by omega) (by omega)
    rw [Nat.zero_add] at a1 a4
    have hB1 := gb_bins_fr hB (gh_fr_mono a5 (fun c k h => gb_C_CR2 c k (gb_CR2_93 c k h)))
    have hw1 : gb_who S1 l := fun i hi => (a5.1 94 i rfl).trans (hwho i hi)
    have f1 := gh_fr_mono a5 gb_CR2_93
    have hpt93 : gb_ds (q + 1) (l.length - 1) y ≤ q → ∀ i, i < l.length → S1.1 93 i = nI (gb_pt q l.length y i) := fun hle i hi => by
      unfold gb_pt
      by_cases e : i + 1 < l.length
      · rw [if_pos e]
        exact a2 i (by omega)
      · rw [if_neg e, if_pos (by omega), show i = l.length - 1 by omega]
        exact a4 hle
    have hpt20 : ∀ i, i < l.length → gb_pt q l.length y i ≤ 20 := fun i hi => by
      unfold gb_pt
      by_cases e : i + 1 < l.length
      · rw [if_pos e]
        have := gb_dg_lt (B := q + 1) (by omega) (l.length - 1) y i (by omega)
        omega
      · rw [if_neg e, if_pos (by omega)]
        omega
    obtain ⟨f', b1, b2⟩ := gb_258 (kd := kd) (kg := kg) (g := g) (l := l) N hB1 (fun i hi => (hl i hi).1) hl4 hw1 hpt20 (sX10_blend_167 N fu) (nI q) (nI w) l6 (nI y) l.length 0 N (decide (gb_ds (q + 1) (l.length - 1) y ≤ q)) (by omega) (by omega) (fun hf => hpt93 (decide_eq_true_iff.mp hf))
    have hok : f' = true ↔ gb_ok q (gb_mo l kg q) (gb_tw q l.length y) := by
      rw [b2, gb_ok_iff rfl hl1 hl4, decide_eq_true_iff]
      exact ⟨fun h => ⟨h.1, fun i hi => h.2 i (Nat.zero_le _) hi⟩, fun h => ⟨h.1, fun i _ hi => h.2 i hi⟩⟩
    have hstart : sX10_blend_167 N (fu + 1) (nI q) (nI w) (nI l.length) l6 (gq_Z (((y + 1 : Nat) : Int) - 1)) S = sX10_blend_291 N (sX10_blend_167 N fu) (nI q) (nI w) (nI l.length) l6 (nI y) (gq_B f') S1 := by
      rw [gb_zs, sX10_blend_167, gb_n0 (by omega), cond_false, e2, show (0 : Int32) = nI 0 from rfl, a1]
      exact b1
    rw [hstart]
    have cont : ∀ (S2 : gh_St) (l6' : Int64) (acc2 : Option (Nat × Nat × Nat × Nat × Nat)), gh_fr gb_CR2 S S2 → S2.1 56 62 = S.1 56 62 → (∀ b, S2.1 92 b = S.1 92 b) → gb_who S2 l → gb_rr S2 l l6' acc2 → gb_bst q (gb_mo l kg q) (gb_G l kg g) ((1000 - w) * 1000 * q) (fun t => ∃ w', y ≤ w' ∧ w' < (q + 1) ^ (l.length - 1) ∧ t = gb_tw q l.length w') acc2 → ∃ S' acc', gb_bst q (gb_mo l kg q) (gb_G l kg g) ((1000 - w) * 1000 * q) (fun _ => True) acc' ∧ gh_fr gb_CR2 S S' ∧ (match acc' with
        | none => sX10_blend_398 N (sX10_blend_167 N fu) (nI q) (nI w) (nI l.length) l6' (nI y) S2 = some (-1, S') ∧ S'.1 56 62 = S.1 56 62 ∧ ∀ b, S'.1 92 b = S.1 92 b
        | some (v, t) => sX10_blend_398 N (sX10_blend_167 N fu) (nI q) (nI w) (nI l.length) l6' (nI y) S2 = some (lN v, S') ∧ S'.1 56 62 = gq_B true ∧ ∀ b, b < 8 → S'.1 92 b = nI (gb_tn l t l.length b)) := by
      intro S2 l6' acc2 f2 k62 k92 hw2 hr2 hb2
      unfold sX10_blend_398
      rw [gb_zpred]
      obtain ⟨S', acc', c1, c2, c3⟩ := ih fu S2 l6' acc2 (by omega) (by omega) (by omega) (gb_bins_fr hB (gh_fr_mono f2 gb_C_CR2)) hw2 hr2 hb2
      refine ⟨S', acc', c1, gh_fr_trans f2 c2, ?_⟩
      cases acc' with
      | none => exact ⟨c3.1, c3.2.1.trans k62, fun b => (c3.2.2 b).trans (k92 b)⟩
      | some x => exact c3
    have rr1 : gb_rr S1 l l6 acc := by
      cases acc with
      | none => exact hr
      | some x => exact ⟨hr.1, hr.2.1, fun b hb => (a5.1 95 b rfl).trans (hr.2.2 b hb)⟩
    have k62 : S1.1 56 62 = S.1 56 62 := a5.1 56 62 rfl
    have k92 : ∀ b, S1.1 92 b = S.1 92 b := fun b => a5.1 92 b rfl
    have same : (¬ gb_ok q (gb_mo l kg q) (gb_tw q l.length y)) → gb_bst q (gb_mo l kg q) (gb_G l kg g) ((1000 - w) * 1000 * q) (fun t => ∃ w', y ≤ w' ∧ w' < (q + 1) ^ (l.length - 1) ∧ t = gb_tw q l.length w') acc := fun hno => gb_bst_cg hbst (fun t ht => ⟨fun ⟨w', h1, h2⟩ => ⟨w', by omega, h2⟩, fun ⟨w', h1, h2, h3⟩ => ⟨w', by
      by_cases e : w' = y
      · rw [e] at h3
        rw [h3] at ht
        exact absurd ht hno
      · omega, h2, h3⟩⟩)
    unfold sX10_blend_291
    rw [gq_B_eq]
    cases f' with
    | false =>
      rw [Bool.not_false, cond_true]
      exact cont S1 l6 acc f1 k62 k92 hw1 rr1 (same (fun h => by have := hok.mpr h; cases this))
    | true =>
      have hokk := hok.mp rfl
      have hoi := (gb_ok_iff rfl hl1 hl4).mp hokk
      have hz : ∀ i, l.length ≤ i → i < 4 → gb_G l kg g i (gb_pt q l.length y i) = 0 := fun i hi _ => by
        have : gb_pt q l.length y i = 0 := by
          unfold gb_pt
          rw [if_neg (by omega), if_neg (by omega)]
        rw [this, gb_G0]
      have hVs := gb_sm4 (pt := gb_pt q l.length y) (G := gb_G l kg g) hl1 hl4 hz
      have hV : gh_sm (fun i => gb_G l kg g i (gb_pt q l.length y i)) l.length = gb_V (gb_G l kg g) (gb_tw q l.length y) := hVs
      have hbl := gb_blends (kd := kd) (kg := kg) (g := g) (l := l) N hB1 hl hl4 hw1 hpt20 (hpt93 hoi.1) hoi.2 l.length 0 N (by omega) (by omega)
      rw [hV] at hbl
      have hbl' : sX10_blends N (nI l.length) S1 = some (lN (gb_V (gb_G l kg g) (gb_tw q l.length y)), S1) := hbl
      have hGle : ∀ i, i < 4 → gb_G l kg g i (gb_pt q l.length y i) ≤ 4000000000 := fun i hi => by
        by_cases e : i < l.length
        · have h1 := hoi.2 i e
          have h9 := (hB _ (hl i e).1).2.2.2.2.2.2.2.2
          exact Nat.le_trans (gb_G_le (by omega)) h9
        · rw [hz i (by omega) hi]
          exact Nat.zero_le _
      have hVle : gb_V (gb_G l kg g) (gb_tw q l.length y) ≤ 16000000000 := by
        have g0 := hGle 0 (by omega)
        have g1 := hGle 1 (by omega)
        have g2 := hGle 2 (by omega)
        have g3 := hGle 3 (by omega)
        show gb_G l kg g 0 (gb_pt q l.length y 0) + gb_G l kg g 1 (gb_pt q l.length y 1) + gb_G l kg g 2 (gb_pt q l.length y 2) + gb_G l kg g 3 (gb_pt q l.length y 3) ≤ _
        omega
      have hnew := gb_bst_add hbst hokk (fun t' _ hp => by
        obtain ⟨w', h1, h2, h3⟩ := hp
        rw [h3]
        exact gb_tw_gt hl4 (by omega) h2)
      have hnew' : gb_bst q (gb_mo l kg q) (gb_G l kg g) ((1000 - w) * 1000 * q) (fun t => ∃ w', y ≤ w' ∧ w' < (q + 1) ^ (l.length - 1) ∧ t = gb_tw q l.length w') (gb_pick (gb_G l kg g) ((1000 - w) * 1000 * q) acc (gb_tw q l.length y)) := gb_bst_cg hnew (fun t _ => ⟨fun h => by
        rcases h with ⟨w', h1, h2⟩ | h
        · exact ⟨w', by omega, h2⟩
        · exact ⟨y, Nat.le_refl _, by omega, h⟩, fun ⟨w', h1, h2, h3⟩ => by
        by_cases e : w' = y
        · rw [e] at h3
          exact Or.inr h3
        · exact Or.inl ⟨w', by omega, h2, h3⟩⟩)
      have hmo := gb_moistOf (S := S1) N (k := 1000 * q) (r := gb_V (gb_G l kg g) (gb_tw q l.length y)) (by omega) (by omega) hVle
      have hlq : (1000 : Int64) * (nI q).toInt64 = lN (1000 * q) := by
        rw [nI_l (by omega), show (1000 : Int64) = lN 1000 from rfl, lN_mul]
      rw [Bool.not_true, cond_false, hbl', gq_bs, hlq, hmo, gq_bs]
      have hcmp : gh_cmp .gt (nI (1000 - gb_V (gb_G l kg g) (gb_tw q l.length y) / (1000 * q))) (nI w) = decide (gb_V (gb_G l kg g) (gb_tw q l.length y) < (1000 - w) * 1000 * q) := by
        rw [gh_n_gt (Nat.lt_of_le_of_lt (Nat.sub_le _ _) (by decide)) (by omega)]
        refine decide_eq_decide.mpr ?_
        rw [Nat.mul_assoc, ← Nat.div_lt_iff_lt_mul (by omega)]
        omega
      dsimp only
      rw [hcmp]
      unfold gb_pick at hnew'
      by_cases hlt : gb_V (gb_G l kg g) (gb_tw q l.length y) < (1000 - w) * 1000 * q
      · rw [decide_eq_true hlt, cond_true]
        rw [if_pos hlt] at hnew'
        exact cont S1 l6 acc f1 k62 k92 hw1 rr1 hnew'
      · rw [decide_eq_false hlt, cond_false]
        rw [if_neg hlt] at hnew'
        have take : gb_bst q (gb_mo l kg q) (gb_G l kg g) ((1000 - w) * 1000 * q) (fun t => ∃ w', y ≤ w' ∧ w' < (q + 1) ^ (l.length - 1) ∧ t = gb_tw q l.length w') (some (gb_V (gb_G l kg g) (gb_tw q l.length y), gb_tw q l.length y)) → ∃ S' acc', gb_bst q (gb_mo l kg q) (gb_G l kg g) ((1000 - w) * 1000 * q) (fun _ => True) acc' ∧ gh_fr gb_CR2 S S' ∧ (match acc' with
            | none => sX10_blend_335 N (sX10_blend_167 N fu) (nI q) (nI w) (nI l.length) (nI y) (lN (gb_V (gb_G l kg g) (gb_tw q l.length y))) S1 = some (-1, S') ∧ S'.1 56 62 = S.1 56 62 ∧ ∀ b, S'.1 92 b = S.1 92 b
            | some (v, t) => sX10_blend_335 N (sX10_blend_167 N fu) (nI q) (nI w) (nI l.length) (nI y) (lN (gb_V (gb_G l kg g) (gb_tw q l.length y))) S1 = some (lN v, S') ∧ S'.1 56 62 = gq_B true ∧ ∀ b, b < 8 → S'.1 92 b = nI (gb_tn l t l.length b)) := by
          intro hb
          unfold sX10_blend_335
          obtain ⟨S2, d1, d2, d3⟩ := gb_342 (l := l) N hN (fun i hi => (hl i hi).1) hl4 (t := gb_tw q l.length y) (sX10_blend_167 N fu) (nI q) (nI w) (lN (gb_V (gb_G l kg g) (gb_tw q l.length y))) (nI y) 8 0 N S1 (by omega) (by omega) hw1 (fun i hi => by rw [gb_ti_tw (by omega)]; exact hpt93 hoi.1 i hi) (fun b hb => absurd hb (Nat.not_lt_zero _))
          rw [show (0 : Int32) = nI 0 from rfl, d1]
          exact cont S2 _ (some (gb_V (gb_G l kg g) (gb_tw q l.length y), gb_tw q l.length y)) (gh_fr_trans f1 (gh_fr_mono d3 (fun c k h => by rw [Nat.eq_of_beq_eq_true h]; rfl))) ((d3.1 56 62 rfl).trans k62) (fun b => (d3.1 92 b rfl).trans (k92 b)) (fun i hi => (d3.1 94 i rfl).trans (hw1 i hi)) ⟨rfl, hVle, d2⟩ hb
        cases acc with
        | none =>
          rw [show l6 = -1 from hr, gb_neg1, cond_true]
          exact take hnew'
        | some x =>
          obtain ⟨v, t⟩ := x
          have hv := hr.2.1
          have hnew' : gb_bst q (gb_mo l kg q) (gb_G l kg g) ((1000 - w) * 1000 * q) (fun t => ∃ w', y ≤ w' ∧ w' < (q + 1) ^ (l.length - 1) ∧ t = gb_tw q l.length w') (if gb_V (gb_G l kg g) (gb_tw q l.length y) < v then some (gb_V (gb_G l kg g) (gb_tw q l.length y), gb_tw q l.length y) else some (v, t)) := hnew'
          rw [hr.1, gb_nneg (by omega), cond_false, gb_l_ge (by omega) (by omega)]
          by_cases hvv : gb_V (gb_G l kg g) (gb_tw q l.length y) < v
          · rw [decide_eq_false (by omega), cond_false]
            rw [if_pos hvv] at hnew'
            exact take hnew'
          · rw [decide_eq_true (by omega), cond_true]
            rw [if_neg hvv] at hnew'
            rw [← hr.1]
            exact cont S1 l6 _ f1 k62 k92 hw1 rr1 hnew'
end GbRef

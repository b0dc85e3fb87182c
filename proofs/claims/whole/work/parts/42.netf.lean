/-! ===== the class's table has these least costs ===== -/
section GqNetF
variable {n : Nat} {A B c : Nat → Nat} {a b : Nat}
theorem gq_spO_out {f : Nat → Nat} {x y co m i : Nat} (hx : x < 12) (h : i < m * 12 ∨ m * 12 + 12 ≤ i) : gq_spO f x y co a m i = f i := by
  unfold gq_spO
  split
  · rfl
  · exact gh_nu_n _ _ (by omega)
theorem gq_spL_out (hAB : ∀ k, k < n → A k < 12 ∧ B k < 12) {f : Nat → Nat} {m i : Nat} (h : i < m * 12 ∨ m * 12 + 12 ≤ i) : ∀ k, k ≤ n → gq_spL A B c a m f k i = f i := by
  intro k
  induction k with
  | zero => intro _; rfl
  | succ k ih =>
    intro hk
    have := hAB k (by omega)
    rw [gq_spL, gq_spO_out this.2 h, gq_spO_out this.1 h, ih (by omega)]
theorem gq_spO_in {f : Nat → Nat} {x y co m v : Nat} (hm : 1 ≤ m) (hy : y < 12) (hv : v < 12) (hx : x < 12) :
    gq_spO f x y co a m (m * 12 + v) ≤ f (m * 12 + v) ∧ (v = x → y ≠ a → (x = a ∨ 8 ≤ x) → gq_spO f x y co a m (m * 12 + v) ≤ co + f ((m - 1) * 12 + y)) ∧
    (gq_spO f x y co a m (m * 12 + v) = f (m * 12 + v) ∨ (v = x ∧ y ≠ a ∧ (x = a ∨ 8 ≤ x) ∧ gq_spO f x y co a m (m * 12 + v) = co + f ((m - 1) * 12 + y))) := by
  unfold gq_spO
  by_cases h : y = a ∨ (x ≠ a ∧ x < 8)
  · rw [if_pos h]
    exact ⟨Nat.le_refl _, fun _ h2 h3 => by omega, Or.inl rfl⟩
  · rw [if_neg h]
    by_cases e : v = x
    · subst e
      rw [gh_nu_s]
      refine ⟨Nat.min_le_left _ _, fun _ _ _ => Nat.min_le_right _ _, ?_⟩
      by_cases hl : f (m * 12 + v) ≤ co + f ((m - 1) * 12 + y)
      · exact Or.inl (Nat.min_eq_left hl)
      · exact Or.inr ⟨rfl, by omega, by omega, Nat.min_eq_right (by omega)⟩
    · rw [gh_nu_n _ _ (by omega)]
      exact ⟨Nat.le_refl _, fun h2 => absurd h2 e, Or.inl rfl⟩
theorem gq_spL_in (hAB : ∀ k, k < n → A k < 12 ∧ B k < 12) {f : Nat → Nat} {m : Nat} (hm : 1 ≤ m) {v : Nat} (hv : v < 12) : ∀ k, k ≤ n →
    (∀ k' w, k' < k → gq_jn A B k' v w → (v = a ∨ 8 ≤ v) → w ≠ a → gq_spL A B c a m f k (m * 12 + v) ≤ c k' + f ((m - 1) * 12 + w)) ∧
    (gq_spL A B c a m f k (m * 12 + v) = f (m * 12 + v) ∨ ∃ k' w, k' < k ∧ gq_jn A B k' v w ∧ (v = a ∨ 8 ≤ v) ∧ w ≠ a ∧ gq_spL A B c a m f k (m * 12 + v) = c k' + f ((m - 1) * 12 + w)) := by
  intro k
  induction k with
  | zero => intro _; exact ⟨fun k' w h => by omega, Or.inl rfl⟩
  | succ k ih =>
    intro hk
    obtain ⟨i1, i2⟩ := ih (by omega)
    obtain ⟨hA, hB⟩ := hAB k (by omega)
    rw [gq_spL]
    have low : ∀ (g : Nat → Nat) (y : Nat), y < 12 → gq_spO (gq_spL A B c a m f k) (A k) (B k) (c k) a m ((m - 1) * 12 + y) = f ((m - 1) * 12 + y) := by
      intro g y hy
      rw [gq_spO_out hA (by omega), gq_spL_out hAB (by omega) k (by omega)]
    obtain ⟨p1, p2, p3⟩ := gq_spO_in (f := gq_spL A B c a m f k) (x := A k) (y := B k) (co := c k) (a := a) hm hB hv hA
    rw [gq_spL_out hAB (show (m - 1) * 12 + B k < m * 12 ∨ _ by omega) k (by omega)] at p2 p3
    obtain ⟨r1, r2, r3⟩ := gq_spO_in (f := gq_spO (gq_spL A B c a m f k) (A k) (B k) (c k) a m) (x := B k) (y := A k) (co := c k) (a := a) hm hA hv hB
    rw [low (fun _ => 0) (A k) hA] at r2 r3
    constructor
    · intro k' w hk' hj hva hwa
      by_cases e : k' = k
      · subst e
        rcases hj with ⟨j1, j2⟩ | ⟨j1, j2⟩
        · subst j2
          have := p2 j1.symm hwa (by rw [j1]; exact hva)
          omega
        · subst j2
          exact r2 j1.symm hwa (by rw [j1]; exact hva)
      · have := i1 k' w (by omega) hj hva hwa
        omega
    · rcases r3 with e | ⟨e1, e2, e3, e4⟩
      · rw [e]
        rcases p3 with e | ⟨e1, e2, e3, e4⟩
        · rw [e]
          rcases i2 with e | ⟨k', w, e1, e2⟩
          · exact Or.inl e
          · exact Or.inr ⟨k', w, by omega, e2⟩
        · exact Or.inr ⟨k, B k, by omega, Or.inl ⟨e1.symm, rfl⟩, by omega, e2, e4⟩
      · exact Or.inr ⟨k, A k, by omega, Or.inr ⟨e1.symm, rfl⟩, by omega, e2, e4⟩
theorem gq_F_hi (hAB : ∀ k, k < n → A k < 12 ∧ B k < 12) (hb : b < 12) : ∀ m i, m * 12 + 12 ≤ i → gq_F A B c n a b m i = 1000000 := by
  intro m
  induction m with
  | zero =>
    intro i hi
    exact gh_nu_n _ _ (by omega)
  | succ m ih =>
    intro i hi
    rw [gq_F, gq_spL_out hAB (by omega) n (Nat.le_refl _)]
    exact ih i (by omega)
theorem gq_F_st (hAB : ∀ k, k < n → A k < 12 ∧ B k < 12) {m i : Nat} (hi : i < m * 12 + 12) : ∀ j, gq_F A B c n a b (m + j) i = gq_F A B c n a b m i := by
  intro j
  induction j with
  | zero => rfl
  | succ j ih =>
    rw [← Nat.add_assoc, gq_F, gq_spL_out hAB (by omega) n (Nat.le_refl _)]
    exact ih
theorem gq_F_isL (hAB : ∀ k, k < n → A k < 12 ∧ B k < 12) (hb : b < 12) : gq_isL n A B c a b (fun m v => gq_F A B c n a b 5 (m * 12 + v)) := by
  have st : ∀ m v, m ≤ 5 → v < 12 → gq_F A B c n a b 5 (m * 12 + v) = gq_F A B c n a b m (m * 12 + v) := by
    intro m v hm hv
    have := gq_F_st (c := c) (a := a) (b := b) hAB (m := m) (i := m * 12 + v) (by omega) (5 - m)
    rw [show m + (5 - m) = 5 by omega] at this
    exact this
  refine ⟨fun m v => gq_F_le A B c n a b 5 _, fun v hv => ?_, fun m v k w hm hv hk hj hva hwa => ?_, fun m v hm hv => ?_⟩
  · show gq_F A B c n a b 5 (0 * 12 + v) = _
    rw [st 0 v (by omega) hv]
    show gh_nu _ b 0 (0 * 12 + v) = _
    unfold gh_nu
    rw [Nat.zero_mul, Nat.zero_add]
  · have hw := gq_jn_lt hAB hk hj
    show gq_F A B c n a b 5 ((m + 1) * 12 + v) ≤ c k + gq_F A B c n a b 5 (m * 12 + w)
    rw [st (m + 1) v (by omega) hv, st m w (by omega) hw]
    exact (gq_spL_in (f := gq_F A B c n a b m) (m := m + 1) hAB (by omega) hv n (Nat.le_refl _)).1 k w hk hj hva hwa
  · show gq_F A B c n a b 5 ((m + 1) * 12 + v) = _ ∨ ∃ k w, k < n ∧ _ ∧ _ ∧ _ ∧ gq_F A B c n a b 5 ((m + 1) * 12 + v) = c k + gq_F A B c n a b 5 (m * 12 + w)
    rw [st (m + 1) v (by omega) hv]
    rcases (gq_spL_in (c := c) (a := a) (f := gq_F A B c n a b m) (m := m + 1) hAB (by omega) hv n (Nat.le_refl _)).2 with e | ⟨k, w, e1, e2, e3, e4, e5⟩
    · left
      rw [gq_F, e]
      exact gq_F_hi hAB hb m _ (by omega)
    · right
      refine ⟨k, w, e1, e2, e3, e4, ?_⟩
      rw [st m w (by omega) (gq_jn_lt hAB e1 e2)]
      exact e5
theorem gq_bst_isB (hAB : ∀ k, k < n → A k < 12 ∧ B k < 12) (ha : a < 12) : gq_isB a (fun m v => gq_F A B c n a b 5 (m * 12 + v)) (gq_bst A B c n a b 5).1 (gq_bst A B c n a b 5).2 := by
  have st : ∀ m v, m ≤ 5 → v < 12 → gq_F A B c n a b 5 (m * 12 + v) = gq_F A B c n a b m (m * 12 + v) := by
    intro m v hm hv
    have := gq_F_st (c := c) (a := a) (b := b) hAB (m := m) (i := m * 12 + v) (by omega) (5 - m)
    rw [show m + (5 - m) = 5 by omega] at this
    exact this
  have key : ∀ t, t ≤ 5 → (∀ m, 1 ≤ m → m ≤ t → (gq_bst A B c n a b t).1 ≤ gq_F A B c n a b 5 (m * 12 + a)) ∧ ((gq_bst A B c n a b t).2 = 0 → (gq_bst A B c n a b t).1 = 1000000) ∧ ((gq_bst A B c n a b t).2 ≠ 0 → (gq_bst A B c n a b t).1 = gq_F A B c n a b 5 ((gq_bst A B c n a b t).2 * 12 + a) ∧ (gq_bst A B c n a b t).1 < 1000000 ∧ ∀ m, 1 ≤ m → m < (gq_bst A B c n a b t).2 → (gq_bst A B c n a b t).1 < gq_F A B c n a b 5 (m * 12 + a)) := by
    intro t
    induction t with
    | zero => intro _; exact ⟨fun m h1 h2 => by omega, fun _ => rfl, fun h => absurd rfl h⟩
    | succ t ih =>
      intro ht
      obtain ⟨i1, i2, i3⟩ := ih (by omega)
      have hle := (gq_bst_le A B c n a b t)
      rw [gq_bst]
      rw [← st (t + 1) a (by omega) ha]
      by_cases h : gq_F A B c n a b 5 ((t + 1) * 12 + a) < (gq_bst A B c n a b t).1
      · rw [if_pos h]
        refine ⟨fun m h1 h2 => ?_, fun h0 => ?_, fun _ => ⟨rfl, ?_, fun m h1 h2 => ?_⟩⟩
        · by_cases e : m = t + 1
          · subst e
            exact Nat.le_refl _
          · have := i1 m h1 (by omega)
            show gq_F A B c n a b 5 ((t + 1) * 12 + a) ≤ _
            omega
        · exact absurd h0 (by show t + 1 ≠ 0; omega)
        · show gq_F A B c n a b 5 ((t + 1) * 12 + a) < _
          omega
        · have h2 : m < t + 1 := h2
          have := i1 m h1 (by omega)
          show gq_F A B c n a b 5 ((t + 1) * 12 + a) < _
          omega
      · rw [if_neg h]
        refine ⟨fun m h1 h2 => ?_, i2, i3⟩
        by_cases e : m = t + 1
        · subst e
          omega
        · exact i1 m h1 (by omega)
  obtain ⟨k1, k2, k3⟩ := key 5 (Nat.le_refl _)
  exact ⟨(gq_bst_le A B c n a b 5).2, k1, k2, k3⟩
end GqNetF

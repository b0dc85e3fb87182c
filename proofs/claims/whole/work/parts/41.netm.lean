/-! ===== THE NET: least costs by number of legs against the fixed point ===== -/
def gq_jn (A B : Nat → Nat) (k v w : Nat) : Prop := (A k = v ∧ B k = w) ∨ (B k = v ∧ A k = w)
/-- L m v: the least cost of m legs from v to b -/
def gq_isL (n : Nat) (A B c : Nat → Nat) (a b : Nat) (L : Nat → Nat → Nat) : Prop :=
  (∀ m v, L m v ≤ 1000000) ∧ (∀ v, v < 12 → L 0 v = if v = b then 0 else 1000000) ∧
  (∀ m v k w, m < 5 → v < 12 → k < n → gq_jn A B k v w → (v = a ∨ 8 ≤ v) → w ≠ a → L (m + 1) v ≤ c k + L m w) ∧
  (∀ m v, m < 5 → v < 12 → L (m + 1) v = 1000000 ∨ ∃ k w, k < n ∧ gq_jn A B k v w ∧ (v = a ∨ 8 ≤ v) ∧ w ≠ a ∧ L (m + 1) v = c k + L m w)
/-- D: the fixed point of the reference -/
def gq_isD (n : Nat) (A B c : Nat → Nat) (b : Nat) (D : Nat → Nat) : Prop :=
  D b = 0 ∧ (∀ v, v < 12 → D v ≤ 100000000) ∧
  (∀ v, v < 12 → v ≠ b → D v < 100000000 → ∃ k w, k < n ∧ gq_jn A B k v w ∧ (w = b ∨ 8 ≤ w) ∧ D v = D w + (100 * c k + 1)) ∧
  (∀ v k w, v < 12 → k < n → gq_jn A B k v w → (w = b ∨ 8 ≤ w) → D v ≤ D w + (100 * c k + 1))
section GqNetM
variable {n : Nat} {A B c : Nat → Nat} {a b : Nat} {L : Nat → Nat → Nat} {D : Nat → Nat}
theorem gq_jn_lt (hAB : ∀ k, k < n → A k < 12 ∧ B k < 12) {k v w : Nat} (hk : k < n) (h : gq_jn A B k v w) : w < 12 := by
  have := hAB k hk
  rcases h with ⟨h1, h2⟩ | ⟨h1, h2⟩ <;> omega
/-- where a way of m legs ends -/
theorem gq_L_node (hL : gq_isL n A B c a b L) {m v : Nat} (hm : m ≤ 5) (hv : v < 12) (h : L m v < 1000000) : (m = 0 ∧ v = b) ∨ (1 ≤ m ∧ (v = a ∨ 8 ≤ v)) := by
  obtain ⟨h1, h2, h3, h4⟩ := hL
  cases m with
  | zero =>
    rw [h2 v hv] at h
    split at h
    · left; omega
    · omega
  | succ m =>
    rcases h4 m v (by omega) hv with e | ⟨k, w, -, -, e, -⟩
    · omega
    · right; exact ⟨by omega, e⟩
theorem gq_D_le (hAB : ∀ k, k < n → A k < 12 ∧ B k < 12) (hL : gq_isL n A B c a b L) (hD : gq_isD n A B c b D) : ∀ m v, m ≤ 5 → v < 12 → L m v < 1000000 → D v ≤ 100 * L m v + m := by
  intro m
  induction m with
  | zero =>
    intro v _ hv h
    rcases gq_L_node hL (by omega) hv h with ⟨-, e⟩ | ⟨e, -⟩
    · subst e
      rw [hD.1]
      omega
    · omega
  | succ m ih =>
    intro v hm hv h
    rcases hL.2.2.2 m v (by omega) hv with e | ⟨k, w, hk, hj, hva, hwa, e⟩
    · omega
    · have hw := gq_jn_lt hAB hk hj
      have hLw : L m w < 1000000 := by omega
      have hok : w = b ∨ 8 ≤ w := by
        rcases gq_L_node hL (by omega) hw hLw with ⟨-, e⟩ | ⟨-, e | e⟩
        · exact Or.inl e
        · exact absurd e hwa
        · exact Or.inr e
      have h1 := ih w (by omega) hw hLw
      have h2 := hD.2.2.2 v k w hv hk hj hok
      omega
/-- how many junctions lie nearer -/
def gq_rk (D : Nat → Nat) (x : Nat) : Nat := (if D 8 < x then 1 else 0) + (if D 9 < x then 1 else 0) + (if D 10 < x then 1 else 0) + (if D 11 < x then 1 else 0)
theorem gq_rk_le (D : Nat → Nat) (x : Nat) : gq_rk D x ≤ 4 := by
  unfold gq_rk
  repeat' split
  all_goals omega
theorem gq_rk_lt {D : Nat → Nat} {w x : Nat} (h8 : 8 ≤ w) (h12 : w < 12) (h : D w < x) : gq_rk D (D w) < gq_rk D x := by
  unfold gq_rk
  rcases (show w = 8 ∨ w = 9 ∨ w = 10 ∨ w = 11 by omega) with rfl | rfl | rfl | rfl
  all_goals
    repeat' split
    all_goals omega
theorem gq_D_ge (ha : a < 8) (hb : b < 8) (hab : a ≠ b) (hAB : ∀ k, k < n → A k < 12 ∧ B k < 12) (hL : gq_isL n A B c a b L) (hD : gq_isD n A B c b D) : ∀ x v, D v = x → v < 12 → (v = b ∨ v = a ∨ 8 ≤ v) → D v < 100000000 → ∃ m y, m ≤ gq_rk D (D v) + 1 ∧ (m = 0 ↔ v = b) ∧ D v = 100 * y + m ∧ L m v ≤ y := by
  intro x
  induction x using Nat.strongRecOn with
  | ind x ih =>
    intro v hx hv hn hlt
    by_cases e : v = b
    · subst e
      refine ⟨0, 0, by omega, by simp, ?_, ?_⟩
      · rw [hD.1]
      · rw [hL.2.1 v hv, if_pos rfl]
        exact Nat.le_refl _
    · obtain ⟨k, w, hk, hj, hok, he⟩ := hD.2.2.1 v hv e hlt
      have hw := gq_jn_lt hAB hk hj
      have hwa : w ≠ a := by omega
      have hva : v = a ∨ 8 ≤ v := by omega
      obtain ⟨m, y, h1, h2, h3, h4⟩ := ih (D w) (by omega) w rfl hw (by omega) (by omega)
      have hr4 := gq_rk_le D (D v)
      have hm : m + 1 ≤ gq_rk D (D v) + 1 := by
        by_cases ew : w = b
        · have := h2.mpr ew
          omega
        · have := gq_rk_lt (D := D) (w := w) (x := D v) (by omega) hw (by omega)
          omega
      refine ⟨m + 1, c k + y, hm, by omega, by omega, ?_⟩
      have := hL.2.2.1 m v k w (by omega) hv hk hj hva hwa
      omega
/-- what find tells: the least cost, the fewest legs of it -/
def gq_isB (a : Nat) (L : Nat → Nat → Nat) (best st : Nat) : Prop :=
  st ≤ 5 ∧ (∀ m, 1 ≤ m → m ≤ 5 → best ≤ L m a) ∧ (st = 0 → best = 1000000) ∧ (st ≠ 0 → best = L st a ∧ best < 1000000 ∧ ∀ m, 1 ≤ m → m < st → best < L m a)
theorem gq_D_best (ha : a < 8) (hb : b < 8) (hab : a ≠ b) (hAB : ∀ k, k < n → A k < 12 ∧ B k < 12) (hL : gq_isL n A B c a b L) (hD : gq_isD n A B c b D) {best st : Nat} (hB : gq_isB a L best st) : (st = 0 → ¬ D a < 100000000) ∧ (st ≠ 0 → D a = 100 * best + st ∧ D a < 100000000) := by
  obtain ⟨b1, b2, b3, b4⟩ := hB
  have key : D a < 100000000 → ∃ m y, 1 ≤ m ∧ m ≤ 5 ∧ D a = 100 * y + m ∧ L m a ≤ y := by
    intro h
    obtain ⟨m, y, h1, h2, h3, h4⟩ := gq_D_ge ha hb hab hAB hL hD _ a rfl (by omega) (Or.inr (Or.inl rfl)) h
    have := gq_rk_le D (D a)
    refine ⟨m, y, ?_, by omega, h3, h4⟩
    by_cases e : m = 0
    · exact absurd (h2.mp e) hab
    · omega
  constructor
  · intro h0 hlt
    obtain ⟨m, y, h1, h2, h3, h4⟩ := key hlt
    have := b2 m h1 h2
    have := b3 h0
    omega
  · intro h0
    obtain ⟨e1, e2, e3⟩ := b4 h0
    have h5 := gq_D_le hAB hL hD st a b1 (by omega) (by omega)
    have hlt : D a < 100000000 := by omega
    obtain ⟨m, y, h1, h2, h3, h4⟩ := key hlt
    have h6 := b2 m h1 h2
    refine ⟨?_, hlt⟩
    by_cases hms : m < st
    · have := e3 m h1 hms
      omega
    · omega
/-- the leg that both take -/
theorem gq_leg_iff (ha : a < 8) (hb : b < 8) (hab : a ≠ b) (hAB : ∀ k, k < n → A k < 12 ∧ B k < 12) (hL : gq_isL n A B c a b L) (hD : gq_isD n A B c b D) {m v k w : Nat} (hm : m < 5) (hv : v < 12) (hva : v = a ∨ 8 ≤ v) (he : D v = 100 * L (m + 1) v + (m + 1)) (hlt : L (m + 1) v < 1000000) (hk : k < n) (hj : gq_jn A B k v w) :
    ((w ≠ a ∧ c k + L m w = L (m + 1) v) ↔ ((w = b ∨ 8 ≤ w) ∧ D w + (100 * c k + 1) = D v)) ∧ ((w ≠ a ∧ c k + L m w = L (m + 1) v) → L m w < 1000000 ∧ D w = 100 * L m w + m ∧ (w = b ∨ 8 ≤ w)) := by
  have hw := gq_jn_lt hAB hk hj
  have fwd : (w ≠ a ∧ c k + L m w = L (m + 1) v) → L m w < 1000000 ∧ D w = 100 * L m w + m ∧ (w = b ∨ 8 ≤ w) := by
    rintro ⟨h1, h2⟩
    have hLw : L m w < 1000000 := by omega
    have hok : w = b ∨ 8 ≤ w := by
      rcases gq_L_node hL (by omega) hw hLw with ⟨-, e⟩ | ⟨-, e | e⟩
      · exact Or.inl e
      · exact absurd e h1
      · exact Or.inr e
    have h3 := gq_D_le hAB hL hD m w (by omega) hw hLw
    have h4 := hD.2.2.2 v k w hv hk hj hok
    exact ⟨hLw, by omega, hok⟩
  refine ⟨⟨fun h => ?_, ?_⟩, fwd⟩
  · obtain ⟨h3, h4, h5⟩ := fwd h
    exact ⟨h5, by omega⟩
  · rintro ⟨hok, h2⟩
    have hwa : w ≠ a := by omega
    obtain ⟨m', y, h3, h4, h5, h6⟩ := gq_D_ge ha hb hab hAB hL hD _ w rfl hw (by omega) (by omega)
    have := gq_rk_le D (D w)
    have h7 := hL.2.2.1 m v k w hm hv hk hj hva hwa
    have hmm : m' = m := by omega
    subst hmm
    exact ⟨hwa, by omega⟩
end GqNetM

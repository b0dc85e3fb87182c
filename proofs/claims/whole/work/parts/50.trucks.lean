/-! ===== INTS BELOW ZERO, BITS ===== -/
def gq_Z (z : Int) : Int32 := Int32.ofInt z
theorem gq_Z_n (n : Nat) : gq_Z (n : Int) = nI n := Int32.ofInt_eq_ofNat
theorem gq_Z_add (a b : Int) : gq_Z a + gq_Z b = gq_Z (a + b) := (Int32.ofInt_add a b).symm
theorem gq_Z_sub (a b : Int) : gq_Z a - gq_Z b = gq_Z (a - b) := (Int32.ofInt_sub a b).symm
theorem gq_Z_mul (a b : Int) : gq_Z a * gq_Z b = gq_Z (a * b) := (Int32.ofInt_mul a b).symm
theorem gq_Z_neg (a : Int) : -gq_Z a = gq_Z (-a) := (Int32.ofInt_neg a).symm
theorem gq_Z_toInt {z : Int} (h1 : -2147483648 ≤ z) (h2 : z < 2147483648) : (gq_Z z).toInt = z := Int32.toInt_ofInt_of_le h1 h2
section GqZ
variable {a b : Int}
theorem gq_Z_lt (h1 : -2147483648 ≤ a) (h2 : a < 2147483648) (h3 : -2147483648 ≤ b) (h4 : b < 2147483648) : gh_cmp .lt (gq_Z a) (gq_Z b) = decide (a < b) := by rw [gh_c_lt, gq_Z_toInt h1 h2, gq_Z_toInt h3 h4]
theorem gq_Z_ge (h1 : -2147483648 ≤ a) (h2 : a < 2147483648) (h3 : -2147483648 ≤ b) (h4 : b < 2147483648) : gh_cmp .ge (gq_Z a) (gq_Z b) = decide (b ≤ a) := by rw [gh_c_ge, gq_Z_toInt h1 h2, gq_Z_toInt h3 h4]
theorem gq_Z_eq (h1 : -2147483648 ≤ a) (h2 : a < 2147483648) (h3 : -2147483648 ≤ b) (h4 : b < 2147483648) : gh_cmp .eq (gq_Z a) (gq_Z b) = decide (a = b) := by rw [gh_c_eq, gq_Z_toInt h1 h2, gq_Z_toInt h3 h4]
theorem gq_Z_ne (h1 : -2147483648 ≤ a) (h2 : a < 2147483648) (h3 : -2147483648 ≤ b) (h4 : b < 2147483648) : gh_cmp .ne (gq_Z a) (gq_Z b) = decide (a ≠ b) := by rw [gh_c_ne, gq_Z_toInt h1 h2, gq_Z_toInt h3 h4]
theorem gq_Z_max (h1 : -2147483648 ≤ a) (h2 : a < 2147483648) (h3 : -2147483648 ≤ b) (h4 : b < 2147483648) : gh_max (gq_Z a) (gq_Z b) = gq_Z (max a b) := by
  unfold gh_max
  by_cases h : a < b
  · rw [if_pos (Int32.lt_iff_toInt_lt.mpr (by rw [gq_Z_toInt h1 h2, gq_Z_toInt h3 h4]; exact h)), Int.max_def, if_pos (by omega)]
  · rw [if_neg (fun q => h (by have := Int32.lt_iff_toInt_lt.mp q; rw [gq_Z_toInt h1 h2, gq_Z_toInt h3 h4] at this; exact this)), Int.max_def]
    by_cases e : a = b
    · rw [if_pos (by omega), e]
    · rw [if_neg (by omega)]
end GqZ
theorem gq_max_n {a b : Nat} (ha : a < 2 ^ 31) (hb : b < 2 ^ 31) : gh_max (nI a) (nI b) = nI (max a b) := by
  unfold gh_max
  by_cases h : a < b
  · rw [if_pos ((nI_ltI ha hb).mpr h), Nat.max_eq_right (by omega)]
  · rw [if_neg (fun q => h ((nI_ltI ha hb).mp q)), Nat.max_eq_left (by omega)]
theorem gq_min_n {a b : Nat} (ha : a < 2 ^ 31) (hb : b < 2 ^ 31) : gh_min (nI a) (nI b) = nI (min a b) := by
  unfold gh_min
  by_cases h : b < a
  · rw [if_pos ((nI_ltI hb ha).mpr h), Nat.min_eq_right (by omega)]
  · rw [if_neg (fun q => h ((nI_ltI hb ha).mp q)), Nat.min_eq_left (by omega)]
/-! ===== TRUCKS: both sides ===== -/
/-- the first n trucks, heaviest first -/
def gr_hv (we hv : Nat → Nat) (n : Nat) : Prop := ((List.range n).map hv).Perm (List.range n) ∧ ∀ i j, i < j → j < n → we (hv j) ≤ we (hv i)
def gr_RS (S : gh_St) (n : Nat) (mi ki we : Nat → Nat) (u c : Nat) : Prop :=
  n ≤ 7 ∧ 1 ≤ u ∧ u ≤ 60 ∧ c ≤ 60 ∧ S.1 18 7 = nI n ∧ S.1 56 19 = nI n ∧ S.1 18 8 = nI u ∧ S.1 56 23 = nI u ∧ S.1 18 9 = nI c ∧ S.1 56 24 = nI c ∧ ∀ k, k < 7 → S.1 19 k = nI (mi k) ∧ S.1 69 k = nI (mi k) ∧ S.1 20 k = nI (ki k) ∧ S.1 70 k = nI (ki k) ∧ S.1 21 k = nI (we k) ∧ S.1 71 k = nI (we k) ∧ mi k ≤ 999 ∧ ki k ≤ 3 ∧ we k ≤ 9
/-- the places of the trucks -/
def gr_C (c k : Nat) : Bool := (Nat.ble 18 c && Nat.ble c 25) || (Nat.ble 69 c && Nat.ble c 71) || (Nat.beq c 85 || Nat.beq c 86) || (Nat.beq c 56 && (Nat.beq k 19 || Nat.beq k 23 || Nat.beq k 24 || Nat.beq k 52))
/-- places that no truck's row is kept in -/
def gr_CW (c k : Nat) : Bool := (Nat.ble 23 c && Nat.ble c 25) || (Nat.beq c 18 && (Nat.beq k 10 || Nat.beq k 11)) || (Nat.beq c 85 || Nat.beq c 86) || (Nat.beq c 56 && Nat.beq k 52)
theorem gr_C_CW : ∀ c k, gr_CW c k = true → gr_C c k = true := by
  intro c k h
  unfold gr_CW at h
  unfold gr_C
  simp only [Bool.or_eq_true, Bool.and_eq_true, Nat.beq_eq, Nat.ble_eq] at h ⊢
  omega
theorem gr_RS_fr {S S' : gh_St} {n : Nat} {mi ki we : Nat → Nat} {u c : Nat} (h : gr_RS S n mi ki we u c) (hf : gh_fr gr_CW S S') : gr_RS S' n mi ki we u c := by
  obtain ⟨h1, h2, h3, h4, h5, h6, h7, h8, h9, h10, h11⟩ := h
  refine ⟨h1, h2, h3, h4, (hf.1 _ _ rfl).trans h5, (hf.1 _ _ rfl).trans h6, (hf.1 _ _ rfl).trans h7, (hf.1 _ _ rfl).trans h8, (hf.1 _ _ rfl).trans h9, (hf.1 _ _ rfl).trans h10, fun k hk => ?_⟩
  obtain ⟨a1, a2, a3, a4, a5, a6, a7, a8, a9⟩ := h11 k hk
  exact ⟨(hf.1 _ _ rfl).trans a1, (hf.1 _ _ rfl).trans a2, (hf.1 _ _ rfl).trans a3, (hf.1 _ _ rfl).trans a4, (hf.1 _ _ rfl).trans a5, (hf.1 _ _ rfl).trans a6, a7, a8, a9⟩
/-- S' is S but for cell 22 -/
theorem gr_sort2 (N : Nat) {n t : Nat} {we hv : Nat → Nat} (hn : n < 7) (ht : t < 7) (hw : ∀ k, k < 7 → we k ≤ 9) (hh : ∀ k, k < n → hv k < 7) : ∀ (fu p : Nat) (S : gh_St), p ≤ n → p < fu → (∀ k, k < 7 → S.1 21 k = nI (we k)) → (∀ k, k < p → S.1 22 k = nI (hv k)) → (∀ k, p ≤ k → k < n → S.1 22 (k + 1) = nI (hv k) ∧ we (hv k) < we t) → ∃ p' S', sX7_sortIn_2 N fu (nI t) (nI p) S = some S' ∧ p' ≤ n ∧ gh_fr (fun c _ => Nat.beq c 22) S S' ∧ (∀ k, k < p' → S'.1 22 k = nI (hv k)) ∧ S'.1 22 p' = nI t ∧ (∀ k, p' ≤ k → k < n → S'.1 22 (k + 1) = nI (hv k) ∧ we (hv k) < we t) ∧ (0 < p' → we t ≤ we (hv (p' - 1))) := by
  intro fu
  induction fu with
  | zero => intro p S _ h; omega
  | succ fu ih =>
    intro p S hp hfu h21 hlo hhi
    have hdone : (0 < p → we t ≤ we (hv (p - 1))) → ∃ p' S', sX7_sortIn_48 N (nI t) (nI p) S = some S' ∧ p' ≤ n ∧ gh_fr (fun c _ => Nat.beq c 22) S S' ∧ (∀ k, k < p' → S'.1 22 k = nI (hv k)) ∧ S'.1 22 p' = nI t ∧ (∀ k, p' ≤ k → k < n → S'.1 22 (k + 1) = nI (hv k) ∧ we (hv k) < we t) ∧ (0 < p' → we t ≤ we (hv (p' - 1))) := by
      intro hlast
      refine ⟨p, gh_fI S 22 p (nI t), ?_, hp, gh_fr_fI (gh_fr_refl _ _) rfl, fun k hk => ?_, ?_, fun k hk hk2 => ?_, hlast⟩
      · unfold sX7_sortIn_48
        rw [gh_wa_n (by omega) (by decide)]
        rfl
      · rw [gh_fI_1, if_neg (by omega)]
        exact hlo k hk
      · rw [gh_fI_1, if_pos ⟨rfl, rfl⟩]
      · rw [gh_fI_1, if_neg (by omega)]
        exact hhi k hk hk2
    rw [sX7_sortIn_2, show (0 : Int32) = nI 0 from rfl, gh_n_le (by omega) (by omega)]
    by_cases h0 : p = 0
    · rw [decide_eq_true (by omega), cond_true]
      exact hdone (by omega)
    · obtain ⟨q, rfl⟩ : ∃ q, p = q + 1 := ⟨p - 1, by omega⟩
      have hq7 : hv q < 7 := hh q (by omega)
      rw [decide_eq_false (by omega), cond_false, nI_pred, gh_ra_n (by omega) (by decide), gq_bs, hlo q (by omega), gh_ra_n hq7 (by decide), gq_bs, gh_ra_n ht (by decide), gq_bs, h21 _ hq7, h21 _ ht]
      have b1 := hw _ hq7
      have b2 := hw _ ht
      rw [gh_n_ge (by omega) (by omega)]
      by_cases hc : we t ≤ we (hv q)
      · rw [decide_eq_true hc, cond_true]
        exact hdone (fun _ => hc)
      · rw [decide_eq_false hc, cond_false, gq_bs, gh_wa_n (by omega) (by decide), gq_bs, pk_m1]
        obtain ⟨p', S', i1, i2, i3, i4, i5, i6, i7⟩ := ih q (gh_fI S 22 (q + 1) (nI (hv q))) (by omega) (by omega) (fun k hk => by rw [gh_fI_1, if_neg (by omega)]; exact h21 k hk) (fun k hk => by rw [gh_fI_1, if_neg (by omega)]; exact hlo k (by omega)) (fun k hk hk2 => by
          by_cases e : k = q
          · subst e
            rw [gh_fI_1, if_pos ⟨rfl, rfl⟩]
            exact ⟨rfl, by omega⟩
          · rw [gh_fI_1, if_neg (by omega)]
            exact hhi k (by omega) hk2)
        exact ⟨p', S', i1, i2, gh_fr_trans (gh_fr_fI (gh_fr_refl _ _) rfl) i3, i4, i5, i6, i7⟩
theorem gr_hv_lt {we hv : Nat → Nat} {n : Nat} (h : gr_hv we hv n) {k : Nat} (hk : k < n) : hv k < n := by
  have h1 : hv k ∈ (List.range n).map hv := List.mem_map.mpr ⟨k, List.mem_range.mpr hk, rfl⟩
  exact List.mem_range.mp (h.1.mem_iff.mp h1)
theorem gr_hv_in {we we' hv hv' : Nat → Nat} {n p : Nat} (h : gr_hv we hv n) (hp : p ≤ n) (h1 : ∀ k, k < p → hv' k = hv k) (h2 : hv' p = n) (h3 : ∀ k, p ≤ k → k < n → hv' (k + 1) = hv k ∧ we' (hv k) < we' n) (h4 : 0 < p → we' n ≤ we' (hv (p - 1))) (hw : ∀ k, k < n → we' k = we k) : gr_hv we' hv' (n + 1) := by
  have hl : (List.range (n + 1)).map hv' = ((List.range n).map hv).take p ++ n :: ((List.range n).map hv).drop p := by
    refine List.ext_getElem ?_ ?_
    · simp
      omega
    · intro i a1 a2
      simp only [List.length_map, List.length_range] at a1
      rw [List.getElem_map, List.getElem_range]
      by_cases c1 : i < p
      · rw [List.getElem_append_left (by simp; omega)]
        simp [h1 i c1]
      · rw [List.getElem_append_right (by simp; omega)]
        simp only [List.length_take, List.length_map, List.length_range]
        by_cases c2 : i = p
        · subst c2
          have e : i - min i n = 0 := by omega
          simp only [e, List.getElem_cons_zero]
          exact h2
        · obtain ⟨j, rfl⟩ : ∃ j, i = j + 1 := ⟨i - 1, by omega⟩
          have e : j + 1 - min p n = (j - p) + 1 := by omega
          simp only [e, List.getElem_cons_succ, List.getElem_drop, List.getElem_map, List.getElem_range]
          rw [(h3 j (by omega) (by omega)).1]
          exact congrArg hv (by omega)
  have hlt : ∀ k, k < n → we' (hv k) = we (hv k) := fun k hk => hw _ (gr_hv_lt h hk)
  refine ⟨?_, ?_⟩
  · rw [hl]
    refine List.perm_middle.trans ?_
    rw [List.take_append_drop, List.range_succ]
    exact (List.Perm.cons n h.1).trans (List.perm_append_singleton n (List.range n)).symm
  · have hs : ∀ i j, i < j → j < n → we' (hv j) ≤ we' (hv i) := fun i j hij hj => by
      rw [hlt i (by omega), hlt j hj]
      exact h.2 i j hij hj
    have hlo : ∀ i, i < p → we' n ≤ we' (hv i) := fun i hi => by
      have := h4 (by omega)
      by_cases e : i = p - 1
      · rw [e]
        exact this
      · exact Nat.le_trans this (hs i (p - 1) (by omega) (by omega))
    intro i j hij hj
    by_cases c1 : j < p
    · rw [h1 i (by omega), h1 j c1]
      exact hs i j hij (by omega)
    · by_cases c2 : j = p
      · rw [c2, h2, h1 i (by omega)]
        exact hlo i (by omega)
      · obtain ⟨j', rfl⟩ : ∃ j', j = j' + 1 := ⟨j - 1, by omega⟩
        obtain ⟨e1, e2⟩ := h3 j' (by omega) (by omega)
        rw [e1]
        by_cases c3 : i < p
        · rw [h1 i c3]
          exact hs i j' (by omega) (by omega)
        · by_cases c4 : i = p
          · rw [c4, h2]
            exact Nat.le_of_lt e2
          · obtain ⟨i', rfl⟩ : ∃ i', i = i' + 1 := ⟨i - 1, by omega⟩
            rw [(h3 i' (by omega) (by omega)).1]
            exact hs i' j' (by omega) (by omega)

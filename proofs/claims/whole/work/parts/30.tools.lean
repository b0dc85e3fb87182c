/-! ===== TOOLS OF THE PURE PROOF ===== -/
theorem gh_c_lt (x y : Int32) : gh_cmp .lt x y = decide (x.toInt < y.toInt) := decide_eq_decide.mpr Int32.lt_iff_toInt_lt
theorem gh_c_le (x y : Int32) : gh_cmp .le x y = decide (x.toInt ≤ y.toInt) := decide_eq_decide.mpr Int32.le_iff_toInt_le
theorem gh_c_gt (x y : Int32) : gh_cmp .gt x y = decide (y.toInt < x.toInt) := decide_eq_decide.mpr Int32.lt_iff_toInt_lt
theorem gh_c_ge (x y : Int32) : gh_cmp .ge x y = decide (y.toInt ≤ x.toInt) := decide_eq_decide.mpr Int32.le_iff_toInt_le
theorem gh_c_eq (x y : Int32) : gh_cmp .eq x y = decide (x.toInt = y.toInt) := decide_eq_decide.mpr Int32.toInt_inj.symm
theorem gh_c_ne (x y : Int32) : gh_cmp .ne x y = decide (x.toInt ≠ y.toInt) := decide_eq_decide.mpr (not_congr Int32.toInt_inj.symm)
theorem gq_nd {p q : Prop} [Decidable p] [Decidable q] (h : p ↔ ¬ q) : decide p = !decide q := by
  by_cases hq : q
  · rw [decide_eq_true hq, decide_eq_false (fun x => h.mp x hq)]
    rfl
  · rw [decide_eq_false hq, decide_eq_true (h.mpr hq)]
    rfl
/-! of numbers -/
section GhNum
variable {a b : Nat}
theorem gh_n_lt (ha : a < 2 ^ 31) (hb : b < 2 ^ 31) : gh_cmp .lt (nI a) (nI b) = decide (a < b) := decide_eq_decide.mpr (nI_ltI ha hb)
theorem gh_n_le (ha : a < 2 ^ 31) (hb : b < 2 ^ 31) : gh_cmp .le (nI a) (nI b) = decide (a ≤ b) := decide_eq_decide.mpr (nI_leI ha hb)
theorem gh_n_gt (ha : a < 2 ^ 31) (hb : b < 2 ^ 31) : gh_cmp .gt (nI a) (nI b) = decide (b < a) := decide_eq_decide.mpr (nI_ltI hb ha)
theorem gh_n_ge (ha : a < 2 ^ 31) (hb : b < 2 ^ 31) : gh_cmp .ge (nI a) (nI b) = decide (b ≤ a) := decide_eq_decide.mpr (nI_leI hb ha)
theorem gh_n_eq (ha : a < 2 ^ 31) (hb : b < 2 ^ 31) : gh_cmp .eq (nI a) (nI b) = decide (a = b) := decide_eq_decide.mpr (nI_eq ha hb)
theorem gh_n_ne (ha : a < 2 ^ 31) (hb : b < 2 ^ 31) : gh_cmp .ne (nI a) (nI b) = decide (a ≠ b) := decide_eq_decide.mpr (not_congr (nI_eq ha hb))
end GhNum
theorem gh_lg_lt (x y : Int64) : gh_cmp .lt (lg_cmp x y) 0 = decide (x.toInt < y.toInt) := by
  unfold lg_cmp
  by_cases h1 : x > y
  · rw [if_pos h1]
    have := Int64.lt_iff_toInt_lt.mp h1
    symm
    exact decide_eq_false (by omega)
  · rw [if_neg h1]
    by_cases h2 : x = y
    · rw [if_pos h2, h2]
      symm
      exact decide_eq_false (by omega)
    · rw [if_neg h2]
      have h3 : ¬ y.toInt < x.toInt := fun q => h1 (Int64.lt_iff_toInt_lt.mpr q)
      have h4 : x.toInt ≠ y.toInt := fun q => h2 (Int64.toInt_inj.mp q)
      symm
      exact decide_eq_true (by omega)
theorem gh_lg_gt (x y : Int64) : gh_cmp .gt (lg_cmp x y) 0 = decide (y.toInt < x.toInt) := by
  unfold lg_cmp
  by_cases h1 : x > y
  · rw [if_pos h1]
    have := Int64.lt_iff_toInt_lt.mp h1
    symm
    exact decide_eq_true (by omega)
  · rw [if_neg h1]
    have h3 : ¬ y.toInt < x.toInt := fun q => h1 (Int64.lt_iff_toInt_lt.mpr q)
    by_cases h2 : x = y
    · rw [if_pos h2]
      symm
      exact decide_eq_false (by omega)
    · rw [if_neg h2]
      symm
      exact decide_eq_false (by omega)
theorem gh_lg_ge (x y : Int64) : gh_cmp .ge (lg_cmp x y) 0 = decide (y.toInt ≤ x.toInt) := by
  have h := gh_lg_lt x y
  have e : gh_cmp .ge (lg_cmp x y) 0 = !gh_cmp .lt (lg_cmp x y) 0 := by
    rw [gh_c_ge, gh_c_lt]
    exact gq_nd (by omega)
  rw [e, h]
  exact (gq_nd (by omega)).symm
theorem gh_lg_le (x y : Int64) : gh_cmp .le (lg_cmp x y) 0 = decide (x.toInt ≤ y.toInt) := by
  have h := gh_lg_gt x y
  have e : gh_cmp .le (lg_cmp x y) 0 = !gh_cmp .gt (lg_cmp x y) 0 := by
    rw [gh_c_le, gh_c_gt]
    exact gq_nd (by omega)
  rw [e, h]
  exact (gq_nd (by omega)).symm
theorem gh_lg_eq (x y : Int64) : gh_cmp .eq (lg_cmp x y) 0 = decide (x.toInt = y.toInt) := by
  have h1 := gh_lg_le x y
  have h2 := gh_lg_ge x y
  have e : gh_cmp .eq (lg_cmp x y) 0 = (gh_cmp .le (lg_cmp x y) 0 && gh_cmp .ge (lg_cmp x y) 0) := by
    rw [gh_c_le, gh_c_ge, gh_c_eq, ← Bool.decide_and]
    exact decide_eq_decide.mpr (by omega)
  rw [e, h1, h2, ← Bool.decide_and]
  exact decide_eq_decide.mpr (by omega)
theorem gh_lg_ne (x y : Int64) : gh_cmp .ne (lg_cmp x y) 0 = decide (x.toInt ≠ y.toInt) := by
  have h1 := gh_lg_eq x y
  have e : gh_cmp .ne (lg_cmp x y) 0 = !gh_cmp .eq (lg_cmp x y) 0 := by
    rw [gh_c_ne, gh_c_eq]
    exact gq_nd (by omega)
  rw [e, h1]
  exact (gq_nd (by omega)).symm
/-! truth values as ints -/
def gq_B (b : Bool) : Int32 := bif b then 1 else 0
theorem gq_B_eq (b : Bool) : gh_cmp .eq (gq_B b) 0 = !b := by cases b <;> rfl
theorem gq_B_ne (b : Bool) : gh_cmp .ne (gq_B b) 0 = b := by cases b <;> rfl
theorem gq_B_gB (b : Bool) : gh_gB (gq_B b) = some (gq_B b) := by cases b <;> rfl
theorem gq_B_isB (b : Bool) : gh_isB (gq_B b) = true := by cases b <;> rfl
theorem gq_B_nar (b : Bool) : vp_nar .boolean (gq_B b) = gq_B b := by cases b <;> decide
def gh_rg (x lo hi : Int) : Bool := decide (lo ≤ x ∧ x ≤ hi)
theorem gh_rg_iff {x lo hi : Int} : gh_rg x lo hi = true ↔ lo ≤ x ∧ x ≤ hi := decide_eq_true_iff
theorem gh_rg_not {x lo hi : Int} : gh_rg x lo hi = false ↔ ¬ (lo ≤ x ∧ x ≤ hi) := decide_eq_false_iff_not
theorem gh_within (N : Nat) (x lo hi : Int32) (S : gh_St) : sX9_within N x lo hi S = some (gq_B (gh_rg x.toInt lo.toInt hi.toInt), S) := by
  unfold sX9_within
  rw [gh_c_lt, gh_c_gt]
  unfold gh_rg
  by_cases h1 : x.toInt < lo.toInt
  · rw [decide_eq_true h1, decide_eq_false (p := lo.toInt ≤ x.toInt ∧ x.toInt ≤ hi.toInt) (by omega)]
    rfl
  · rw [decide_eq_false h1]
    by_cases h2 : hi.toInt < x.toInt
    · rw [decide_eq_true h2, decide_eq_false (by omega)]
      rfl
    · rw [decide_eq_false h2, decide_eq_true (by omega)]
      rfl
theorem gh_inR (N : Nat) (x lo hi : Int64) (S : gh_St) : sX10_in N x lo hi S = some (gq_B (gh_rg x.toInt lo.toInt hi.toInt), S) := by
  unfold sX10_in
  rw [gh_lg_lt, gh_lg_gt]
  unfold gh_rg
  by_cases h1 : x.toInt < lo.toInt
  · rw [decide_eq_true h1, decide_eq_false (p := lo.toInt ≤ x.toInt ∧ x.toInt ≤ hi.toInt) (by omega)]
    rfl
  · rw [decide_eq_false h1]
    by_cases h2 : hi.toInt < x.toInt
    · rw [decide_eq_true h2, decide_eq_false (by omega)]
      rfl
    · rw [decide_eq_false h2, decide_eq_true (by omega)]
      rfl
theorem gh_isBin9 (N : Nat) (x : Int32) (S : gh_St) : sX9_isBin N x S = some (gq_B (gh_rg x.toInt 0 7), S) := by
  unfold sX9_isBin
  rw [gh_within]
  show (gh_gB (gq_B (gh_rg x.toInt 0 7))).bind _ = _
  rw [gq_B_gB]
  rfl
theorem gh_isKind9 (N : Nat) (x : Int32) (S : gh_St) : sX9_isKind N x S = some (gq_B (gh_rg x.toInt 0 3), S) := by
  unfold sX9_isKind
  rw [gh_within]
  show (gh_gB (gq_B (gh_rg x.toInt 0 3))).bind _ = _
  rw [gq_B_gB]
  rfl
theorem gh_isFarmer9 (N : Nat) (x : Int32) (S : gh_St) : sX9_isFarmer N x S = some (gq_B (gh_rg x.toInt 0 9), S) := by
  unfold sX9_isFarmer
  rw [gh_within]
  show (gh_gB (gq_B (gh_rg x.toInt 0 9))).bind _ = _
  rw [gq_B_gB]
  rfl
theorem gh_isBin10 (N : Nat) (x : Int32) (S : gh_St) : sX10_isBin N x S = some (gq_B (gh_rg x.toInt 0 7), S) := by
  unfold sX10_isBin
  rw [gh_inR, Int32.toInt_toInt64]
  show (gh_gB (gq_B (gh_rg x.toInt 0 7))).bind _ = _
  rw [gq_B_gB]
  rfl
theorem gh_isKind10 (N : Nat) (x : Int32) (S : gh_St) : sX10_isKind N x S = some (gq_B (gh_rg x.toInt 0 3), S) := by
  unfold sX10_isKind
  rw [gh_inR, Int32.toInt_toInt64]
  show (gh_gB (gq_B (gh_rg x.toInt 0 3))).bind _ = _
  rw [gq_B_gB]
  rfl
theorem gh_nI_eq (x : Int32) (h : 0 ≤ x.toInt) : x = nI x.toInt.toNat := by
  have h2 := x.toInt_lt
  refine Int32.toInt_inj.mp ?_
  rw [nI_toInt (by omega)]
  omega
theorem gh_rgN {x : Int32} {lo hi : Int} (h : gh_rg x.toInt lo hi = true) (h0 : 0 ≤ lo) : ∃ j : Nat, (j : Int) = x.toInt ∧ x = nI j ∧ lo ≤ (j : Int) ∧ (j : Int) ≤ hi ∧ j < 2 ^ 31 := by
  have h1 := gh_rg_iff.mp h
  have h2 := x.toInt_lt
  refine ⟨x.toInt.toNat, by omega, gh_nI_eq x (by omega), by omega, by omega, by omega⟩
/-! places -/
theorem gh_in_n {k n : Nat} (hk : k < n) (hn : n < 2 ^ 31) : gh_in (nI k) n = true := gh_in_iff.mpr (vp_in_nI hk hn)
theorem gh_ra_n {S : gh_St} {c n k : Nat} (hk : k < n) (hn : n < 2 ^ 31) : gh_ra S c n (nI k) = some (S.1 c k) := by
  unfold gh_ra
  rw [gh_in_n hk hn, nI_clamp (by omega)]
  rfl
theorem gh_rj_n {S : gh_St} {c n k : Nat} (hk : k < n) (hn : n < 2 ^ 31) : gh_rj S c n (nI k) = some (S.2.1 c k) := by
  unfold gh_rj
  rw [gh_in_n hk hn, nI_clamp (by omega)]
  rfl
theorem gh_wa_n {S : gh_St} {c n k : Nat} {x : Int32} (hk : k < n) (hn : n < 2 ^ 31) : gh_wa S c n (nI k) x = some (gh_fI S c k x) := by
  unfold gh_wa
  rw [gh_in_n hk hn, nI_clamp (by omega)]
  rfl
theorem gh_wj_n {S : gh_St} {c n k : Nat} {x : Int64} (hk : k < n) (hn : n < 2 ^ 31) : gh_wj S c n (nI k) x = some (gh_fL S c k x) := by
  unfold gh_wj
  rw [gh_in_n hk hn, nI_clamp (by omega)]
  rfl
theorem gh_fI_1 (S : gh_St) (c k : Nat) (x : Int32) (c' k' : Nat) : (gh_fI S c k x).1 c' k' = if c' = c ∧ k' = k then x else S.1 c' k' := by
  show gh_up S.1 c (upd (S.1 c) k x) c' k' = _
  by_cases h : c' = c
  · subst h
    rw [gh_up_eq]
    by_cases hk : k' = k
    · subst hk
      rw [pk_us, if_pos ⟨rfl, rfl⟩]
    · rw [pk_un hk, if_neg (fun q => hk q.2)]
  · rw [gh_up_ne _ _ h, if_neg (fun q => h q.1)]
theorem gh_fL_1 (S : gh_St) (c k : Nat) (x : Int64) (c' k' : Nat) : (gh_fL S c k x).2.1 c' k' = if c' = c ∧ k' = k then x else S.2.1 c' k' := by
  show gh_up S.2.1 c (vp_updL (S.2.1 c) k x) c' k' = _
  by_cases h : c' = c
  · subst h
    rw [gh_up_eq]
    by_cases hk : k' = k
    · subst hk
      rw [pk_uLs, if_pos ⟨rfl, rfl⟩]
    · rw [pk_uLn hk, if_neg (fun q => hk q.2)]
  · rw [gh_up_ne _ _ h, if_neg (fun q => h q.1)]
theorem gh_fI_2 (S : gh_St) (c k : Nat) (x : Int32) : (gh_fI S c k x).2 = S.2 := rfl
theorem gh_fL_2 (S : gh_St) (c k : Nat) (x : Int64) : (gh_fL S c k x).1 = S.1 := rfl
theorem gh_fL_22 (S : gh_St) (c k : Nat) (x : Int64) : (gh_fL S c k x).2.2 = S.2.2 := rfl
/-! what is kept: only places that C names may change -/
def gh_fr (C : Nat → Nat → Bool) (S S' : gh_St) : Prop := (∀ c k, C c k = false → S'.1 c k = S.1 c k) ∧ (∀ c k, C c k = false → S'.2.1 c k = S.2.1 c k) ∧ S'.2.2 = S.2.2
theorem gh_fr_refl (C : Nat → Nat → Bool) (S : gh_St) : gh_fr C S S := ⟨fun _ _ _ => rfl, fun _ _ _ => rfl, rfl⟩
theorem gh_fr_trans {C : Nat → Nat → Bool} {S1 S2 S3 : gh_St} (h1 : gh_fr C S1 S2) (h2 : gh_fr C S2 S3) : gh_fr C S1 S3 :=
  ⟨fun c k h => (h2.1 c k h).trans (h1.1 c k h), fun c k h => (h2.2.1 c k h).trans (h1.2.1 c k h), h2.2.2.trans h1.2.2⟩
theorem gh_fr_fI {C : Nat → Nat → Bool} {S S' : gh_St} {c k : Nat} {x : Int32} (h : gh_fr C S S') (hc : C c k = true) : gh_fr C S (gh_fI S' c k x) := by
  refine ⟨fun c' k' h' => ?_, h.2.1, h.2.2⟩
  rw [gh_fI_1]
  by_cases e : c' = c ∧ k' = k
  · obtain ⟨rfl, rfl⟩ := e
    rw [hc] at h'
    cases h'
  · rw [if_neg e]
    exact h.1 c' k' h'
theorem gh_fr_fL {C : Nat → Nat → Bool} {S S' : gh_St} {c k : Nat} {x : Int64} (h : gh_fr C S S') (hc : C c k = true) : gh_fr C S (gh_fL S' c k x) := by
  refine ⟨h.1, fun c' k' h' => ?_, h.2.2⟩
  rw [gh_fL_1]
  by_cases e : c' = c ∧ k' = k
  · obtain ⟨rfl, rfl⟩ := e
    rw [hc] at h'
    cases h'
  · rw [if_neg e]
    exact h.2.1 c' k' h'
theorem gh_fr_mono {C C' : Nat → Nat → Bool} {S S' : gh_St} (h : gh_fr C S S') (hc : ∀ c k, C c k = true → C' c k = true) : gh_fr C' S S' := by
  refine ⟨fun c k hk => h.1 c k ?_, fun c k hk => h.2.1 c k ?_, h.2.2⟩
  · cases e : C c k with
    | false => rfl
    | true => rw [hc c k e] at hk; cases hk
  · cases e : C c k with
    | false => rfl
    | true => rw [hc c k e] at hk; cases hk
/-! total correctness -/
def gh_ok {α : Type} (m : Option α) (P : α → Prop) : Prop := ∃ x, m = some x ∧ P x
theorem gh_ok_some {α : Type} {x : α} {P : α → Prop} (h : P x) : gh_ok (some x) P := ⟨x, rfl, h⟩
theorem gh_ok_bind {α β : Type} {m : Option α} {f : α → Option β} {P : β → Prop} (h : gh_ok m (fun x => gh_ok (f x) P)) : gh_ok (m.bind f) P := by
  obtain ⟨x, rfl, h⟩ := h
  exact h
theorem gh_ok_mono {α : Type} {m : Option α} {P Q : α → Prop} (h : gh_ok m P) (hq : ∀ x, P x → Q x) : gh_ok m Q := by
  obtain ⟨x, e, h⟩ := h
  exact ⟨x, e, hq x h⟩
theorem gh_ok_bif {α : Type} {b : Bool} {m1 m2 : Option α} {P : α → Prop} (h1 : b = true → gh_ok m1 P) (h2 : b = false → gh_ok m2 P) : gh_ok (bif b then m1 else m2) P := by
  cases b with
  | true => exact h1 rfl
  | false => exact h2 rfl
theorem gh_ok_ra {S : gh_St} {c n : Nat} {i : Int32} {P : Int32 → Prop} (k : Nat) (hi : i = nI k) (hk : k < n) (hn : n < 2 ^ 31) (h : P (S.1 c k)) : gh_ok (gh_ra S c n i) P := ⟨_, by rw [hi]; exact gh_ra_n hk hn, h⟩
theorem gh_ok_wa {S : gh_St} {c n : Nat} {i x : Int32} {P : gh_St → Prop} (k : Nat) (hi : i = nI k) (hk : k < n) (hn : n < 2 ^ 31) (h : P (gh_fI S c k x)) : gh_ok (gh_wa S c n i x) P := ⟨_, by rw [hi]; exact gh_wa_n hk hn, h⟩
/-! sums -/
def gh_sm (f : Nat → Nat) : Nat → Nat
  | 0 => 0
  | n + 1 => gh_sm f n + f n
def gh_nu {α : Type} (f : Nat → α) (k : Nat) (x : α) : Nat → α := fun j => if j = k then x else f j
theorem gh_nu_s {α : Type} (f : Nat → α) (k : Nat) (x : α) : gh_nu f k x k = x := if_pos rfl
theorem gh_nu_n {α : Type} (f : Nat → α) {k j : Nat} (x : α) (h : j ≠ k) : gh_nu f k x j = f j := if_neg h
theorem gh_sm_out (f : Nat → Nat) (k x : Nat) : ∀ n, n ≤ k → gh_sm (gh_nu f k x) n = gh_sm f n := by
  intro n
  induction n with
  | zero => intro _; rfl
  | succ n ih =>
    intro h
    rw [gh_sm, gh_sm, ih (by omega), gh_nu_n f x (by omega)]
theorem gh_sm_nu (f : Nat → Nat) (k x : Nat) : ∀ n, k < n → gh_sm (gh_nu f k x) n + f k = gh_sm f n + x := by
  intro n
  induction n with
  | zero => intro h; omega
  | succ n ih =>
    intro h
    rw [gh_sm, gh_sm]
    by_cases e : k = n
    · subst e
      rw [gh_sm_out f k x k (Nat.le_refl _), gh_nu_s]
      omega
    · have := ih (by omega)
      rw [gh_nu_n f x (by omega)]
      omega
theorem gh_sm_ge (f : Nat → Nat) (k : Nat) : ∀ n, k < n → f k ≤ gh_sm f n := by
  intro n
  induction n with
  | zero => intro h; omega
  | succ n ih =>
    intro h
    rw [gh_sm]
    by_cases e : k = n
    · subst e
      omega
    · have := ih (by omega)
      omega

/-! ===== TRUCKS: the reference's rows, one behind another ===== -/
def gr_nA (l : List Nat) : Nat → Nat
  | 0 => 0
  | k + 1 => bif Nat.ble (gr_at l k) (gr_at l (k + 1)) then k + 1 else gr_nA l k
def gr_nB (l : List Nat) (i : Nat) : Nat → Nat
  | 0 => 0
  | k + 1 => bif Nat.ble (gr_at l i) (gr_at l k) then k else gr_nB l i k
def gr_sw (l : List Nat) (i k : Nat) : List Nat := (l.set i (gr_at l k)).set k (gr_at l i)
def gr_nC : Nat → List Nat → Nat → Nat → List Nat
  | 0, l, _, _ => l
  | f + 1, l, lo, hi => bif Nat.ble hi lo then l else gr_nC f (gr_sw l lo hi) (lo + 1) (hi - 1)
def gr_nx (n : Nat) (l : List Nat) : Option (List Nat) :=
  match gr_nA l (n - 1) with
  | 0 => none
  | i + 1 => some (gr_nC n (gr_sw l i (gr_nB l i n)) (i + 1) (n - 1))
def gr_chk (n : Nat) : List (List Nat) → Bool
  | [] => false
  | [l] => (gr_nx n l).isNone
  | l :: l' :: L => (gr_nx n l == some l') && gr_chk n (l' :: L)
theorem gr_chk_0 : gr_chk 0 (gr_ext 0 (List.range 0)) = true := by decide +kernel
theorem gr_chk_1 : gr_chk 1 (gr_ext 1 (List.range 1)) = true := by decide +kernel
theorem gr_chk_2 : gr_chk 2 (gr_ext 2 (List.range 2)) = true := by decide +kernel
theorem gr_chk_3 : gr_chk 3 (gr_ext 3 (List.range 3)) = true := by decide +kernel
theorem gr_chk_4 : gr_chk 4 (gr_ext 4 (List.range 4)) = true := by decide +kernel
theorem gr_chk_5 : gr_chk 5 (gr_ext 5 (List.range 5)) = true := by decide +kernel
theorem gr_chk_6 : gr_chk 6 (gr_ext 6 (List.range 6)) = true := by decide +kernel
theorem gr_chk_7 : gr_chk 7 (gr_ext 7 (List.range 7)) = true := by decide +kernel
theorem gr_hd : ∀ n, n < 8 → (gr_ext n (List.range n)).head? = some (List.range n) := by decide +kernel
theorem gr_chk_all {n : Nat} (h : n ≤ 7) : gr_chk n (gr_ext n (List.range n)) = true := by
  match n, h with
  | 0, _ => exact gr_chk_0
  | 1, _ => exact gr_chk_1
  | 2, _ => exact gr_chk_2
  | 3, _ => exact gr_chk_3
  | 4, _ => exact gr_chk_4
  | 5, _ => exact gr_chk_5
  | 6, _ => exact gr_chk_6
  | 7, _ => exact gr_chk_7
theorem gr_at_set {l : List Nat} {i : Nat} (x : Nat) (hi : i < l.length) (j : Nat) : gr_at (l.set i x) j = if j = i then x else gr_at l j := by
  unfold gr_at
  rw [List.getD_eq_getElem?_getD, List.getD_eq_getElem?_getD, List.getElem?_set]
  by_cases e : j = i
  · subst e
    simp [hi]
  · rw [if_neg (fun h => e h.symm), if_neg e]
theorem gr_sw_len (l : List Nat) (i k : Nat) : (gr_sw l i k).length = l.length := by simp [gr_sw]
theorem gr_sw_at {l : List Nat} {i k : Nat} (hi : i < l.length) (hk : k < l.length) (j : Nat) : gr_at (gr_sw l i k) j = if j = k then gr_at l i else if j = i then gr_at l k else gr_at l j := by
  unfold gr_sw
  rw [gr_at_set _ (by simpa using hk), gr_at_set _ hi]
/-- the reference's row -/
def gr_row (S : gh_St) (l : List Nat) : Prop := ∀ k, k < l.length → S.1 85 k = nI (gr_at l k)
def gr_sm7 (l : List Nat) : Prop := ∀ k, k < l.length → gr_at l k < 7
theorem gr_sm7_sw {l : List Nat} {i k : Nat} (h : gr_sm7 l) (hi : i < l.length) (hk : k < l.length) : gr_sm7 (gr_sw l i k) := by
  intro j hj
  rw [gr_sw_len] at hj
  rw [gr_sw_at hi hk]
  split
  · exact h i hi
  · split
    · exact h k hk
    · exact h j hj
theorem gr_swaps (N : Nat) {S : gh_St} {l : List Nat} {i k : Nat} (hr : gr_row S l) (hl : l.length ≤ 7) (hi : i < l.length) (hk : k < l.length) : ∃ S', sX10_swaps N (nI i) (nI k) S = some S' ∧ gr_row S' (gr_sw l i k) ∧ gh_fr (fun c _ => Nat.beq c 85) S S' := by
  refine ⟨gh_fI (gh_fI S 85 i (S.1 85 k)) 85 k (S.1 85 i), ?_, ?_, gh_fr_fI (gh_fr_fI (gh_fr_refl _ _) rfl) rfl⟩
  · unfold sX10_swaps
    rw [gh_ra_n (by omega) (by decide), gq_bs, gh_ra_n (by omega) (by decide), gq_bs, gh_wa_n (by omega) (by decide), gq_bs, gh_wa_n (by omega) (by decide), gq_bs]
  · intro j hj
    rw [gr_sw_len] at hj
    rw [gr_sw_at hi hk, gh_fI_1, gh_fI_1]
    by_cases e1 : j = k
    · subst e1
      simp [hr i hi]
    · by_cases e2 : j = i
      · subst e2
        simp [e1, hr k hk]
      · simp [e1, e2, hr j hj]
theorem gr_nC_run (N : Nat) : ∀ (f fu lo hi : Nat) (l : List Nat) (S : gh_St), gr_row S l → l.length ≤ 7 → hi < l.length → lo ≤ l.length → hi ≤ lo + f → f < fu → gr_sm7 l → ∃ S', sX10_nextRow_86 N fu (nI hi) (nI lo) S = some (1, S') ∧ gr_row S' (gr_nC f l lo hi) ∧ gh_fr (fun c _ => Nat.beq c 85) S S' ∧ (gr_nC f l lo hi).length = l.length ∧ gr_sm7 (gr_nC f l lo hi) := by
  intro f
  induction f with
  | zero =>
    intro fu lo hi l S hr hl hh hlo hf hfu hs
    obtain ⟨fu, rfl⟩ : ∃ q, fu = q + 1 := ⟨fu - 1, by omega⟩
    refine ⟨S, ?_, hr, gh_fr_refl _ _, rfl, hs⟩
    rw [sX10_nextRow_86, gh_n_ge (by omega) (by omega), decide_eq_true (by omega)]
    rfl
  | succ f ih =>
    intro fu lo hi l S hr hl hh hlo hf hfu hs
    obtain ⟨fu, rfl⟩ : ∃ q, fu = q + 1 := ⟨fu - 1, by omega⟩
    rw [sX10_nextRow_86, gh_n_ge (by omega) (by omega), gr_nC]
    by_cases e : hi ≤ lo
    · rw [decide_eq_true e, Nat.ble_eq.mpr e]
      exact ⟨S, rfl, hr, gh_fr_refl _ _, rfl, hs⟩
    · have e2 : Nat.ble hi lo = false := by
        cases q : Nat.ble hi lo with
        | false => rfl
        | true => exact absurd (Nat.ble_eq.mp q) e
      rw [decide_eq_false e, e2, cond_false, cond_false]
      obtain ⟨S1, a1, a2, a3⟩ := gr_swaps N hr hl (i := lo) (k := hi) (by omega) hh
      obtain ⟨h', rfl⟩ : ∃ h', hi = h' + 1 := ⟨hi - 1, by omega⟩
      rw [a1, gq_bs, pk_m1, nI_1]
      obtain ⟨S', b1, b2, b3, b4, b5⟩ := ih fu (lo + 1) h' (gr_sw l lo (h' + 1)) S1 a2 (by rw [gr_sw_len]; exact hl) (by rw [gr_sw_len]; omega) (by rw [gr_sw_len]; omega) (by omega) (by omega) (gr_sm7_sw hs (by omega) hh)
      exact ⟨S', b1, b2, gh_fr_trans a3 b3, by rw [Nat.add_sub_cancel, b4, gr_sw_len], b5⟩
theorem gr_nB_lt {l : List Nat} {i : Nat} : ∀ m, i < m → i ≤ gr_nB l i m ∧ gr_nB l i m < m := by
  intro m
  induction m with
  | zero => intro h; omega
  | succ k ih =>
    intro h
    rw [gr_nB]
    cases q : Nat.ble (gr_at l i) (gr_at l k) with
    | true => exact ⟨by show i ≤ k; omega, by show k < k + 1; omega⟩
    | false =>
      rw [cond_false]
      have : i ≠ k := by
        intro e
        subst e
        rw [Nat.ble_eq.mpr (Nat.le_refl _)] at q
        cases q
      have := ih (by omega)
      omega
theorem gr_nB_run (N : Nat) {S : gh_St} {l : List Nat} (hr : gr_row S l) (hl : l.length ≤ 7) (hs : gr_sm7 l) (hn : S.1 56 19 = nI l.length) {i : Nat} (hN : 8 < N) : ∀ (m fu : Nat), i < m → m ≤ l.length → m < fu → i + 1 < l.length → ∃ S', sX10_nextRow_47 N fu (nI i) (nI m - 1) S = some (1, S') ∧ gr_row S' (gr_nC l.length (gr_sw l i (gr_nB l i m)) (i + 1) (l.length - 1)) ∧ gh_fr (fun c _ => Nat.beq c 85) S S' ∧ (gr_nC l.length (gr_sw l i (gr_nB l i m)) (i + 1) (l.length - 1)).length = l.length ∧ gr_sm7 (gr_nC l.length (gr_sw l i (gr_nB l i m)) (i + 1) (l.length - 1)) := by
  intro m
  induction m with
  | zero => intro fu h; omega
  | succ k ih =>
    intro fu h hm hfu hi
    obtain ⟨fu, rfl⟩ : ∃ q, fu = q + 1 := ⟨fu - 1, by omega⟩
    have b1 := hs k (by omega)
    have b2 := hs i (by omega)
    rw [nI_pred, sX10_nextRow_47, gh_ra_n (by omega) (by decide), gq_bs, gh_ra_n (by omega) (by decide), gq_bs, hr k (by omega), hr i (by omega), gh_n_ge (by omega) (by omega), gr_nB]
    cases q : Nat.ble (gr_at l i) (gr_at l k) with
    | true =>
      rw [decide_eq_true (Nat.ble_eq.mp q), cond_true, cond_true]
      obtain ⟨S1, a1, a2, a3⟩ := gr_swaps N hr hl (i := i) (k := k) (by omega) (by omega)
      rw [a1, gq_bs, (a3.1 56 19 rfl).trans hn]
      obtain ⟨n', hn'⟩ : ∃ n', l.length = n' + 1 := ⟨l.length - 1, by omega⟩
      rw [hn', nI_pred, nI_1]
      obtain ⟨S', c1, c2, c3, c4, c5⟩ := gr_nC_run N (n' + 1) N (i + 1) n' (gr_sw l i k) S1 a2 (by rw [gr_sw_len]; exact hl) (by rw [gr_sw_len]; omega) (by rw [gr_sw_len]; omega) (by omega) (by omega) (gr_sm7_sw hs (by omega) (by omega))
      refine ⟨S', c1, c2, gh_fr_trans a3 c3, ?_, c5⟩
      rw [Nat.add_sub_cancel, c4, gr_sw_len, hn']
    | false =>
      have e : i ≠ k := by
        intro e
        subst e
        rw [Nat.ble_eq.mpr (Nat.le_refl _)] at q
        cases q
      have e2 : ¬ gr_at l i ≤ gr_at l k := fun h => by
        rw [Nat.ble_eq.mpr h] at q
        cases q
      rw [decide_eq_false e2, cond_false, cond_false]
      have hk : nI k + (-1) = nI k - 1 := by
        obtain ⟨k', rfl⟩ : ∃ k', k = k' + 1 := ⟨k - 1, by omega⟩
        rw [pk_m1, nI_pred]
      rw [hk]
      exact ih fu (by omega) (by omega) (by omega) hi
theorem gr_nA_run (N : Nat) {S : gh_St} {l : List Nat} (hr : gr_row S l) (hl : l.length ≤ 7) (hs : gr_sm7 l) (hn : S.1 56 19 = nI l.length) (hN : 8 < N) : ∀ (k fu : Nat), k + 1 ≤ l.length → k < fu → ∃ b S', sX10_nextRow_7 N fu (gq_Z ((k : Int) - 1)) S = some (gq_B b, S') ∧ gh_fr (fun c _ => Nat.beq c 85) S S' ∧ (match gr_nA l k with
    | 0 => b = false ∧ S' = S
    | i + 1 => b = true ∧ gr_row S' (gr_nC l.length (gr_sw l i (gr_nB l i l.length)) (i + 1) (l.length - 1)) ∧ (gr_nC l.length (gr_sw l i (gr_nB l i l.length)) (i + 1) (l.length - 1)).length = l.length ∧ gr_sm7 (gr_nC l.length (gr_sw l i (gr_nB l i l.length)) (i + 1) (l.length - 1))) := by
  intro k
  induction k with
  | zero =>
    intro fu hk hfu
    obtain ⟨fu, rfl⟩ : ∃ q, fu = q + 1 := ⟨fu - 1, by omega⟩
    exact ⟨false, S, rfl, gh_fr_refl _ _, rfl, rfl⟩
  | succ k ih =>
    intro fu hk hfu
    obtain ⟨fu, rfl⟩ : ∃ q, fu = q + 1 := ⟨fu - 1, by omega⟩
    have e : gq_Z (((k + 1 : Nat) : Int) - 1) = nI k := by
      rw [← gq_Z_n]
      exact congrArg gq_Z (by omega)
    have b1 := hs k (by omega)
    have b2 := hs (k + 1) (by omega)
    rw [e, sX10_nextRow_7, show gh_cmp .lt (nI k) 0 = decide (k < 0) from gh_n_lt (b := 0) (by omega) (by omega), decide_eq_false (by omega), cond_false, nI_1, gh_ra_n (by omega) (by decide), gq_bs, gh_ra_n (by omega) (by decide), gq_bs, hr k (by omega), hr (k + 1) (by omega), gh_n_le (by omega) (by omega), gr_nA]
    cases q : Nat.ble (gr_at l k) (gr_at l (k + 1)) with
    | true =>
      rw [decide_eq_true (Nat.ble_eq.mp q), cond_true, cond_true]
      unfold sX10_nextRow_34
      rw [show gh_cmp .ge (nI k) 0 = decide (0 ≤ k) from gh_n_ge (b := 0) (by omega) (by omega), decide_eq_true (by omega), cond_true, hn]
      obtain ⟨S', a1, a2, a3, a4, a5⟩ := gr_nB_run N hr hl hs hn (i := k) hN l.length N (by omega) (Nat.le_refl _) (by omega) (by omega)
      exact ⟨true, S', a1, a3, rfl, a2, a4, a5⟩
    | false =>
      have e2 : ¬ gr_at l k ≤ gr_at l (k + 1) := fun h => by
        rw [Nat.ble_eq.mpr h] at q
        cases q
      rw [decide_eq_false e2, cond_false, cond_false]
      have e3 : nI k + (-1) = gq_Z ((k : Int) - 1) := by
        rw [← gq_Z_n, show (-1 : Int32) = gq_Z (-1) from rfl, gq_Z_add]
        exact congrArg gq_Z (by omega)
      rw [e3]
      exact ih fu (by omega) (by omega)
theorem gr_nextRow (N : Nat) {S : gh_St} {l : List Nat} (hr : gr_row S l) (hl : l.length ≤ 7) (hs : gr_sm7 l) (hn : S.1 56 19 = nI l.length) (hN : 8 < N) : ∃ b S', sX10_nextRow N S = some (gq_B b, S') ∧ gh_fr (fun c _ => Nat.beq c 85) S S' ∧ (match gr_nx l.length l with
    | none => b = false
    | some l' => b = true ∧ gr_row S' l' ∧ l'.length = l.length ∧ gr_sm7 l') := by
  unfold sX10_nextRow
  by_cases h0 : l.length = 0
  · refine ⟨false, S, ?_, gh_fr_refl _ _, ?_⟩
    · obtain ⟨N, rfl⟩ : ∃ q, N = q + 1 := ⟨N - 1, by omega⟩
      rw [hn, h0]
      rfl
    · rw [h0]
      exact rfl
  · obtain ⟨k, hk⟩ : ∃ k, l.length = k + 1 := ⟨l.length - 1, by omega⟩
    have e : nI l.length - 2 = gq_Z ((k : Int) - 1) := by
      rw [hk, ← gq_Z_n, show (2 : Int32) = gq_Z 2 from rfl, gq_Z_sub]
      exact congrArg gq_Z (by omega)
    rw [hn, e]
    obtain ⟨b, S', a1, a2, a3⟩ := gr_nA_run N hr hl hs hn hN k N (by omega) (by omega)
    refine ⟨b, S', a1, a2, ?_⟩
    unfold gr_nx
    rw [show l.length - 1 = k by omega] at a3 ⊢
    cases q : gr_nA l k with
    | zero =>
      rw [q] at a3
      exact a3.1
    | succ i =>
      rw [q] at a3
      exact a3

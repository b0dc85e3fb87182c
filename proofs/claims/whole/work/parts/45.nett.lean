/-! ===== the way's legs, one behind the other ===== -/
section GqLeg2
variable {T : gh_St} {n : Nat} {A B M la : Nat → Nat} {cl u : Nat} (N : Nat) {q a b : Nat} {L : Nat → Nat → Nat} {D : Nat → Nat}
theorem gq_firstLeg (h : gq_RN T n A B M la cl u) (hN : 100 ≤ N) (hq : q ≤ 3) (ha : a < 8) {m v : Nat} (hm : 1 ≤ m) (hm5 : m ≤ 5) (hv : v < 12) (hL : ∀ i w, i ≤ 5 → w < 12 → T.1 16 (i * 12 + w) = nI (L i w) ∧ L i w ≤ 1000000) : sX4_firstLeg N (nI q) (nI v) (nI a) (nI m) T = some (gq_lg (gq_fs (gq_pC A B (gq_cst M la cl q) a L m v) n 0) n, T) := by
  unfold sX4_firstLeg
  have e1 : nI m * (12 : Int32) + nI v = nI (m * 12 + v) := by rw [show (12 : Int32) = nI 12 from rfl, pk_mul, nI_add]
  have e2 : (nI m - (1 : Int32)) * (12 : Int32) = nI ((m - 1) * 12) := by rw [show (12 : Int32) = nI 12 from rfl, show (1 : Int32) = nI 1 from rfl, pk_sub hm, pk_mul]
  rw [e1, e2, gh_ra_n (by omega) (by decide), gq_bs, (hL m v hm5 hv).1, show (0 : Int32) = nI 0 from rfl]
  have := gq_firstLeg26 N h hq ha hm hm5 hv hL N 0 (by omega) (by have := h.1; omega)
  rw [Nat.sub_zero] at this
  exact this
theorem gq_nextLeg6 (h : gq_RR T n A B M la cl u) (hN : 100 ≤ N) (hq : q ≤ 3) (hb : b < 8) {v : Nat} (hv : v < 12) (hD : ∀ w, w < 12 → T.1 83 w = nI (D w) ∧ D w ≤ 100000000) : ∀ (fu k : Nat), k ≤ n → n - k + 1 < fu → sX10_nextLeg_6 N fu (nI v) (nI q) (nI b) (-1) (nI k) T = some (gq_lg (gq_fs (gq_pR A B (gq_cst M la cl q) b D v) (n - k) k) n, T) := by
  intro fu
  induction fu with
  | zero => intro k _ h; omega
  | succ fu ih =>
    intro k hk hfu
    have hR := h
    obtain ⟨h1, h2, h3, h4, h5, h6, h7, h8, h9⟩ := h
    rw [sX10_nextLeg_6, h4, gh_n_ge (by omega) (by omega)]
    by_cases e : k = n
    · subst e
      rw [decide_eq_true (Nat.le_refl _), Nat.sub_self]
      unfold gq_fs gq_lg
      rw [if_neg (Nat.lt_irrefl _)]
      rfl
    · have hk20 : k < 20 := by omega
      obtain ⟨l1, l2, l3, l4, l5, l6, l7, l8, l9, l10, l11, l12, l13⟩ := h9 k hk20
      have hne := (l13 (by omega)).1
      have hc := gq_cst_leR hR (q := q) hk20
      have hcost : sX10_legCost N (nI k) (nI q) T = some (nI (100 * gq_cst M la cl q k + 1), T) := gq_legCost N hk20 hq l6 l8 h6 l12
      have ra : ∀ c, gh_ra T c 20 (nI k) = some (T.1 c k) := fun c => gh_ra_n hk20 (by decide)
      have ih1 := ih (k + 1) (by omega) (by omega)
      obtain ⟨r, hr⟩ : ∃ r, n - k = r + 1 := ⟨n - k - 1, by omega⟩
      rw [hr, gq_fs]
      rw [show n - (k + 1) = r by omega] at ih1
      have hlgk : gq_lg k n = nI k := if_pos (by omega)
      have hret : sX10_nextLeg_6 N fu (nI v) (nI q) (nI b) (nI k) (nI (k + 1)) T = some (nI k, T) := by
        obtain ⟨f2, rfl⟩ : ∃ f, fu = f + 1 := ⟨fu - 1, by omega⟩
        rw [sX10_nextLeg_6, h4, gh_n_ge (by omega) (by omega), show (0 : Int32) = nI 0 from rfl, gh_n_ge (by omega) (by omega), decide_eq_true (show 0 ≤ k by omega)]
        cases decide (n ≤ k + 1) <;> rfl
      have e63 : ∀ w, w < 12 → sX10_nextLeg_63 N (sX10_nextLeg_6 N fu) (nI v) (nI q) (nI b) (nI k) (nI w) T = (bif decide ((w = b ∨ 8 ≤ w) ∧ D w + (100 * gq_cst M la cl q k + 1) = D v) then some (nI k, T) else some (gq_lg (gq_fs (gq_pR A B (gq_cst M la cl q) b D v) r (k + 1)) n, T)) := by
        intro w hw
        have hDw := hD w hw
        have hDv := hD v hv
        have g1 : gh_cmp .lt (nI w) 0 = false := by rw [show (0 : Int32) = nI 0 from rfl, gh_n_lt (by omega) (by omega)]; exact decide_eq_false (by omega)
        have g2 : gh_cmp .eq (nI w) (nI b) = decide (w = b) := gh_n_eq (by omega) (by omega)
        have g3 : gh_cmp .le (nI w) 7 = decide (w ≤ 7) := gh_n_le (b := 7) (by omega) (by omega)
        have g4 : gh_cmp .ne (nI (D w) + nI (100 * gq_cst M la cl q k + 1)) (nI (D v)) = decide (D w + (100 * gq_cst M la cl q k + 1) ≠ D v) := by rw [nI_add]; exact gh_n_ne (by omega) (by omega)
        have e83 : sX10_nextLeg_83 N (sX10_nextLeg_6 N fu) (nI v) (nI q) (nI b) (nI k) (nI w) T = (bif decide (D w + (100 * gq_cst M la cl q k + 1) = D v) then some (nI k, T) else some (gq_lg (gq_fs (gq_pR A B (gq_cst M la cl q) b D v) r (k + 1)) n, T)) := by
          simp only [sX10_nextLeg_83, sX10_nextLeg_112, sX10_nextLeg_113, hcost, gq_bs, gq_B_eq, gq_B_ne, gq_B_gB, Bool.not_true, Bool.not_false, Bool.true_and, Bool.false_and, Bool.and_true, Bool.and_false, cond_true, cond_false, gh_isBin9, gh_isKind9, gh_isFarmer9, gh_within, gh_inR, gh_isBin10, gh_isKind10, Int32.toInt_toInt64, Int32.reduceToInt, Int64.reduceToInt, decide_true, decide_false, gh_ra_n hw (show 12 < 2 ^ 31 by decide), gh_ra_n hv (show 12 < 2 ^ 31 by decide), hDw.1, hDv.1, g4, nI_1, ih1, hret]
          by_cases e : D w + (100 * gq_cst M la cl q k + 1) = D v
          · rw [decide_eq_true e, decide_eq_false (by omega)]
            rfl
          · rw [decide_eq_false e, decide_eq_true e]
            rfl
        simp only [sX10_nextLeg_63, sX10_nextLeg_112, sX10_nextLeg_113, e83, g1, g2, g3, cond_false, nI_1, ih1]
        by_cases e1 : w = b
        · simp only [e1, decide_true, cond_true, true_or, true_and]
        · by_cases e2 : 8 ≤ w
          · simp only [e1, e2, decide_false, cond_false, false_or, true_and, show ¬ w ≤ 7 by omega]
          · simp only [e1, e2, decide_false, cond_false, false_or, false_and, show w ≤ 7 by omega, decide_true, cond_true]
      have em1 : sX10_nextLeg_63 N (sX10_nextLeg_6 N fu) (nI v) (nI q) (nI b) (nI k) (-1) T = some (gq_lg (gq_fs (gq_pR A B (gq_cst M la cl q) b D v) r (k + 1)) n, T) := by
        simp only [sX10_nextLeg_63, sX10_nextLeg_112, sX10_nextLeg_113, show gh_cmp .lt (-1) 0 = true from rfl, cond_true, nI_1, ih1]
      have n1 : gh_cmp .ne (nI (A k)) (nI v) = decide (A k ≠ v) := gh_n_ne (by omega) (by omega)
      have n3 : gh_cmp .ne (nI (B k)) (nI v) = decide (B k ≠ v) := gh_n_ne (by omega) (by omega)
      rw [decide_eq_false (by omega), cond_false, show gh_cmp .ge (-1) 0 = false from rfl, cond_false]
      simp only [ra, gq_bs, l2, l4, n1, n3, em1, e63 (A k) l9, e63 (B k) l10]
      unfold gq_pR gq_ot
      by_cases a1 : A k = v
      · simp only [a1, ne_eq, not_true_eq_false, decide_false, cond_false, true_or, true_and, if_true]
        cases decide ((B k = b ∨ 8 ≤ B k) ∧ D (B k) + (100 * gq_cst M la cl q k + 1) = D v) with
        | true => simp only [cond_true, hlgk]
        | false => simp only [cond_false]
      · by_cases a2 : B k = v
        · simp only [a1, a2, ne_eq, not_true_eq_false, not_false_eq_true, decide_false, cond_false, decide_true, cond_true, or_true, true_and, if_false]
          cases decide ((A k = b ∨ 8 ≤ A k) ∧ D (A k) + (100 * gq_cst M la cl q k + 1) = D v) with
          | true => simp only [cond_true, hlgk]
          | false => simp only [cond_false]
        · simp only [a1, a2, ne_eq, not_false_eq_true, decide_true, cond_true, or_self, false_and, decide_false, cond_false]
theorem gq_nextLeg (h : gq_RR T n A B M la cl u) (hN : 100 ≤ N) (hq : q ≤ 3) (hb : b < 8) {v : Nat} (hv : v < 12) (hD : ∀ w, w < 12 → T.1 83 w = nI (D w) ∧ D w ≤ 100000000) : sX10_nextLeg N (nI v) (nI q) (nI b) T = some (gq_lg (gq_fs (gq_pR A B (gq_cst M la cl q) b D v) n 0) n, T) := by
  unfold sX10_nextLeg
  have := gq_nextLeg6 N h hN hq hb hv hD N 0 (by omega) (by have := h.1; omega)
  rw [Nat.sub_zero] at this
  exact this
end GqLeg2
/-- the i-th node of the way -/
def gq_no (A B c : Nat → Nat) (n a b : Nat) (D : Nat → Nat) : Nat → Nat
  | 0 => a
  | i + 1 => gq_ot A B (gq_fs (gq_pR A B c b D (gq_no A B c n a b D i)) n 0) (gq_no A B c n a b D i)
def gq_wl (A B c : Nat → Nat) (n a b : Nat) (D : Nat → Nat) (i : Nat) : Nat := gq_fs (gq_pR A B c b D (gq_no A B c n a b D i)) n 0
theorem gq_ot_jn {A B : Nat → Nat} {k v : Nat} (h : A k = v ∨ B k = v) : gq_jn A B k v (gq_ot A B k v) := by
  unfold gq_ot
  by_cases e : A k = v
  · rw [if_pos e]
    exact Or.inl ⟨e, rfl⟩
  · rw [if_neg e]
    exact Or.inr ⟨h.resolve_left e, rfl⟩
theorem gq_jn_ot {A B : Nat → Nat} {k v w : Nat} (hne : A k ≠ B k) (h : gq_jn A B k v w) : (A k = v ∨ B k = v) ∧ gq_ot A B k v = w := by
  unfold gq_ot
  rcases h with ⟨h1, h2⟩ | ⟨h1, h2⟩
  · exact ⟨Or.inl h1, by rw [if_pos h1]; exact h2⟩
  · exact ⟨Or.inr h1, by rw [if_neg (by omega)]; exact h2⟩
section GqPath
variable {n : Nat} {A B c : Nat → Nat} {a b : Nat} {L : Nat → Nat → Nat} {D : Nat → Nat} {best st : Nat}
/-- the way: its legs are found by both, its nodes end at b -/
theorem gq_path (ha : a < 8) (hb : b < 8) (hab : a ≠ b) (hAB : ∀ k, k < n → A k < 12 ∧ B k < 12) (hne : ∀ k, k < n → A k ≠ B k) (hL : gq_isL n A B c a b L) (hD : gq_isD n A B c b D) (hB : gq_isB a L best st) (hst : st ≠ 0) : ∀ i, i ≤ st →
    gq_no A B c n a b D i < 12 ∧ L (st - i) (gq_no A B c n a b D i) < 1000000 ∧ D (gq_no A B c n a b D i) = 100 * L (st - i) (gq_no A B c n a b D i) + (st - i) ∧ (i < st → (gq_no A B c n a b D i = a ∨ 8 ≤ gq_no A B c n a b D i) ∧ gq_no A B c n a b D i ≠ b ∧ gq_wl A B c n a b D i < n ∧ gq_fs (gq_pC A B c a L (st - i) (gq_no A B c n a b D i)) n 0 = gq_wl A B c n a b D i) ∧ (i = st → gq_no A B c n a b D i = b) := by
  have hbest := (gq_D_best ha hb hab hAB hL hD hB).2 hst
  obtain ⟨b1, b2, b3, b4⟩ := hB
  have main : ∀ i, i ≤ st → gq_no A B c n a b D i < 12 → L (st - i) (gq_no A B c n a b D i) < 1000000 → D (gq_no A B c n a b D i) = 100 * L (st - i) (gq_no A B c n a b D i) + (st - i) → (i < st → (gq_no A B c n a b D i = a ∨ 8 ≤ gq_no A B c n a b D i) ∧ gq_no A B c n a b D i ≠ b ∧ gq_wl A B c n a b D i < n ∧ gq_fs (gq_pC A B c a L (st - i) (gq_no A B c n a b D i)) n 0 = gq_wl A B c n a b D i ∧ gq_no A B c n a b D (i + 1) < 12 ∧ L (st - (i + 1)) (gq_no A B c n a b D (i + 1)) < 1000000 ∧ D (gq_no A B c n a b D (i + 1)) = 100 * L (st - (i + 1)) (gq_no A B c n a b D (i + 1)) + (st - (i + 1))) ∧ (i = st → gq_no A B c n a b D i = b) := by
    intro i hi h1 h2 h3
    have hnode := gq_L_node hL (show st - i ≤ 5 by omega) h1 h2
    constructor
    · intro hlt
      obtain ⟨m, hm⟩ : ∃ m, st - i = m + 1 := ⟨st - i - 1, by omega⟩
      rw [show st - (i + 1) = m by omega]
      rw [hm] at h2 h3 hnode ⊢
      generalize hv : gq_no A B c n a b D i = v at *
      have hva : v = a ∨ 8 ≤ v := by omega
      have hvb : v ≠ b := by omega
      have hdl : D v < 100000000 := by omega
      obtain ⟨k, w, k1, k2, k3, k4⟩ := hD.2.2.1 v h1 hvb hdl
      obtain ⟨o1, o2⟩ := gq_jn_ot (hne k k1) k2
      have hpR : gq_pR A B c b D v k = true := decide_eq_true ⟨o1, by rw [o2]; exact k3, by rw [o2]; omega⟩
      obtain ⟨f1, f2⟩ := gq_fs_ex (p := gq_pR A B c b D v) (m := n) (k := 0) (j := k) (by omega) (by omega) hpR
      have hcong : ∀ j, 0 ≤ j → j < 0 + n → gq_pC A B c a L (m + 1) v j = gq_pR A B c b D v j := by
        intro j _ hj
        unfold gq_pC gq_pR
        refine decide_eq_decide.mpr ?_
        constructor
        · rintro ⟨x1, x2⟩
          exact ⟨x1, (gq_leg_iff ha hb hab hAB hL hD (m := m) (by omega) h1 hva h3 h2 (show j < n by omega) (gq_ot_jn x1)).1.mp x2⟩
        · rintro ⟨x1, x2⟩
          exact ⟨x1, (gq_leg_iff ha hb hab hAB hL hD (m := m) (by omega) h1 hva h3 h2 (show j < n by omega) (gq_ot_jn x1)).1.mpr x2⟩
      have hfs : gq_fs (gq_pC A B c a L (m + 1) v) n 0 = gq_fs (gq_pR A B c b D v) n 0 := gq_fs_congr hcong
      have hw : gq_wl A B c n a b D i = gq_fs (gq_pR A B c b D v) n 0 := by unfold gq_wl; rw [hv]
      have hnx : gq_no A B c n a b D (i + 1) = gq_ot A B (gq_fs (gq_pR A B c b D v) n 0) v := by rw [gq_no, hv]
      rw [hw, hnx]
      generalize gq_fs (gq_pR A B c b D v) n 0 = j at *
      have f1 : j < n := by omega
      obtain ⟨x1, x2⟩ := of_decide_eq_true f2
      have hl := gq_leg_iff ha hb hab hAB hL hD (m := m) (by omega) h1 hva h3 h2 f1 (gq_ot_jn x1)
      obtain ⟨y1, y2, y3⟩ := hl.2 (hl.1.mpr x2)
      exact ⟨hva, hvb, f1, hfs, gq_jn_lt hAB f1 (gq_ot_jn x1), y1, y2⟩
    · intro e
      rw [e, Nat.sub_self] at hnode
      rw [e]
      omega
  intro i
  induction i with
  | zero =>
    intro _
    have h1 : gq_no A B c n a b D 0 < 12 := by show a < 12; omega
    have h2 : L (st - 0) (gq_no A B c n a b D 0) < 1000000 := by show L st a < _; have := b4 hst; omega
    have h3 : D (gq_no A B c n a b D 0) = 100 * L (st - 0) (gq_no A B c n a b D 0) + (st - 0) := by show D a = 100 * L st a + st; have := b4 hst; omega
    obtain ⟨m1, m2⟩ := main 0 (by omega) h1 h2 h3
    exact ⟨h1, h2, h3, fun hlt => ⟨(m1 hlt).1, (m1 hlt).2.1, (m1 hlt).2.2.1, (m1 hlt).2.2.2.1⟩, m2⟩
  | succ i ih =>
    intro hi
    obtain ⟨i1, i2, i3, -, -⟩ := ih (by omega)
    obtain ⟨-, -, -, -, h1, h2, h3⟩ := (main i (by omega) i1 i2 i3).1 (by omega)
    obtain ⟨m1, m2⟩ := main (i + 1) hi h1 h2 h3
    exact ⟨h1, h2, h3, fun hlt => ⟨(m1 hlt).1, (m1 hlt).2.1, (m1 hlt).2.2.1, (m1 hlt).2.2.2.1⟩, m2⟩
end GqPath

/-! ===== trace and find ===== -/
def gq_C17 (c _k : Nat) : Bool := Nat.beq c 17
def gq_CF (c k : Nat) : Bool := (Nat.beq c 11 && Nat.beq k 6) || Nat.beq c 16 || Nat.beq c 17
theorem gq_bq {c d : Nat} (h : c ≠ d) : Nat.beq c d = false := by
  cases e : Nat.beq c d with
  | false => rfl
  | true => exact absurd (Nat.eq_of_beq_eq_true e) h
theorem gq_CN_CF (c k : Nat) (h : gq_CN c k = true) : gq_CF c k = false := by
  cases e : gq_CF c k with
  | false => rfl
  | true =>
    unfold gq_CN at h
    unfold gq_CF at e
    simp only [Bool.or_eq_true, Bool.and_eq_true, Nat.beq_eq, Nat.ble_eq] at h e
    omega
theorem gq_CN_17 (c k : Nat) (h : gq_CN c k = true) : gq_C17 c k = false := by
  cases e : gq_C17 c k with
  | false => rfl
  | true =>
    unfold gq_CN at h
    unfold gq_C17 at e
    simp only [Bool.or_eq_true, Bool.and_eq_true, Nat.beq_eq, Nat.ble_eq] at h e
    omega
section GqFind2
variable {S T : gh_St} {n : Nat} {A B M la : Nat → Nat} {cl u : Nat} (N : Nat) {q a b : Nat} {L : Nat → Nat → Nat} {D : Nat → Nat} {best st : Nat}
theorem gq_RN_AB (h : gq_RN S n A B M la cl u) : ∀ k, k < n → A k < 12 ∧ B k < 12 := by
  intro k hk
  obtain ⟨h1, -, -, -, -, -, -, -, h9⟩ := h
  obtain ⟨-, -, -, -, -, -, -, -, l9, l10, -⟩ := h9 k (by omega)
  exact ⟨l9, l10⟩
theorem gq_RN_ne (h : gq_RN S n A B M la cl u) : ∀ k, k < n → A k ≠ B k := by
  intro k hk
  obtain ⟨h1, -, -, -, -, -, -, -, h9⟩ := h
  obtain ⟨-, -, -, -, -, -, -, -, -, -, -, -, l13⟩ := h9 k (by omega)
  exact (l13 hk).1
theorem gq_RR_AB (h : gq_RR S n A B M la cl u) : ∀ k, k < n → A k < 12 ∧ B k < 12 := by
  intro k hk
  obtain ⟨h1, -, -, -, -, -, -, -, h9⟩ := h
  obtain ⟨-, -, -, -, -, -, -, -, l9, l10, -⟩ := h9 k (by omega)
  exact ⟨l9, l10⟩
theorem gq_RR_ne (h : gq_RR S n A B M la cl u) : ∀ k, k < n → A k ≠ B k := by
  intro k hk
  obtain ⟨h1, -, -, -, -, -, -, -, h9⟩ := h
  obtain ⟨-, -, -, -, -, -, -, -, -, -, -, -, l13⟩ := h9 k (by omega)
  exact (l13 hk).1
theorem gq_trace5 (h : gq_RN T n A B M la cl u) (hN : 100 ≤ N) (hq : q ≤ 3) (ha : a < 8) (hb : b < 8) (hab : a ≠ b) (h6 : T.1 11 6 = nI st) (h16 : ∀ i w, i ≤ 5 → w < 12 → T.1 16 (i * 12 + w) = nI (L i w)) (hL : gq_isL n A B (gq_cst M la cl q) a b L) (hD : gq_isD n A B (gq_cst M la cl q) b D) (hB : gq_isB a L best st) (hst : st ≠ 0) : ∀ (fu i : Nat) (T1 : gh_St), i ≤ st → st - i < fu → gh_fr gq_C17 T T1 → (∀ j, j < i → T1.1 17 j = nI (gq_wl A B (gq_cst M la cl q) n a b D j)) → gh_ok (sX4_trace_5 N fu (nI q) (nI a) (nI (gq_no A B (gq_cst M la cl q) n a b D i)) (nI i) T1) (fun T2 => gh_fr gq_C17 T T2 ∧ ∀ j, j < st → T2.1 17 j = nI (gq_wl A B (gq_cst M la cl q) n a b D j)) := by
  have hpath := gq_path ha hb hab (gq_RN_AB h) (gq_RN_ne h) hL hD hB hst
  have hst5 : st ≤ 5 := hB.1
  intro fu
  induction fu with
  | zero => intro i T1 _ h; omega
  | succ fu ih =>
    intro i T1 hi hfu hfr hp
    have hR1 : gq_RN T1 n A B M la cl u := gq_RN_fr h hfr gq_CN_17
    have k6 : T1.1 11 6 = nI st := (hfr.1 11 6 rfl).trans h6
    have k16 : ∀ i w, i ≤ 5 → w < 12 → T1.1 16 (i * 12 + w) = nI (L i w) ∧ L i w ≤ 1000000 := fun i w a b => ⟨(hfr.1 16 _ rfl).trans (h16 i w a b), hL.1 i w⟩
    rw [sX4_trace_5, k6, gh_n_ge (by omega) (by omega)]
    by_cases e : i = st
    · subst e
      rw [decide_eq_true (Nat.le_refl _)]
      exact ⟨T1, rfl, hfr, hp⟩
    · obtain ⟨p1, p2, p3, p4, -⟩ := hpath i hi
      obtain ⟨p5, p6, p7, p8⟩ := p4 (by omega)
      have hn := hR1.1
      have hfl := gq_firstLeg N hR1 hN hq ha (m := st - i) (by omega) (by omega) p1 k16
      rw [p8] at hfl
      have hlg : gq_lg (gq_wl A B (gq_cst M la cl q) n a b D i) n = nI (gq_wl A B (gq_cst M la cl q) n a b D i) := if_pos p7
      rw [hlg] at hfl
      generalize hwl : gq_wl A B (gq_cst M la cl q) n a b D i = w at *
      have hno : gq_no A B (gq_cst M la cl q) n a b D (i + 1) = gq_ot A B w (gq_no A B (gq_cst M la cl q) n a b D i) := by
        rw [gq_no]
        unfold gq_wl at hwl
        rw [hwl]
      obtain ⟨l1, l2, l3, l4, l5, l6, l7, l8, l9, l10, l11, l12, l13⟩ := hR1.2.2.2.2.2.2.2.2 w (by omega)
      rw [decide_eq_false (by omega), cond_false, pk_sub (by omega), hfl, gq_bs]
      have hw1 : gh_cmp .ne (nI w) (-1) = true := by
        rw [gh_c_ne, nI_toInt (by omega)]
        exact decide_eq_true (by show (w : Int) ≠ -1; omega)
      show gh_ok (bif gh_cmp .ne (nI w) (-1) then _ else _) _
      rw [hw1, cond_true, gh_wa_n (by omega) (by decide), gq_bs, gh_ra_n (by omega) (by decide), gq_bs, gh_ra_n (by omega) (by decide), gh_fI_1, if_neg (by omega), l1]
      have hfr2 : gh_fr gq_C17 T (gh_fI T1 17 i (nI w)) := gh_fr_fI hfr rfl
      have hp2 : ∀ j, j < i + 1 → (gh_fI T1 17 i (nI w)).1 17 j = nI (gq_wl A B (gq_cst M la cl q) n a b D j) := by
        intro j hj
        rw [gh_fI_1]
        by_cases ej : j = i
        · subst ej
          rw [if_pos ⟨rfl, rfl⟩, hwl]
        · rw [if_neg (by omega)]
          exact hp j (by omega)
      have ih1 := ih (i + 1) _ (by omega) (by omega) hfr2 hp2
      rw [hno] at ih1
      unfold gq_ot at ih1
      rw [gh_n_ne (by omega) (by omega)]
      by_cases ea : A w = gq_no A B (gq_cst M la cl q) n a b D i
      · rw [if_pos ea] at ih1
        rw [decide_eq_false (by omega), cond_false, gq_bs, gh_fI_1, if_neg (by omega), l3]
        unfold sX4_trace_78
        rw [nI_1]
        exact ih1
      · rw [if_neg ea] at ih1
        rw [decide_eq_true ea, cond_true, gq_bs, nI_1]
        exact ih1
theorem gq_wl_uq {D' : Nat → Nat} (ha : a < 8) (hb : b < 8) (hab : a ≠ b) {c : Nat → Nat} (hAB : ∀ k, k < n → A k < 12 ∧ B k < 12) (hne : ∀ k, k < n → A k ≠ B k) (hL : gq_isL n A B c a b L) (hD : gq_isD n A B c b D) (hD' : gq_isD n A B c b D') (hB : gq_isB a L best st) (hst : st ≠ 0) : ∀ i, i ≤ st → gq_no A B c n a b D i = gq_no A B c n a b D' i ∧ (i < st → gq_wl A B c n a b D i = gq_wl A B c n a b D' i) := by
  have p1 := gq_path ha hb hab hAB hne hL hD hB hst
  have p2 := gq_path ha hb hab hAB hne hL hD' hB hst
  have key : ∀ i, i < st → gq_no A B c n a b D i = gq_no A B c n a b D' i → gq_wl A B c n a b D i = gq_wl A B c n a b D' i := by
    intro i hi e
    rw [← ((p1 i (by omega)).2.2.2.1 hi).2.2.2, ← ((p2 i (by omega)).2.2.2.1 hi).2.2.2, e]
  intro i
  induction i with
  | zero => intro _; exact ⟨rfl, fun h => key 0 h rfl⟩
  | succ i ih =>
    intro hi
    obtain ⟨h1, h2⟩ := ih (by omega)
    have h3 := h2 (by omega)
    have e : gq_no A B c n a b D (i + 1) = gq_no A B c n a b D' (i + 1) := by
      rw [gq_no, gq_no]
      unfold gq_wl at h3
      rw [h3, h1]
    exact ⟨e, fun h => key (i + 1) h e⟩
/-- what find does, for kind q from bin a to bin b -/
theorem gq_find (h : gq_RN S n A B M la cl u) (hN : 2000000000 ≤ N) (hq : q ≤ 3) (ha : a < 8) (hb : b < 8) (hab : a ≠ b) : ∃ (best st : Nat) (L : Nat → Nat → Nat) (S1 : gh_St), gq_isL n A B (gq_cst M la cl q) a b L ∧ gq_isB a L best st ∧ sX4_find N (nI q) (nI a) (nI b) S = some (if st = 0 then -1 else nI best, S1) ∧ gh_fr gq_CF S S1 ∧ S1.1 11 6 = nI st ∧ (st ≠ 0 → ∀ D, gq_isD n A B (gq_cst M la cl q) b D → ∀ i, i < st → S1.1 17 i = nI (gq_wl A B (gq_cst M la cl q) n a b D i)) := by
  have hAB := gq_RN_AB h
  have hL := gq_F_isL (c := gq_cst M la cl q) (a := a) (b := b) hAB (by omega)
  have hB := gq_bst_isB (c := gq_cst M la cl q) (a := a) (b := b) hAB (by omega)
  have k1 : gh_rg (nI q).toInt 0 3 = true := gq_nrg (by omega) (by omega) (by omega)
  have k2 : gh_rg (nI a).toInt 0 7 = true := gq_nrg (by omega) (by omega) (by omega)
  have k3 : gh_rg (nI b).toInt 0 7 = true := gq_nrg (by omega) (by omega) (by omega)
  have k4 : gh_cmp .ne (nI a) (nI b) = true := by rw [gh_n_ne (by omega) (by omega), decide_eq_true hab]
  have e0 : ∀ T : gh_St, gq_vf T 0 = T := by
    intro T
    refine Prod.ext ?_ rfl
    funext c k
    show (if c = 16 ∧ k < 0 then _ else T.1 c k) = _
    rw [if_neg (by omega)]
  have e36 := gq_find36 (S := gh_fI S 11 6 0) N (q := q) (a := a) hb N 0 (by omega) (by omega)
  rw [e0] at e36
  have e75 := gq_find75 (b := b) N h (by omega) hq ha N 0 (by omega) (by omega)
  have hf36 : sX4_find N (nI q) (nI a) (nI b) S = sX4_find_36 N N (nI q) (nI a) (nI b) 0 (gh_fI S 11 6 0) := by
    simp only [sX4_find, gq_bs, gq_B_eq, gq_B_ne, gq_B_gB, Bool.not_true, Bool.not_false, Bool.true_and, Bool.false_and, Bool.and_true, Bool.and_false, cond_true, cond_false, gh_isBin9, gh_isKind9, gh_isFarmer9, gh_within, gh_inR, gh_isBin10, gh_isKind10, Int32.toInt_toInt64, Int32.reduceToInt, Int64.reduceToInt, decide_true, decide_false, k1, k2, k3, k4]
  have hfind := hf36.trans (e36.trans e75)
  generalize gq_bst A B (gq_cst M la cl q) n a b 5 = bs at *
  have hbase : gh_fr gq_CF S (gq_vn (gh_fI S 11 6 (nI bs.2)) (gq_F A B (gq_cst M la cl q) n a b 5)) := by
    refine ⟨fun c k hc => ?_, fun _ _ _ => rfl, rfl⟩
    have h1 : c ≠ 16 := by
      intro e
      subst e
      unfold gq_CF at hc
      simp at hc
    rw [gq_vn_1, if_neg (by omega), gh_fI_1]
    by_cases e : c = 11 ∧ k = 6
    · obtain ⟨rfl, rfl⟩ := e
      cases hc
    · rw [if_neg e]
  by_cases h0 : bs.2 = 0
  · refine ⟨bs.1, bs.2, _, _, hL, hB, ?_, hbase, ?_, fun h => absurd h0 h⟩
    · rw [hfind, decide_eq_false (by omega), cond_false, if_pos h0]
    · rw [gq_vn_1, if_neg (by omega), gh_fI_1, if_pos ⟨rfl, rfl⟩]
  · obtain ⟨D0, -, hD0⟩ := gq_goes N (gq_RR_of h) hN hq hb
    have hR1 := gq_RN_fr h hbase gq_CN_CF
    have t6 : (gq_vn (gh_fI S 11 6 (nI bs.2)) (gq_F A B (gq_cst M la cl q) n a b 5)).1 11 6 = nI bs.2 := by rw [gq_vn_1, if_neg (by omega), gh_fI_1, if_pos ⟨rfl, rfl⟩]
    have ht := gq_trace5 N hR1 (by omega) hq ha hb hab t6 (L := fun m v => gq_F A B (gq_cst M la cl q) n a b 5 (m * 12 + v)) (fun i w hi hw => gq_vn_r _ _ (by omega)) hL hD0 hB h0 N 0 _ (by omega) (by have := hB.1; omega) (gh_fr_refl _ _) (fun j hj => by omega)
    obtain ⟨T2, t1, t2, t3⟩ := ht
    have htr : sX4_trace N (nI q) (nI a) (gq_vn (gh_fI S 11 6 (nI bs.2)) (gq_F A B (gq_cst M la cl q) n a b 5)) = some T2 := t1
    refine ⟨bs.1, bs.2, _, T2, hL, hB, ?_, ?_, ?_, fun _ D hD i hi => ?_⟩
    · rw [hfind, decide_eq_true h0, cond_true, if_neg h0, htr, gq_bs]
    · exact gh_fr_trans hbase (gh_fr_mono t2 (fun c k hc => by unfold gq_C17 at hc; unfold gq_CF; rw [hc]; simp))
    · rw [t2.1 11 6 rfl]
      exact t6
    · rw [t3 i hi]
      have := (gq_wl_uq ha hb hab hAB (gq_RN_ne h) hL hD hD0 hB h0 i (by omega)).2 hi
      rw [this]
theorem gq_find_no {x y z : Int32} (h : gh_rg x.toInt 0 3 = false ∨ gh_rg y.toInt 0 7 = false ∨ gh_rg z.toInt 0 7 = false ∨ y = z) : sX4_find N x y z S = some (-1, gh_fI S 11 6 0) := by
  have hc : y = z → gh_cmp .ne y z = false := by
    intro e
    rw [e, gh_c_ne]
    exact decide_eq_false (fun h => h rfl)
  cases h1 : gh_rg x.toInt 0 3 with
  | false => simp only [sX4_find, gq_bs, gq_B_eq, gq_B_ne, gq_B_gB, Bool.not_true, Bool.not_false, Bool.true_and, Bool.false_and, Bool.and_true, Bool.and_false, cond_true, cond_false, gh_isBin9, gh_isKind9, gh_isFarmer9, gh_within, gh_inR, gh_isBin10, gh_isKind10, Int32.toInt_toInt64, Int32.reduceToInt, Int64.reduceToInt, decide_true, decide_false, h1]
  | true =>
    cases h2 : gh_rg y.toInt 0 7 with
    | false => simp only [sX4_find, gq_bs, gq_B_eq, gq_B_ne, gq_B_gB, Bool.not_true, Bool.not_false, Bool.true_and, Bool.false_and, Bool.and_true, Bool.and_false, cond_true, cond_false, gh_isBin9, gh_isKind9, gh_isFarmer9, gh_within, gh_inR, gh_isBin10, gh_isKind10, Int32.toInt_toInt64, Int32.reduceToInt, Int64.reduceToInt, decide_true, decide_false, h1, h2]
    | true =>
      cases h3 : gh_rg z.toInt 0 7 with
      | false => simp only [sX4_find, gq_bs, gq_B_eq, gq_B_ne, gq_B_gB, Bool.not_true, Bool.not_false, Bool.true_and, Bool.false_and, Bool.and_true, Bool.and_false, cond_true, cond_false, gh_isBin9, gh_isKind9, gh_isFarmer9, gh_within, gh_inR, gh_isBin10, gh_isKind10, Int32.toInt_toInt64, Int32.reduceToInt, Int64.reduceToInt, decide_true, decide_false, h1, h2, h3]
      | true =>
        rw [h1, h2, h3] at h
        have : y = z := by simpa using h
        simp only [sX4_find, gq_bs, gq_B_eq, gq_B_ne, gq_B_gB, Bool.not_true, Bool.not_false, Bool.true_and, Bool.false_and, Bool.and_true, Bool.and_false, cond_true, cond_false, gh_isBin9, gh_isKind9, gh_isFarmer9, gh_within, gh_inR, gh_isBin10, gh_isKind10, Int32.toInt_toInt64, Int32.reduceToInt, Int64.reduceToInt, decide_true, decide_false, h1, h2, h3, hc this]
theorem gq_isWay_no {x y z : Int32} (h : gh_rg x.toInt 0 3 = false ∨ gh_rg y.toInt 0 7 = false ∨ gh_rg z.toInt 0 7 = false ∨ y = z) : sX10_isWay N x y z S = some (0, S) := by
  have hc : y = z → gh_cmp .ne y z = false := by
    intro e
    rw [e, gh_c_ne]
    exact decide_eq_false (fun h => h rfl)
  cases h1 : gh_rg x.toInt 0 3 with
  | false => simp only [sX10_isWay, gq_bs, gq_B_eq, gq_B_ne, gq_B_gB, Bool.not_true, Bool.not_false, Bool.true_and, Bool.false_and, Bool.and_true, Bool.and_false, cond_true, cond_false, gh_isBin9, gh_isKind9, gh_isFarmer9, gh_within, gh_inR, gh_isBin10, gh_isKind10, Int32.toInt_toInt64, Int32.reduceToInt, Int64.reduceToInt, decide_true, decide_false, h1]
  | true =>
    cases h2 : gh_rg y.toInt 0 7 with
    | false => simp only [sX10_isWay, gq_bs, gq_B_eq, gq_B_ne, gq_B_gB, Bool.not_true, Bool.not_false, Bool.true_and, Bool.false_and, Bool.and_true, Bool.and_false, cond_true, cond_false, gh_isBin9, gh_isKind9, gh_isFarmer9, gh_within, gh_inR, gh_isBin10, gh_isKind10, Int32.toInt_toInt64, Int32.reduceToInt, Int64.reduceToInt, decide_true, decide_false, h1, h2]
    | true =>
      cases h3 : gh_rg z.toInt 0 7 with
      | false => simp only [sX10_isWay, gq_bs, gq_B_eq, gq_B_ne, gq_B_gB, Bool.not_true, Bool.not_false, Bool.true_and, Bool.false_and, Bool.and_true, Bool.and_false, cond_true, cond_false, gh_isBin9, gh_isKind9, gh_isFarmer9, gh_within, gh_inR, gh_isBin10, gh_isKind10, Int32.toInt_toInt64, Int32.reduceToInt, Int64.reduceToInt, decide_true, decide_false, h1, h2, h3]
      | true =>
        rw [h1, h2, h3] at h
        have : y = z := by simpa using h
        simp only [sX10_isWay, gq_bs, gq_B_eq, gq_B_ne, gq_B_gB, Bool.not_true, Bool.not_false, Bool.true_and, Bool.false_and, Bool.and_true, Bool.and_false, cond_true, cond_false, gh_isBin9, gh_isKind9, gh_isFarmer9, gh_within, gh_inR, gh_isBin10, gh_isKind10, Int32.toInt_toInt64, Int32.reduceToInt, Int64.reduceToInt, decide_true, decide_false, h1, h2, h3, hc this]
end GqFind2

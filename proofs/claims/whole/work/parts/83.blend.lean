/-! ===== blend, blended ===== -/
section GbM
variable {st q tq w : Nat} {kd kg g : Nat → Nat} (N : Nat)
def gb_C94 (c _k : Nat) : Bool := Nat.beq c 94
theorem gb_54 (hst : st < 256) (hq : q ≤ 3) (l3 l4 : Int32) : ∀ (j k fu : Nat) (S : gh_St), k + j = 8 → j < fu → gb_bins S kd kg g → gb_who S (gb_l st kd kg q k) → (gb_l st kd kg q k).length ≤ 4 → ∃ S', gh_fr gb_C94 S S' ∧ ((gb_l st kd kg q 8).length ≤ 4 → gb_who S' (gb_l st kd kg q 8) ∧ sX10_blend_54 N fu (nI q) (nI st) l3 l4 (nI (gb_l st kd kg q k).length) (nI k) S = sX10_blend_135 N l3 l4 (nI (gb_l st kd kg q 8).length) (-1) (gq_B (decide ((gb_l st kd kg q 8).length ≠ 0))) S') ∧ (¬ (gb_l st kd kg q 8).length ≤ 4 → sX10_blend_54 N fu (nI q) (nI st) l3 l4 (nI (gb_l st kd kg q k).length) (nI k) S = some (-1, S')) := by
  intro j
  induction j with
  | zero =>
    intro k fu S hk hfu hB hw hl
    obtain ⟨fu, rfl⟩ : ∃ v, fu = v + 1 := ⟨fu - 1, by omega⟩
    have e8 : k = 8 := by omega
    subst e8
    refine ⟨S, gh_fr_refl _ _, fun _ => ⟨hw, ?_⟩, fun h => absurd hl h⟩
    rw [sX10_blend_54, show gh_cmp .ge (nI 8) 8 = true from rfl, cond_true, show gh_cmp .ne (nI (gb_l st kd kg q 8).length) 0 = decide ((gb_l st kd kg q 8).length ≠ 0) from gh_n_ne (b := 0) (by omega) (by omega)]
    cases decide ((gb_l st kd kg q 8).length ≠ 0) <;> rfl
  | succ j ih =>
    intro k fu S hk hfu hB hw hl
    obtain ⟨fu, rfl⟩ : ∃ v, fu = v + 1 := ⟨fu - 1, by omega⟩
    have hk8 : k < 8 := by omega
    have hs := gb_l_s st kd kg q k
    obtain ⟨a1, a2, a3, a4, a5, a6, a7, a8, a9⟩ := hB k hk8
    rw [sX10_blend_54, show gh_cmp .ge (nI k) 8 = decide (8 ≤ k) from gh_n_ge (b := 8) (by omega) (by omega), decide_eq_false (by omega), cond_false, gb_bit1 st hst k hk8, gh_ra_n hk8 (by decide), gq_bs, gh_ra_n hk8 (by decide), gq_bs, a4, a2, show gh_cmp .le (nI (kg k)) 0 = decide (kg k ≤ 0) from gh_n_le (b := 0) (by omega) (by omega), gh_n_ne (by omega) (by omega), show gh_cmp .ne (nI (gb_l st kd kg q k).length) 4 = decide ((gb_l st kd kg q k).length ≠ 4) from gh_n_ne (b := 4) (by omega) (by omega)]
    unfold sX10_blend_114
    rw [nI_1, nI_1]
    have skip : gb_sel st kd kg q k = false → ∃ S', gh_fr gb_C94 S S' ∧ ((gb_l st kd kg q 8).length ≤ 4 → gb_who S' (gb_l st kd kg q 8) ∧ sX10_blend_54 N fu (nI q) (nI st) l3 l4 (nI (gb_l st kd kg q k).length) (nI (k + 1)) S = sX10_blend_135 N l3 l4 (nI (gb_l st kd kg q 8).length) (-1) (gq_B (decide ((gb_l st kd kg q 8).length ≠ 0))) S') ∧ (¬ (gb_l st kd kg q 8).length ≤ 4 → sX10_blend_54 N fu (nI q) (nI st) l3 l4 (nI (gb_l st kd kg q k).length) (nI (k + 1)) S = some (-1, S')) := by
      intro hsel
      rw [hsel, if_neg (by decide), List.append_nil] at hs
      have := ih (k + 1) fu S (by omega) (by omega) hB (by rw [hs]; exact hw) (by rw [hs]; exact hl)
      rw [hs] at this
      exact this
    cases hb : st.testBit k with
    | false =>
      rw [Bool.not_false, cond_true]
      exact skip (by unfold gb_sel; rw [hb, Bool.false_and])
    | true =>
      rw [Bool.not_true, cond_false]
      by_cases h0 : kg k ≤ 0
      · rw [decide_eq_true h0, cond_true]
        exact skip (by unfold gb_sel; rw [decide_eq_false (show ¬ 0 < kg k by omega), Bool.false_and, Bool.and_false])
      · rw [decide_eq_false h0, cond_false]
        by_cases h1 : kd k = q
        · rw [decide_eq_false (not_not_intro h1), cond_false]
          have hsel : gb_sel st kd kg q k = true := by unfold gb_sel; rw [hb, decide_eq_true (show 0 < kg k by omega), decide_eq_true h1]; rfl
          rw [hsel, if_pos rfl] at hs
          have hlen : (gb_l st kd kg q (k + 1)).length = (gb_l st kd kg q k).length + 1 := by rw [hs, List.length_append]; rfl
          have hmono := gb_l_le st kd kg q (show k + 1 ≤ 8 by omega)
          by_cases h4 : (gb_l st kd kg q k).length = 4
          · rw [decide_eq_false (not_not_intro h4), cond_false]
            exact ⟨S, gh_fr_refl _ _, fun h => by omega, fun _ => rfl⟩
          · rw [decide_eq_true h4, cond_true, gh_wa_n (by omega) (by decide), gq_bs]
            have f1 : gh_fr gb_C94 S (gh_fI S 94 (gb_l st kd kg q k).length (nI k)) := gh_fr_fI (gh_fr_refl _ _) rfl
            obtain ⟨S', b1, b2⟩ := ih (k + 1) fu (gh_fI S 94 (gb_l st kd kg q k).length (nI k)) (by omega) (by omega) (gb_bins_fr hB (gh_fr_mono f1 (fun c k h => by rw [Nat.eq_of_beq_eq_true h]; rfl))) (fun i hi => by
              rw [gh_fI_1, hs]
              by_cases e : i = (gb_l st kd kg q k).length
              · rw [if_pos ⟨rfl, e⟩, e]
                have := gr_at_ge (gb_l st kd kg q k) [k] 0
                rw [Nat.add_zero] at this
                rw [this]
                rfl
              · rw [if_neg (fun w => e w.2), gr_at_lt (by omega)]
                exact hw i (by omega)) (by omega)
            rw [hlen] at b2
            exact ⟨S', gh_fr_trans f1 b1, b2⟩
        · rw [decide_eq_true h1, cond_true]
          exact skip (by unfold gb_sel; rw [decide_eq_false h1, Bool.and_false, Bool.and_false])
theorem gb_140 {m : Nat} (htq : tq ≤ 20) (hm4 : m ≤ 4) (l4 : Int32) (l6 : Int64) (S : gh_St) : ∀ (j i fu : Nat), i + j = m → j < fu → 1 ≤ i → sX10_blend_140 N fu (nI tq) l4 (nI m) l6 (nI ((tq + 1) ^ (i - 1))) (nI i) S = sX10_blend_167 N N (nI tq) l4 (nI m) l6 (nI ((tq + 1) ^ (m - 1)) - 1) S := by
  intro j
  induction j with
  | zero =>
    intro i fu hi hfu h1
    obtain ⟨fu, rfl⟩ : ∃ v, fu = v + 1 := ⟨fu - 1, by omega⟩
    rw [sX10_blend_140, gh_n_ge (by omega) (by omega), decide_eq_true (by omega), cond_true, show i = m by omega]
  | succ j ih =>
    intro i fu hi hfu h1
    obtain ⟨fu, rfl⟩ : ∃ v, fu = v + 1 := ⟨fu - 1, by omega⟩
    rw [sX10_blend_140, gh_n_ge (by omega) (by omega), decide_eq_false (by omega), cond_false, nI_1, pk_mul, nI_1]
    have := ih (i + 1) fu (by omega) (by omega) (by omega)
    rw [show i + 1 - 1 = (i - 1) + 1 by omega, Nat.pow_succ] at this
    exact this
theorem gb_pow (htq : tq ≤ 20) {k : Nat} (hk : k ≤ 3) : (tq + 1) ^ k < 10000 := by
  have h1 : (tq + 1) ^ k ≤ 21 ^ k := Nat.pow_le_pow_left (by omega) k
  have h2 : 21 ^ k ≤ 21 ^ 3 := Nat.pow_le_pow_right (by decide) hk
  omega
end GbM
def gb_R (S : gh_St) : Prop := ∃ tl : Bool, S.1 37 7 = gq_B tl ∧ S.1 56 62 = gq_B tl ∧ (tl = true → ∀ b, b < 8 → S.1 42 b = S.1 92 b) ∧ ∀ i, i < 4 → S.2.1 40 (21 * i) = 0
theorem gb_bins_of {S : gh_St} (h : gq_R1 S) : ∃ kd kg g, gb_bins S kd kg g := by
  obtain ⟨n, kd, kg, rm, g, fa, ki, mo, gr, hB, hL, hH⟩ := h
  refine ⟨kd, kg, g, fun b hb => ?_⟩
  obtain ⟨e1, e2, e3, e4, e5, e6, e7, e8, q1, q2, q3⟩ := hB.1 b hb
  exact ⟨e1, e2, e3, e4, e7, e8, q1, by omega, gq_gle hB.2 hL.1 hb⟩
theorem gb_blend {S : gh_St} (N : Nat) (hN : 20000 ≤ N) (a1 a2 a3 a4 : Int32) (h1 : gq_R1 S) (hR : gb_R S) : gq_P (sX9_blend N a1 a2 a3 a4) (sX10_blend N a1 a2 a3 a4) gb_C gb_R S := by
  cases c1 : gh_rg a1.toInt 0 3 with
  | false => exact gq_P0 (-1) (by simp only [sX9_blend, gq_bs, gq_B_eq, gq_B_ne, gq_B_gB, Bool.not_true, Bool.not_false, Bool.true_and, Bool.false_and, Bool.and_true, Bool.and_false, cond_true, cond_false, gh_isBin9, gh_isKind9, gh_isFarmer9, gh_within, gh_inR, gh_isBin10, gh_isKind10, Int32.toInt_toInt64, Int32.reduceToInt, Int64.reduceToInt, decide_true, decide_false, c1]) (by simp only [sX10_blend, gq_bs, gq_B_eq, gq_B_ne, gq_B_gB, Bool.not_true, Bool.not_false, Bool.true_and, Bool.false_and, Bool.and_true, Bool.and_false, cond_true, cond_false, gh_isBin9, gh_isKind9, gh_isFarmer9, gh_within, gh_inR, gh_isBin10, gh_isKind10, Int32.toInt_toInt64, Int32.reduceToInt, Int64.reduceToInt, decide_true, decide_false, c1]) hR
  | true =>
  cases c2 : gh_rg a2.toInt 0 255 with
  | false =>
    have c2' : gh_rg a2.toInt 1 255 = false := gh_rg_not.mpr (by have := gh_rg_not.mp c2; omega)
    exact gq_P0 (-1) (by simp only [sX9_blend, gq_bs, gq_B_eq, gq_B_ne, gq_B_gB, Bool.not_true, Bool.not_false, Bool.true_and, Bool.false_and, Bool.and_true, Bool.and_false, cond_true, cond_false, gh_isBin9, gh_isKind9, gh_isFarmer9, gh_within, gh_inR, gh_isBin10, gh_isKind10, Int32.toInt_toInt64, Int32.reduceToInt, Int64.reduceToInt, decide_true, decide_false, c1, c2]) (by simp only [sX10_blend, gq_bs, gq_B_eq, gq_B_ne, gq_B_gB, Bool.not_true, Bool.not_false, Bool.true_and, Bool.false_and, Bool.and_true, Bool.and_false, cond_true, cond_false, gh_isBin9, gh_isKind9, gh_isFarmer9, gh_within, gh_inR, gh_isBin10, gh_isKind10, Int32.toInt_toInt64, Int32.reduceToInt, Int64.reduceToInt, decide_true, decide_false, c1, c2']) hR
  | true =>
  obtain ⟨q, -, rfl, -, hq, -⟩ := gh_rgN c1 (by decide)
  obtain ⟨st, est, rfl, -, hst, -⟩ := gh_rgN c2 (by decide)
  obtain ⟨kd, kg, g, hB⟩ := gb_bins_of h1
  have hq3 : q ≤ 3 := by omega
  have hst2 : st < 256 := by omega
  obtain ⟨tl, r1, r2, r3, r4⟩ := hR
  have hR : gb_R S := ⟨tl, r1, r2, r3, r4⟩
  cases c3 : gh_rg a3.toInt 1 20 with
  | false =>
    refine gq_P0 (-1) (by simp only [sX9_blend, gq_bs, gq_B_eq, gq_B_ne, gq_B_gB, Bool.not_true, Bool.not_false, Bool.true_and, Bool.false_and, Bool.and_true, Bool.and_false, cond_true, cond_false, gh_isBin9, gh_isKind9, gh_isFarmer9, gh_within, gh_inR, gh_isBin10, gh_isKind10, Int32.toInt_toInt64, Int32.reduceToInt, Int64.reduceToInt, decide_true, decide_false, c1, c2, c3]) ?_ hR
    cases c2' : gh_rg (nI st).toInt 1 255 with
    | false => simp only [sX10_blend, gq_bs, gq_B_eq, gq_B_ne, gq_B_gB, Bool.not_true, Bool.not_false, Bool.true_and, Bool.false_and, Bool.and_true, Bool.and_false, cond_true, cond_false, gh_isBin9, gh_isKind9, gh_isFarmer9, gh_within, gh_inR, gh_isBin10, gh_isKind10, Int32.toInt_toInt64, Int32.reduceToInt, Int64.reduceToInt, decide_true, decide_false, c1, c2']
    | true => simp only [sX10_blend, gq_bs, gq_B_eq, gq_B_ne, gq_B_gB, Bool.not_true, Bool.not_false, Bool.true_and, Bool.false_and, Bool.and_true, Bool.and_false, cond_true, cond_false, gh_isBin9, gh_isKind9, gh_isFarmer9, gh_within, gh_inR, gh_isBin10, gh_isKind10, Int32.toInt_toInt64, Int32.reduceToInt, Int64.reduceToInt, decide_true, decide_false, c1, c2', c3]
  | true =>
  cases c4 : gh_rg a4.toInt 0 1000 with
  | false =>
    refine gq_P0 (-1) (by simp only [sX9_blend, gq_bs, gq_B_eq, gq_B_ne, gq_B_gB, Bool.not_true, Bool.not_false, Bool.true_and, Bool.false_and, Bool.and_true, Bool.and_false, cond_true, cond_false, gh_isBin9, gh_isKind9, gh_isFarmer9, gh_within, gh_inR, gh_isBin10, gh_isKind10, Int32.toInt_toInt64, Int32.reduceToInt, Int64.reduceToInt, decide_true, decide_false, c1, c2, c3, c4]) ?_ hR
    cases c2' : gh_rg (nI st).toInt 1 255 with
    | false => simp only [sX10_blend, gq_bs, gq_B_eq, gq_B_ne, gq_B_gB, Bool.not_true, Bool.not_false, Bool.true_and, Bool.false_and, Bool.and_true, Bool.and_false, cond_true, cond_false, gh_isBin9, gh_isKind9, gh_isFarmer9, gh_within, gh_inR, gh_isBin10, gh_isKind10, Int32.toInt_toInt64, Int32.reduceToInt, Int64.reduceToInt, decide_true, decide_false, c1, c2']
    | true => simp only [sX10_blend, gq_bs, gq_B_eq, gq_B_ne, gq_B_gB, Bool.not_true, Bool.not_false, Bool.true_and, Bool.false_and, Bool.and_true, Bool.and_false, cond_true, cond_false, gh_isBin9, gh_isKind9, gh_isFarmer9, gh_within, gh_inR, gh_isBin10, gh_isKind10, Int32.toInt_toInt64, Int32.reduceToInt, Int64.reduceToInt, decide_true, decide_false, c1, c2', c3, c4]
  | true =>
  obtain ⟨tq, -, rfl, htq1, htq, -⟩ := gh_rgN c3 (by decide)
  obtain ⟨w, -, rfl, -, hw, -⟩ := gh_rgN c4 (by decide)
  obtain ⟨S1, d1, d2, d3⟩ := gb_choose N (by omega) hst2 hq3 hB
  have keep1 : ∀ S', gh_fr gb_C1 S S' → gb_R S' := fun S' hf => ⟨tl, (hf.1 37 7 rfl).trans r1, (hf.1 56 62 rfl).trans r2, fun h b hb => by rw [hf.1 42 b rfl, hf.1 92 b rfl]; exact r3 h b hb, fun i hi => (hf.2.1 40 (21 * i) rfl).trans (r4 i hi)⟩
  have hlm : ∀ i, i < (gb_l st kd kg q 8).length → gr_at (gb_l st kd kg q 8) i < 8 ∧ 0 < kg (gr_at (gb_l st kd kg q 8) i) := fun i hi => gb_l_mem hi
  have hB1 := gb_bins_fr hB (gh_fr_mono d2 gb_C_C1)
  by_cases hm : 1 ≤ (gb_l st kd kg q 8).length ∧ (gb_l st kd kg q 8).length ≤ 4
  case neg =>
    rw [decide_eq_false hm] at d1
    have r9 : sX9_blend N (nI q) (nI st) (nI tq) (nI w) S = some (-1, S1) := by simp only [sX9_blend, gq_bs, gq_B_eq, gq_B_ne, gq_B_gB, Bool.not_true, Bool.not_false, Bool.true_and, Bool.false_and, Bool.and_true, Bool.and_false, cond_true, cond_false, gh_isBin9, gh_isKind9, gh_isFarmer9, gh_within, gh_inR, gh_isBin10, gh_isKind10, Int32.toInt_toInt64, Int32.reduceToInt, Int64.reduceToInt, decide_true, decide_false, c1, c2, c3, c4, d1]
    cases c2' : gh_rg (nI st).toInt 1 255 with
    | false => exact ⟨-1, S1, S1, r9, by simp only [sX10_blend, gq_bs, gq_B_eq, gq_B_ne, gq_B_gB, Bool.not_true, Bool.not_false, Bool.true_and, Bool.false_and, Bool.and_true, Bool.and_false, cond_true, cond_false, gh_isBin9, gh_isKind9, gh_isFarmer9, gh_within, gh_inR, gh_isBin10, gh_isKind10, Int32.toInt_toInt64, Int32.reduceToInt, Int64.reduceToInt, decide_true, decide_false, c1, c2'], keep1 S1 d2, gh_fr_mono d2 gb_C_C1⟩
    | true =>
      obtain ⟨S2, e1, e2, e3⟩ := gb_54 (st := st) (q := q) (kd := kd) (kg := kg) (g := g) N hst2 hq3 (nI tq) (nI w) 8 0 N S1 (by omega) (by omega) hB1 (fun i hi => absurd hi (Nat.not_lt_zero _)) (Nat.zero_le _)
      have hR2 : gb_R S2 := by
        obtain ⟨tl, p1, p2, p3, p4⟩ := keep1 S1 d2
        exact ⟨tl, (e1.1 37 7 rfl).trans p1, (e1.1 56 62 rfl).trans p2, fun h b hb => by rw [e1.1 42 b rfl, e1.1 92 b rfl]; exact p3 h b hb, fun i hi => (e1.2.1 40 (21 * i) rfl).trans (p4 i hi)⟩
      have f2 : gh_fr gb_C S S2 := gh_fr_trans (gh_fr_mono d2 gb_C_C1) (gh_fr_mono e1 (fun c k h => by rw [Nat.eq_of_beq_eq_true h]; rfl))
      refine ⟨-1, S1, S2, r9, ?_, hR2, f2⟩
      have e54 : sX10_blend N (nI q) (nI st) (nI tq) (nI w) S1 = sX10_blend_54 N N (nI q) (nI st) (nI tq) (nI w) (nI (gb_l st kd kg q 0).length) (nI 0) S1 := by simp only [sX10_blend, gq_bs, gq_B_eq, gq_B_ne, gq_B_gB, Bool.not_true, Bool.not_false, Bool.true_and, Bool.false_and, Bool.and_true, Bool.and_false, cond_true, cond_false, gh_isBin9, gh_isKind9, gh_isFarmer9, gh_within, gh_inR, gh_isBin10, gh_isKind10, Int32.toInt_toInt64, Int32.reduceToInt, Int64.reduceToInt, decide_true, decide_false, c1, c2', c3, c4]; rfl
      rw [e54]
      by_cases h4 : (gb_l st kd kg q 8).length ≤ 4
      · have h0 : (gb_l st kd kg q 8).length = 0 := by omega
        rw [(e2 h4).2, h0]
        obtain ⟨n1, hn1⟩ : ∃ n1, N = n1 + 1 := ⟨N - 1, by omega⟩
        show sX10_blend_140 N N (nI tq) (nI w) (nI 0) (-1) 0 1 S2 = _
        rw [show sX10_blend_140 N N (nI tq) (nI w) (nI 0) (-1) 0 1 S2 = sX10_blend_140 N (n1 + 1) (nI tq) (nI w) (nI 0) (-1) 0 1 S2 by rw [← hn1], sX10_blend_140, show gh_cmp .ge (1 : Int32) (nI 0) = true from rfl, cond_true, show sX10_blend_167 N N (nI tq) (nI w) (nI 0) (-1) (0 - 1) S2 = sX10_blend_167 N (n1 + 1) (nI tq) (nI w) (nI 0) (-1) (0 - 1) S2 by rw [← hn1], sX10_blend_167]
        rfl
      · exact e3 h4
  case pos =>
  rw [decide_eq_true hm] at d1
  have hc1 := d3 hm.2
  have hz1 : ∀ i, i < 4 → S1.2.1 40 (21 * i) = 0 := fun i hi => (d2.2.1 40 (21 * i) rfl).trans (r4 i hi)
  obtain ⟨S2, acc, k1, k2, k3, k4, k5, k6⟩ := gb_best (kd := kd) (kg := kg) (g := g) (l := gb_l st kd kg q 8) (q := tq) N (by omega) (by omega) (by omega) (w := w) (by omega) hlm hm.2 hB1 hc1 hz1
  have c2' : gh_rg (nI st).toInt 1 255 = true := by
    cases c : gh_rg (nI st).toInt 1 255 with
    | true => rfl
    | false =>
      have h0 := gh_rg_not.mp c
      have hz : st = 0 := by omega
      have : (gb_l st kd kg q 8).length = 0 := by
        unfold gb_l
        rw [List.filter_eq_nil_iff.mpr (fun x _ => by unfold gb_sel; rw [hz, Nat.zero_testBit, Bool.false_and]; decide)]
        rfl
      omega
  have f2 : gh_fr gb_C S S2 := gh_fr_trans (gh_fr_mono d2 gb_C_C1) k2
  have hB2 := gb_bins_fr hB f2
  obtain ⟨S3, e1, e2, -⟩ := gb_54 (st := st) (q := q) (kd := kd) (kg := kg) (g := g) N hst2 hq3 (nI tq) (nI w) 8 0 N S2 (by omega) (by omega) hB2 (fun i hi => absurd hi (Nat.not_lt_zero _)) (Nat.zero_le _)
  obtain ⟨hw3, e54⟩ := e2 hm.2
  have hB3 := gb_bins_fr hB2 (gh_fr_mono e1 (fun c k h => by rw [Nat.eq_of_beq_eq_true h]; rfl))
  have e54' : sX10_blend N (nI q) (nI st) (nI tq) (nI w) S2 = sX10_blend_167 N N (nI tq) (nI w) (nI (gb_l st kd kg q 8).length) (-1) (gq_Z ((((tq + 1) ^ ((gb_l st kd kg q 8).length - 1) : Nat) : Int) - 1)) S3 := by
    have e0 : sX10_blend N (nI q) (nI st) (nI tq) (nI w) S2 = sX10_blend_54 N N (nI q) (nI st) (nI tq) (nI w) (nI (gb_l st kd kg q 0).length) (nI 0) S2 := by simp only [sX10_blend, gq_bs, gq_B_eq, gq_B_ne, gq_B_gB, Bool.not_true, Bool.not_false, Bool.true_and, Bool.false_and, Bool.and_true, Bool.and_false, cond_true, cond_false, gh_isBin9, gh_isKind9, gh_isFarmer9, gh_within, gh_inR, gh_isBin10, gh_isKind10, Int32.toInt_toInt64, Int32.reduceToInt, Int64.reduceToInt, decide_true, decide_false, c1, c2', c3, c4]; rfl
    rw [e0, e54, decide_eq_true (show (gb_l st kd kg q 8).length ≠ 0 by omega)]
    have := gb_140 (tq := tq) N (by omega) hm.2 (nI w) (-1) S3 ((gb_l st kd kg q 8).length - 1) 1 N (by omega) (by omega) (Nat.le_refl _)
    rw [show (1 : Nat) - 1 = 0 from rfl, Nat.pow_zero] at this
    refine Eq.trans this ?_
    congr 1
    rw [← gq_Z_n, show (1 : Int32) = gq_Z 1 from rfl, gq_Z_sub]
  have hpow := gb_pow (tq := tq) (by omega) (show (gb_l st kd kg q 8).length - 1 ≤ 3 by omega)
  obtain ⟨S4, acc', m1, m2, m3⟩ := gb_167 (q := tq) (w := w) (kd := kd) (kg := kg) (g := g) (l := gb_l st kd kg q 8) N (by omega) (by omega) (by omega) (by omega) hlm hm.1 hm.2 ((tq + 1) ^ ((gb_l st kd kg q 8).length - 1)) N S3 (-1) none (by omega) (Nat.le_refl _) hpow hB3 hw3 rfl (fun t ht hp => by
    obtain ⟨w', p1, p2, -⟩ := hp
    omega)
  have hacc := gb_bst_u k1 m1
  subst hacc
  have f4 : gh_fr gb_C S S4 := gh_fr_trans f2 (gh_fr_trans (gh_fr_mono e1 (fun c k h => by rw [Nat.eq_of_beq_eq_true h]; rfl)) (gh_fr_mono m2 gb_C_CR2))
  have z4 : ∀ i, i < 4 → S4.2.1 40 (21 * i) = 0 := fun i hi => (m2.2.1 40 (21 * i) rfl).trans ((e1.2.1 40 (21 * i) rfl).trans (k3 i hi))
  have g7 : S4.1 37 7 = S2.1 37 7 := (m2.1 37 7 rfl).trans (e1.1 37 7 rfl)
  have g42 : ∀ b, S4.1 42 b = S2.1 42 b := fun b => (m2.1 42 b rfl).trans (e1.1 42 b rfl)
  cases acc with
  | none =>
    obtain ⟨n1, n2, n3⟩ := k6
    obtain ⟨o1, o2, o3⟩ := m3
    refine ⟨-1, S2, S4, by simp only [sX9_blend, gq_bs, gq_B_eq, gq_B_ne, gq_B_gB, Bool.not_true, Bool.not_false, Bool.true_and, Bool.false_and, Bool.and_true, Bool.and_false, cond_true, cond_false, gh_isBin9, gh_isKind9, gh_isFarmer9, gh_within, gh_inR, gh_isBin10, gh_isKind10, Int32.toInt_toInt64, Int32.reduceToInt, Int64.reduceToInt, decide_true, decide_false, c1, c2, c3, c4, d1, n1], by rw [e54']; exact o1, ⟨tl, ?_, ?_, fun h b hb => ?_, z4⟩, f4⟩
    · rw [g7, n2]
      exact (d2.1 37 7 rfl).trans r1
    · rw [o2, e1.1 56 62 rfl, k5]
      exact (d2.1 56 62 rfl).trans r2
    · rw [g42, n3, o3, e1.1 92 b rfl, k4 92 b (Nat.le_refl _), d2.1 42 b rfl, d2.1 92 b rfl]
      exact r3 h b hb
  | some x =>
    obtain ⟨v, t⟩ := x
    obtain ⟨n1, nv, n2, n3⟩ := k6
    obtain ⟨o1, o2, o3⟩ := m3
    refine ⟨lN v, S2, S4, by simp only [sX9_blend, gq_bs, gq_B_eq, gq_B_ne, gq_B_gB, Bool.not_true, Bool.not_false, Bool.true_and, Bool.false_and, Bool.and_true, Bool.and_false, cond_true, cond_false, gh_isBin9, gh_isKind9, gh_isFarmer9, gh_within, gh_inR, gh_isBin10, gh_isKind10, Int32.toInt_toInt64, Int32.reduceToInt, Int64.reduceToInt, decide_true, decide_false, c1, c2, c3, c4, d1, n1], by rw [e54']; exact o1, ⟨true, ?_, o2, fun _ b hb => ?_, z4⟩, f4⟩
    · rw [g7]
      exact n2
    · rw [g42, n3 b hb, o3 b hb]
theorem gb_blended {S : gh_St} (N : Nat) (a : Int32) (hR : gb_R S) : gq_P (sX9_blended N a) (sX10_blended N a) gb_C gb_R S := by
  obtain ⟨tl, r1, r2, r3, r4⟩ := hR
  have hR : gb_R S := ⟨tl, r1, r2, r3, r4⟩
  cases c1 : gh_rg a.toInt 0 7 with
  | false => exact gq_P0 (-1) (by simp only [sX9_blended, gq_bs, gq_B_eq, gq_B_ne, gq_B_gB, Bool.not_true, Bool.not_false, Bool.true_and, Bool.false_and, Bool.and_true, Bool.and_false, cond_true, cond_false, gh_isBin9, gh_isKind9, gh_isFarmer9, gh_within, gh_inR, gh_isBin10, gh_isKind10, Int32.toInt_toInt64, Int32.reduceToInt, Int64.reduceToInt, decide_true, decide_false, c1]) (by simp only [sX10_blended, gq_bs, gq_B_eq, gq_B_ne, gq_B_gB, Bool.not_true, Bool.not_false, Bool.true_and, Bool.false_and, Bool.and_true, Bool.and_false, cond_true, cond_false, gh_isBin9, gh_isKind9, gh_isFarmer9, gh_within, gh_inR, gh_isBin10, gh_isKind10, Int32.toInt_toInt64, Int32.reduceToInt, Int64.reduceToInt, decide_true, decide_false, c1]) hR
  | true =>
  obtain ⟨b, -, rfl, -, hb, -⟩ := gh_rgN c1 (by decide)
  have hb8 : b < 8 := by omega
  cases tl with
  | false => exact gq_P0 (-1) (by simp only [sX9_blended, gq_bs, gq_B_eq, gq_B_ne, gq_B_gB, Bool.not_true, Bool.not_false, Bool.true_and, Bool.false_and, Bool.and_true, Bool.and_false, cond_true, cond_false, gh_isBin9, gh_isKind9, gh_isFarmer9, gh_within, gh_inR, gh_isBin10, gh_isKind10, Int32.toInt_toInt64, Int32.reduceToInt, Int64.reduceToInt, decide_true, decide_false, c1, r1]) (by simp only [sX10_blended, gq_bs, gq_B_eq, gq_B_ne, gq_B_gB, Bool.not_true, Bool.not_false, Bool.true_and, Bool.false_and, Bool.and_true, Bool.and_false, cond_true, cond_false, gh_isBin9, gh_isKind9, gh_isFarmer9, gh_within, gh_inR, gh_isBin10, gh_isKind10, Int32.toInt_toInt64, Int32.reduceToInt, Int64.reduceToInt, decide_true, decide_false, c1, r2]) hR
  | true =>
    have ra : ∀ c, gh_ra S c 8 (nI b) = some (S.1 c b) := fun c => gh_ra_n hb8 (by decide)
    exact gq_P0 (S.1 42 b) (by simp only [sX9_blended, gq_bs, gq_B_eq, gq_B_ne, gq_B_gB, Bool.not_true, Bool.not_false, Bool.true_and, Bool.false_and, Bool.and_true, Bool.and_false, cond_true, cond_false, gh_isBin9, gh_isKind9, gh_isFarmer9, gh_within, gh_inR, gh_isBin10, gh_isKind10, Int32.toInt_toInt64, Int32.reduceToInt, Int64.reduceToInt, decide_true, decide_false, c1, r1, ra]) (by simp only [sX10_blended, gq_bs, gq_B_eq, gq_B_ne, gq_B_gB, Bool.not_true, Bool.not_false, Bool.true_and, Bool.false_and, Bool.and_true, Bool.and_false, cond_true, cond_false, gh_isBin9, gh_isKind9, gh_isFarmer9, gh_within, gh_inR, gh_isBin10, gh_isKind10, Int32.toInt_toInt64, Int32.reduceToInt, Int64.reduceToInt, decide_true, decide_false, c1, r2, ra, r3 rfl b hb8]) hR

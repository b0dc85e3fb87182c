/-! ===== BLENDS: choosing and reckoning in the class ===== -/
theorem gb_bit : ∀ m, m < 256 → ∀ b, b < 8 → gh_cmp .eq ((nI m >>> (nI b &&& 31)) &&& (1 : Int32)) 0 = !m.testBit b := by decide +kernel
theorem gb_bit1 : ∀ m, m < 256 → ∀ b, b < 8 → gh_cmp .ne ((nI m >>> (nI b &&& 31)) &&& (1 : Int32)) 1 = !m.testBit b := by decide +kernel
def gb_bins (S : gh_St) (kd kg g : Nat → Nat) : Prop := ∀ b, b < 8 → S.1 2 b = nI (kd b) ∧ S.1 58 b = nI (kd b) ∧ S.1 3 b = nI (kg b) ∧ S.1 59 b = nI (kg b) ∧ S.2.1 5 b = lN (g b) ∧ S.2.1 60 b = lN (g b) ∧ kd b ≤ 3 ∧ kg b ≤ 500000 ∧ g b ≤ 4000000000
/-- the places of the blends -/
def gb_C (c k : Nat) : Bool := (Nat.ble 37 c && Nat.ble c 42) || (Nat.ble 92 c && Nat.ble c 95) || (Nat.beq c 56 && Nat.beq k 62)
theorem gb_bins_fr {S S' : gh_St} {kd kg g : Nat → Nat} (h : gb_bins S kd kg g) (hf : gh_fr gb_C S S') : gb_bins S' kd kg g := fun b hb => by
  obtain ⟨a1, a2, a3, a4, a5, a6, a7⟩ := h b hb
  exact ⟨(hf.1 _ _ rfl).trans a1, (hf.1 _ _ rfl).trans a2, (hf.1 _ _ rfl).trans a3, (hf.1 _ _ rfl).trans a4, (hf.2.1 _ _ rfl).trans a5, (hf.2.1 _ _ rfl).trans a6, a7⟩
def gb_sel (st : Nat) (kd kg : Nat → Nat) (q b : Nat) : Bool := st.testBit b && (decide (0 < kg b) && decide (kd b = q))
def gb_l (st : Nat) (kd kg : Nat → Nat) (q k : Nat) : List Nat := (List.range k).filter (gb_sel st kd kg q)
theorem gb_l_s (st : Nat) (kd kg : Nat → Nat) (q k : Nat) : gb_l st kd kg q (k + 1) = gb_l st kd kg q k ++ (if gb_sel st kd kg q k = true then [k] else []) := by
  unfold gb_l
  rw [List.range_succ, List.filter_append]
  congr 1
  by_cases h : gb_sel st kd kg q k = true
  · rw [if_pos h, List.filter_cons, if_pos h]
    rfl
  · rw [if_neg h, List.filter_cons, if_neg h]
    rfl
theorem gb_l_le (st : Nat) (kd kg : Nat → Nat) (q : Nat) {j k : Nat} (h : j ≤ k) : (gb_l st kd kg q j).length ≤ (gb_l st kd kg q k).length := List.Sublist.length_le (List.Sublist.filter _ (List.range_sublist.mpr h))
theorem gb_l_mem {st : Nat} {kd kg : Nat → Nat} {q k i : Nat} (hi : i < (gb_l st kd kg q k).length) : gr_at (gb_l st kd kg q k) i < k ∧ 0 < kg (gr_at (gb_l st kd kg q k) i) := by
  have := gf_at_mem hi
  obtain ⟨h1, h2⟩ := List.mem_filter.mp this
  refine ⟨List.mem_range.mp h1, ?_⟩
  unfold gb_sel at h2
  rw [Bool.and_eq_true, Bool.and_eq_true, decide_eq_true_iff] at h2
  exact h2.2.1
def gb_C1 (c k : Nat) : Bool := Nat.beq c 38 || (Nat.beq c 37 && Nat.beq k 4)
theorem gb_C_C1 : ∀ c k, gb_C1 c k = true → gb_C c k = true := by
  intro c k h
  unfold gb_C1 at h
  unfold gb_C
  simp only [Bool.or_eq_true, Bool.and_eq_true, Nat.beq_eq, Nat.ble_eq] at h ⊢
  omega
theorem gb_C_CT : ∀ c k, gb_CT c k = true → gb_C c k = true := by
  intro c k h
  unfold gb_CT at h
  unfold gb_C
  simp only [Bool.or_eq_true, Bool.and_eq_true, Nat.beq_eq, Nat.ble_eq] at h ⊢
  omega
/-- the chosen bins, as the class keeps them -/
def gb_ch (S : gh_St) (l : List Nat) : Prop := S.1 37 4 = nI l.length ∧ ∀ i, i < l.length → S.1 38 i = nI (gr_at l i)
section GbK
variable {st q : Nat} {kd kg g : Nat → Nat} (N : Nat)
theorem gb_has {S : gh_St} (hB : gb_bins S kd kg g) {b : Nat} (hb : b < 8) (hq : q ≤ 3) : sX0_has N (nI b) (nI q) S = some (gq_B (decide (0 < kg b) && decide (kd b = q)), S) := by
  obtain ⟨a1, a2, a3, a4, a5, a6, a7, a8, a9⟩ := hB b hb
  unfold sX0_has
  rw [gh_ra_n hb (by decide), gq_bs, a3, show gh_cmp .le (nI (kg b)) 0 = decide (kg b ≤ 0) from gh_n_le (b := 0) (by omega) (by omega), gh_ra_n hb (by decide), gq_bs, a1, gh_n_ne (by omega) (by omega)]
  by_cases h0 : kg b ≤ 0
  · rw [decide_eq_true h0, cond_true, decide_eq_false (show ¬ 0 < kg b by omega)]
    rfl
  · rw [decide_eq_false h0, cond_false, decide_eq_true (show 0 < kg b by omega)]
    by_cases h1 : kd b = q
    · rw [decide_eq_false (not_not_intro h1), cond_false, decide_eq_true h1]
      rfl
    · rw [decide_eq_true h1, cond_true, decide_eq_false h1]
      rfl
theorem gb_choose8 (hst : st < 256) (hq : q ≤ 3) : ∀ (j k fu : Nat) (S : gh_St), k + j = 8 → j < fu → gb_bins S kd kg g → gb_ch S (gb_l st kd kg q k) → (gb_l st kd kg q k).length ≤ 4 → ∃ S', sX1_choose_8 N fu (nI q) (nI st) (nI k) S = some (gq_B (decide (1 ≤ (gb_l st kd kg q 8).length ∧ (gb_l st kd kg q 8).length ≤ 4)), S') ∧ gh_fr gb_C1 S S' ∧ ((gb_l st kd kg q 8).length ≤ 4 → gb_ch S' (gb_l st kd kg q 8)) := by
  intro j
  induction j with
  | zero =>
    intro k fu S hk hfu hB hc hl
    obtain ⟨fu, rfl⟩ : ∃ w, fu = w + 1 := ⟨fu - 1, by omega⟩
    have e8 : k = 8 := by omega
    subst e8
    refine ⟨S, ?_, gh_fr_refl _ _, fun _ => hc⟩
    rw [sX1_choose_8, show gh_cmp .ge (nI 8) 8 = true from rfl, cond_true, hc.1, show gh_cmp .le (nI (gb_l st kd kg q 8).length) 0 = decide ((gb_l st kd kg q 8).length ≤ 0) from gh_n_le (b := 0) (by omega) (by omega)]
    by_cases h0 : (gb_l st kd kg q 8).length ≤ 0
    · rw [decide_eq_true h0, cond_true, decide_eq_false (by omega)]
      rfl
    · rw [decide_eq_false h0, cond_false, decide_eq_true (by omega)]
      rfl
  | succ j ih =>
    intro k fu S hk hfu hB hc hl
    obtain ⟨fu, rfl⟩ : ∃ w, fu = w + 1 := ⟨fu - 1, by omega⟩
    have hk8 : k < 8 := by omega
    have hs := gb_l_s st kd kg q k
    rw [sX1_choose_8, show gh_cmp .ge (nI k) 8 = decide (8 ≤ k) from gh_n_ge (b := 8) (by omega) (by omega), decide_eq_false (by omega), cond_false, gb_bit st hst k hk8, gb_has N hB hk8 hq, gq_bs]
    show ∃ S', (bif !st.testBit k then _ else bif gh_cmp .eq (gq_B (decide (0 < kg k) && decide (kd k = q))) 0 then _ else bif gh_cmp .lt (S.1 37 4) 4 then _ else _) = _ ∧ _
    rw [gq_B_eq]
    unfold sX1_choose_65
    rw [nI_1]
    have skip : gb_sel st kd kg q k = false → ∃ S', sX1_choose_8 N fu (nI q) (nI st) (nI (k + 1)) S = some (gq_B (decide (1 ≤ (gb_l st kd kg q 8).length ∧ (gb_l st kd kg q 8).length ≤ 4)), S') ∧ gh_fr gb_C1 S S' ∧ ((gb_l st kd kg q 8).length ≤ 4 → gb_ch S' (gb_l st kd kg q 8)) := by
      intro hsel
      rw [hsel, if_neg (by decide), List.append_nil] at hs
      exact ih (k + 1) fu S (by omega) (by omega) hB (by rw [hs]; exact hc) (by rw [hs]; exact hl)
    cases hb : st.testBit k with
    | false =>
      rw [Bool.not_false, cond_true]
      exact skip (by unfold gb_sel; rw [hb, Bool.false_and])
    | true =>
      rw [Bool.not_true, cond_false]
      cases hx : (decide (0 < kg k) && decide (kd k = q)) with
      | false =>
        rw [Bool.not_false, cond_true]
        exact skip (by unfold gb_sel; rw [hb, hx, Bool.and_false])
      | true =>
        have hsel : gb_sel st kd kg q k = true := by unfold gb_sel; rw [hb, hx]; rfl
        rw [hsel, if_pos rfl] at hs
        have hlen : (gb_l st kd kg q (k + 1)).length = (gb_l st kd kg q k).length + 1 := by rw [hs, List.length_append]; rfl
        have hmono := gb_l_le st kd kg q (show k + 1 ≤ 8 by omega)
        rw [Bool.not_true, cond_false, hc.1, show gh_cmp .lt (nI (gb_l st kd kg q k).length) 4 = decide ((gb_l st kd kg q k).length < 4) from gh_n_lt (b := 4) (by omega) (by omega)]
        by_cases h4 : (gb_l st kd kg q k).length < 4
        · rw [decide_eq_true h4, cond_true, gh_wa_n h4 (by decide), gq_bs, show (gh_fI S 38 (gb_l st kd kg q k).length (nI k)).1 37 4 = nI (gb_l st kd kg q k).length from by rw [gh_fI_1, if_neg (by omega)]; exact hc.1, nI_1]
          have f1 : gh_fr gb_C1 S (gh_fI (gh_fI S 38 (gb_l st kd kg q k).length (nI k)) 37 4 (nI ((gb_l st kd kg q k).length + 1))) := gh_fr_fI (gh_fr_fI (gh_fr_refl _ _) rfl) rfl
          obtain ⟨S', a1, a2, a3⟩ := ih (k + 1) fu _ (by omega) (by omega) (gb_bins_fr hB (gh_fr_mono f1 gb_C_C1)) ⟨by rw [gh_fI_1, if_pos ⟨rfl, rfl⟩, hlen], fun i hi => by
            rw [gh_fI_1, if_neg (by omega), gh_fI_1, hs]
            by_cases e : i = (gb_l st kd kg q k).length
            · rw [if_pos ⟨rfl, e⟩, e]
              have := gr_at_ge (gb_l st kd kg q k) [k] 0
              rw [Nat.add_zero] at this
              rw [this]
              rfl
            · rw [if_neg (fun w => e w.2), gr_at_lt (by omega)]
              exact hc.2 i (by omega)⟩ (by omega)
          exact ⟨S', a1, gh_fr_trans f1 a2, a3⟩
        · rw [decide_eq_false h4, cond_false]
          refine ⟨S, ?_, gh_fr_refl _ _, fun h => by omega⟩
          rw [decide_eq_false (by omega)]
          rfl
theorem gb_choose (hN : 100 ≤ N) (hst : st < 256) (hq : q ≤ 3) {S : gh_St} (hB : gb_bins S kd kg g) : ∃ S', sX1_choose N (nI q) (nI st) S = some (gq_B (decide (1 ≤ (gb_l st kd kg q 8).length ∧ (gb_l st kd kg q 8).length ≤ 4)), S') ∧ gh_fr gb_C1 S S' ∧ ((gb_l st kd kg q 8).length ≤ 4 → gb_ch S' (gb_l st kd kg q 8)) := by
  have f0 : gh_fr gb_C1 S (gh_fI S 37 4 0) := gh_fr_fI (gh_fr_refl _ _) rfl
  obtain ⟨S', a1, a2, a3⟩ := gb_choose8 (st := st) (q := q) (kd := kd) (kg := kg) (g := g) N hst hq 8 0 N (gh_fI S 37 4 0) (by omega) (by omega) (gb_bins_fr hB (gh_fr_mono f0 gb_C_C1)) ⟨by rw [gh_fI_1, if_pos ⟨rfl, rfl⟩]; rfl, fun i hi => absurd hi (Nat.not_lt_zero _)⟩ (Nat.zero_le _)
  exact ⟨S', a1, gh_fr_trans f0 a2, a3⟩
end GbK
def gb_mo (l : List Nat) (kg : Nat → Nat) (q i : Nat) : Nat := if i < l.length then min q (kg (gr_at l i) / 1000) else 0
def gb_G (l : List Nat) (kg g : Nat → Nat) (i n : Nat) : Nat := g (gr_at l i) * (n * 1000) / kg (gr_at l i)
def gb_CR (c k : Nat) : Bool := Nat.beq c 39 || (Nat.beq c 40 && !Nat.beq (k % 21) 0)
theorem gb_C_CR : ∀ c k, gb_CR c k = true → gb_C c k = true := by
  intro c k h
  unfold gb_CR at h
  unfold gb_C
  simp only [Bool.or_eq_true, Bool.and_eq_true, Nat.beq_eq, Nat.ble_eq] at h ⊢
  omega
section GbR
variable {q : Nat} {kd kg g : Nat → Nat} {l : List Nat} (N : Nat)
theorem gb_G0 (i : Nat) : gb_G l kg g i 0 = 0 := by unfold gb_G; rw [Nat.zero_mul, Nat.mul_zero, Nat.zero_div]
theorem gb_r47 (hl : ∀ i, i < l.length → gr_at l i < 8 ∧ 0 < kg (gr_at l i)) {i : Nat} (hi : i < 4) (kc2 : Int32 → Int32 → gh_St → Option gh_St) (l2 : Int32) (hm : gb_mo l kg q i ≤ 20) : ∀ (j n fu : Nat) (S : gh_St), n + j = gb_mo l kg q i + 1 → j < fu → 1 ≤ n → gb_bins S kd kg g → gb_ch S l → S.1 39 i = nI (gb_mo l kg q i) → (∀ n', n' < n → S.2.1 40 (21 * i + n') = lN (gb_G l kg g i n')) → ∃ S', sX1_reckon_47 N kc2 fu l2 (nI i) (nI n) S = kc2 l2 (nI (i + 1)) S' ∧ gh_fr (fun c k => Nat.beq c 40 && (Nat.ble (21 * i + 1) k && Nat.ble k (21 * i + 20))) S S' ∧ ∀ n', n' ≤ gb_mo l kg q i → S'.2.1 40 (21 * i + n') = lN (gb_G l kg g i n') := by
  intro j
  induction j with
  | zero =>
    intro n fu S hn hfu hn1 hB hc h39 hd
    obtain ⟨fu, rfl⟩ : ∃ w, fu = w + 1 := ⟨fu - 1, by omega⟩
    rw [sX1_reckon_47, gh_ra_n hi (by decide), gq_bs, h39, gh_n_gt (by omega) (by omega), decide_eq_true (by omega), cond_true, nI_1]
    exact ⟨S, rfl, gh_fr_refl _ _, fun n' hn' => hd n' (by omega)⟩
  | succ j ih =>
    intro n fu S hn hfu hn1 hB hc h39 hd
    obtain ⟨fu, rfl⟩ : ∃ w, fu = w + 1 := ⟨fu - 1, by omega⟩
    have hil : i < l.length := by
      by_cases e : i < l.length
      · exact e
      · unfold gb_mo at hn
        rw [if_neg e] at hn
        omega
    obtain ⟨b8, bk⟩ := hl i hil
    have hmo : gb_mo l kg q i = min q (kg (gr_at l i) / 1000) := if_pos hil
    obtain ⟨a1, a2, a3, a4, a5, a6, a7, a8, a9⟩ := hB _ b8
    have hle : n * 1000 ≤ kg (gr_at l i) := by omega
    rw [sX1_reckon_47, gh_ra_n hi (by decide), gq_bs, h39, gh_n_gt (by omega) (by omega), decide_eq_false (by omega), cond_false, gh_ra_n hi (by decide), gq_bs, hc.2 i hil, show (1000 : Int32) = nI 1000 from rfl, pk_mul, gq_part N b8 a3 a5 (by omega) a8 hle a9, gq_bs]
    have ei : nI i * (21 : Int32) + nI n = nI (21 * i + n) := by
      rw [show (21 : Int32) = nI 21 from rfl, pk_mul, nI_add]
      congr 1
      omega
    show ∃ S', ((gh_wj S 40 84 (nI i * (21 : Int32) + nI n) (lN (g (gr_at l i) * (n * 1000) / kg (gr_at l i)))).bind _) = _ ∧ _
    rw [ei, gh_wj_n (by omega) (by decide), gq_bs, nI_1]
    have f1 : gh_fr (fun c k => Nat.beq c 40 && (Nat.ble (21 * i + 1) k && Nat.ble k (21 * i + 20))) S (gh_fL S 40 (21 * i + n) (lN (g (gr_at l i) * (n * 1000) / kg (gr_at l i)))) := gh_fr_fL (gh_fr_refl _ _) (by
      show (true && (Nat.ble (21 * i + 1) (21 * i + n) && Nat.ble (21 * i + n) (21 * i + 20))) = true
      rw [Nat.ble_eq.mpr (by omega), Nat.ble_eq.mpr (by omega)]
      rfl)
    have fC : gh_fr gb_C S (gh_fL S 40 (21 * i + n) (lN (g (gr_at l i) * (n * 1000) / kg (gr_at l i)))) := gh_fr_fL (gh_fr_refl _ _) rfl
    obtain ⟨S', b1, b2, b3⟩ := ih (n + 1) fu _ (by omega) (by omega) (by omega) (gb_bins_fr hB fC) hc h39 (fun n' hn' => by
      rw [gh_fL_1]
      by_cases e : n' = n
      · rw [if_pos ⟨rfl, by rw [e]⟩, e]
        rfl
      · rw [if_neg (by omega)]
        exact hd n' (by omega))
    exact ⟨S', b1, gh_fr_trans f1 b2, b3⟩
theorem gb_r2 (hN : 100 ≤ N) (hq : q ≤ 20) (hl : ∀ i, i < l.length → gr_at l i < 8 ∧ 0 < kg (gr_at l i)) (hl4 : l.length ≤ 4) : ∀ (j i fu : Nat) (S : gh_St), i + j = 4 → j < fu → gb_bins S kd kg g → gb_ch S l → (∀ i', i' < 4 → S.2.1 40 (21 * i') = 0) → (∀ i', i' < i → S.1 39 i' = nI (gb_mo l kg q i') ∧ ∀ n, n ≤ gb_mo l kg q i' → S.2.1 40 (21 * i' + n) = lN (gb_G l kg g i' n)) → ∃ S', sX1_reckon_2 N fu (nI q) (nI i) S = some S' ∧ gh_fr gb_CR S S' ∧ ∀ i', i' < 4 → S'.1 39 i' = nI (gb_mo l kg q i') ∧ ∀ n, n ≤ gb_mo l kg q i' → S'.2.1 40 (21 * i' + n) = lN (gb_G l kg g i' n) := by
  intro j
  induction j with
  | zero =>
    intro i fu S hi hfu hB hc hz hd
    obtain ⟨fu, rfl⟩ : ∃ w, fu = w + 1 := ⟨fu - 1, by omega⟩
    rw [sX1_reckon_2, show gh_cmp .ge (nI i) 4 = decide (4 ≤ i) from gh_n_ge (b := 4) (by omega) (by omega), decide_eq_true (by omega), cond_true]
    exact ⟨S, rfl, gh_fr_refl _ _, fun i' hi' => hd i' (by omega)⟩
  | succ j ih =>
    intro i fu S hi hfu hB hc hz hd
    obtain ⟨fu, rfl⟩ : ∃ w, fu = w + 1 := ⟨fu - 1, by omega⟩
    have hi4 : i < 4 := by omega
    have hmo20 : gb_mo l kg q i ≤ 20 := by unfold gb_mo; split <;> omega
    have go : ∀ z : Int32, z = nI (gb_mo l kg q i) → ∃ S', sX1_reckon_43 N (sX1_reckon_2 N fu) (nI q) (nI i) z (nI i) S = some S' ∧ gh_fr gb_CR S S' ∧ ∀ i', i' < 4 → S'.1 39 i' = nI (gb_mo l kg q i') ∧ ∀ n, n ≤ gb_mo l kg q i' → S'.2.1 40 (21 * i' + n) = lN (gb_G l kg g i' n) := by
      intro z hzz
      unfold sX1_reckon_43
      rw [gh_wa_n hi4 (by decide), gq_bs]
      have f1 : gh_fr gb_CR S (gh_fI S 39 i z) := gh_fr_fI (gh_fr_refl _ _) rfl
      have hc1 : gb_ch (gh_fI S 39 i z) l := ⟨by rw [gh_fI_1, if_neg (by omega)]; exact hc.1, fun i' hi' => by rw [gh_fI_1, if_neg (by omega)]; exact hc.2 i' hi'⟩
      obtain ⟨S1, a1, a2, a3⟩ := gb_r47 (q := q) (kd := kd) (kg := kg) (g := g) (l := l) N hl hi4 (sX1_reckon_2 N fu) (nI q) hmo20 (gb_mo l kg q i) 1 N (gh_fI S 39 i z) (by omega) (by omega) (Nat.le_refl _) (gb_bins_fr hB (gh_fr_mono f1 gb_C_CR)) hc1 (by rw [gh_fI_1, if_pos ⟨rfl, rfl⟩, hzz]) (fun n' hn' => by
        rw [show n' = 0 by omega, gb_G0]
        exact hz i hi4)
      have a1' : sX1_reckon_47 N (sX1_reckon_2 N fu) N (nI q) (nI i) 1 (gh_fI S 39 i z) = sX1_reckon_2 N fu (nI q) (nI (i + 1)) S1 := a1
      rw [a1']
      have f2 : gh_fr gb_CR (gh_fI S 39 i z) S1 := gh_fr_mono a2 (fun c k h => by
        simp only [Bool.and_eq_true, Nat.beq_eq, Nat.ble_eq] at h
        unfold gb_CR
        obtain ⟨h1, h2, h3⟩ := h
        rw [h1]
        have : Nat.beq (k % 21) 0 = false := gf_bf (fun w => by have := Nat.eq_of_beq_eq_true w; omega)
        rw [this]
        rfl)
      have f12 := gh_fr_trans f1 f2
      obtain ⟨S', b1, b2, b3⟩ := ih (i + 1) fu S1 (by omega) (by omega) (gb_bins_fr hB (gh_fr_mono f12 gb_C_CR)) ⟨(f2.1 37 4 rfl).trans hc1.1, fun i' hi' => (f2.1 38 i' rfl).trans (hc1.2 i' hi')⟩ (fun i' hi' => by
        rw [f12.2.1 40 (21 * i') (by
          unfold gb_CR
          rw [show 21 * i' % 21 = 0 by omega]
          rfl)]
        exact hz i' hi') (fun i' hi' => by
        have hne : ∀ i1 n1, i1 ≠ i → i1 < 4 → n1 ≤ 20 → (fun c k => Nat.beq c 40 && (Nat.ble (21 * i + 1) k && Nat.ble k (21 * i + 20))) 40 (21 * i1 + n1) = false := fun i1 n1 h1 h2 h3 => gf_bf (fun w => by
          simp only [Bool.and_eq_true, Nat.ble_eq] at w
          omega)
        by_cases e : i' = i
        · subst e
          exact ⟨(a2.1 39 i' rfl).trans (by rw [gh_fI_1, if_pos ⟨rfl, rfl⟩, hzz]), a3⟩
        · obtain ⟨d1, d2⟩ := hd i' (by omega)
          refine ⟨(a2.1 39 i' rfl).trans (by rw [gh_fI_1, if_neg (fun w => e w.2)]; exact d1), fun n hn => ?_⟩
          have hm : gb_mo l kg q i' ≤ 20 := by unfold gb_mo; split <;> omega
          rw [a2.2.1 40 (21 * i' + n) (hne i' n e (by omega) (by omega))]
          exact d2 n hn)
      exact ⟨S', b1, gh_fr_trans f12 b2, b3⟩
    rw [sX1_reckon_2, show gh_cmp .ge (nI i) 4 = decide (4 ≤ i) from gh_n_ge (b := 4) (by omega) (by omega), decide_eq_false (by omega), cond_false, hc.1, gh_n_ge (by omega) (by omega)]
    by_cases e : l.length ≤ i
    · rw [decide_eq_true e, cond_true]
      refine go 0 ?_
      unfold gb_mo
      rw [if_neg (by omega)]
      rfl
    · obtain ⟨b8, bk⟩ := hl i (by omega)
      obtain ⟨a1, a2, a3, a4, a5, a6, a7, a8, a9⟩ := hB _ b8
      rw [decide_eq_false e, cond_false, gh_ra_n hi4 (by decide), gq_bs, hc.2 i (by omega), gh_ra_n b8 (by decide), gq_bs, a3]
      have ed : gh_di (nI (kg (gr_at l i))) 1000 = some (nI (kg (gr_at l i) / 1000)) := by
        unfold gh_di
        rw [if_neg (by decide), show (1000 : Int32) = nI 1000 from rfl, pk_div (by omega) (by omega) (by omega)]
      rw [ed, gq_bs, gq_min_n (by omega) (by omega)]
      refine go _ ?_
      unfold gb_mo
      rw [if_pos (by omega)]
def gb_ti (t : Nat × Nat × Nat × Nat) : Nat → Nat
  | 0 => t.1
  | 1 => t.2.1
  | 2 => t.2.2.1
  | _ => t.2.2.2
def gb_tn (l : List Nat) (t : Nat × Nat × Nat × Nat) : Nat → Nat → Nat
  | 0 => fun _ => 0
  | i + 1 => gh_nu (gb_tn l t i) (gr_at l i) (gb_ti t i)
theorem gb_b73 (hl : ∀ i, i < l.length → gr_at l i < 8) (hl4 : l.length ≤ 4) {t : Nat × Nat × Nat × Nat} {v : Nat} : ∀ (j i fu : Nat) (S : gh_St), i + j = l.length → j < fu → gb_ch S l → gb_rc S (some (v, t)) → (∀ b, b < 8 → S.1 42 b = nI (gb_tn l t i b)) → ∃ S', sX1_best_73 N fu (nI i) S = some (lN v, S') ∧ S'.1 37 7 = gq_B true ∧ (∀ b, b < 8 → S'.1 42 b = nI (gb_tn l t l.length b)) ∧ gh_fr (fun c k => Nat.beq c 42 || (Nat.beq c 37 && Nat.beq k 7)) S S' := by
  intro j
  induction j with
  | zero =>
    intro i fu S hi hfu hc hr hd
    obtain ⟨fu, rfl⟩ : ∃ w, fu = w + 1 := ⟨fu - 1, by omega⟩
    rw [sX1_best_73, hc.1, gh_n_ge (by omega) (by omega), decide_eq_true (by omega), cond_true]
    refine ⟨gh_fI S 37 7 1, ?_, by rw [gh_fI_1, if_pos ⟨rfl, rfl⟩]; rfl, fun b hb => ?_, gh_fr_fI (gh_fr_refl _ _) rfl⟩
    · rw [gh_fI_2, hr.1]
    · rw [gh_fI_1, if_neg (by omega), show l.length = i by omega]
      exact hd b hb
  | succ j ih =>
    intro i fu S hi hfu hc hr hd
    obtain ⟨fu, rfl⟩ : ∃ w, fu = w + 1 := ⟨fu - 1, by omega⟩
    have h41 : S.1 41 i = nI (gb_ti t i) := by
      obtain ⟨-, -, r0, r1, r2, r3⟩ := hr
      match i, (show i < 4 by omega) with
      | 0, _ => exact r0
      | 1, _ => exact r1
      | 2, _ => exact r2
      | 3, _ => exact r3
    rw [sX1_best_73, hc.1, gh_n_ge (by omega) (by omega), decide_eq_false (by omega), cond_false, gh_ra_n (by omega) (by decide), gq_bs, gh_ra_n (by omega) (by decide), gq_bs, hc.2 i (by omega), h41, gh_wa_n (hl i (by omega)) (by decide), gq_bs, nI_1]
    have f1 : gh_fr (fun c k => Nat.beq c 42 || (Nat.beq c 37 && Nat.beq k 7)) S (gh_fI S 42 (gr_at l i) (nI (gb_ti t i))) := gh_fr_fI (gh_fr_refl _ _) rfl
    obtain ⟨S', a1, a2, a3, a4⟩ := ih (i + 1) fu (gh_fI S 42 (gr_at l i) (nI (gb_ti t i))) (by omega) (by omega) ⟨by rw [gh_fI_1, if_neg (by omega)]; exact hc.1, fun i' hi' => by rw [gh_fI_1, if_neg (by omega)]; exact hc.2 i' hi'⟩ ⟨hr.1, hr.2.1, by rw [gh_fI_1, if_neg (by omega)]; exact hr.2.2.1, by rw [gh_fI_1, if_neg (by omega)]; exact hr.2.2.2.1, by rw [gh_fI_1, if_neg (by omega)]; exact hr.2.2.2.2.1, by rw [gh_fI_1, if_neg (by omega)]; exact hr.2.2.2.2.2⟩ (fun b hb => by
      rw [gh_fI_1, gb_tn]
      unfold gh_nu
      by_cases e : b = gr_at l i
      · rw [if_pos ⟨rfl, e⟩, if_pos e]
      · rw [if_neg (fun w => e w.2), if_neg e]
        exact hd b hb)
    exact ⟨S', a1, a2, a3, gh_fr_trans f1 a4⟩
theorem gb_b49 (hN : 100 ≤ N) (hl : ∀ i, i < l.length → gr_at l i < 8) (hl4 : l.length ≤ 4) {t : Nat × Nat × Nat × Nat} {v : Nat} : ∀ (j k fu : Nat) (S : gh_St), k + j = 8 → j < fu → gb_ch S l → gb_rc S (some (v, t)) → (∀ b, b < k → S.1 42 b = nI 0) → ∃ S', sX1_best_49 N fu (nI k) S = some (lN v, S') ∧ S'.1 37 7 = gq_B true ∧ (∀ b, b < 8 → S'.1 42 b = nI (gb_tn l t l.length b)) ∧ gh_fr (fun c k => Nat.beq c 42 || (Nat.beq c 37 && Nat.beq k 7)) S S' := by
  intro j
  induction j with
  | zero =>
    intro k fu S hk hfu hc hr hd
    obtain ⟨fu, rfl⟩ : ∃ w, fu = w + 1 := ⟨fu - 1, by omega⟩
    rw [sX1_best_49, show gh_cmp .ge (nI k) 8 = decide (8 ≤ k) from gh_n_ge (b := 8) (by omega) (by omega), decide_eq_true (by omega), cond_true]
    exact gb_b73 N hl hl4 l.length 0 N S (by omega) (by omega) hc hr (fun b hb => hd b (by omega))
  | succ j ih =>
    intro k fu S hk hfu hc hr hd
    obtain ⟨fu, rfl⟩ : ∃ w, fu = w + 1 := ⟨fu - 1, by omega⟩
    rw [sX1_best_49, show gh_cmp .ge (nI k) 8 = decide (8 ≤ k) from gh_n_ge (b := 8) (by omega) (by omega), decide_eq_false (by omega), cond_false, gh_wa_n (by omega) (by decide), gq_bs, nI_1]
    have f1 : gh_fr (fun c k => Nat.beq c 42 || (Nat.beq c 37 && Nat.beq k 7)) S (gh_fI S 42 k 0) := gh_fr_fI (gh_fr_refl _ _) rfl
    obtain ⟨S', a1, a2, a3, a4⟩ := ih (k + 1) fu (gh_fI S 42 k 0) (by omega) (by omega) ⟨by rw [gh_fI_1, if_neg (by omega)]; exact hc.1, fun i' hi' => by rw [gh_fI_1, if_neg (by omega)]; exact hc.2 i' hi'⟩ ⟨hr.1, hr.2.1, by rw [gh_fI_1, if_neg (by omega)]; exact hr.2.2.1, by rw [gh_fI_1, if_neg (by omega)]; exact hr.2.2.2.1, by rw [gh_fI_1, if_neg (by omega)]; exact hr.2.2.2.2.1, by rw [gh_fI_1, if_neg (by omega)]; exact hr.2.2.2.2.2⟩ (fun b hb => by
      rw [gh_fI_1]
      by_cases e : b = k
      · rw [if_pos ⟨rfl, e⟩]; rfl
      · rw [if_neg (fun w => e w.2)]
        exact hd b (by omega))
    exact ⟨S', a1, a2, a3, gh_fr_trans f1 a4⟩
theorem gb_G_le {i n : Nat} (hk : n * 1000 ≤ kg (gr_at l i)) : gb_G l kg g i n ≤ g (gr_at l i) := gq_dle hk
theorem gb_best (hN : 100 ≤ N) (hq1 : 1 ≤ q) (hq : q ≤ 20) {w : Nat} (hw : w ≤ 1000) (hl : ∀ i, i < l.length → gr_at l i < 8 ∧ 0 < kg (gr_at l i)) (hl4 : l.length ≤ 4) {S : gh_St} (hB : gb_bins S kd kg g) (hc : gb_ch S l) (hz : ∀ i, i < 4 → S.2.1 40 (21 * i) = 0) : ∃ S' acc, gb_bst q (gb_mo l kg q) (gb_G l kg g) ((1000 - w) * 1000 * q) (fun _ => True) acc ∧ gh_fr gb_C S S' ∧ (∀ i, i < 4 → S'.2.1 40 (21 * i) = 0) ∧ (∀ c k, 92 ≤ c → S'.1 c k = S.1 c k) ∧ S'.1 56 62 = S.1 56 62 ∧ (match acc with
    | none => sX1_best N (nI q) (nI w) S = some (-1, S') ∧ S'.1 37 7 = S.1 37 7 ∧ ∀ b, S'.1 42 b = S.1 42 b
    | some (v, t) => sX1_best N (nI q) (nI w) S = some (lN v, S') ∧ v ≤ 16000000000 ∧ S'.1 37 7 = gq_B true ∧ ∀ b, b < 8 → S'.1 42 b = nI (gb_tn l t l.length b)) := by
  obtain ⟨S1, a1, a2, a3⟩ := gb_r2 (q := q) (kd := kd) (kg := kg) (g := g) (l := l) N hN hq hl hl4 4 0 N S (by omega) (by omega) hB hc hz (fun i' hi' => absurd hi' (Nat.not_lt_zero _))
  have a1' : sX1_reckon N (nI q) S = some S1 := a1
  have hWe : (((1000 : Int64) - (nI w).toInt64) * 1000) * (nI q).toInt64 = lN ((1000 - w) * 1000 * q) := by
    rw [nI_l (by omega), nI_l (by omega), show (1000 : Int64) = lN 1000 from rfl, lN_sub (by omega), lN_mul, lN_mul]
  have hWb : (1000 - w) * 1000 * q ≤ 1000 * 1000 * 20 := Nat.mul_le_mul (Nat.mul_le_mul_right _ (by omega)) hq
  have hm1 : gb_mem (gh_fL S1 37 5 1000000000000) (gb_mo l kg q) (gb_G l kg g) := by
    intro i hi
    obtain ⟨d1, d2⟩ := a3 i hi
    have hmo20 : gb_mo l kg q i ≤ 20 := by unfold gb_mo; split <;> omega
    refine ⟨d1, hmo20, fun n hn => ⟨by rw [gh_fL_1, if_neg (by omega)]; exact d2 n hn, ?_⟩⟩
    by_cases e : i < l.length
    · obtain ⟨b8, bk⟩ := hl i e
      have : gb_mo l kg q i = min q (kg (gr_at l i) / 1000) := if_pos e
      have h9 := (hB _ b8).2.2.2.2.2.2.2.2
      exact Nat.le_trans (gb_G_le (by omega)) h9
    · have : gb_mo l kg q i = 0 := if_neg e
      rw [show n = 0 by omega, gb_G0]
      exact Nat.zero_le _
  obtain ⟨S2, acc, b1, b2, b3, b4⟩ := gb_tryAll (q := q) (mo := gb_mo l kg q) (G := gb_G l kg g) (W := (1000 - w) * 1000 * q) N hN (by omega) hq hm1 (by show (gh_fL S1 37 5 1000000000000).2.1 37 5 = _; rw [gh_fL_1, if_pos ⟨rfl, rfl⟩]; rfl)
  have f12 : gh_fr gb_C S S2 := gh_fr_trans (gh_fr_fL (gh_fr_mono a2 gb_C_CR) rfl) (gh_fr_mono b4 gb_C_CT)
  have hz2 : ∀ i, i < 4 → S2.2.1 40 (21 * i) = 0 := fun i hi => by
    rw [b4.2.1 40 (21 * i) rfl, gh_fL_1, if_neg (by omega), a2.2.1 40 (21 * i) (by unfold gb_CR; rw [show 21 * i % 21 = 0 by omega]; rfl)]
    exact hz i hi
  have hc2 : gb_ch S2 l := ⟨(b4.1 37 4 rfl).trans ((a2.1 37 4 rfl).trans hc.1), fun i hi => (b4.1 38 i rfl).trans ((a2.1 38 i rfl).trans (hc.2 i hi))⟩
  have k92 : ∀ c k, 92 ≤ c → S2.1 c k = S.1 c k := fun c k hcc => by
    have e1 : gb_CT c k = false := gf_bf (fun h => by
      unfold gb_CT at h
      simp only [Bool.or_eq_true, Bool.and_eq_true, Nat.beq_eq] at h
      omega)
    have e2 : gb_CR c k = false := gf_bf (fun h => by
      unfold gb_CR at h
      simp only [Bool.or_eq_true, Bool.and_eq_true, Nat.beq_eq] at h
      omega)
    exact (b4.1 c k e1).trans (a2.1 c k e2)
  have k62 : S2.1 56 62 = S.1 56 62 := (b4.1 56 62 rfl).trans (a2.1 56 62 rfl)
  have hbest : sX1_best N (nI q) (nI w) S = (bif gh_cmp .ne (lg_cmp (S2.2.1 37 5) (lN 1000000000000)) 0 then sX1_best_49 N N 0 S2 else some (-1, S2)) := by
    unfold sX1_best
    rw [a1', gq_bs, hWe, b1, gq_bs]
    rfl
  cases acc with
  | none =>
    refine ⟨S2, none, b3, f12, hz2, k92, k62, ?_, (b4.1 37 7 rfl).trans (a2.1 37 7 rfl), fun b => (b4.1 42 b rfl).trans (a2.1 42 b rfl)⟩
    rw [hbest, show S2.2.1 37 5 = lN 1000000000000 from b2, gb_l_ne (by omega) (by omega), decide_eq_false (not_not_intro rfl)]
    rfl
  | some x =>
    obtain ⟨v, t⟩ := x
    have hv := b2.2.1
    obtain ⟨S3, c1, c2, c3, c4⟩ := gb_b49 N hN (fun i hi => (hl i hi).1) hl4 8 0 N S2 (by omega) (by omega) hc2 b2 (fun b hb => absurd hb (Nat.not_lt_zero _))
    have fC : gh_fr gb_C S2 S3 := gh_fr_mono c4 (fun c k h => by
      simp only [Bool.or_eq_true, Bool.and_eq_true, Nat.beq_eq] at h
      unfold gb_C
      simp only [Bool.or_eq_true, Bool.and_eq_true, Nat.beq_eq, Nat.ble_eq]
      omega)
    refine ⟨S3, some (v, t), b3, gh_fr_trans f12 fC, fun i hi => (c4.2.1 40 (21 * i) rfl).trans (hz2 i hi), fun c k hcc => (c4.1 c k (gf_bf (fun h => by
      simp only [Bool.or_eq_true, Bool.and_eq_true, Nat.beq_eq] at h
      omega))).trans (k92 c k hcc), (c4.1 56 62 rfl).trans k62, ?_, hv, c2, c3⟩
    rw [hbest, b2.1, gb_l_ne (by omega) (by omega), decide_eq_true (by omega), cond_true]
    exact c1
end GbR

/-! ===== FANS: the class's exchange ===== -/
def gf_CX (c k : Nat) : Bool := (Nat.ble 31 c && Nat.ble c 36) || (Nat.beq c 26 && (Nat.beq k 11 || Nat.beq k 12))
theorem gf_CW_CX : ∀ c k, gf_CX c k = true → gf_CW c k = true := by
  intro c k h
  unfold gf_CX at h
  unfold gf_CW
  simp only [Bool.or_eq_true, Bool.and_eq_true, Bool.not_eq_true', Nat.beq_eq, Nat.ble_eq] at h ⊢
  rcases h with h | ⟨rfl, rfl | rfl⟩
  · omega
  · decide
  · decide
theorem gf_CX_CB : ∀ c k, gf_CB c k = true → gf_CX c k = true := by
  intro c k h
  unfold gf_CB at h
  unfold gf_CX
  simp only [Bool.or_eq_true, Bool.and_eq_true, Nat.beq_eq, Nat.ble_eq] at h ⊢
  omega
theorem gf_CX_CP : ∀ c k, gf_CP c k = true → gf_CX c k = true := by
  intro c k h
  unfold gf_CP at h
  unfold gf_CX
  simp only [Bool.or_eq_true, Bool.and_eq_true, Nat.beq_eq, Nat.ble_eq] at h ⊢
  omega
section GfEx
variable {dr : Nat → Bool} {p nd li : Nat → Nat} {pw : Nat} {x op : Nat → Nat → Bool} {ld : Nat → Nat} {bn : Nat} {rt : Nat → Bool} (N : Nat)
theorem gf_spare2 {f : Nat} (hf : f < 12) (hfp : ld f < pw) (hld8 : ∀ h, h < 12 → ld h ≤ 8) : ∀ (j k fu : Nat) (S : gh_St) (q : List Nat), k + j = 12 → j < fu → gf_RS S dr p nd li pw → gf_SC S x op ld → gf_BI x op ld p pw bn rt true S q → f ∈ q → ∃ S' l, sX2_reachBySpare_2 N fu (nI f) (nI k) S = some S' ∧ gf_BI x op ld p pw bn rt true S' (q ++ l) ∧ gh_fr gf_CB S S' ∧ ∀ h, k ≤ h → h < 12 → 0 < ld h → p h = p f → h ∈ q ++ l := by
  intro j
  induction j with
  | zero =>
    intro k fu S q hk hfu hR hS hB hq
    obtain ⟨fu, rfl⟩ : ∃ w, fu = w + 1 := ⟨fu - 1, by omega⟩
    refine ⟨S, [], ?_, by rw [List.append_nil]; exact hB, gh_fr_refl _ _, fun h h1 h2 => by omega⟩
    rw [sX2_reachBySpare_2, show gh_cmp .ge (nI k) 12 = decide (12 ≤ k) from gh_n_ge (b := 12) (by omega) (by omega), decide_eq_true (by omega)]
    rfl
  | succ j ih =>
    intro k fu S q hk hfu hR hS hB hq
    obtain ⟨fu, rfl⟩ : ∃ w, fu = w + 1 := ⟨fu - 1, by omega⟩
    have hk12 : k < 12 := by omega
    have hB' := hB
    obtain ⟨bb, ff, hQ, -⟩ := hB'
    obtain ⟨r1, r2, r3, r4, r5, r6⟩ := hR
    have hR' : gf_RS S dr p nd li pw := ⟨r1, r2, r3, r4, r5, r6⟩
    have l8 := hld8 k hk12
    have pk := (r5 k hk12).2.2.2.2
    have pf := (r5 f hf).2.2.2.2
    rw [sX2_reachBySpare_2, show gh_cmp .ge (nI k) 12 = decide (12 ≤ k) from gh_n_ge (b := 12) (by omega) (by omega), decide_eq_false (by omega), cond_false, hQ.2.2.2.1, gf_shrn _ hk12, gh_ra_n hk12 (by decide), gq_bs, hS.2 k hk12, gh_ra_n hk12 (by decide), gq_bs, gh_ra_n hf (by decide), gq_bs, (r5 k hk12).2.2.1, (r5 f hf).2.2.1, show gh_cmp .le (nI (ld k)) 0 = decide (ld k ≤ 0) from gh_n_le (b := 0) (by omega) (by omega), gh_n_ne (by omega) (by omega)]
    unfold sX2_reachBySpare_51
    rw [nI_1]
    have skip : (k ∈ q ∨ ¬ 0 < ld k ∨ p k ≠ p f) → ∃ S' l, sX2_reachBySpare_2 N fu (nI f) (nI (k + 1)) S = some S' ∧ gf_BI x op ld p pw bn rt true S' (q ++ l) ∧ gh_fr gf_CB S S' ∧ ∀ h, k ≤ h → h < 12 → 0 < ld h → p h = p f → h ∈ q ++ l := by
      intro hs
      obtain ⟨S', l, a1, a2, a3, a4⟩ := ih (k + 1) fu S q (by omega) (by omega) hR' hS hB hq
      refine ⟨S', l, a1, a2, a3, fun h h1 h2 h3 h4 => ?_⟩
      by_cases e : h = k
      · subst e
        rcases hs with hs | hs | hs
        · exact List.mem_append_left _ hs
        · exact absurd h3 hs
        · exact absurd h4 hs
      · exact a4 h (by omega) h2 h3 h4
    by_cases c1 : k ∈ q
    · rw [decide_eq_true c1, cond_true]
      exact skip (Or.inl c1)
    · rw [decide_eq_false c1, cond_false]
      by_cases c2 : 0 < ld k
      · rw [decide_eq_false (by omega), cond_false]
        by_cases c3 : p k = p f
        · rw [decide_eq_false (not_not_intro c3), cond_false]
          obtain ⟨S1, b1, b2, b3⟩ := gf_reachV N hB (h := k) (b := 8) (some f) hk12 c1 (Or.inr (Or.inr ⟨f, hq, rfl, rfl, hfp, c2, c3, rfl⟩))
          have b1' : sX2_reach N (nI k) 8 (nI f) S = some S1 := b1
          rw [b1', gq_bs]
          obtain ⟨S', l, a1, a2, a3, a4⟩ := ih (k + 1) fu S1 (q ++ [k]) (by omega) (by omega) (gf_RS_fr hR' (gh_fr_mono b3 gf_CW_CB)) (gf_SC_fr hS b3) b2 (List.mem_append_left _ hq)
          refine ⟨S', k :: l, a1, by rw [List.append_assoc] at a2; exact a2, gh_fr_trans b3 a3, fun h h1 h2 h3 h4 => ?_⟩
          by_cases e : h = k
          · rw [e]
            exact List.mem_append_right _ List.mem_cons_self
          · have := a4 h (by omega) h2 h3 h4
            rw [List.append_assoc] at this
            exact this
        · rw [decide_eq_true c3, cond_true]
          exact skip (Or.inr (Or.inr c3))
      · rw [decide_eq_true (by omega), cond_true]
        exact skip (Or.inr (Or.inl c2))
/-- what an exchange leaves -/
def gf_XO (dr : Nat → Bool) (li : Nat → Nat) (T : Nat → Nat) (pw : Nat) (p : Nat → Nat) (x op : Nat → Nat → Bool) (ld : Nat → Nat) (bn ho : Nat) (S S' : gh_St) : Prop :=
  ∃ x' ld', gf_SC S' x' op ld' ∧ gh_fr gf_CX S S' ∧ gf_feas (gf_may dr li) T pw x' ∧ (∀ g, g < 12 → gf_col x' g = ld' g) ∧ gf_plq p ld' ld ∧ (∀ b h, b < 8 → h < 12 → op b h = false → x' b h = x b h) ∧ (x' bn ho = true ∨ ((∀ b h, b < 8 → h < 12 → x' b h = x b h) ∧ ∀ z, gf_feas (gf_may dr li) T pw z → gf_plq p (gf_col x) (gf_col z) → (∀ b h, b < 8 → h < 12 → op b h = false → x b h = z b h) → z bn ho = false))
theorem gf_ex19 (hN : 100 ≤ N) {T : Nat → Nat} {ho : Nat} (hbn : bn < 8) (hho : ho < 12) (hop : ∀ b h, b < 8 → h < 12 → op b h = true → gf_may dr li b h = true) (hx : gf_feas (gf_may dr li) T pw x) (hcol : ∀ g, g < 12 → gf_col x g = ld g) (hxo : x bn ho = false) : ∀ (j i fu : Nat) (S : gh_St) (q : List Nat), i + j = 12 → j < fu → i ≤ q.length → gf_RS S dr p nd li pw → gf_SC S x op ld → gf_BI x op ld p pw bn (fun h => Nat.beq h ho) true S q → ho ∈ q → (∀ k, k < i → ¬ (x bn (gr_at q k) = true ∧ op bn (gr_at q k) = true)) → (∀ k, k < i → ∀ b, b < 8 → b ≠ bn → x b (gr_at q k) = true → op b (gr_at q k) = true → ∀ g, g < 12 → op b g = true → x b g = false → g ∈ q) → (∀ k, k < i → ld (gr_at q k) < pw → ∀ g, g < 12 → 0 < ld g → p g = p (gr_at q k) → g ∈ q) → ∃ S', sX2_exchange_19 N fu (nI bn) (nI i) S = some S' ∧ gf_XO dr li T pw p x op ld bn ho S S' := by
  have hld8' : 1 ≤ pw → pw ≤ 8 → ∀ h, h < 12 → ld h ≤ 8 := fun _ h3 h hh => by
    have h1 := hx.2.1 h hh
    have h2 := hcol h hh
    omega
  intro j
  induction j with
  | zero => ?_
  | succ j ih => ?_
  all_goals
    intro i fu S q hi hfu hiq hR hS hB hhoq hno hcl hsp
    obtain ⟨fu, rfl⟩ : ∃ w, fu = w + 1 := ⟨fu - 1, by omega⟩
    have hB' := hB
    obtain ⟨bb, ff, hQ, hV⟩ := hB'
    have hlen := gf_Q_len hQ
    have hld8 := hld8' hR.1 hR.2.1
    rw [sX2_exchange_19, hQ.2.2.1, gh_n_ge (by omega) (by omega)]
    have hend : q.length ≤ i → gf_XO dr li T pw p x op ld bn ho S S := by
      intro hle
      refine ⟨x, ld, hS, gh_fr_refl _ _, hx, hcol, fun _ => rfl, fun _ _ _ _ _ => rfl, Or.inr ⟨fun _ _ _ _ => rfl, fun z hz hpl hag => gf_bf (fun hzo => ?_)⟩⟩
      have hat : ∀ h, decide (h ∈ q) = true → ∃ k, k < i ∧ gr_at q k = h := fun h hh => by
        obtain ⟨k, hk, e⟩ := gf_mem_at (decide_eq_true_iff.mp hh)
        exact ⟨k, by omega, e⟩
      refine gf_comp (may := gf_may dr li) (op := op) (T := T) (pw := pw) (p := p) (y := x) (z := z) (Q := fun h => decide (h ∈ q)) (bn := bn) (ho := ho) (fun h hh => by have := (hR.2.2.2.2.1 h hh).2.2.2.2; omega) hx hz hpl hag hbn hho hzo hxo (decide_eq_true hhoq) (fun h _ hq => ?_) (fun b h h' hb hbb _ hh' hq h1 h2 h3 h4 => ?_) (fun h h' hh hh' hq h1 h2 h3 => ?_)
      · obtain ⟨k, hk, e⟩ := hat h hq
        rw [← e]
        exact hno k hk
      · obtain ⟨k, hk, e⟩ := hat h hq
        rw [← e] at h1 h2
        exact decide_eq_true (hcl k hk b hb hbb h1 h2 h' hh' h3 h4)
      · obtain ⟨k, hk, e⟩ := hat h hq
        rw [hcol h hh, ← e] at h1
        rw [hcol h' hh'] at h2
        rw [← e] at h3
        exact decide_eq_true (hsp k hk h1 h' hh' h2 h3)
  · rw [decide_eq_true (by omega), cond_true]
    exact ⟨S, rfl, hend (by omega)⟩
  · by_cases e : q.length ≤ i
    · rw [decide_eq_true e, cond_true]
      exact ⟨S, rfl, hend e⟩
    · have hil : i < q.length := by omega
      have hmem := gf_at_mem hil
      have hh := hQ.2.1 _ hmem
      rw [decide_eq_false e, cond_false, gh_ra_n (by omega) (by decide), gq_bs, hQ.2.2.2.2.1 i hil, gh_ra_n hbn (by decide), gq_bs, gh_ra_n hbn (by decide), gq_bs, (hS.1 bn hbn).1, (hS.1 bn hbn).2, gf_and, gf_bit _ hh]
      cases hfd : (x bn (gr_at q i) && op bn (gr_at q i)) with
      | true =>
        rw [Bool.not_true, cond_false]
        rw [Bool.and_eq_true] at hfd
        obtain ⟨hx1, ho1⟩ := hfd
        rw [gq_bs, gh_wa_n hbn (by decide), gq_bs, gf_clr _ hh, gf_u_row_f]
        generalize gr_at q i = h at hmem hh hx1 ho1 ⊢
        have hS1 := gf_SC_row hS (b := bn) (g := h) false hbn rfl
        have hrow := gf_row_u (x := x) (b := bn) (h := h) false hh
        have hcl' := gf_col_u (x := x) (b := bn) (h := h) false hbn
        rw [hx1] at hrow hcl'
        have hrow' : gf_row (gf_u x bn h false) bn + 1 = gf_row x bn := hrow
        have hcl'' : gf_col (gf_u x bn h false) h + 1 = gf_col x h := hcl'
        obtain ⟨S', x'', ld'', d1, d2, d3, d4, d5, d6, d7, d8, ⟨r, dr1, dr2, dr3⟩, d10⟩ := gf_shift4 (may := gf_may dr li) (op := op) (x := x) (T := T) (ld := ld) (p := p) (ld0 := ld) (pw := pw) (bn := bn) (rt := fun h => Nat.beq h ho) (sp := true) (bb := bb) (ff := ff) (J := fun _ => True) (K := fun _ => True) (Kb := fun _ => True) (L := q.reverse) N hbn hop (fun _ _ _ _ _ _ _ _ _ => trivial) (fun _ _ _ _ _ _ _ _ => trivial) (fun _ _ _ _ _ _ => trivial) (fun _ _ => trivial) (fun h hh => hQ.2.1 h (List.mem_reverse.mp hh)) q.reverse h 0 N (gh_fI S 36 bn (nI (gf_mk (gf_u x bn h false bn)))) (gf_u x bn h false) ld (fun g hg => hg) (gf_ndr hQ.1) hV (fun g hg => by
          simp only [gh_fI_1, Nat.reduceEqDiff, false_and, if_false]
          exact hQ.2.2.2.2.2 g (List.mem_reverse.mp hg)) (List.mem_reverse.mpr hmem) (by rw [List.length_reverse]; omega) (by rw [List.length_reverse]; omega) hS1 ⟨fun b hb => by
            have := hx.1 b hb
            by_cases e : b = bn
            · subst e
              rw [if_pos rfl]
              omega
            · rw [if_neg e, gf_row_n _ e]
              exact this, fun g hg => by
            have := hcol g hg
            by_cases e : g = h
            · subst e
              rw [if_pos rfl]
              omega
            · rw [if_neg e, gf_col_n _ e]
              exact this, fun g hg => by
            have h1 := hx.2.1 g hg
            have h2 := hcol g hg
            omega, fun b g hb hg hxx => by
            by_cases e : b = bn ∧ g = h
            · rw [e.1, e.2, gf_u_s] at hxx
              cases hxx
            · rw [gf_u_n _ _ e] at hxx
              exact hx.2.2 b g hb hg hxx, fun b g hb hg ho => by
            by_cases e : b = bn ∧ g = h
            · rw [e.1, e.2, ho1] at ho
              cases ho
            · rw [gf_u_n _ _ e], fun _ => rfl, trivial⟩ trivial (fun g _ hne => ⟨rfl, fun b _ => gf_u_n _ _ (fun w => hne w.2)⟩) (fun b _ hxf => by
          by_cases e : b = bn
          · rw [e, gf_u_s]
          · rw [gf_u_n _ _ (fun w => e w.1)]
            exact hxf)
        have d1' : sX2_shift N (nI h) (gh_fI S 36 bn (nI (gf_mk (gf_u x bn h false bn)))) = some S' := d1
        rw [d1', gq_bs]
        have hro : r = ho := Nat.eq_of_beq_eq_true dr2
        refine ⟨S', rfl, x'', ld'', d2, ?_, d3, d4, d6, d5, Or.inl (by rw [← hro]; exact dr3)⟩
        exact gh_fr_trans (gh_fr_fI (gh_fr_refl _ _) rfl) (gh_fr_mono d10 gf_CX_CP)
      | false =>
        rw [Bool.not_false, cond_true]
        have hno1 : ¬ (x bn (gr_at q i) = true ∧ op bn (gr_at q i) = true) := fun w => by
          rw [w.1, w.2] at hfd
          cases hfd
        obtain ⟨S1, l, b1, b2, b3, b4⟩ := gf_reachFrom N hN hh hbn hS hB hmem
        rw [b1, gq_bs, gh_ra_n hh (by decide), gq_bs]
        have hS1 := gf_SC_fr hS b3
        have hR1 := gf_RS_fr hR (gh_fr_mono b3 gf_CW_CB)
        have hl8 := hld8 _ hh
        have hp8 := hR.2.1
        rw [hS1.2 _ hh, hR1.2.2.1, gh_n_ge (by omega) (by omega)]
        have fin : ∀ (S2 : gh_St) (l2 : List Nat), gh_fr gf_CB S S2 → gf_BI x op ld p pw bn (fun h => Nat.beq h ho) true S2 ((q ++ l) ++ l2) → (ld (gr_at q i) < pw → ∀ g, g < 12 → 0 < ld g → p g = p (gr_at q i) → g ∈ (q ++ l) ++ l2) → ∃ S', sX2_exchange_105 N (sX2_exchange_19 N fu) (nI bn) (nI i) S2 = some S' ∧ gf_XO dr li T pw p x op ld bn ho S S' := by
          intro S2 l2 f2 hB2 hsp2
          unfold sX2_exchange_105
          rw [nI_1]
          have at' : ∀ k, k < i + 1 → gr_at ((q ++ l) ++ l2) k = gr_at q k := fun k hk => by
            rw [List.append_assoc]
            exact gr_at_lt (by omega)
          have mono : ∀ g, g ∈ q → g ∈ (q ++ l) ++ l2 := fun g hg => List.mem_append_left _ (List.mem_append_left _ hg)
          obtain ⟨S', a1, x', ld', a2, a3, a4⟩ := ih (i + 1) fu S2 ((q ++ l) ++ l2) (by omega) (by omega) (by rw [List.length_append, List.length_append]; omega) (gf_RS_fr hR (gh_fr_mono f2 gf_CW_CB)) (gf_SC_fr hS f2) hB2 (mono ho hhoq) (fun k hk => by
            rw [at' k hk]
            by_cases e2 : k = i
            · rw [e2]; exact hno1
            · exact hno k (by omega)) (fun k hk b hb hbb h1 h2 g hg h3 h4 => by
            rw [at' k hk] at h1 h2
            by_cases e2 : k = i
            · subst e2
              exact List.mem_append_left _ (b4 b hb hbb h1 h2 g hg h3 h4)
            · exact mono g (hcl k (by omega) b hb hbb h1 h2 g hg h3 h4)) (fun k hk h1 g hg h2 h3 => by
            rw [at' k hk] at h1 h3
            by_cases e2 : k = i
            · subst e2
              exact hsp2 h1 g hg h2 h3
            · exact mono g (hsp k (by omega) h1 g hg h2 h3))
          exact ⟨S', a1, x', ld', a2, gh_fr_trans (gh_fr_mono f2 gf_CX_CB) a3, a4⟩
        by_cases hf : pw ≤ ld (gr_at q i)
        · rw [decide_eq_true hf, cond_true]
          exact fin S1 [] b3 (by rw [List.append_nil]; exact b2) (fun h => by omega)
        · rw [decide_eq_false hf, cond_false]
          obtain ⟨S2, l2, c1, c2, c3, c4⟩ := gf_spare2 (dr := dr) (p := p) (nd := nd) (li := li) (pw := pw) (x := x) (op := op) (ld := ld) (bn := bn) (rt := fun h => Nat.beq h ho) N hh (by omega) hld8 12 0 N S1 (q ++ l) (by omega) (by omega) hR1 hS1 b2 (List.mem_append_left _ hmem)
          have c1' : sX2_reachBySpare N (nI (gr_at q i)) S1 = some S2 := c1
          rw [c1', gq_bs]
          exact fin S2 l2 (gh_fr_trans b3 c3) c2 (fun _ g hg h1 h2 => c4 g (Nat.zero_le _) hg h1 h2)
theorem gf_exchange (hN : 100 ≤ N) {T : Nat → Nat} {ho : Nat} {S : gh_St} (hbn : bn < 8) (hho : ho < 12) (hR : gf_RS S dr p nd li pw) (hS : gf_SC S x op ld) (hop : ∀ b h, b < 8 → h < 12 → op b h = true → gf_may dr li b h = true) (hx : gf_feas (gf_may dr li) T pw x) (hcol : ∀ g, g < 12 → gf_col x g = ld g) (hxo : x bn ho = false) (hoo : op bn ho = true) : ∃ S', sX2_exchange N (nI bn) (nI ho) S = some S' ∧ gf_XO dr li T pw p x op ld bn ho S S' := by
  have f0 : gh_fr gf_CB S (gh_fI (gh_fI S 26 11 0) 26 12 0) := gh_fr_fI (gh_fr_fI (gh_fr_refl _ _) rfl) rfl
  have hB0 : gf_BI x op ld p pw bn (fun h => Nat.beq h ho) true (gh_fI (gh_fI S 26 11 0) 26 12 0) [] := gf_BI_nil S
  obtain ⟨S1, a1, a2, a3⟩ := gf_reachV N hB0 (h := ho) (b := bn) none hho List.not_mem_nil (Or.inl ⟨rfl, rfl, hoo, hxo, Nat.beq_refl ho⟩)
  have f1 := gh_fr_trans f0 a3
  obtain ⟨S', b1, x', ld', b2, b3, b4⟩ := gf_ex19 (dr := dr) (p := p) (nd := nd) (li := li) (pw := pw) (x := x) (op := op) (ld := ld) (bn := bn) N hN hbn hho hop hx hcol hxo 12 0 N S1 ([] ++ [ho]) (by omega) (by omega) (Nat.zero_le _) (gf_RS_fr hR (gh_fr_mono f1 gf_CW_CB)) (gf_SC_fr hS f1) a2 (by simp) (fun k hk => absurd hk (Nat.not_lt_zero _)) (fun k hk => absurd hk (Nat.not_lt_zero _)) (fun k hk => absurd hk (Nat.not_lt_zero _))
  refine ⟨S', ?_, x', ld', b2, gh_fr_trans (gh_fr_mono f1 gf_CX_CB) b3, b4⟩
  unfold sX2_exchange
  rw [show (-1 : Int32) = gf_fo none from rfl, a1, gq_bs]
  exact b1
end GfEx

/-! ===== FANS: the class's cheapest plan ===== -/
theorem gf_ndr {l : List Nat} (h : l.Nodup) : l.reverse.Nodup := List.pairwise_reverse.mpr (List.Pairwise.imp (fun q e => q e.symm) h)
theorem gf_mk_0 : gf_mk (fun _ => false) = 0 := by decide
theorem gf_cert_ld {may : Nat → Nat → Bool} {pw : Nat} {p : Nat → Nat} {x : Nat → Nat → Bool} {ld ld' Mb Mh : Nat → Nat} (hc : gf_cert may pw p x ld Mb Mh) (he : ∀ h, h < 12 → ld' h = ld h) : gf_cert may pw p x ld' Mb Mh :=
  ⟨hc.1, hc.2.1, fun h hh hl => hc.2.2.1 h hh (by rw [← he h hh]; exact hl), fun h hh hl => hc.2.2.2 h hh (by rw [← he h hh]; exact hl)⟩
theorem gf_feas_T {may : Nat → Nat → Bool} {T T' : Nat → Nat} {pw : Nat} {x : Nat → Nat → Bool} (h : gf_feas may T pw x) (he : ∀ b, b < 8 → T' b = T b) : gf_feas may T' pw x := ⟨fun b hb => (h.1 b hb).trans (he b hb).symm, h.2.1, h.2.2⟩
theorem gf_BI_nil {x op : Nat → Nat → Bool} {ld p : Nat → Nat} {pw bn : Nat} {rt : Nat → Bool} {sp : Bool} (S : gh_St) : gf_BI x op ld p pw bn rt sp (gh_fI (gh_fI S 26 11 0) 26 12 0) [] := by
  refine ⟨fun _ => 0, fun _ => none, ⟨List.nodup_nil, fun h hh => absurd hh List.not_mem_nil, ?_, ?_, fun i hi => absurd hi (Nat.not_lt_zero _), fun h hh => absurd hh List.not_mem_nil⟩, trivial⟩
  · simp [gh_fI_1]
    rfl
  · rw [gh_fI_1, if_pos ⟨rfl, rfl⟩, show gf_mk (fun h => decide (h ∈ ([] : List Nat))) = 0 from (gf_mk_cg (fun i _ => decide_eq_false List.not_mem_nil)).trans gf_mk_0]
    rfl
/-- what is held as the best hour so far -/
def gf_bo (ld p : Nat → Nat) (pw : Nat) (q : List Nat) (i : Nat) (bo : Option Nat) : Prop :=
  match bo with
  | none => ∀ j, j < i → ¬ ld (gr_at q j) < pw
  | some t => (∃ j, j < i ∧ gr_at q j = t) ∧ ld t < pw ∧ ∀ j, j < i → ld (gr_at q j) < pw → p t ≤ p (gr_at q j)
section GfAdd
variable {dr : Nat → Bool} {p nd li : Nat → Nat} {pw : Nat} {x op : Nat → Nat → Bool} {ld : Nat → Nat} {bn : Nat} (N : Nat)
theorem gf_add20 (hN : 100 ≤ N) (hbn : bn < 8) : ∀ (j i fu : Nat) (S : gh_St) (q : List Nat) (bo : Option Nat), i + j = 12 → j < fu → i ≤ q.length → gf_RS S dr p nd li pw → gf_SC S x op ld → (∀ h, h < 12 → ld h ≤ 8) → gf_BI x op ld p pw bn (fun _ => true) false S q → gf_bo ld p pw q i bo → (∀ h, h < 12 → op bn h = true → x bn h = false → h ∈ q) → (∀ k, k < i → ∀ b, b < 8 → b ≠ bn → x b (gr_at q k) = true → op b (gr_at q k) = true → ∀ g, g < 12 → op b g = true → x b g = false → g ∈ q) → ∃ S' q' bo', sX2_addHour_20 N fu (nI bn) (gf_fo bo) (nI i) S = (bif gh_cmp .ne (gf_fo bo') (-1) then (gh_ra S' 32 12 (gf_fo bo')).bind fun x1 => (gh_wa S' 32 12 (gf_fo bo') (x1 + 1)).bind fun S2 => (sX2_shift N (gf_fo bo') S2).bind fun q3 => some (1, q3) else some (0, S')) ∧ gh_fr gf_CB S S' ∧ gf_BI x op ld p pw bn (fun _ => true) false S' q' ∧ gf_bo ld p pw q' q'.length bo' ∧ (∀ h, h < 12 → op bn h = true → x bn h = false → h ∈ q') ∧ (∀ h, h ∈ q' → ∀ b, b < 8 → b ≠ bn → x b h = true → op b h = true → ∀ g, g < 12 → op b g = true → x b g = false → g ∈ q') := by
  intro j
  induction j with
  | zero =>
    intro i fu S q bo hi hfu hiq hR hS hld8 hB hbo hroot hcl
    obtain ⟨fu, rfl⟩ : ∃ w, fu = w + 1 := ⟨fu - 1, by omega⟩
    have hB' := hB
    obtain ⟨bb, ff, hQ, -⟩ := hB
    have hlen := gf_Q_len hQ
    refine ⟨S, q, bo, ?_, gh_fr_refl _ _, hB', by rw [show q.length = i by omega]; exact hbo, hroot, fun h hh => ?_⟩
    · rw [sX2_addHour_20, hQ.2.2.1, gh_n_ge (by omega) (by omega), decide_eq_true (by omega), cond_true]
    · obtain ⟨k, hk, e⟩ := gf_mem_at hh
      rw [← e]
      exact hcl k (by omega)
  | succ j ih =>
    intro i fu S q bo hi hfu hiq hR hS hld8 hB hbo hroot hcl
    obtain ⟨fu, rfl⟩ : ∃ w, fu = w + 1 := ⟨fu - 1, by omega⟩
    have hB' := hB
    obtain ⟨bb, ff, hQ, -⟩ := hB
    have hlen := gf_Q_len hQ
    rw [sX2_addHour_20, hQ.2.2.1, gh_n_ge (by omega) (by omega)]
    by_cases e : q.length ≤ i
    · rw [decide_eq_true e, cond_true]
      refine ⟨S, q, bo, rfl, gh_fr_refl _ _, hB', by rw [show q.length = i by omega]; exact hbo, hroot, fun h hh => ?_⟩
      obtain ⟨k, hk, e⟩ := gf_mem_at hh
      rw [← e]
      exact hcl k (by omega)
    · have hil : i < q.length := by omega
      have hmem := gf_at_mem hil
      have hh := hQ.2.1 _ hmem
      obtain ⟨r1, r2, r3, r4, r5, r6⟩ := hR
      have hR' : gf_RS S dr p nd li pw := ⟨r1, r2, r3, r4, r5, r6⟩
      have hl8 := hld8 _ hh
      rw [decide_eq_false e, cond_false, gh_ra_n (by omega) (by decide), gq_bs, hQ.2.2.2.2.1 i hil, gh_ra_n hh (by decide), gq_bs, hS.2 _ hh, r3, gh_n_ge (by omega) (by omega)]
      have go : ∀ bo1, gf_bo ld p pw q (i + 1) bo1 → ∃ S' q' bo', sX2_addHour_74 N (sX2_addHour_20 N fu) (nI bn) (gf_fo bo1) (nI i) (nI (gr_at q i)) S = (bif gh_cmp .ne (gf_fo bo') (-1) then (gh_ra S' 32 12 (gf_fo bo')).bind fun x1 => (gh_wa S' 32 12 (gf_fo bo') (x1 + 1)).bind fun S2 => (sX2_shift N (gf_fo bo') S2).bind fun q3 => some (1, q3) else some (0, S')) ∧ gh_fr gf_CB S S' ∧ gf_BI x op ld p pw bn (fun _ => true) false S' q' ∧ gf_bo ld p pw q' q'.length bo' ∧ (∀ h, h < 12 → op bn h = true → x bn h = false → h ∈ q') ∧ (∀ h, h ∈ q' → ∀ b, b < 8 → b ≠ bn → x b h = true → op b h = true → ∀ g, g < 12 → op b g = true → x b g = false → g ∈ q') := by
        intro bo1 hbo1
        obtain ⟨S1, l, b1, b2, b3, b4⟩ := gf_reachFrom N hN hh hbn hS hB' hmem
        unfold sX2_addHour_74
        rw [b1, gq_bs, nI_1]
        have at' : ∀ k, k < i + 1 → gr_at (q ++ l) k = gr_at q k := fun k hk => gr_at_lt (by omega)
        obtain ⟨S', q', bo', a1, a2, a3⟩ := ih (i + 1) fu S1 (q ++ l) bo1 (by omega) (by omega) (by rw [List.length_append]; omega) (gf_RS_fr hR' (gh_fr_mono b3 gf_CW_CB)) (gf_SC_fr hS b3) hld8 b2 (by
          unfold gf_bo at hbo1 ⊢
          cases bo1 with
          | none => exact fun k hk => by rw [at' k hk]; exact hbo1 k hk
          | some t =>
            obtain ⟨⟨k0, c1, c2⟩, c3, c4⟩ := hbo1
            exact ⟨⟨k0, c1, by rw [at' k0 c1]; exact c2⟩, c3, fun k hk => by rw [at' k hk]; exact c4 k hk⟩) (fun h h1 h2 h3 => List.mem_append_left _ (hroot h h1 h2 h3)) (fun k hk b hb hbb hx ho g hg h1 h2 => by
          rw [at' k hk] at hx ho
          by_cases e2 : k = i
          · subst e2
            exact b4 b hb hbb hx ho g hg h1 h2
          · exact List.mem_append_left _ (hcl k (by omega) b hb hbb hx ho g hg h1 h2))
        exact ⟨S', q', bo', a1, gh_fr_trans b3 a2, a3⟩
      have hsame : (¬ ld (gr_at q i) < pw ∨ ∃ t, bo = some t ∧ p t ≤ p (gr_at q i)) → gf_bo ld p pw q (i + 1) bo := by
        intro hc
        cases bo with
        | none =>
          intro k hk
          rcases hc with hc | ⟨t, hc, -⟩
          · by_cases e2 : k = i
            · rw [e2]; exact hc
            · exact hbo k (by omega)
          · cases hc
        | some t =>
          obtain ⟨⟨k0, c1, c2⟩, c3, c4⟩ := hbo
          refine ⟨⟨k0, by omega, c2⟩, c3, fun k hk hl => ?_⟩
          by_cases e2 : k = i
          · subst e2
            rcases hc with hc | ⟨t', hc, hc2⟩
            · exact absurd hl hc
            · cases hc
              exact hc2
          · exact c4 k (by omega) hl
      by_cases hf : pw ≤ ld (gr_at q i)
      · rw [decide_eq_true hf, cond_true]
        exact go bo (hsame (Or.inl (by omega)))
      · rw [decide_eq_false hf, cond_false]
        unfold sX2_addHour_71
        cases bo with
        | none =>
          rw [show gh_cmp .eq (gf_fo none) (-1) = true from rfl, cond_true]
          exact go (some (gr_at q i)) ⟨⟨i, by omega, rfl⟩, by omega, fun k hk hl => by
            by_cases e2 : k = i
            · rw [e2]; exact Nat.le_refl _
            · exact absurd hl (hbo k (by omega))⟩
        | some t =>
          have hbo' := hbo
          obtain ⟨⟨k0, c1, c2⟩, c3, c4⟩ := hbo
          have ht : t < 12 := by rw [← c2]; exact hQ.2.1 _ (gf_at_mem (by omega))
          have hne : gh_cmp .eq (gf_fo (some t)) (-1) = false := by
            show gh_cmp .eq (nI t) (-1) = false
            rw [gh_c_eq, nI_toInt (by omega)]
            exact decide_eq_false (by show ¬ (t : Int) = -1; omega)
          have pt := (r5 t ht).2.2.2.2
          have ph := (r5 _ hh).2.2.2.2
          rw [hne, cond_false, gh_ra_n hh (by decide), gq_bs, show gf_fo (some t) = nI t from rfl, gh_ra_n ht (by decide), gq_bs, (r5 _ hh).2.2.1, (r5 t ht).2.2.1, gh_n_ge (by omega) (by omega)]
          by_cases hc : p t ≤ p (gr_at q i)
          · rw [decide_eq_true hc, cond_true]
            exact go (some t) (hsame (Or.inr ⟨t, rfl, hc⟩))
          · rw [decide_eq_false hc, cond_false]
            exact go (some (gr_at q i)) ⟨⟨i, by omega, rfl⟩, by omega, fun k hk hl => by
              by_cases e2 : k = i
              · rw [e2]; exact Nat.le_refl _
              · have := c4 k (by omega) hl
                omega⟩
theorem gf_addHour (hN : 100 ≤ N) {S : gh_St} {T Mb Mh : Nat → Nat} (hbn : bn < 8) (hR : gf_RS S dr p nd li pw) (hS : gf_SC S x op ld) (hop : ∀ b h, b < 8 → h < 12 → op b h = gf_may dr li b h) (hx : gf_feas (gf_may dr li) T pw x) (hcol : ∀ g, g < 12 → gf_col x g = ld g) (hc : gf_cert (gf_may dr li) pw p x ld Mb Mh) : ∃ v S', sX2_addHour N (nI bn) S = some (gq_B v, S') ∧ gh_fr gf_CW S S' ∧ (v = false → ∀ Nd : Nat → Nat, (∀ b, b < 8 → T b ≤ Nd b) → T bn < Nd bn → ∀ y, ¬ gf_feas (gf_may dr li) Nd pw y) ∧ (v = true → ∃ x' ld' Mb' Mh', gf_SC S' x' op ld' ∧ gf_feas (gf_may dr li) (gh_nu T bn (T bn + 1)) pw x' ∧ (∀ g, g < 12 → gf_col x' g = ld' g) ∧ gf_cert (gf_may dr li) pw p x' ld' Mb' Mh') := by
  have hld8 : ∀ h, h < 12 → ld h ≤ 8 := fun h hh => by
    have h1 := hx.2.1 h hh
    have h2 := hcol h hh
    have h3 := hR.2.1
    omega
  have f0 : gh_fr gf_CB S (gh_fI (gh_fI S 26 11 0) 26 12 0) := gh_fr_fI (gh_fr_fI (gh_fr_refl _ _) rfl) rfl
  have hS0 := gf_SC_fr hS f0
  have hB0 : gf_BI x op ld p pw bn (fun _ => true) false (gh_fI (gh_fI S 26 11 0) 26 12 0) [] := gf_BI_nil S
  obtain ⟨S1, l, a1, a2, a3, a4⟩ := gf_reachBy N hN hS0 hB0 (b := bn) (f := none) hbn (Or.inl ⟨rfl, rfl, fun _ => rfl⟩)
  rw [List.nil_append] at a2 a4
  have f1 := gh_fr_trans f0 a3
  obtain ⟨S2, q, bo, b1, b2, b3, b4, b5, b6⟩ := gf_add20 (dr := dr) (p := p) (nd := nd) (li := li) (pw := pw) (x := x) (op := op) (ld := ld) (bn := bn) N hN hbn 12 0 N S1 l none (by omega) (by omega) (Nat.zero_le _) (gf_RS_fr hR (gh_fr_mono f1 gf_CW_CB)) (gf_SC_fr hS f1) hld8 a2 (fun k hk => absurd hk (Nat.not_lt_zero _)) a4 (fun k hk => absurd hk (Nat.not_lt_zero _))
  have f2 := gh_fr_trans f1 b2
  have hS2 := gf_SC_fr hS f2
  have hcl : ∀ b h h', b < 8 → h < 12 → h' < 12 → decide (h ∈ q) = true → x b h = true → gf_may dr li b h' = true → x b h' = false → decide (h' ∈ q) = true := by
    intro b h h' hb hh hh' hq hxx hm hxf
    refine decide_eq_true ?_
    by_cases e : b = bn
    · subst e
      exact b5 h' hh' (by rw [hop b h' hb hh']; exact hm) hxf
    · exact b6 h (decide_eq_true_iff.mp hq) b hb e hxx (by rw [hop b h hb hh]; exact hx.2.2 b h hb hh hxx) h' hh' (by rw [hop b h' hb hh']; exact hm) hxf
  have hb0 : ∀ h, h < 12 → gf_may dr li bn h = true → x bn h = false → decide (h ∈ q) = true := fun h hh hm hxf => decide_eq_true (b5 h hh (by rw [hop bn h hbn hh]; exact hm) hxf)
  have e0 : sX2_addHour N (nI bn) S = sX2_addHour_20 N N (nI bn) (gf_fo none) (nI 0) S1 := by
    unfold sX2_addHour
    rw [show (-1 : Int32) = gf_fo none from rfl, a1, gq_bs]
    rfl
  rw [e0, b1]
  cases bo with
  | none =>
    refine ⟨false, S2, rfl, gh_fr_mono f2 gf_CW_CB, fun _ Nd hT hlt y hy => ?_, fun h => by cases h⟩
    refine gf_hall (Q := fun h => decide (h ∈ q)) hx hT hbn hlt hb0 hcl (fun h hh hq hl => ?_) hy
    obtain ⟨k, hk, e⟩ := gf_mem_at (decide_eq_true_iff.mp hq)
    rw [hcol h hh, ← e] at hl
    exact b4 k hk hl
  | some t =>
    obtain ⟨⟨k0, c1, c2⟩, c3, c4⟩ := b4
    have htq : t ∈ q := by rw [← c2]; exact gf_at_mem c1
    have b3' := b3
    obtain ⟨bb, ff, hQ, hV⟩ := b3'
    have ht := hQ.2.1 t htq
    have hne : gh_cmp .ne (gf_fo (some t)) (-1) = true := by
      show gh_cmp .ne (nI t) (-1) = true
      rw [gh_c_ne, nI_toInt (by omega)]
      exact decide_eq_true (by show ¬ (t : Int) = -1; omega)
    have hau := gf_aug (bn := bn) (Q := fun h => decide (h ∈ q)) hc hb0 hcl ht (decide_eq_true htq) c3 (fun h hh hq hl => by
      obtain ⟨k, hk, e⟩ := gf_mem_at (decide_eq_true_iff.mp hq)
      rw [← e] at hl ⊢
      exact c4 k hk hl)
    obtain ⟨u1, u2, u3, u4⟩ := hau
    rw [hne, cond_true, show gf_fo (some t) = nI t from rfl, gh_ra_n ht (by decide), gq_bs, hS2.2 t ht, nI_1, gh_wa_n ht (by decide), gq_bs]
    have hS3 := gf_SC_ld hS2 (g := t) (v := ld t + 1)
    have hlen := gf_Q_len hQ
    obtain ⟨S', x'', ld'', d1, d2, d3, d4, d5, d6, d7, d8, d9, d10⟩ := gf_shift4 (may := gf_may dr li) (op := op) (x := x) (T := gh_nu T bn (T bn + 1)) (ld := ld) (p := p) (ld0 := gh_nu ld t (ld t + 1)) (pw := pw) (bn := bn) (rt := fun _ => true) (sp := false) (bb := bb) (ff := ff) (J := fun y => gf_cert (gf_may dr li) pw p y (gh_nu ld t (ld t + 1)) (gf_Mb' x (fun h => decide (h ∈ q)) bn Mb (p t)) (gf_Mh' (fun h => decide (h ∈ q)) Mh (p t))) (K := fun h => gf_Mh' (fun h => decide (h ∈ q)) Mh (p t) h = p t) (Kb := fun b => gf_Mb' x (fun h => decide (h ∈ q)) bn Mb (p t) b = p t) (L := q.reverse) N hbn (fun b h hb hh ho => by rw [← hop b h hb hh]; exact ho) (fun y b h v _ _ k1 k2 hj => gf_cert_flip hj v (k1.trans k2.symm)) (fun b h hb hL ho hxf hin hk => by
      have hL := List.mem_reverse.mp hL
      have hh := hQ.2.1 h hL
      refine u3 b h hb hh ?_ (decide_eq_true hL) (by rw [← hop b h hb hh]; exact ho) hxf hk
      rcases hin with e | ⟨g, g1, g2⟩
      · exact Or.inl e
      · have g1 := List.mem_reverse.mp g1
        exact Or.inr ⟨g, hQ.2.1 g g1, decide_eq_true g1, g2⟩) (fun b g hb hL hxt hk => by
      have hL := List.mem_reverse.mp hL
      exact u4 b g hb (hQ.2.1 g hL) (decide_eq_true hL) hxt hk) (fun h => by cases h) (fun h hh => hQ.2.1 h (List.mem_reverse.mp hh)) q.reverse t 0 N (gh_fI S2 32 t (nI (ld t + 1))) x (gh_nu ld t (ld t + 1)) (fun g hg => hg) (gf_ndr hQ.1) hV (fun g hg => by
      simp only [gh_fI_1, Nat.reduceEqDiff, false_and, if_false]
      exact hQ.2.2.2.2.2 g (List.mem_reverse.mp hg)) (List.mem_reverse.mpr htq) (by rw [List.length_reverse]; omega) (by rw [List.length_reverse]; omega) hS3 ⟨fun b hb => by
        have := hx.1 b hb
        by_cases e : b = bn
        · subst e
          rw [if_pos rfl, gh_nu_s]
          omega
        · rw [if_neg e, gh_nu_n _ _ e]
          exact this, fun g hg => by
        have := hcol g hg
        by_cases e : g = t
        · subst e
          rw [if_pos rfl, gh_nu_s]
          omega
        · rw [if_neg e, gh_nu_n _ _ e]
          exact this, fun g hg => by
        have h1 := hx.2.1 g hg
        have h2 := hcol g hg
        by_cases e : g = t
        · subst e
          rw [gh_nu_s]
          omega
        · rw [gh_nu_n _ _ e]
          omega, hx.2.2, fun _ _ _ _ _ => rfl, fun _ => rfl, u1⟩ u2 (fun g _ hne => ⟨gh_nu_n _ _ hne, fun _ _ => rfl⟩) (fun _ _ h => h)
    have d1' : sX2_shift N (nI t) (gh_fI S2 32 t (nI (ld t + 1))) = some S' := d1
    rw [d1', gq_bs]
    refine ⟨true, S', rfl, ?_, (fun h => by cases h), fun _ => ⟨x'', ld'', _, _, d2, d3, d4, gf_cert_ld d7 (fun h _ => d8 rfl h)⟩⟩
    exact gh_fr_trans (gh_fr_mono f2 gf_CW_CB) (gh_fr_trans (gh_fr_fI (gh_fr_refl _ _) rfl) (gh_fr_mono d10 gf_CW_CP))
end GfAdd

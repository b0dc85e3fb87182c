/-! ===== fans, fansOf ===== -/
section GwP
variable {dr : Nat → Bool} {p nd li : Nat → Nat} {pw : Nat} (N : Nat)
def gw_res (dr : Nat → Bool) (p nd li : Nat → Nat) (pw : Nat) (S : gh_St) (m : Option (Int32 × gh_St)) : Prop := ∃ v S', m = some (v, S') ∧ gh_fr gw_CR S S' ∧ ((v = -1 ∧ ∀ y, ¬ gf_feas (gf_may dr li) nd pw y) ∨ (∃ x, gf_feas (gf_may dr li) nd pw x ∧ gf_opt (gf_may dr li) nd pw p x ∧ gf_lex (gf_may dr li) nd pw p x ∧ v = nI (gf_cost p (gf_col x)) ∧ ∀ b h, b < 8 → h < 12 → S'.1 87 (12 * b + h) = gq_B (x b h)))
def gw_st (dr : Nat → Bool) (p li : Nat → Nat) (pw : Nat) (T : Nat → Nat) (S : gh_St) (all : Nat) : Prop := ∃ x ld Mb Mh, gf_SR S x (fun _ _ => false) ld ∧ gf_feas (gf_may dr li) T pw x ∧ (∀ g, g < 12 → gf_col x g = ld g) ∧ gf_cert (gf_may dr li) pw p x ld Mb Mh ∧ gw_M9 Mb Mh ∧ all = gf_cost p ld
theorem gw_res_fr {S S1 : gh_St} {m : Option (Int32 × gh_St)} (hf : gh_fr gw_CR S S1) (h : gw_res dr p nd li pw S1 m) : gw_res dr p nd li pw S m := by
  obtain ⟨v, S', a1, a2, a3⟩ := h
  exact ⟨v, S', a1, gh_fr_trans hf a2, a3⟩
/-- first as far as k, in the reference -/
def gw_lk (dr : Nat → Bool) (p nd li : Nat → Nat) (pw k : Nat) (S : gh_St) (ldF Mb Mh : Nat → Nat) (all : Nat) : Prop := ∃ x ld, gf_SR S x (gw_fk k) ld ∧ gf_feas (gf_may dr li) nd pw x ∧ (∀ g, g < 12 → gf_col x g = ld g) ∧ gf_plq p ld ldF ∧ gf_cert (gf_may dr li) pw p x ld Mb Mh ∧ all = gf_cost p ld ∧ ∀ b h, b < 8 → h < 12 → 12 * b + h < k → x b h = false → ∀ z, gf_feas (gf_may dr li) nd pw z → gf_plq p (gf_col x) (gf_col z) → (∀ b' h', b' < 8 → h' < 12 → 12 * b' + h' < 12 * b + h → x b' h' = z b' h') → z b h = false
theorem gw_SR_fk {S : gh_St} {x : Nat → Nat → Bool} {ld : Nat → Nat} {b h : Nat} (hb : b < 8) (hh : h < 12) (hS : gf_SR S x (gw_fk (12 * b + h)) ld) : gf_SR (gh_fI S 88 (12 * b + h) (gq_B true)) x (gw_fk (12 * b + h + 1)) ld := by
  refine ⟨fun b' h' hb' hh' => ⟨?_, ?_⟩, fun g hg => ?_⟩
  · rw [gh_fI_1, if_neg (by omega)]
    exact (hS.1 b' h' hb' hh').1
  · rw [gh_fI_1]
    unfold gw_fk
    by_cases e : 12 * b' + h' = 12 * b + h
    · rw [if_pos ⟨rfl, e⟩, decide_eq_true (by omega)]
    · rw [if_neg (fun w => e w.2), (hS.1 b' h' hb' hh').2]
      unfold gw_fk
      rw [show decide (12 * b' + h' < 12 * b + h) = decide (12 * b' + h' < 12 * b + h + 1) from decide_eq_decide.mpr (by omega)]
  · rw [gh_fI_1, if_neg (by omega)]
    exact hS.2 g hg
theorem gw_SR_fk2 {S : gh_St} {x : Nat → Nat → Bool} {ld : Nat → Nat} {b h : Nat} (hb : b < 8) (hh : h < 12) (hS : gf_SR S x (gw_fk (12 * b + h + 1)) ld) : gf_SR (gh_fI S 88 (12 * b + h) (gq_B true)) x (gw_fk (12 * b + h + 1)) ld := by
  refine ⟨fun b' h' hb' hh' => ⟨?_, ?_⟩, fun g hg => ?_⟩
  · rw [gh_fI_1, if_neg (by omega)]
    exact (hS.1 b' h' hb' hh').1
  · rw [gh_fI_1]
    by_cases e : 12 * b' + h' = 12 * b + h
    · unfold gw_fk
      rw [if_pos ⟨rfl, e⟩, decide_eq_true (by omega)]
    · rw [if_neg (fun w => e w.2), (hS.1 b' h' hb' hh').2]
  · rw [gh_fI_1, if_neg (by omega)]
    exact hS.2 g hg
theorem gw_p121 (hN : 3000000000 ≤ N) {ldF Mb Mh : Nat → Nat} (hM : gw_M9 Mb Mh) : ∀ (j k fu : Nat) (S : gh_St) (all : Nat), k + j = 96 → j < fu → gf_RS S dr p nd li pw → gw_lk dr p nd li pw k S ldF Mb Mh all → gw_res dr p nd li pw S (sX10_plans_121 N fu (nI all) (nI k) S) := by
  intro j
  induction j with
  | zero =>
    intro k fu S all hk hfu hR hl
    obtain ⟨fu, rfl⟩ : ∃ w, fu = w + 1 := ⟨fu - 1, by omega⟩
    rw [sX10_plans_121, show gh_cmp .ge (nI k) 96 = decide (96 ≤ k) from gh_n_ge (b := 96) (by omega) (by omega), decide_eq_true (by omega), cond_true]
    obtain ⟨x, ld, a1, a2, a3, a4, a5, a6, a7⟩ := hl
    refine ⟨nI all, S, rfl, gh_fr_refl _ _, Or.inr ⟨x, a2, gf_opt_of (gf_cert_ld a5 a3) a2.1, fun b h hb hh => a7 b h hb hh (by omega), ?_, fun b h hb hh => (a1.1 b h hb hh).1⟩⟩
    rw [a6]
    congr 1
    exact gn_cg 12 (fun g hg => by show ld g * p g = _; rw [a3 g hg])
  | succ j ih =>
    intro k fu S all hk hfu hR hl
    obtain ⟨fu, rfl⟩ : ∃ w, fu = w + 1 := ⟨fu - 1, by omega⟩
    obtain ⟨b, h, hb, hh, hbh⟩ : ∃ b h, b < 8 ∧ h < 12 ∧ k = 12 * b + h := ⟨k / 12, k % 12, by omega, by omega, by omega⟩
    obtain ⟨x, ld, a1, a2, a3, a4, a5, a6, a7⟩ := hl
    have ed : gh_di (nI k) 12 = some (nI b) := by
      unfold gh_di
      rw [if_neg (by decide), show (12 : Int32) = nI 12 from rfl, pk_div (by omega) (by omega) (by omega)]
      congr 2
      omega
    have er : gh_re (nI k) 12 = some (nI h) := by
      unfold gh_re
      rw [if_neg (by decide), show (12 : Int32) = nI 12 from rfl, pk_rem (by omega) (by omega) (by omega)]
      congr 2
      omega
    rw [sX10_plans_121, show gh_cmp .ge (nI k) 96 = decide (96 ≤ k) from gh_n_ge (b := 96) (by omega) (by omega), decide_eq_false (by omega), cond_false, ed, gq_bs, er, gq_bs, gh_ra_n (by omega) (by decide), gq_bs, show S.1 87 k = gq_B (x b h) by rw [hbh]; exact (a1.1 b h hb hh).1, gq_B_ne]
    have n1 : vp_nar .boolean (1 : Int32) = gq_B true := gq_B_nar true
    have plain : (x b h = false → ∀ z, gf_feas (gf_may dr li) nd pw z → z b h = false) → gw_res dr p nd li pw S (sX10_plans_208 N (sX10_plans_121 N fu) (nI all) (nI k) S) := by
      intro hz
      unfold sX10_plans_208
      rw [n1, gh_wa_n (by omega) (by decide), gq_bs, nI_1]
      have f1 : gh_fr gw_CR S (gh_fI S 88 k (gq_B true)) := gh_fr_fI (gh_fr_refl _ _) rfl
      refine gw_res_fr f1 (ih (k + 1) fu _ all (by omega) (by omega) (gw_RS_fr hR f1) ⟨x, ld, ?_, a2, a3, a4, a5, a6, fun b' h' hb' hh' hl' hxf => ?_⟩)
      · rw [hbh] at a1 ⊢
        exact gw_SR_fk hb hh a1
      · by_cases e : 12 * b' + h' < k
        · exact a7 b' h' hb' hh' e hxf
        · have e1 : b' = b := by omega
          have e2 : h' = h := by omega
          rw [e1, e2] at hxf ⊢
          exact fun z hzf _ _ => hz hxf z hzf
    cases hxb : x b h with
    | true =>
      rw [cond_true]
      exact plain (fun q => by rw [hxb] at q; cases q)
    | false =>
      rw [cond_false, gf_mayR N hR hb hh, gq_bs]
      show gw_res dr p nd li pw S (bif gh_cmp .eq (gq_B (gf_may dr li b h)) 0 then _ else _)
      rw [gq_B_eq]
      cases hm : gf_may dr li b h with
      | false =>
        rw [Bool.not_false, cond_true]
        refine plain (fun _ z hz => gf_bf (fun hzt => ?_))
        have := hz.2.2 b h hb hh hzt
        rw [hm] at this
        cases this
      | true =>
        rw [Bool.not_true, cond_false]
        show gw_res dr p nd li pw S ((gh_ra S 74 8 (nI b)).bind _)
        have hn12 := (hR.2.2.2.2.2 b hb).2.2.2.2.1
        rw [gh_ra_n hb (by decide), gq_bs, (hR.2.2.2.2.2 b hb).2.1, show gh_cmp .le (nI (nd b)) 0 = decide (nd b ≤ 0) from gh_n_le (b := 0) (by omega) (by omega)]
        by_cases h0 : nd b ≤ 0
        · rw [decide_eq_true h0, cond_true]
          refine plain (fun _ z hz => gf_bf (fun hzt => ?_))
          have h1 := hz.1 b hb
          have h2 := gh_sm_ge (fun g => (z b g).toNat) h 12 hh
          unfold gf_row at h1
          rw [h1] at h2
          have h3 : (z b h).toNat ≤ nd b := h2
          rw [hzt] at h3
          have h4 : 1 ≤ nd b := h3
          omega
        · rw [decide_eq_false h0, cond_false]
          show gw_res dr p nd li pw S ((gh_wa S 88 96 (nI k) (vp_nar .boolean 1)).bind _)
          rw [n1, gh_wa_n (by omega) (by decide), gq_bs, show (8 : Int32) + nI h = nI (8 + h) from nI_add 8 h]
          have f1 : gh_fr gw_CR S (gh_fI S 88 k (gq_B true)) := gh_fr_fI (gh_fr_refl _ _) rfl
          have hS6 : gf_SR (gh_fI S 88 k (gq_B true)) x (gw_fk (12 * b + h + 1)) ld := by
            rw [hbh] at a1 ⊢
            exact gw_SR_fk hb hh a1
          obtain ⟨S1, b1, b2, b3⟩ := gw_ex (dr := dr) (p := p) (nd := nd) (li := li) (pw := pw) N hN hb hh (gw_RS_fr hR f1) hS6 a2 a3 a5 hM hm hxb (by omega)
          rw [b1, gq_bs, gh_ra_n (by omega) (by decide), gq_bs]
          have f2 := gh_fr_trans f1 b2
          rcases b3 with ⟨c1, c2, c3⟩ | ⟨c1, S2, x', ld', c2, c3, c4, c5, c6, c7, c8, c9⟩
          · rw [c1, cond_true]
            unfold sX10_plans_208
            rw [n1, gh_wa_n (by omega) (by decide), gq_bs, nI_1]
            have f3 : gh_fr gw_CR S (gh_fI S1 88 k (gq_B true)) := gh_fr_fI f2 rfl
            refine gw_res_fr f3 (ih (k + 1) fu _ all (by omega) (by omega) (gw_RS_fr hR f3) ⟨x, ld, ?_, a2, a3, a4, a5, a6, fun b' h' hb' hh' hl' hxf => ?_⟩)
            · rw [hbh]
              exact gw_SR_fk2 hb hh c2
            · by_cases e : 12 * b' + h' < k
              · exact a7 b' h' hb' hh' e hxf
              · have e1 : b' = b := by omega
                have e2 : h' = h := by omega
                rw [e1, e2]
                exact c3
          · rw [c1, cond_false, c2, gq_bs, gh_wa_n (by omega) (by decide), gq_bs, gh_wa_n (by omega) (by decide), gq_bs, nI_1]
            have f3 : gh_fr gw_CR S (gh_fI (gh_fI S2 87 k (gq_B true)) 88 k (gq_B true)) := gh_fr_fI (gh_fr_fI (gh_fr_trans f1 c3) rfl) rfl
            have hp100 : ∀ g, g < 12 → p g < 100 := fun g hg => by have := (hR.2.2.2.2.1 g hg).2.2.2.2; omega
            have hcx : gf_plq p (gf_col x) (gf_col x') := fun c => by
              rw [gf_pl_cg (p := p) a3 c, gf_pl_cg (p := p) c6 c]
              exact (c7 c).symm
            have hce : gf_cost p (gf_col x') = gf_cost p (gf_col x) := (gf_plq_cost hp100 hcx).symm
            refine gw_res_fr f3 (ih (k + 1) fu _ all (by omega) (by omega) (gw_RS_fr hR f3) ⟨x', ld', ?_, c5, c6, fun c => (c7 c).trans (a4 c), gf_cert_ld (gf_dual_eq (gf_cert_ld a5 a3) a2.1 c5 hce) (fun g hg => (c6 g hg).symm), ?_, fun b' h' hb' hh' hl' hxf z hz hpz hag => ?_⟩)
            · rw [hbh] at *
              exact gw_SR_fk2 hb hh c4
            · rw [a6]
              exact (gf_plq_cost hp100 c7).symm
            · by_cases e : 12 * b' + h' < k
              · refine a7 b' h' hb' hh' e (by rw [← c9 b' h' hb' hh' (by omega)]; exact hxf) z hz (fun c => (hcx c).trans (hpz c)) (fun b1 h1 hb1 hh1 hl1 => ?_)
                rw [← c9 b1 h1 hb1 hh1 (by omega)]
                exact hag b1 h1 hb1 hh1 hl1
              · have e1 : b' = b := by omega
                have e2 : h' = h := by omega
                rw [e1, e2, c8] at hxf
                cases hxf
theorem gw_p61 (hN : 3000000000 ≤ N) {bn : Nat} (hbn : bn < 8) (kc : Int32 → Int32 → gh_St → Option (Int32 × gh_St)) (hkc : ∀ S all, gf_RS S dr p nd li pw → gw_st dr p li pw (gf_T nd (bn + 1) 0) S all → gw_res dr p nd li pw S (kc (nI all) (nI (bn + 1)) S)) : ∀ (j n fu : Nat) (S : gh_St) (all : Nat), n + j = nd bn → j < fu → gf_RS S dr p nd li pw → gw_st dr p li pw (gf_T nd bn n) S all → gw_res dr p nd li pw S (sX10_plans_61 N kc fu (nI all) (nI bn) (nI n) S) := by
  intro j
  induction j with
  | zero =>
    intro n fu S all hn hfu hR hst
    obtain ⟨fu, rfl⟩ : ∃ w, fu = w + 1 := ⟨fu - 1, by omega⟩
    have h12 := (hR.2.2.2.2.2 bn hbn).2.2.2.2.1
    rw [sX10_plans_61, gh_ra_n hbn (by decide), gq_bs, (hR.2.2.2.2.2 bn hbn).2.1, gh_n_ge (by omega) (by omega), decide_eq_true (by omega), cond_true, nI_1]
    refine hkc S all hR ?_
    obtain ⟨x, ld, Mb, Mh, a1, a2, a3, a4⟩ := hst
    refine ⟨x, ld, Mb, Mh, a1, gf_feas_T a2 (fun b hb => ?_), a3, a4⟩
    unfold gf_T
    by_cases e : b < bn
    · rw [if_pos e, if_pos (by omega)]
    · by_cases e2 : b = bn
      · rw [if_pos (by omega), if_neg e, if_pos e2, e2]
        omega
      · rw [if_neg (by omega), if_neg e, if_neg e2]
        by_cases e3 : b = bn + 1
        · rw [if_pos e3]
        · rw [if_neg e3]
  | succ j ih =>
    intro n fu S all hn hfu hR hst
    obtain ⟨fu, rfl⟩ : ∃ w, fu = w + 1 := ⟨fu - 1, by omega⟩
    have h12 := (hR.2.2.2.2.2 bn hbn).2.2.2.2.1
    obtain ⟨x, ld, Mb, Mh, a1, a2, a3, a4, a5, a6⟩ := hst
    have hTb : gf_T nd bn n bn = n := by unfold gf_T; rw [if_neg (by omega), if_pos rfl]
    rw [sX10_plans_61, gh_ra_n hbn (by decide), gq_bs, (hR.2.2.2.2.2 bn hbn).2.1, gh_n_ge (by omega) (by omega), decide_eq_false (by omega), cond_false, nI_1]
    obtain ⟨S1, b1, b2, b3⟩ := gw_add (dr := dr) (p := p) (nd := nd) (li := li) (pw := pw) N hN hbn hR a1 a2 a3 a4 a5
    have e20 : gh_ra S1 90 21 20 = some (S1.1 90 20) := gh_ra_n (k := 20) (by omega) (by decide)
    rw [b1, gq_bs, e20, gq_bs]
    rcases b3 with ⟨c1, c2⟩ | ⟨t, S2, x', Mb', Mh', c1, c2, c3, c4, c5, c6, c7, c8, c9⟩
    · rw [c1, show gh_cmp .lt (nI 100000000) 100000000 = false from by decide, cond_false]
      refine ⟨-1, S1, rfl, b2, Or.inl ⟨rfl, c2 nd (fun b hb => ?_) (by rw [hTb]; omega)⟩⟩
      unfold gf_T
      by_cases e : b < bn
      · rw [if_pos e]; exact Nat.le_refl _
      · rw [if_neg e]
        by_cases e2 : b = bn
        · rw [if_pos e2, e2]; omega
        · rw [if_neg e2]; exact Nat.zero_le _
    · have pt := (hR.2.2.2.2.1 t c1).2.2.2.2
      rw [c2, show gh_cmp .lt (nI (p t)) 100000000 = decide (p t < 100000000) from gh_n_lt (b := 100000000) (by omega) (by omega), decide_eq_true (by omega), cond_true, gq_bs, c3, gq_bs, nI_add]
      refine gw_res_fr c4 (ih (n + 1) fu S2 (all + p t) (by omega) (by omega) (gw_RS_fr hR c4) ⟨x', _, Mb', Mh', c5, gf_feas_T c6 (fun b hb => ?_), c7, c8, c9, by rw [gf_cost_nu c1, a6]⟩)
      rw [hTb]
      unfold gf_T gh_nu
      by_cases e : b = bn
      · subst e
        simp
      · by_cases e2 : b < bn
        · simp [e, e2]
        · simp [e, e2]
theorem gw_p53 (hN : 3000000000 ≤ N) : ∀ (j bn fu : Nat) (S : gh_St) (all : Nat), bn + j = 8 → j < fu → gf_RS S dr p nd li pw → gw_st dr p li pw (gf_T nd bn 0) S all → gw_res dr p nd li pw S (sX10_plans_53 N fu (nI all) (nI bn) S) := by
  intro j
  induction j with
  | zero =>
    intro bn fu S all hn hfu hR hst
    obtain ⟨fu, rfl⟩ : ∃ w, fu = w + 1 := ⟨fu - 1, by omega⟩
    rw [sX10_plans_53, show gh_cmp .ge (nI bn) 8 = decide (8 ≤ bn) from gh_n_ge (b := 8) (by omega) (by omega), decide_eq_true (by omega), cond_true]
    obtain ⟨x, ld, Mb, Mh, a1, a2, a3, a4, a5, a6⟩ := hst
    refine gw_p121 N hN a5 96 0 N S all (by omega) (by omega) hR ⟨x, ld, ⟨fun b h hb hh => ⟨(a1.1 b h hb hh).1, (a1.1 b h hb hh).2.trans ?_⟩, a1.2⟩, gf_feas_T a2 (fun b hb => ?_), a3, fun _ => rfl, a4, a6, fun b h _ _ hk => absurd hk (Nat.not_lt_zero _)⟩
    · unfold gw_fk
      rw [decide_eq_false (Nat.not_lt_zero _)]
    · unfold gf_T
      rw [if_pos (by omega)]
  | succ j ih =>
    intro bn fu S all hn hfu hR hst
    obtain ⟨fu, rfl⟩ : ∃ w, fu = w + 1 := ⟨fu - 1, by omega⟩
    rw [sX10_plans_53, show gh_cmp .ge (nI bn) 8 = decide (8 ≤ bn) from gh_n_ge (b := 8) (by omega) (by omega), decide_eq_false (by omega), cond_false]
    have h12 := (hR.2.2.2.2.2 bn (by omega)).2.2.2.2.1
    exact gw_p61 N hN (by omega) (sX10_plans_53 N fu) (fun S2 all2 hR2 hst2 => ih (bn + 1) fu S2 all2 (by omega) (by omega) hR2 hst2) (nd bn) 0 N S all (by omega) (by omega) hR hst
theorem gw_p30 (hN : 3000000000 ≤ N) : ∀ (j k fu : Nat) (S : gh_St), k + j = 12 → j < fu → gf_RS S dr p nd li pw → (∀ b h, b < 8 → h < 12 → S.1 87 (12 * b + h) = gq_B false ∧ S.1 88 (12 * b + h) = gq_B false) → (∀ h, h < k → S.1 89 h = nI 0) → gw_res dr p nd li pw S (sX10_plans_30 N fu (nI k) S) := by
  intro j
  induction j with
  | zero =>
    intro k fu S hk hfu hR hz h89
    obtain ⟨fu, rfl⟩ : ∃ w, fu = w + 1 := ⟨fu - 1, by omega⟩
    rw [sX10_plans_30, show gh_cmp .ge (nI k) 12 = decide (12 ≤ k) from gh_n_ge (b := 12) (by omega) (by omega), decide_eq_true (by omega), cond_true]
    have hzr : ∀ b, gf_row (fun _ _ => false) b = 0 := fun b => by unfold gf_row; exact gn_z 12 (fun _ _ => rfl)
    have hzc : ∀ h, gf_col (fun _ _ => false) h = 0 := fun b => by unfold gf_col; exact gn_z 8 (fun _ _ => rfl)
    refine gw_p53 N hN 8 0 N S 0 (by omega) (by omega) hR ⟨fun _ _ => false, fun _ => 0, fun _ => 0, fun _ => 0, ⟨hz, fun h hh => h89 h (by omega)⟩, ⟨fun b hb => ?_, fun h hh => ?_, fun b h _ _ hx => by cases hx⟩, fun g _ => hzc g, ⟨fun b h _ _ hx => (by cases hx), fun b h _ _ _ _ => Nat.le_refl _, fun h _ _ => Nat.zero_le _, fun h _ hl => absurd hl (Nat.lt_irrefl _)⟩, ⟨fun _ _ => Nat.zero_le _, fun _ _ => Nat.zero_le _⟩, ?_⟩
    · rw [hzr]
      unfold gf_T
      rw [if_neg (by omega)]
      split <;> rfl
    · rw [hzc]
      exact Nat.zero_le _
    · unfold gf_cost
      exact (gn_z 12 (fun h _ => Nat.zero_mul _)).symm
  | succ j ih =>
    intro k fu S hk hfu hR hz h89
    obtain ⟨fu, rfl⟩ : ∃ w, fu = w + 1 := ⟨fu - 1, by omega⟩
    rw [sX10_plans_30, show gh_cmp .ge (nI k) 12 = decide (12 ≤ k) from gh_n_ge (b := 12) (by omega) (by omega), decide_eq_false (by omega), cond_false, gh_wa_n (by omega) (by decide), gq_bs, nI_1]
    have f1 : gh_fr gw_CR S (gh_fI S 89 k 0) := gh_fr_fI (gh_fr_refl _ _) rfl
    refine gw_res_fr f1 (ih (k + 1) fu _ (by omega) (by omega) (gw_RS_fr hR f1) (fun b h hb hh => ?_) (fun h hh => ?_))
    · rw [gh_fI_1, if_neg (by omega), gh_fI_1, if_neg (by omega)]
      exact hz b h hb hh
    · rw [gh_fI_1]
      by_cases e : h = k
      · rw [if_pos ⟨rfl, e⟩]; rfl
      · rw [if_neg (fun w => e w.2)]
        exact h89 h (by omega)
theorem gw_p2 (hN : 3000000000 ≤ N) : ∀ (j k fu : Nat) (S : gh_St), k + j = 96 → j < fu → gf_RS S dr p nd li pw → (∀ i, i < k → S.1 87 i = gq_B false ∧ S.1 88 i = gq_B false) → gw_res dr p nd li pw S (sX10_plans_2 N fu (nI k) S) := by
  intro j
  induction j with
  | zero =>
    intro k fu S hk hfu hR hz
    obtain ⟨fu, rfl⟩ : ∃ w, fu = w + 1 := ⟨fu - 1, by omega⟩
    rw [sX10_plans_2, show gh_cmp .ge (nI k) 96 = decide (96 ≤ k) from gh_n_ge (b := 96) (by omega) (by omega), decide_eq_true (by omega), cond_true]
    exact gw_p30 N hN 12 0 N S (by omega) (by omega) hR (fun b h hb hh => hz (12 * b + h) (by omega)) (fun h hh => absurd hh (Nat.not_lt_zero _))
  | succ j ih =>
    intro k fu S hk hfu hR hz
    obtain ⟨fu, rfl⟩ : ∃ w, fu = w + 1 := ⟨fu - 1, by omega⟩
    have n0 : vp_nar .boolean (0 : Int32) = gq_B false := gq_B_nar false
    rw [sX10_plans_2, show gh_cmp .ge (nI k) 96 = decide (96 ≤ k) from gh_n_ge (b := 96) (by omega) (by omega), decide_eq_false (by omega), cond_false, n0, gh_wa_n (by omega) (by decide), gq_bs, gh_wa_n (by omega) (by decide), gq_bs, nI_1]
    have f1 : gh_fr gw_CR S (gh_fI (gh_fI S 87 k (gq_B false)) 88 k (gq_B false)) := gh_fr_fI (gh_fr_fI (gh_fr_refl _ _) rfl) rfl
    refine gw_res_fr f1 (ih (k + 1) fu _ (by omega) (by omega) (gw_RS_fr hR f1) (fun i hi => ?_))
    simp only [gh_fI_1]
    by_cases e : i = k
    · simp [e]
    · simp [e]
      exact hz i (by omega)
theorem gw_plans (hN : 3000000000 ≤ N) {S : gh_St} (hR : gf_RS S dr p nd li pw) : gw_res dr p nd li pw S (sX10_plans N S) := gw_p2 N hN 96 0 N S (by omega) (by omega) hR (fun i hi => absurd hi (Nat.not_lt_zero _))
theorem gw_fo20 {x : Nat → Nat → Bool} {b : Nat} (hb : b < 8) {S : gh_St} (h87 : ∀ h, h < 12 → S.1 87 (12 * b + h) = gq_B (x b h)) : ∀ (j k fu : Nat), k + j = 12 → j < fu → sX10_fansOf_20 N fu (nI b) (nI (gf_mk (fun h => decide (h < k) && x b h))) (nI k) S = some (nI (gf_mk (x b)), S) := by
  intro j
  induction j with
  | zero =>
    intro k fu hk hfu
    obtain ⟨fu, rfl⟩ : ∃ w, fu = w + 1 := ⟨fu - 1, by omega⟩
    rw [sX10_fansOf_20, show gh_cmp .ge (nI k) 12 = decide (12 ≤ k) from gh_n_ge (b := 12) (by omega) (by omega), decide_eq_true (by omega), cond_true, gf_mk_cg (g := x b) (fun i hi => by rw [decide_eq_true (by omega), Bool.true_and])]
  | succ j ih =>
    intro k fu hk hfu
    obtain ⟨fu, rfl⟩ : ∃ w, fu = w + 1 := ⟨fu - 1, by omega⟩
    have hk12 : k < 12 := by omega
    have e12 : (12 : Int32) * nI b + nI k = nI (12 * b + k) := by
      rw [show (12 : Int32) = nI 12 from rfl, pk_mul, nI_add]
    rw [sX10_fansOf_20, show gh_cmp .ge (nI k) 12 = decide (12 ≤ k) from gh_n_ge (b := 12) (by omega) (by omega), decide_eq_false (by omega), cond_false, e12, gh_ra_n (by omega) (by decide), gq_bs, h87 k hk12, gq_B_eq]
    unfold sX10_fansOf_48
    rw [nI_1]
    have := ih (k + 1) fu (by omega) (by omega)
    rw [← this]
    cases e : x b k with
    | false =>
      rw [Bool.not_false, cond_true, show nI (gf_mk (fun h => decide (h < k) && x b h)) ||| (0 : Int32) = nI (gf_mk (fun h => decide (h < k) && x b h)) from by
        rw [show (0 : Int32) = nI (gf_mk (fun _ => false)) from by rw [gf_mk_0]; rfl, gf_or]
        congr 1
        exact gf_mk_cg (fun i _ => by rw [Bool.or_false])]
      congr 2
      refine gf_mk_cg (fun i _ => ?_)
      by_cases e2 : i = k
      · rw [e2, e, Bool.and_false, Bool.and_false]
      · rw [show decide (i < k) = decide (i < k + 1) from decide_eq_decide.mpr (by omega)]
    | true =>
      rw [Bool.not_true, cond_false, gf_set _ hk12]
      congr 2
      refine gf_mk_cg (fun i _ => ?_)
      by_cases e2 : i = k
      · rw [e2, e, Nat.beq_refl, decide_eq_true (Nat.lt_succ_self k)]
        simp
      · rw [show decide (i < k) = decide (i < k + 1) from decide_eq_decide.mpr (by omega), show Nat.beq i k = false from gf_bf (fun w => e2 (Nat.eq_of_beq_eq_true w)), Bool.or_false]
end GwP
/-- both costs and plans are the same -/
theorem gf_both {S : gh_St} (N : Nat) (hN : 3000000000 ≤ N) (hR : gf_R S) : ∃ v S1 S2, sX2_cost N S = some (v, S1) ∧ sX10_plans N S1 = some (v, S2) ∧ gf_R S2 ∧ gh_fr gf_C S S2 ∧ ((v = -1) ∨ (∃ (k : Nat) (x : Nat → Nat → Bool), v = nI k ∧ k ≤ 9504 ∧ (∀ b, b < 8 → S1.1 36 b = nI (gf_mk (x b))) ∧ ∀ b h, b < 8 → h < 12 → S2.1 87 (12 * b + h) = gq_B (x b h))) := by
  obtain ⟨dr, p, nd, li, pw, kn, hS, h14, hk⟩ := hR
  obtain ⟨S1, a1, a2, a3, a4⟩ := gf_costC N (by omega) hS h14 hk
  have hS1 := gf_RS_fr hS a2
  obtain ⟨v, S2, b1, b2, b3⟩ := gw_plans (dr := dr) (p := p) (nd := nd) (li := li) (pw := pw) N hN hS1
  have hp99 : ∀ g, g < 12 → p g ≤ 99 := fun g hg => (hS.2.2.2.2.1 g hg).2.2.2.2
  have f2 : gh_fr gf_CW S S2 := gh_fr_trans a2 (gh_fr_mono b2 gf_CW_CR)
  have hR2 : gf_R S2 := by
    refine ⟨dr, p, nd, li, pw, true, gf_RS_fr hS f2, (b2.1 26 14 rfl).trans a3, fun _ => ?_⟩
    rcases a4 with ⟨q1, q2⟩ | ⟨x, q1, q2, q3, q4, q5⟩
    · exact Or.inl ⟨(b2.1 26 13 rfl).trans q1, q2⟩
    · exact Or.inr ⟨x, q1, q2, q3, (b2.1 26 13 rfl).trans q4, fun b hb => (b2.1 36 b rfl).trans (q5 b hb)⟩
  have hv : S1.1 26 13 = v ∧ ((v = -1) ∨ (∃ (k : Nat) (x : Nat → Nat → Bool), v = nI k ∧ k ≤ 9504 ∧ (∀ b, b < 8 → S1.1 36 b = nI (gf_mk (x b))) ∧ ∀ b h, b < 8 → h < 12 → S2.1 87 (12 * b + h) = gq_B (x b h))) := by
    rcases a4 with ⟨q1, q2⟩ | ⟨x, q1, q2, q3, q4, q5⟩
    · rcases b3 with ⟨r1, r2⟩ | ⟨y, r1, r2⟩
      · exact ⟨q1.trans r1.symm, Or.inl r1⟩
      · exact absurd r1 (q2 y)
    · rcases b3 with ⟨r1, r2⟩ | ⟨y, r1, r2, r3, r4, r5⟩
      · exact absurd q1 (r2 x)
      · have hce : gf_cost p (gf_col x) = gf_cost p (gf_col y) := Nat.le_antisymm (q2 y r1).1 (r2 x q1).1
        have hpl := gf_opt_plq q1 r1 q2 r2
        have heq := gf_lex_eq q1 r1 hpl q3 r3
        refine ⟨by rw [q4, r4, hce], Or.inr ⟨_, x, by rw [r4, ← hce], ?_, q5, fun b h hb hh => ?_⟩⟩
        · exact gf_cost_le hp99 (fun g hg => by have h1 := q1.2.1 g hg; have h2 := hS.2.1; omega)
        · rw [r5 b h hb hh, heq b h hb hh]
  refine ⟨v, S1, S2, by rw [a1, hv.1], b1, hR2, gh_fr_mono f2 gf_C_CW, hv.2⟩
theorem gf_fans {S : gh_St} (N : Nat) (hN : 3000000000 ≤ N) (hR : gf_R S) : gq_P (sX9_fans N) (sX10_fans N) gf_C gf_R S := by
  obtain ⟨v, S1, S2, a1, a2, a3, a4, -⟩ := gf_both N hN hR
  exact ⟨v, S1, S2, by simp only [sX9_fans, a1, gq_bs], by simp only [sX10_fans, a2, gq_bs], a3, a4⟩
theorem gf_fansOf {S : gh_St} (N : Nat) (hN : 3000000000 ≤ N) (a : Int32) (hR : gf_R S) : gq_P (sX9_fansOf N a) (sX10_fansOf N a) gf_C gf_R S := by
  cases h1 : gh_rg a.toInt 0 7 with
  | false => exact gq_P0 (-1) (by simp only [sX9_fansOf, gq_bs, gq_B_eq, gq_B_ne, gq_B_gB, Bool.not_true, Bool.not_false, Bool.true_and, Bool.false_and, Bool.and_true, Bool.and_false, cond_true, cond_false, gh_isBin9, gh_isKind9, gh_isFarmer9, gh_within, gh_inR, gh_isBin10, gh_isKind10, Int32.toInt_toInt64, Int32.reduceToInt, Int64.reduceToInt, decide_true, decide_false, h1]) (by simp only [sX10_fansOf, gq_bs, gq_B_eq, gq_B_ne, gq_B_gB, Bool.not_true, Bool.not_false, Bool.true_and, Bool.false_and, Bool.and_true, Bool.and_false, cond_true, cond_false, gh_isBin9, gh_isKind9, gh_isFarmer9, gh_within, gh_inR, gh_isBin10, gh_isKind10, Int32.toInt_toInt64, Int32.reduceToInt, Int64.reduceToInt, decide_true, decide_false, h1]) hR
  | true =>
  obtain ⟨b, -, rfl, -, hb, -⟩ := gh_rgN h1 (by decide)
  have hb8 : b < 8 := by omega
  obtain ⟨v, S1, S2, a1, a2, a3, a4, a5⟩ := gf_both N hN hR
  rcases a5 with rfl | ⟨k, x, rfl, hk, q1, q2⟩
  · refine ⟨-1, S1, S2, ?_, ?_, a3, a4⟩
    · simp only [sX9_fansOf, gq_bs, gq_B_eq, gq_B_ne, gq_B_gB, Bool.not_true, Bool.not_false, Bool.true_and, Bool.false_and, Bool.and_true, Bool.and_false, cond_true, cond_false, gh_isBin9, gh_isKind9, gh_isFarmer9, gh_within, gh_inR, gh_isBin10, gh_isKind10, Int32.toInt_toInt64, Int32.reduceToInt, Int64.reduceToInt, decide_true, decide_false, h1, a1, show gh_cmp .ne (-1 : Int32) (-1) = false from rfl]
    · simp only [sX10_fansOf, gq_bs, gq_B_eq, gq_B_ne, gq_B_gB, Bool.not_true, Bool.not_false, Bool.true_and, Bool.false_and, Bool.and_true, Bool.and_false, cond_true, cond_false, gh_isBin9, gh_isKind9, gh_isFarmer9, gh_within, gh_inR, gh_isBin10, gh_isKind10, Int32.toInt_toInt64, Int32.reduceToInt, Int64.reduceToInt, decide_true, decide_false, h1, a2, show gh_cmp .ge (-1 : Int32) 0 = false from rfl]
  · have c1 : gh_cmp .ne (nI k) (-1) = true := by
      rw [gh_c_ne, nI_toInt (by omega)]
      exact decide_eq_true (by show ¬ (k : Int) = -1; omega)
    have c2 : gh_cmp .ge (nI k) 0 = true := by
      rw [show gh_cmp .ge (nI k) 0 = decide (0 ≤ k) from gh_n_ge (b := 0) (by omega) (by omega)]
      exact decide_eq_true (Nat.zero_le _)
    have hfo := gw_fo20 (x := x) N hb8 (fun h hh => q2 b h hb8 hh) 12 0 N (by omega) (by omega)
    rw [show gf_mk (fun h => decide (h < 0) && x b h) = 0 from (gf_mk_cg (fun i _ => by rw [decide_eq_false (Nat.not_lt_zero _), Bool.false_and])).trans gf_mk_0] at hfo
    have hfo' : sX10_fansOf_20 N N (nI b) 0 0 S2 = some (nI (gf_mk (x b)), S2) := hfo
    refine ⟨nI (gf_mk (x b)), S1, S2, ?_, ?_, a3, a4⟩
    · simp only [sX9_fansOf, gq_bs, gq_B_eq, gq_B_ne, gq_B_gB, Bool.not_true, Bool.not_false, Bool.true_and, Bool.false_and, Bool.and_true, Bool.and_false, cond_true, cond_false, gh_isBin9, gh_isKind9, gh_isFarmer9, gh_within, gh_inR, gh_isBin10, gh_isKind10, Int32.toInt_toInt64, Int32.reduceToInt, Int64.reduceToInt, decide_true, decide_false, h1, a1, c1, gh_ra_n hb8 (show 8 < 2 ^ 31 by decide), q1 b hb8]
    · simp only [sX10_fansOf, gq_bs, gq_B_eq, gq_B_ne, gq_B_gB, Bool.not_true, Bool.not_false, Bool.true_and, Bool.false_and, Bool.and_true, Bool.and_false, cond_true, cond_false, gh_isBin9, gh_isKind9, gh_isFarmer9, gh_within, gh_inR, gh_isBin10, gh_isKind10, Int32.toInt_toInt64, Int32.reduceToInt, Int64.reduceToInt, decide_true, decide_false, h1, a2, c2, hfo']

/-! ===== FANS: the class's plan ===== -/
def gf_T (nd : Nat → Nat) (bn n b : Nat) : Nat := if b < bn then nd b else if b = bn then n else 0
def gf_op (may : Nat → Nat → Bool) (k b h : Nat) : Bool := may b h && !decide (12 * b + h < k)
section GfCost
variable {dr : Nat → Bool} {p nd li : Nat → Nat} {pw : Nat} (N : Nat)
/-- a plan so far -/
def gf_st (dr : Nat → Bool) (p li : Nat → Nat) (pw : Nat) (T : Nat → Nat) (S : gh_St) : Prop := ∃ x ld Mb Mh, gf_SC S x (gf_may dr li) ld ∧ gf_feas (gf_may dr li) T pw x ∧ (∀ g, g < 12 → gf_col x g = ld g) ∧ gf_cert (gf_may dr li) pw p x ld Mb Mh
def gf_cres (dr : Nat → Bool) (p nd li : Nat → Nat) (pw : Nat) (S : gh_St) (m : Option (Int32 × gh_St)) : Prop := ∃ v S', m = some (gq_B v, S') ∧ gh_fr gf_CW S S' ∧ (v = false → ∀ y, ¬ gf_feas (gf_may dr li) nd pw y) ∧ (v = true → gf_st dr p li pw nd S')
theorem gf_ch87 (hN : 100 ≤ N) {bn : Nat} (hbn : bn < 8) (kc : Int32 → gh_St → Option (Int32 × gh_St)) (hkc : ∀ S, gf_RS S dr p nd li pw → gf_st dr p li pw (gf_T nd (bn + 1) 0) S → gf_cres dr p nd li pw S (kc (nI (bn + 1)) S)) : ∀ (j n fu : Nat) (S : gh_St), n + j = nd bn → j < fu → gf_RS S dr p nd li pw → gf_st dr p li pw (gf_T nd bn n) S → gf_cres dr p nd li pw S (sX2_cheapest_87 N kc fu (nI bn) (nI n) S) := by
  intro j
  induction j with
  | zero =>
    intro n fu S hn hfu hR hst
    obtain ⟨fu, rfl⟩ : ∃ w, fu = w + 1 := ⟨fu - 1, by omega⟩
    have h12 := (hR.2.2.2.2.2 bn hbn).2.2.2.2.1
    rw [sX2_cheapest_87, gh_ra_n hbn (by decide), gq_bs, (hR.2.2.2.2.2 bn hbn).1, gh_n_ge (by omega) (by omega), decide_eq_true (by omega), cond_true, nI_1]
    refine hkc S hR ?_
    obtain ⟨x, ld, Mb, Mh, a1, a2, a3, a4⟩ := hst
    refine ⟨x, ld, Mb, Mh, a1, gf_feas_T a2 (fun b hb => ?_), a3, a4⟩
    unfold gf_T
    by_cases e : b < bn
    · rw [if_pos e, if_pos (by omega)]
    · by_cases e2 : b = bn
      · rw [if_pos (by omega), if_neg e, if_pos e2, e2]
        omega
      · rw [if_neg (by omega), if_neg e, if_neg e2]
        by_cases e3 : b = bn + 1
        · rw [if_pos e3]
        · rw [if_neg e3]
  | succ j ih =>
    intro n fu S hn hfu hR hst
    obtain ⟨fu, rfl⟩ : ∃ w, fu = w + 1 := ⟨fu - 1, by omega⟩
    have h12 := (hR.2.2.2.2.2 bn hbn).2.2.2.2.1
    rw [sX2_cheapest_87, gh_ra_n hbn (by decide), gq_bs, (hR.2.2.2.2.2 bn hbn).1, gh_n_ge (by omega) (by omega), decide_eq_false (by omega), cond_false, nI_1]
    obtain ⟨x, ld, Mb, Mh, a1, a2, a3, a4⟩ := hst
    obtain ⟨v, S1, b1, b2, b3, b4⟩ := gf_addHour N hN hbn hR a1 (fun _ _ _ _ => rfl) a2 a3 a4
    have hTb : gf_T nd bn n bn = n := by unfold gf_T; rw [if_neg (by omega), if_pos rfl]
    rw [b1, gq_bs]
    show gf_cres dr p nd li pw S (bif gh_cmp .ne (gq_B v) 0 then sX2_cheapest_87 N kc fu (nI bn) (nI (n + 1)) S1 else some (0, S1))
    rw [gq_B_ne]
    cases v with
    | false =>
      rw [cond_false]
      refine ⟨false, S1, rfl, b2, fun _ => b3 rfl nd (fun b hb => ?_) (by rw [hTb]; omega), fun h => by cases h⟩
      unfold gf_T
      by_cases e : b < bn
      · rw [if_pos e]; exact Nat.le_refl _
      · rw [if_neg e]
        by_cases e2 : b = bn
        · rw [if_pos e2, e2]; omega
        · rw [if_neg e2]; exact Nat.zero_le _
    | true =>
      rw [cond_true]
      obtain ⟨x', ld', Mb', Mh', c1, c2, c3, c4⟩ := b4 rfl
      obtain ⟨v, S2, d1, d2, d3⟩ := ih (n + 1) fu S1 (by omega) (by omega) (gf_RS_fr hR b2) ⟨x', ld', Mb', Mh', c1, gf_feas_T c2 (fun b hb => by
        rw [hTb]
        unfold gf_T gh_nu
        by_cases e : b = bn
        · subst e
          simp
        · by_cases e2 : b < bn
          · simp [e, e2]
          · simp [e, e2]), c3, c4⟩
      exact ⟨v, S2, d1, gh_fr_trans b2 d2, d3⟩
theorem gf_ch79 (hN : 100 ≤ N) : ∀ (j bn fu : Nat) (S : gh_St), bn + j = 8 → j < fu → gf_RS S dr p nd li pw → gf_st dr p li pw (gf_T nd bn 0) S → gf_cres dr p nd li pw S (sX2_cheapest_79 N fu (nI bn) S) := by
  intro j
  induction j with
  | zero =>
    intro bn fu S hn hfu hR hst
    obtain ⟨fu, rfl⟩ : ∃ w, fu = w + 1 := ⟨fu - 1, by omega⟩
    rw [sX2_cheapest_79, show gh_cmp .ge (nI bn) 8 = decide (8 ≤ bn) from gh_n_ge (b := 8) (by omega) (by omega), decide_eq_true (by omega), cond_true]
    obtain ⟨x, ld, Mb, Mh, a1, a2, a3, a4⟩ := hst
    refine ⟨true, S, rfl, gh_fr_refl _ _, fun h => (by cases h), fun _ => ⟨x, ld, Mb, Mh, a1, gf_feas_T a2 (fun b hb => ?_), a3, a4⟩⟩
    unfold gf_T
    rw [if_pos (by omega)]
  | succ j ih =>
    intro bn fu S hn hfu hR hst
    obtain ⟨fu, rfl⟩ : ∃ w, fu = w + 1 := ⟨fu - 1, by omega⟩
    rw [sX2_cheapest_79, show gh_cmp .ge (nI bn) 8 = decide (8 ≤ bn) from gh_n_ge (b := 8) (by omega) (by omega), decide_eq_false (by omega), cond_false]
    have h12 := (hR.2.2.2.2.2 bn (by omega)).2.2.2.2.1
    exact gf_ch87 N hN (by omega) (sX2_cheapest_79 N fu) (fun S2 hR2 hst2 => ih (bn + 1) fu S2 (by omega) (by omega) hR2 hst2) (nd bn) 0 N S (by omega) (by omega) hR hst
theorem gf_ch40 (hN : 100 ≤ N) : ∀ (j bn fu : Nat) (S : gh_St), bn + j = 8 → j < fu → gf_RS S dr p nd li pw → (∀ h, h < 12 → S.1 32 h = nI 0) → (∀ b, b < bn → S.1 36 b = nI (gf_mk (fun _ => false)) ∧ S.1 31 b = nI (gf_mk (gf_may dr li b))) → gf_cres dr p nd li pw S (sX2_cheapest_40 N fu (nI (gf_mk dr)) (nI bn) S) := by
  intro j
  induction j with
  | zero =>
    intro bn fu S hn hfu hR h32 hd
    obtain ⟨fu, rfl⟩ : ∃ w, fu = w + 1 := ⟨fu - 1, by omega⟩
    rw [sX2_cheapest_40, show gh_cmp .ge (nI bn) 8 = decide (8 ≤ bn) from gh_n_ge (b := 8) (by omega) (by omega), decide_eq_true (by omega), cond_true]
    have hz : ∀ b, gf_row (fun _ _ => false) b = 0 := fun b => by unfold gf_row; exact gn_z 12 (fun _ _ => rfl)
    have hc : ∀ h, gf_col (fun _ _ => false) h = 0 := fun b => by unfold gf_col; exact gn_z 8 (fun _ _ => rfl)
    refine gf_ch79 N hN 8 0 N S (by omega) (by omega) hR ⟨fun _ _ => false, fun _ => 0, fun _ => 0, fun _ => 0, ⟨fun b hb => hd b (by omega), h32⟩, ⟨fun b hb => ?_, fun h hh => ?_, fun b h _ _ hx => by cases hx⟩, fun g _ => hc g, fun b h _ _ hx => (by cases hx), fun b h _ _ _ _ => Nat.le_refl _, fun h _ _ => Nat.zero_le _, fun h _ hl => absurd hl (Nat.lt_irrefl _)⟩
    · rw [hz]
      unfold gf_T
      rw [if_neg (by omega)]
      split <;> rfl
    · rw [hc]
      exact Nat.zero_le _
  | succ j ih =>
    intro bn fu S hn hfu hR h32 hd
    obtain ⟨fu, rfl⟩ : ∃ w, fu = w + 1 := ⟨fu - 1, by omega⟩
    have hb8 : bn < 8 := by omega
    obtain ⟨r1, r2, r3, r4, r5, r6⟩ := hR
    have hR : gf_RS S dr p nd li pw := ⟨r1, r2, r3, r4, r5, r6⟩
    have hl12 := (r6 bn hb8).2.2.2.2.2
    rw [sX2_cheapest_40, show gh_cmp .ge (nI bn) 8 = decide (8 ≤ bn) from gh_n_ge (b := 8) (by omega) (by omega), decide_eq_false (by omega), cond_false, gh_wa_n hb8 (by decide), gq_bs, gh_ra_n hb8 (by decide), gq_bs, gh_wa_n hb8 (by decide), gq_bs]
    have e30 : (gh_fI S 36 bn 0).1 30 bn = nI (li bn) := by rw [gh_fI_1, if_neg (by omega)]; exact (r6 bn hb8).2.2.1
    rw [e30, gf_lim _ (by omega), gf_and, nI_1]
    have f1 : gh_fr gf_CW S (gh_fI (gh_fI S 36 bn 0) 31 bn (nI (gf_mk (fun i => dr i && Nat.blt i (li bn))))) := gh_fr_fI (gh_fr_fI (gh_fr_refl _ _) rfl) rfl
    obtain ⟨v, S2, d1, d2, d3⟩ := ih (bn + 1) fu (gh_fI (gh_fI S 36 bn 0) 31 bn (nI (gf_mk (fun i => dr i && Nat.blt i (li bn))))) (by omega) (by omega) (gf_RS_fr hR f1) (fun h hh => by
      simp only [gh_fI_1, Nat.reduceEqDiff, false_and, if_false]
      exact h32 h hh) (fun b hb => by
      simp only [gh_fI_1]
      by_cases e : b = bn
      · subst e
        simp [gf_mk_0]
        exact ⟨rfl, rfl⟩
      · simp [e]
        exact hd b (by omega))
    exact ⟨v, S2, d1, gh_fr_trans f1 d2, d3⟩
theorem gf_ch4 (hN : 100 ≤ N) : ∀ (j k fu : Nat) (S : gh_St), k + j = 12 → j < fu → gf_RS S dr p nd li pw → (∀ h, h < k → S.1 32 h = nI 0) → gf_cres dr p nd li pw S (sX2_cheapest_4 N fu (nI (gf_mk (fun h => decide (h < k) && dr h))) (nI k) S) := by
  intro j
  induction j with
  | zero =>
    intro k fu S hn hfu hR h32
    obtain ⟨fu, rfl⟩ : ∃ w, fu = w + 1 := ⟨fu - 1, by omega⟩
    rw [sX2_cheapest_4, show gh_cmp .ge (nI k) 12 = decide (12 ≤ k) from gh_n_ge (b := 12) (by omega) (by omega), decide_eq_true (by omega), cond_true]
    have e : gf_mk (fun h => decide (h < k) && dr h) = gf_mk dr := gf_mk_cg (fun i hi => by rw [decide_eq_true (by omega), Bool.true_and])
    rw [e]
    exact gf_ch40 N hN 8 0 N S (by omega) (by omega) hR (fun h hh => h32 h (by omega)) (fun b hb => absurd hb (Nat.not_lt_zero _))
  | succ j ih =>
    intro k fu S hn hfu hR h32
    obtain ⟨fu, rfl⟩ : ∃ w, fu = w + 1 := ⟨fu - 1, by omega⟩
    have hk : k < 12 := by omega
    have f1 : gh_fr gf_CW S (gh_fI S 32 k 0) := gh_fr_fI (gh_fr_refl _ _) rfl
    have h27 : (gh_fI S 32 k 0).1 27 k = gq_B (dr k) := by rw [gh_fI_1, if_neg (by omega)]; exact (hR.2.2.2.2.1 k hk).1
    rw [sX2_cheapest_4, show gh_cmp .ge (nI k) 12 = decide (12 ≤ k) from gh_n_ge (b := 12) (by omega) (by omega), decide_eq_false (by omega), cond_false, gh_wa_n hk (by decide), gq_bs, gh_ra_n hk (by decide), gq_bs, h27, gq_B_eq]
    unfold sX2_cheapest_32
    rw [nI_1, gf_set _ hk]
    have h32' : ∀ h, h < k + 1 → (gh_fI S 32 k 0).1 32 h = nI 0 := fun h hh => by
      rw [gh_fI_1]
      by_cases e : h = k
      · rw [if_pos ⟨rfl, e⟩]; rfl
      · rw [if_neg (fun w => e w.2)]
        exact h32 h (by omega)
    obtain ⟨v, S2, d1, d2, d3⟩ := ih (k + 1) fu (gh_fI S 32 k 0) (by omega) (by omega) (gf_RS_fr hR f1) h32'
    refine ⟨v, S2, ?_, gh_fr_trans f1 d2, d3⟩
    rw [← d1]
    cases e : dr k with
    | false =>
      rw [Bool.not_false, cond_true]
      congr 2
      refine gf_mk_cg (fun i _ => ?_)
      by_cases e2 : i = k
      · rw [e2, e, Bool.and_false, Bool.and_false]
      · rw [show decide (i < k) = decide (i < k + 1) from decide_eq_decide.mpr (by omega)]
    | true =>
      rw [Bool.not_true, cond_false]
      congr 2
      refine gf_mk_cg (fun i _ => ?_)
      by_cases e2 : i = k
      · rw [e2, e, Nat.beq_refl, decide_eq_true (Nat.lt_succ_self k)]
        simp
      · rw [show decide (i < k) = decide (i < k + 1) from decide_eq_decide.mpr (by omega), show Nat.beq i k = false from gf_bf (fun w => e2 (Nat.eq_of_beq_eq_true w)), Bool.or_false]
theorem gf_cheapest (hN : 100 ≤ N) {S : gh_St} (hR : gf_RS S dr p nd li pw) : gf_cres dr p nd li pw S (sX2_cheapest N S) := by
  have := gf_ch4 (dr := dr) (p := p) (nd := nd) (li := li) (pw := pw) N hN 12 0 N S (by omega) (by omega) hR (fun h hh => absurd hh (Nat.not_lt_zero _))
  rw [show gf_mk (fun h => decide (h < 0) && dr h) = 0 from (gf_mk_cg (fun i _ => by rw [decide_eq_false (Nat.not_lt_zero _), Bool.false_and])).trans gf_mk_0] at this
  exact this
/-- first as far as k -/
def gf_lk (dr : Nat → Bool) (p nd li : Nat → Nat) (pw k : Nat) (S : gh_St) (ldF : Nat → Nat) : Prop := ∃ x ld, gf_SC S x (gf_op (gf_may dr li) k) ld ∧ gf_feas (gf_may dr li) nd pw x ∧ (∀ g, g < 12 → gf_col x g = ld g) ∧ gf_plq p ld ldF ∧ ∀ b h, b < 8 → h < 12 → 12 * b + h < k → x b h = false → ∀ z, gf_feas (gf_may dr li) nd pw z → gf_plq p (gf_col x) (gf_col z) → (∀ b' h', b' < 8 → h' < 12 → 12 * b' + h' < 12 * b + h → x b' h' = z b' h') → z b h = false
theorem gf_pl_cg {p a a' : Nat → Nat} (h : ∀ g, g < 12 → a g = a' g) : gf_plq p a a' := fun c => gn_cg 12 (fun g hg => by show (if p g = c then a g else 0) = _; rw [h g hg])
theorem gf_mf70 {b h : Nat} (hb : b < 8) (hh : h < 12) (kc2 : Int32 → gh_St → Option gh_St) (kc10 : Int32 → Int32 → gh_St → Option gh_St) {S : gh_St} {ldF : Nat → Nat} {x : Nat → Nat → Bool} {ld : Nat → Nat} (hS : gf_SC S x (gf_op (gf_may dr li) (12 * b + h)) ld) : ∃ S1, sX2_makeFirst_70 N kc2 kc10 (nI b) (nI h) S = kc10 (nI b) (nI (h + 1)) S1 ∧ gf_SC S1 x (gf_op (gf_may dr li) (12 * b + h + 1)) ld ∧ gh_fr gf_CX S S1 := by
  unfold sX2_makeFirst_70
  rw [gh_ra_n hb (by decide), gq_bs, gh_wa_n hb (by decide), gq_bs, (hS.1 b hb).2, gf_clr _ hh, nI_1]
  refine ⟨_, rfl, ⟨fun b' hb' => ⟨?_, ?_⟩, fun k hk => ?_⟩, gh_fr_fI (gh_fr_refl _ _) rfl⟩
  · rw [gh_fI_1, if_neg (by omega)]
    exact (hS.1 b' hb').1
  · rw [gh_fI_1]
    by_cases e : b' = b
    · subst e
      rw [if_pos ⟨rfl, rfl⟩]
      congr 1
      refine gf_mk_cg (fun i hi => ?_)
      unfold gf_op
      by_cases e2 : i = h
      · subst e2
        rw [Nat.beq_refl, decide_eq_true (show 12 * b' + i < 12 * b' + i + 1 by omega)]
        simp
      · rw [show Nat.beq i h = false from gf_bf (fun w => e2 (Nat.eq_of_beq_eq_true w)), Bool.not_false, Bool.and_true, show decide (12 * b' + i < 12 * b' + h) = decide (12 * b' + i < 12 * b' + h + 1) from decide_eq_decide.mpr (by omega)]
    · rw [if_neg (fun w => e w.2), (hS.1 b' hb').2]
      congr 1
      refine gf_mk_cg (fun i hi => ?_)
      unfold gf_op
      rw [show decide (12 * b' + i < 12 * b + h) = decide (12 * b' + i < 12 * b + h + 1) from decide_eq_decide.mpr (by omega)]
  · rw [gh_fI_1, if_neg (by omega)]
    exact hS.2 k hk
/-- a step of makeFirst -/
theorem gf_mfstep (hN : 100 ≤ N) {b h : Nat} (hb : b < 8) (hh : h < 12) (kc2 : Int32 → gh_St → Option gh_St) (fu : Nat) {S : gh_St} {ldF : Nat → Nat} (hR : gf_RS S dr p nd li pw) (hl : gf_lk dr p nd li pw (12 * b + h) S ldF) : ∃ S1, sX2_makeFirst_10 N kc2 (fu + 1) (nI b) (nI h) S = sX2_makeFirst_10 N kc2 fu (nI b) (nI (h + 1)) S1 ∧ gf_lk dr p nd li pw (12 * b + h + 1) S1 ldF ∧ gh_fr gf_CX S S1 := by
  obtain ⟨x, ld, hS, hx, hcol, hpl, hlex⟩ := hl
  have hop : ∀ b' h', b' < 8 → h' < 12 → gf_op (gf_may dr li) (12 * b + h) b' h' = true → gf_may dr li b' h' = true := fun b' h' _ _ ho => by
    unfold gf_op at ho
    rw [Bool.and_eq_true] at ho
    exact ho.1
  have hopf : ∀ b' h', b' < 8 → h' < 12 → gf_op (gf_may dr li) (12 * b + h) b' h' = false → gf_may dr li b' h' = false ∨ 12 * b' + h' < 12 * b + h := fun b' h' _ _ ho => by
    unfold gf_op at ho
    by_cases e : 12 * b' + h' < 12 * b + h
    · exact Or.inr e
    · rw [decide_eq_false e, Bool.not_false, Bool.and_true] at ho
      exact Or.inl ho
  have hopk : gf_op (gf_may dr li) (12 * b + h) b h = gf_may dr li b h := by
    unfold gf_op
    rw [decide_eq_false (by omega), Bool.not_false, Bool.and_true]
  rw [sX2_makeFirst_10, show gh_cmp .ge (nI h) 12 = decide (12 ≤ h) from gh_n_ge (b := 12) (by omega) (by omega), decide_eq_false (by omega), cond_false, gh_ra_n hb (by decide), gq_bs, gh_ra_n hb (by decide), gq_bs, (hS.1 b hb).1, (hS.1 b hb).2, gf_andn, gf_bit _ hh]
  have plain : (x b h = false → ∀ z, gf_feas (gf_may dr li) nd pw z → gf_plq p (gf_col x) (gf_col z) → (∀ b' h', b' < 8 → h' < 12 → 12 * b' + h' < 12 * b + h → x b' h' = z b' h') → z b h = false) → ∃ S1, sX2_makeFirst_70 N kc2 (sX2_makeFirst_10 N kc2 fu) (nI b) (nI h) S = sX2_makeFirst_10 N kc2 fu (nI b) (nI (h + 1)) S1 ∧ gf_lk dr p nd li pw (12 * b + h + 1) S1 ldF ∧ gh_fr gf_CX S S1 := by
    intro hz
    obtain ⟨S1, a1, a2, a3⟩ := gf_mf70 (dr := dr) (li := li) N hb hh kc2 (sX2_makeFirst_10 N kc2 fu) (ldF := ldF) hS
    refine ⟨S1, a1, ⟨x, ld, a2, hx, hcol, hpl, fun b' h' hb' hh' hk hxf => ?_⟩, a3⟩
    by_cases e : 12 * b' + h' < 12 * b + h
    · exact hlex b' h' hb' hh' e hxf
    · have e1 : b' = b := by omega
      have e2 : h' = h := by omega
      rw [e1, e2] at hxf ⊢
      exact hz hxf
  cases hoff : (gf_op (gf_may dr li) (12 * b + h) b h && !x b h) with
  | false =>
    rw [Bool.not_false, cond_true]
    unfold sX2_makeFirst_43
    rw [show gh_cmp .eq (0 : Int32) 0 = true from rfl, cond_true]
    refine plain (fun hxf z hz _ _ => gf_bf (fun hzt => ?_))
    rw [hopk, hxf, hz.2.2 b h hb hh hzt] at hoff
    cases hoff
  | true =>
    rw [Bool.not_true, cond_false]
    rw [Bool.and_eq_true, Bool.not_eq_true'] at hoff
    obtain ⟨hob, hxb⟩ := hoff
    unfold sX2_makeFirst_43
    rw [show gh_cmp .eq (1 : Int32) 0 = false from rfl, cond_false, gh_ra_n hb (by decide), gq_bs, gh_ra_n hb (by decide), gq_bs, (hS.1 b hb).1, (hS.1 b hb).2, gf_and]
    have hagz : ∀ z, gf_feas (gf_may dr li) nd pw z → (∀ b' h', b' < 8 → h' < 12 → 12 * b' + h' < 12 * b + h → x b' h' = z b' h') → ∀ b' h', b' < 8 → h' < 12 → gf_op (gf_may dr li) (12 * b + h) b' h' = false → x b' h' = z b' h' := by
      intro z hz hag b' h' hb' hh' ho
      rcases hopf b' h' hb' hh' ho with q | q
      · have e1 : x b' h' = false := gf_bf (fun w => by
          have := hx.2.2 b' h' hb' hh' w
          rw [q] at this
          cases this)
        have e2 : z b' h' = false := gf_bf (fun w => by
          have := hz.2.2 b' h' hb' hh' w
          rw [q] at this
          cases this)
        rw [e1, e2]
      · exact hag b' h' hb' hh' q
    cases hany : gh_cmp .eq (nI (gf_mk (fun i => gf_op (gf_may dr li) (12 * b + h) b i && x b i))) 0 with
    | true =>
      rw [cond_true]
      have hnone := (gf_eq0 _).mp hany
      refine plain (fun hxf z hz hpz hag => gf_bf (fun hzt => ?_))
      refine gf_comp (may := gf_may dr li) (op := gf_op (gf_may dr li) (12 * b + h)) (T := nd) (pw := pw) (p := p) (y := x) (z := z) (Q := fun _ => true) (bn := b) (ho := h) (fun g hg => by have := (hR.2.2.2.2.1 g hg).2.2.2.2; omega) hx hz hpz (hagz z hz hag) hb hh hzt hxf rfl (fun g hg _ w => ?_) (fun _ _ _ _ _ _ _ _ _ _ _ _ => rfl) (fun _ _ _ _ _ _ _ _ => rfl)
      have := hnone g hg
      rw [w.1, w.2] at this
      cases this
    | false =>
      rw [cond_false]
      obtain ⟨S1, a1, x', ld', a2, a3, a4, a5, a6, a7, a8⟩ := gf_exchange N hN hb hh hR hS hop hx hcol hxb hob
      rw [a1, gq_bs]
      obtain ⟨S2, c1, c2, c3⟩ := gf_mf70 (dr := dr) (li := li) N hb hh kc2 (sX2_makeFirst_10 N kc2 fu) (ldF := ldF) a2
      have hcx : gf_plq p (gf_col x) (gf_col x') := fun c => by
        rw [gf_pl_cg (p := p) hcol c, gf_pl_cg (p := p) a5 c]
        exact (a6 c).symm
      refine ⟨S2, c1, ⟨x', ld', c2, a4, a5, fun c => (a6 c).trans (hpl c), fun b' h' hb' hh' hk hxf z hz hpz hag => ?_⟩, gh_fr_trans a3 c3⟩
      by_cases e : 12 * b' + h' < 12 * b + h
      · have ex : ∀ b1 h1, b1 < 8 → h1 < 12 → 12 * b1 + h1 < 12 * b + h → x' b1 h1 = x b1 h1 := fun b1 h1 hb1 hh1 hl1 => a7 b1 h1 hb1 hh1 (by unfold gf_op; rw [decide_eq_true hl1]; simp)
        refine hlex b' h' hb' hh' e (by rw [← ex b' h' hb' hh' e]; exact hxf) z hz (fun c => (hcx c).trans (hpz c)) (fun b1 h1 hb1 hh1 hl1 => ?_)
        rw [← ex b1 h1 hb1 hh1 (by omega)]
        exact hag b1 h1 hb1 hh1 hl1
      · have e1 : b' = b := by omega
        have e2 : h' = h := by omega
        subst e1
        subst e2
        rcases a8 with a8 | ⟨a8, a9⟩
        · rw [a8] at hxf
          cases hxf
        · refine a9 z hz (fun c => (hcx c).trans (hpz c)) (hagz z hz (fun b1 h1 hb1 hh1 hl1 => ?_))
          rw [← a8 b1 h1 hb1 hh1]
          exact hag b1 h1 hb1 hh1 hl1
theorem gf_mf10 (hN : 100 ≤ N) {b : Nat} (hb : b < 8) (kc2 : Int32 → gh_St → Option gh_St) {ldF : Nat → Nat} : ∀ (j h fu : Nat) (S : gh_St), h + j = 12 → j < fu → gf_RS S dr p nd li pw → gf_lk dr p nd li pw (12 * b + h) S ldF → ∃ S1, sX2_makeFirst_10 N kc2 fu (nI b) (nI h) S = kc2 (nI (b + 1)) S1 ∧ gf_lk dr p nd li pw (12 * (b + 1)) S1 ldF ∧ gh_fr gf_CX S S1 := by
  intro j
  induction j with
  | zero =>
    intro h fu S hn hfu hR hl
    obtain ⟨fu, rfl⟩ : ∃ w, fu = w + 1 := ⟨fu - 1, by omega⟩
    rw [sX2_makeFirst_10, show gh_cmp .ge (nI h) 12 = decide (12 ≤ h) from gh_n_ge (b := 12) (by omega) (by omega), decide_eq_true (by omega), cond_true, nI_1]
    exact ⟨S, rfl, by rw [show 12 * (b + 1) = 12 * b + h by omega]; exact hl, gh_fr_refl _ _⟩
  | succ j ih =>
    intro h fu S hn hfu hR hl
    obtain ⟨fu, rfl⟩ : ∃ w, fu = w + 1 := ⟨fu - 1, by omega⟩
    obtain ⟨S1, a1, a2, a3⟩ := gf_mfstep N hN hb (show h < 12 by omega) kc2 fu hR hl
    obtain ⟨S2, b1, b2, b3⟩ := ih (h + 1) fu S1 (by omega) (by omega) (gf_RS_fr hR (gh_fr_mono a3 gf_CW_CX)) a2
    exact ⟨S2, a1.trans b1, b2, gh_fr_trans a3 b3⟩
theorem gf_mf2 (hN : 100 ≤ N) {ldF : Nat → Nat} : ∀ (j b fu : Nat) (S : gh_St), b + j = 8 → j < fu → gf_RS S dr p nd li pw → gf_lk dr p nd li pw (12 * b) S ldF → ∃ S1, sX2_makeFirst_2 N fu (nI b) S = some S1 ∧ gf_lk dr p nd li pw 96 S1 ldF ∧ gh_fr gf_CX S S1 := by
  intro j
  induction j with
  | zero =>
    intro b fu S hn hfu hR hl
    obtain ⟨fu, rfl⟩ : ∃ w, fu = w + 1 := ⟨fu - 1, by omega⟩
    rw [sX2_makeFirst_2, show gh_cmp .ge (nI b) 8 = decide (8 ≤ b) from gh_n_ge (b := 8) (by omega) (by omega), decide_eq_true (by omega), cond_true]
    exact ⟨S, rfl, by rw [show 96 = 12 * b by omega]; exact hl, gh_fr_refl _ _⟩
  | succ j ih =>
    intro b fu S hn hfu hR hl
    obtain ⟨fu, rfl⟩ : ∃ w, fu = w + 1 := ⟨fu - 1, by omega⟩
    rw [sX2_makeFirst_2, show gh_cmp .ge (nI b) 8 = decide (8 ≤ b) from gh_n_ge (b := 8) (by omega) (by omega), decide_eq_false (by omega), cond_false]
    obtain ⟨S1, a1, a2, a3⟩ := gf_mf10 N hN (show b < 8 by omega) (sX2_makeFirst_2 N fu) 12 0 N S (by omega) (by omega) hR hl
    obtain ⟨S2, b1, b2, b3⟩ := ih (b + 1) fu S1 (by omega) (by omega) (gf_RS_fr hR (gh_fr_mono a3 gf_CW_CX)) a2
    exact ⟨S2, a1.trans b1, b2, gh_fr_trans a3 b3⟩
theorem gf_paid4 {ld : Nat → Nat} {S : gh_St} (hR : gf_RS S dr p nd li pw) (h32 : ∀ h, h < 12 → S.1 32 h = nI (ld h)) : ∀ (j k fu : Nat), k + j = 12 → j < fu → sX2_paid_4 N fu (nI (gh_sm (fun h => ld h * p h) k)) (nI k) S = some (nI (gf_cost p ld), S) := by
  intro j
  induction j with
  | zero =>
    intro k fu hn hfu
    obtain ⟨fu, rfl⟩ : ∃ w, fu = w + 1 := ⟨fu - 1, by omega⟩
    rw [sX2_paid_4, show gh_cmp .ge (nI k) 12 = decide (12 ≤ k) from gh_n_ge (b := 12) (by omega) (by omega), decide_eq_true (by omega), cond_true, show k = 12 by omega]
    rfl
  | succ j ih =>
    intro k fu hn hfu
    obtain ⟨fu, rfl⟩ : ∃ w, fu = w + 1 := ⟨fu - 1, by omega⟩
    have hk : k < 12 := by omega
    rw [sX2_paid_4, show gh_cmp .ge (nI k) 12 = decide (12 ≤ k) from gh_n_ge (b := 12) (by omega) (by omega), decide_eq_false (by omega), cond_false, gh_ra_n hk (by decide), gq_bs, gh_ra_n hk (by decide), gq_bs, h32 k hk, (hR.2.2.2.2.1 k hk).2.2.1, pk_mul, nI_add, nI_1]
    exact ih (k + 1) fu (by omega) (by omega)
theorem gf_cost_le {ld : Nat → Nat} (hp : ∀ h, h < 12 → p h ≤ 99) (hl : ∀ h, h < 12 → ld h ≤ 8) : gf_cost p ld ≤ 9504 := by
  have : ∀ k, k ≤ 12 → gh_sm (fun h => ld h * p h) k ≤ 792 * k := by
    intro k
    induction k with
    | zero => intro _; exact Nat.le_refl _
    | succ k ih =>
      intro hk
      have h1 := ih (by omega)
      have h2 : ld k * p k ≤ 8 * 99 := Nat.mul_le_mul (hl k (by omega)) (hp k (by omega))
      rw [gh_sm]
      omega
  exact this 12 (Nat.le_refl _)
/-- the class's cost -/
theorem gf_costC (hN : 100 ≤ N) {S : gh_St} {kn : Bool} (hR : gf_RS S dr p nd li pw) (h14 : S.1 26 14 = gq_B kn) (hk : kn = true → gf_kn S dr p nd li pw) : ∃ S1, sX2_cost N S = some (S1.1 26 13, S1) ∧ gh_fr gf_CW S S1 ∧ S1.1 26 14 = gq_B true ∧ gf_kn S1 dr p nd li pw := by
  unfold sX2_cost
  rw [h14, gq_B_ne]
  cases kn with
  | true =>
    rw [cond_true]
    exact ⟨S, rfl, gh_fr_refl _ _, h14, hk rfl⟩
  | false =>
    rw [cond_false]
    obtain ⟨v, S1, a1, a2, a3, a4⟩ := gf_cheapest (dr := dr) (p := p) (nd := nd) (li := li) (pw := pw) N hN hR
    rw [a1, gq_bs]
    show ∃ S1_1, (bif gh_cmp .eq (gq_B v) 0 then sX2_cost_23 N (-1) S1 else (sX2_paid N S1).bind fun q2 => sX2_cost_23 N q2.1 q2.2) = _ ∧ _
    rw [gq_B_eq]
    have hR1 := gf_RS_fr hR a2
    cases v with
    | false =>
      rw [Bool.not_false, cond_true]
      refine ⟨gh_fI (gh_fI S1 26 13 (-1)) 26 14 1, ?_, gh_fr_fI (gh_fr_fI a2 rfl) rfl, by rw [gh_fI_1, if_pos ⟨rfl, rfl⟩]; rfl, Or.inl ⟨by simp [gh_fI_1], a3 rfl⟩⟩
      unfold sX2_cost_23
      rw [gh_fI_1, if_pos ⟨rfl, rfl⟩]
      rfl
    | true =>
      rw [Bool.not_true, cond_false]
      obtain ⟨x, ld, Mb, Mh, b1, b2, b3, b4⟩ := a4 rfl
      have hpd : sX2_paid N S1 = some (nI (gf_cost p ld), S1) := gf_paid4 N hR1 b1.2 12 0 N (by omega) (by omega)
      have hp99 : ∀ h, h < 12 → p h ≤ 99 := fun h hh => (hR.2.2.2.2.1 h hh).2.2.2.2
      have hcl := gf_cost_le (p := p) (ld := ld) hp99 (fun h hh => by have h1 := b2.2.1 h hh; have h2 := b3 h hh; have h3 := hR.2.1; omega)
      rw [hpd, gq_bs]
      show ∃ S1_1, sX2_cost_23 N (nI (gf_cost p ld)) S1 = _ ∧ _
      unfold sX2_cost_23
      have e13 : (gh_fI S1 26 13 (nI (gf_cost p ld))).1 26 13 = nI (gf_cost p ld) := by rw [gh_fI_1, if_pos ⟨rfl, rfl⟩]
      have hne : gh_cmp .eq (nI (gf_cost p ld)) (-1) = false := by
        rw [gh_c_eq, nI_toInt (by omega)]
        exact decide_eq_false (by show ¬ ((gf_cost p ld : Nat) : Int) = -1; omega)
      rw [e13, hne, cond_false]
      have f2 : gh_fr gf_CW S1 (gh_fI S1 26 13 (nI (gf_cost p ld))) := gh_fr_fI (gh_fr_refl _ _) rfl
      have hl0 : gf_lk dr p nd li pw (12 * 0) (gh_fI S1 26 13 (nI (gf_cost p ld))) ld := by
        refine ⟨x, ld, ⟨fun b hb => ⟨?_, ?_⟩, fun h hh => ?_⟩, b2, b3, fun _ => rfl, fun b h _ _ hk => absurd hk (Nat.not_lt_zero _)⟩
        · rw [gh_fI_1, if_neg (by omega)]; exact (b1.1 b hb).1
        · rw [gh_fI_1, if_neg (by omega), (b1.1 b hb).2]
          congr 1
          refine gf_mk_cg (fun i _ => ?_)
          unfold gf_op
          rw [decide_eq_false (by omega), Bool.not_false, Bool.and_true]
        · rw [gh_fI_1, if_neg (by omega)]; exact b1.2 h hh
      obtain ⟨S2, c1, ⟨x', ld', c2, c3, c4, c5, c6⟩, c7⟩ := gf_mf2 (dr := dr) (p := p) (nd := nd) (li := li) (pw := pw) N hN 8 0 N _ (by omega) (by omega) (gf_RS_fr hR1 f2) hl0
      have c1' : sX2_makeFirst N (gh_fI S1 26 13 (nI (gf_cost p ld))) = some S2 := c1
      have hx13 : S2.1 26 13 = nI (gf_cost p ld) := (c7.1 26 13 rfl).trans e13
      rw [c1', gq_bs]
      have hcx : gf_plq p (gf_col x') (gf_col x) := fun c => by
        rw [gf_pl_cg (p := p) c4 c, gf_pl_cg (p := p) b3 c]
        exact c5 c
      have hce : gf_cost p (gf_col x') = gf_cost p (gf_col x) := gf_plq_cost (fun h hh => by have := hp99 h hh; omega) hcx
      have hcl2 : gf_cost p (gf_col x) = gf_cost p ld := gn_cg 12 (fun h hh => by show gf_col x h * p h = _; rw [b3 h hh])
      have hcert : gf_cert (gf_may dr li) pw p x' (gf_col x') Mb Mh := gf_dual_eq (gf_cert_ld b4 b3) b2.1 c3 hce
      refine ⟨gh_fI S2 26 14 1, ?_, ?_, by rw [gh_fI_1, if_pos ⟨rfl, rfl⟩]; rfl, Or.inr ⟨x', c3, gf_opt_of hcert c3.1, fun b h hb hh hxf z hz hpz hag => c6 b h hb hh (by omega) hxf z hz hpz hag, ?_, fun b hb => ?_⟩⟩
      · rfl
      · exact gh_fr_fI (gh_fr_trans a2 (gh_fr_trans f2 (gh_fr_mono c7 gf_CW_CX))) rfl
      · rw [gh_fI_1, if_neg (by omega), hx13, hce, hcl2]
      · rw [gh_fI_1, if_neg (by omega)]
        exact (c2.1 b hb).1
end GfCost

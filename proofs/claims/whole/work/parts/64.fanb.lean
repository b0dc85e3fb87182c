/-! ===== FANS: the class's search ===== -/
def gf_fo : Option Nat → Int32
  | none => -1
  | some g => nI g
/-- the plan, what may still change, and the load, as the class keeps them -/
def gf_SC (S : gh_St) (x op : Nat → Nat → Bool) (ld : Nat → Nat) : Prop := (∀ b, b < 8 → S.1 36 b = nI (gf_mk (x b)) ∧ S.1 31 b = nI (gf_mk (op b))) ∧ ∀ h, h < 12 → S.1 32 h = nI (ld h)
/-- the queue -/
def gf_Q (S : gh_St) (q : List Nat) (bb : Nat → Nat) (ff : Nat → Option Nat) : Prop :=
  q.Nodup ∧ (∀ h, h ∈ q → h < 12) ∧ S.1 26 11 = nI q.length ∧ S.1 26 12 = nI (gf_mk (fun h => decide (h ∈ q))) ∧ (∀ i, i < q.length → S.1 33 i = nI (gr_at q i)) ∧ ∀ h, h ∈ q → S.1 34 h = nI (bb h) ∧ S.1 35 h = gf_fo (ff h)
def gf_CB (c k : Nat) : Bool := (Nat.ble 33 c && Nat.ble c 35) || (Nat.beq c 26 && (Nat.beq k 11 || Nat.beq k 12))
theorem gf_CW_CB : ∀ c k, gf_CB c k = true → gf_CW c k = true := by
  intro c k h
  unfold gf_CB at h
  unfold gf_CW
  simp only [Bool.or_eq_true, Bool.and_eq_true, Bool.not_eq_true', Nat.beq_eq, Nat.ble_eq] at h ⊢
  rcases h with h | ⟨rfl, rfl | rfl⟩
  · omega
  · decide
  · decide
theorem gf_SC_fr {S S' : gh_St} {x op : Nat → Nat → Bool} {ld : Nat → Nat} (h : gf_SC S x op ld) (hf : gh_fr gf_CB S S') : gf_SC S' x op ld :=
  ⟨fun b hb => ⟨(hf.1 _ _ rfl).trans (h.1 b hb).1, (hf.1 _ _ rfl).trans (h.1 b hb).2⟩, fun k hk => (hf.1 _ _ rfl).trans (h.2 k hk)⟩
theorem gf_Q_len {S : gh_St} {q : List Nat} {bb : Nat → Nat} {ff : Nat → Option Nat} (h : gf_Q S q bb ff) : q.length ≤ 12 := gf_pig 12 q h.1 h.2.1
theorem gf_at_mem {q : List Nat} {i : Nat} (h : i < q.length) : gr_at q i ∈ q := by
  unfold gr_at
  rw [List.getD_eq_getElem?_getD, List.getElem?_eq_getElem h]
  exact List.getElem_mem h
theorem gf_mem_at {q : List Nat} {h : Nat} (hm : h ∈ q) : ∃ i, i < q.length ∧ gr_at q i = h := by
  obtain ⟨i, hi, e⟩ := List.getElem_of_mem hm
  refine ⟨i, hi, ?_⟩
  unfold gr_at
  rw [List.getD_eq_getElem?_getD, List.getElem?_eq_getElem hi]
  exact e
theorem gf_reach (N : Nat) {S : gh_St} {q : List Nat} {bb : Nat → Nat} {ff : Nat → Option Nat} (hQ : gf_Q S q bb ff) {h b : Nat} (f : Option Nat) (hh : h < 12) (hn : h ∉ q) : ∃ S', sX2_reach N (nI h) (nI b) (gf_fo f) S = some S' ∧ gf_Q S' (q ++ [h]) (gh_nu bb h b) (gh_nu ff h f) ∧ gh_fr gf_CB S S' := by
  have hnd : (q ++ [h]).Nodup := by
    refine List.nodup_append.mpr ⟨hQ.1, by simp, fun a ha c hc e => ?_⟩
    rw [List.mem_singleton] at hc
    rw [e, hc] at ha
    exact hn ha
  have hlt : ∀ k, k ∈ q ++ [h] → k < 12 := by
    intro k hk
    rcases List.mem_append.mp hk with hk | hk
    · exact hQ.2.1 k hk
    · rw [List.mem_singleton.mp hk]; exact hh
  have hlen := gf_pig 12 _ hnd hlt
  rw [List.length_append, List.length_singleton] at hlen
  obtain ⟨h1, h2, h3, h4, h5, h6⟩ := hQ
  refine ⟨gh_fI (gh_fI (gh_fI (gh_fI (gh_fI S 26 12 (nI (gf_mk (fun k => decide (k ∈ q ++ [h]))))) 34 h (nI b)) 35 h (gf_fo f)) 33 q.length (nI h)) 26 11 (nI (q.length + 1)), ?_, ⟨hnd, hlt, ?_, ?_, fun i hi => ?_, fun k hk => ?_⟩, ?_⟩
  · unfold sX2_reach
    rw [h3, show gh_cmp .lt (nI q.length) 12 = decide (q.length < 12) from gh_n_lt (b := 12) (by omega) (by omega), decide_eq_true (by omega), cond_true, h4, gf_set _ hh]
    have em : gf_mk (fun i => decide (i ∈ q) || Nat.beq i h) = gf_mk (fun k => decide (k ∈ q ++ [h])) := by
      refine gf_mk_cg (fun i _ => ?_)
      show (decide (i ∈ q) || Nat.beq i h) = decide (i ∈ q ++ [h])
      by_cases e : i = h
      · subst e
        rw [Nat.beq_refl, Bool.or_true]
        exact (decide_eq_true (List.mem_append_right _ (List.mem_singleton.mpr rfl))).symm
      · rw [show Nat.beq i h = false from gf_bf (fun w => e (Nat.eq_of_beq_eq_true w)), Bool.or_false]
        refine decide_eq_decide.mpr ?_
        rw [List.mem_append, List.mem_singleton]
        exact ⟨Or.inl, fun w => w.resolve_right e⟩
    rw [em, gh_wa_n hh (by decide), gq_bs, gh_wa_n hh (by decide), gq_bs]
    have r1 : ∀ (T : gh_St) c x, c ≠ 26 → (gh_fI T c h x).1 26 11 = T.1 26 11 := fun T c x hc => by rw [gh_fI_1, if_neg (by omega)]
    rw [r1 _ 35 _ (by omega), r1 _ 34 _ (by omega), gh_fI_1, if_neg (by omega), h3, gh_wa_n (by omega) (by decide), gq_bs]
    rw [show ∀ T : gh_St, ∀ x : Int32, (gh_fI T 33 q.length x).1 26 11 = T.1 26 11 from fun T x => by rw [gh_fI_1, if_neg (by omega)], r1 _ 35 _ (by omega), r1 _ 34 _ (by omega), gh_fI_1, if_neg (by omega), h3, nI_1]
  · rw [gh_fI_1, if_pos ⟨rfl, rfl⟩, List.length_append, List.length_singleton]
  · simp [gh_fI_1]
  · rw [List.length_append, List.length_singleton] at hi
    simp only [gh_fI_1]
    by_cases e : i = q.length
    · subst e
      simp
      have := gr_at_ge q [h] 0
      rw [Nat.add_zero] at this
      rw [this]
      rfl
    · rw [gr_at_lt (show i < q.length by omega)]
      simp [e]
      exact h5 i (by omega)
  · simp only [gh_fI_1]
    by_cases e : k = h
    · subst e
      simp [gh_nu_s]
    · rw [gh_nu_n _ _ e, gh_nu_n _ _ e]
      simp [e]
      refine h6 k ?_
      rcases List.mem_append.mp hk with hk | hk
      · exact hk
      · exact absurd (List.mem_singleton.mp hk) e
  · repeat first | exact gh_fr_refl _ _ | refine gh_fr_fI ?_ rfl
/-- how an hour was reached, from hours before it -/
def gf_ent (x op : Nat → Nat → Bool) (ld p : Nat → Nat) (pw bn : Nat) (rt : Nat → Bool) (sp : Bool) (bb : Nat → Nat) (ff : Nat → Option Nat) (h : Nat) (l : List Nat) : Prop :=
  (bb h = bn ∧ ff h = none ∧ op bn h = true ∧ x bn h = false ∧ rt h = true) ∨ (∃ g, g ∈ l ∧ ff h = some g ∧ bb h < 8 ∧ bb h ≠ bn ∧ op (bb h) h = true ∧ x (bb h) h = false ∧ x (bb h) g = true ∧ op (bb h) g = true) ∨ (∃ g, g ∈ l ∧ ff h = some g ∧ bb h = 8 ∧ ld g < pw ∧ 0 < ld h ∧ p h = p g ∧ sp = true)
def gf_V (x op : Nat → Nat → Bool) (ld p : Nat → Nat) (pw bn : Nat) (rt : Nat → Bool) (sp : Bool) (bb : Nat → Nat) (ff : Nat → Option Nat) : List Nat → Prop
  | [] => True
  | h :: l => gf_ent x op ld p pw bn rt sp bb ff h l ∧ gf_V x op ld p pw bn rt sp bb ff l
section GfB
variable {x op : Nat → Nat → Bool} {ld p : Nat → Nat} {pw bn : Nat} {rt : Nat → Bool} {sp : Bool} (N : Nat)
theorem gf_V_cg {bb bb' : Nat → Nat} {ff ff' : Nat → Option Nat} : ∀ l : List Nat, (∀ h, h ∈ l → bb' h = bb h ∧ ff' h = ff h) → gf_V x op ld p pw bn rt sp bb ff l → gf_V x op ld p pw bn rt sp bb' ff' l := by
  intro l
  induction l with
  | nil => intro _ _; trivial
  | cons h l ih =>
    intro he hv
    obtain ⟨e1, e2⟩ := he h List.mem_cons_self
    refine ⟨?_, ih (fun k hk => he k (List.mem_cons_of_mem _ hk)) hv.2⟩
    have := hv.1
    unfold gf_ent at this ⊢
    rw [e1, e2]
    exact this
def gf_BI (x op : Nat → Nat → Bool) (ld p : Nat → Nat) (pw bn : Nat) (rt : Nat → Bool) (sp : Bool) (S : gh_St) (q : List Nat) : Prop := ∃ bb ff, gf_Q S q bb ff ∧ gf_V x op ld p pw bn rt sp bb ff q.reverse
theorem gf_reachV {S : gh_St} {q : List Nat} (hB : gf_BI x op ld p pw bn rt sp S q) {h b : Nat} (f : Option Nat) (hh : h < 12) (hn : h ∉ q) (he : (b = bn ∧ f = none ∧ op bn h = true ∧ x bn h = false ∧ rt h = true) ∨ (∃ g, g ∈ q ∧ f = some g ∧ b < 8 ∧ b ≠ bn ∧ op b h = true ∧ x b h = false ∧ x b g = true ∧ op b g = true) ∨ (∃ g, g ∈ q ∧ f = some g ∧ b = 8 ∧ ld g < pw ∧ 0 < ld h ∧ p h = p g ∧ sp = true)) : ∃ S', sX2_reach N (nI h) (nI b) (gf_fo f) S = some S' ∧ gf_BI x op ld p pw bn rt sp S' (q ++ [h]) ∧ gh_fr gf_CB S S' := by
  obtain ⟨bb, ff, hQ, hV⟩ := hB
  obtain ⟨S', a1, a2, a3⟩ := gf_reach N hQ (b := b) f hh hn
  refine ⟨S', a1, ⟨_, _, a2, ?_⟩, a3⟩
  rw [List.reverse_append, List.reverse_singleton]
  refine ⟨?_, gf_V_cg _ (fun k hk => ?_) hV⟩
  · unfold gf_ent
    rw [gh_nu_s, gh_nu_s]
    rcases he with e | ⟨g, e1, e2⟩ | ⟨g, e1, e2⟩
    · exact Or.inl e
    · exact Or.inr (Or.inl ⟨g, List.mem_reverse.mpr e1, e2⟩)
    · exact Or.inr (Or.inr ⟨g, List.mem_reverse.mpr e1, e2⟩)
  · have e : k ≠ h := fun w => by
      rw [w] at hk
      exact hn (List.mem_reverse.mp hk)
    exact ⟨gh_nu_n _ _ e, gh_nu_n _ _ e⟩
theorem gf_rB26 {b : Nat} {f : Option Nat} {fs : Nat → Bool} (hfs : ∀ h, h < 12 → fs h = true → op b h = true ∧ x b h = false) : ∀ (j k fu : Nat) (S : gh_St) (q : List Nat), k + j = 12 → j < fu → gf_BI x op ld p pw bn rt sp S q → (∀ h, k ≤ h → h < 12 → fs h = true → h ∉ q) → ((b = bn ∧ f = none ∧ ∀ h, rt h = true) ∨ (∃ g, g ∈ q ∧ f = some g ∧ b < 8 ∧ b ≠ bn ∧ x b g = true ∧ op b g = true)) → ∃ S' l, sX2_reachBy_26 N fu (nI b) (gf_fo f) (nI (gf_mk fs)) (nI k) S = some S' ∧ gf_BI x op ld p pw bn rt sp S' (q ++ l) ∧ gh_fr gf_CB S S' ∧ ∀ h, k ≤ h → h < 12 → fs h = true → h ∈ q ++ l := by
  intro j
  induction j with
  | zero =>
    intro k fu S q hk hfu hB hn he
    obtain ⟨fu, rfl⟩ : ∃ w, fu = w + 1 := ⟨fu - 1, by omega⟩
    refine ⟨S, [], ?_, by rw [List.append_nil]; exact hB, gh_fr_refl _ _, fun h h1 h2 => by omega⟩
    rw [sX2_reachBy_26, show gh_cmp .ge (nI k) 12 = decide (12 ≤ k) from gh_n_ge (b := 12) (by omega) (by omega), decide_eq_true (by omega)]
    rfl
  | succ j ih =>
    intro k fu S q hk hfu hB hn he
    obtain ⟨fu, rfl⟩ : ∃ w, fu = w + 1 := ⟨fu - 1, by omega⟩
    have hk12 : k < 12 := by omega
    rw [sX2_reachBy_26, show gh_cmp .ge (nI k) 12 = decide (12 ≤ k) from gh_n_ge (b := 12) (by omega) (by omega), decide_eq_false (by omega), cond_false, gf_shrb fs hk12]
    cases hz : gh_cmp .eq (nI (gf_mk fs) >>> (nI k &&& 31)) 0 with
    | true =>
      rw [cond_true]
      refine ⟨S, [], rfl, by rw [List.append_nil]; exact hB, gh_fr_refl _ _, fun h h1 h2 h3 => ?_⟩
      have := gf_shr0 fs hk12 hz h h1 h2
      rw [h3] at this
      cases this
    | false =>
      rw [cond_false]
      unfold sX2_reachBy_57
      rw [nI_1]
      cases hb : fs k with
      | false =>
        rw [Bool.not_false, cond_true]
        obtain ⟨S', l, a1, a2, a3, a4⟩ := ih (k + 1) fu S q (by omega) (by omega) hB (fun h h1 h2 h3 => hn h (by omega) h2 h3) he
        refine ⟨S', l, a1, a2, a3, fun h h1 h2 h3 => ?_⟩
        by_cases e : h = k
        · rw [e, hb] at h3
          cases h3
        · exact a4 h (by omega) h2 h3
      | true =>
        rw [Bool.not_true, cond_false]
        obtain ⟨o1, o2⟩ := hfs k hk12 hb
        obtain ⟨S1, b1, b2, b3⟩ := gf_reachV N hB (b := b) f hk12 (hn k (Nat.le_refl _) hk12 hb) (by
          rcases he with ⟨e1, e2, e3⟩ | ⟨g, e1, e2, e3, e4, e5, e6⟩
          · exact Or.inl ⟨e1, e2, by rw [← e1]; exact o1, by rw [← e1]; exact o2, e3 k⟩
          · exact Or.inr (Or.inl ⟨g, e1, e2, e3, e4, o1, o2, e5, e6⟩))
        rw [b1, gq_bs]
        obtain ⟨S', l, a1, a2, a3, a4⟩ := ih (k + 1) fu S1 (q ++ [k]) (by omega) (by omega) b2 (fun h h1 h2 h3 hm => by
          rcases List.mem_append.mp hm with hm | hm
          · exact hn h (by omega) h2 h3 hm
          · have := List.mem_singleton.mp hm
            omega) (by
          rcases he with e | ⟨g, e1, e2⟩
          · exact Or.inl e
          · exact Or.inr ⟨g, List.mem_append_left _ e1, e2⟩)
        refine ⟨S', k :: l, a1, by rw [List.append_assoc] at a2; exact a2, gh_fr_trans b3 a3, fun h h1 h2 h3 => ?_⟩
        by_cases e : h = k
        · rw [e]
          exact List.mem_append_right _ List.mem_cons_self
        · have := a4 h (by omega) h2 h3
          rw [List.append_assoc] at this
          exact this
theorem gf_reachBy (hN : 100 ≤ N) {S : gh_St} {q : List Nat} (hS : gf_SC S x op ld) (hB : gf_BI x op ld p pw bn rt sp S q) {b : Nat} {f : Option Nat} (hb : b < 8) (he : (b = bn ∧ f = none ∧ ∀ h, rt h = true) ∨ (∃ g, g ∈ q ∧ f = some g ∧ b < 8 ∧ b ≠ bn ∧ x b g = true ∧ op b g = true)) : ∃ S' l, sX2_reachBy N (nI b) (gf_fo f) S = some S' ∧ gf_BI x op ld p pw bn rt sp S' (q ++ l) ∧ gh_fr gf_CB S S' ∧ ∀ h, h < 12 → op b h = true → x b h = false → h ∈ q ++ l := by
  obtain ⟨s1, s2⟩ := hS.1 b hb
  have hQ := hB
  obtain ⟨bb, ff, hQ, -⟩ := hQ
  unfold sX2_reachBy
  rw [gh_ra_n hb (by decide), gq_bs, gh_ra_n hb (by decide), gq_bs, s1, s2, hQ.2.2.2.1, gf_andn, gf_andn]
  obtain ⟨S', l, a1, a2, a3, a4⟩ := gf_rB26 (x := x) (op := op) (ld := ld) (p := p) (pw := pw) (bn := bn) (rt := rt) (sp := sp) N (b := b) (f := f) (fs := fun i => (op b i && !x b i) && !decide (i ∈ q)) (fun h hh hf => by
    simp only [Bool.and_eq_true, Bool.not_eq_true'] at hf
    exact hf.1) 12 0 N S q (by omega) (by omega) hB (fun h _ _ hf => by
    simp only [Bool.and_eq_true, Bool.not_eq_true', decide_eq_false_iff_not] at hf
    exact hf.2) he
  refine ⟨S', l, a1, a2, a3, fun h hh h1 h2 => ?_⟩
  by_cases e : h ∈ q
  · exact List.mem_append_left _ e
  · refine a4 h (Nat.zero_le _) hh ?_
    simp [h1, h2, e]
theorem gf_rF2 (hN : 100 ≤ N) {h : Nat} (hh : h < 12) (hbn : bn < 8) : ∀ (j k fu : Nat) (S : gh_St) (q : List Nat), k + j = 8 → j < fu → gf_SC S x op ld → gf_BI x op ld p pw bn rt sp S q → h ∈ q → ∃ S' l, sX2_reachFrom_2 N fu (nI h) (nI bn) (nI k) S = some S' ∧ gf_BI x op ld p pw bn rt sp S' (q ++ l) ∧ gh_fr gf_CB S S' ∧ ∀ b, k ≤ b → b < 8 → b ≠ bn → x b h = true → op b h = true → ∀ g, g < 12 → op b g = true → x b g = false → g ∈ q ++ l := by
  intro j
  induction j with
  | zero =>
    intro k fu S q hk hfu hS hB hq
    obtain ⟨fu, rfl⟩ : ∃ w, fu = w + 1 := ⟨fu - 1, by omega⟩
    refine ⟨S, [], ?_, by rw [List.append_nil]; exact hB, gh_fr_refl _ _, fun b h1 h2 => by omega⟩
    rw [sX2_reachFrom_2, show gh_cmp .ge (nI k) 8 = decide (8 ≤ k) from gh_n_ge (b := 8) (by omega) (by omega), decide_eq_true (by omega)]
    rfl
  | succ j ih =>
    intro k fu S q hk hfu hS hB hq
    obtain ⟨fu, rfl⟩ : ∃ w, fu = w + 1 := ⟨fu - 1, by omega⟩
    have hk8 : k < 8 := by omega
    rw [sX2_reachFrom_2, show gh_cmp .ge (nI k) 8 = decide (8 ≤ k) from gh_n_ge (b := 8) (by omega) (by omega), decide_eq_false (by omega), cond_false, gh_n_eq (by omega) (by omega)]
    unfold sX2_reachFrom_39
    rw [nI_1]
    have skip : (k = bn ∨ ¬ (x k h = true ∧ op k h = true)) → ∃ S' l, sX2_reachFrom_2 N fu (nI h) (nI bn) (nI (k + 1)) S = some S' ∧ gf_BI x op ld p pw bn rt sp S' (q ++ l) ∧ gh_fr gf_CB S S' ∧ ∀ b, k ≤ b → b < 8 → b ≠ bn → x b h = true → op b h = true → ∀ g, g < 12 → op b g = true → x b g = false → g ∈ q ++ l := by
      intro hs
      obtain ⟨S', l, a1, a2, a3, a4⟩ := ih (k + 1) fu S q (by omega) (by omega) hS hB hq
      refine ⟨S', l, a1, a2, a3, fun b h1 h2 h3 h4 h5 => ?_⟩
      by_cases e : b = k
      · subst e
        rcases hs with hs | hs
        · exact absurd hs h3
        · exact absurd ⟨h4, h5⟩ hs
      · exact a4 b (by omega) h2 h3 h4 h5
    by_cases e : k = bn
    · rw [decide_eq_true e, cond_true]
      exact skip (Or.inl e)
    · obtain ⟨s1, s2⟩ := hS.1 k hk8
      rw [decide_eq_false e, cond_false, gh_ra_n hk8 (by decide), gq_bs, gh_ra_n hk8 (by decide), gq_bs, s1, s2, gf_and, gf_bit _ hh]
      cases hx : (x k h && op k h) with
      | false =>
        rw [Bool.not_false, cond_true]
        refine skip (Or.inr (fun w => ?_))
        rw [w.1, w.2] at hx
        cases hx
      | true =>
        rw [Bool.not_true, cond_false]
        rw [Bool.and_eq_true] at hx
        obtain ⟨S1, l1, b1, b2, b3, b4⟩ := gf_reachBy N hN hS hB (b := k) (f := some h) hk8 (Or.inr ⟨h, hq, rfl, hk8, e, hx.1, hx.2⟩)
        rw [show gf_fo (some h) = nI h from rfl] at b1
        rw [b1, gq_bs]
        obtain ⟨S', l, a1, a2, a3, a4⟩ := ih (k + 1) fu S1 (q ++ l1) (by omega) (by omega) (gf_SC_fr hS b3) b2 (List.mem_append_left _ hq)
        refine ⟨S', l1 ++ l, a1, by rw [← List.append_assoc]; exact a2, gh_fr_trans b3 a3, fun b h1 h2 h3 h4 h5 g hg h6 h7 => ?_⟩
        rw [← List.append_assoc]
        by_cases e2 : b = k
        · subst e2
          exact List.mem_append_left _ (b4 g hg h6 h7)
        · exact a4 b (by omega) h2 h3 h4 h5 g hg h6 h7
theorem gf_reachFrom (hN : 100 ≤ N) {h : Nat} {S : gh_St} {q : List Nat} (hh : h < 12) (hbn : bn < 8) (hS : gf_SC S x op ld) (hB : gf_BI x op ld p pw bn rt sp S q) (hq : h ∈ q) : ∃ S' l, sX2_reachFrom N (nI h) (nI bn) S = some S' ∧ gf_BI x op ld p pw bn rt sp S' (q ++ l) ∧ gh_fr gf_CB S S' ∧ ∀ b, b < 8 → b ≠ bn → x b h = true → op b h = true → ∀ g, g < 12 → op b g = true → x b g = false → g ∈ q ++ l := by
  obtain ⟨S', l, a1, a2, a3, a4⟩ := gf_rF2 (x := x) (op := op) (ld := ld) (p := p) (pw := pw) (bn := bn) (rt := rt) (sp := sp) N hN hh hbn 8 0 N S q (by omega) (by omega) hS hB hq
  exact ⟨S', l, a1, a2, a3, fun b h2 => a4 b (Nat.zero_le _) h2⟩
end GfB

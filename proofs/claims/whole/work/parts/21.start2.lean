/-! ===== THE MEMORY BEHIND THE CONSTRUCTORS is gh_mo of the first state ===== -/
def gh_wg (M : gh_M) : Prop := ∀ c k, M.1.length ≤ c ∨ 64 ≤ k → M.2.2.2 c k = none
theorem gh_wg_mI {M : gh_M} (h : gh_wg M) (c : Nat) (f : Nat → Int32) : gh_wg (gh_mI M c f) := h
theorem gh_wg_mL {M : gh_M} (h : gh_wg M) (c : Nat) (f : Nat → Int64) : gh_wg (gh_mL M c f) := h
theorem gh_ft_len {u v x : Nat} (h : (gh_ft u)[v]? = some x) : v < 64 := by
  have h1 := (List.getElem?_eq_some_iff.mp h).1
  have h2 : (gh_ft u).length ≤ 63 := by
    unfold gh_ft
    split <;> simp
  omega
theorem gh_wg_mR {M : gh_M} (h : gh_wg M) {c k a u x : Nat} (h1 : M.1[c]? = some (.inr u)) (h4 : (gh_ft u)[k]? = some x) : gh_wg (gh_mR M c (gh_upR (M.2.2.2 c) k (some a))) := by
  intro d j hd
  have hc : c < M.1.length := (List.getElem?_eq_some_iff.mp h1).1
  have hk := gh_ft_len h4
  have hd : M.1.length ≤ d ∨ 64 ≤ j := hd
  show gh_up M.2.2.2 c (gh_upR (M.2.2.2 c) k (some a)) d j = none
  by_cases e : d = c
  · subst e
    rw [gh_up_eq]
    unfold gh_upR
    rw [if_neg (by omega)]
    exact h d j hd
  · rw [gh_up_ne _ _ e]
    exact h d j hd
theorem gh_wg_mk {M : gh_M} (h : gh_wg M) (sh : gh_Sh) : gh_wg (gh_mk M sh) := by
  intro d j hd
  have hd : (M.1 ++ [sh]).length ≤ d ∨ 64 ≤ j := hd
  rw [List.length_append] at hd
  show gh_up M.2.2.2 M.1.length (fun _ => none) d j = none
  by_cases e : d = M.1.length
  · subst e
    rw [gh_up_eq]
  · rw [gh_up_ne _ _ e]
    refine h d j ?_
    simp at hd
    omega
def gh_kg (O : gh_O) : Prop := ∀ z As M y M', O z As M = some (y, M') → gh_wg M → gh_wg M' ∧ M.1.length ≤ M'.1.length ∧ (∀ x, y = some x → (∃ i, x = .int i) ∨ ∃ i, x = .long i)
theorem gh_cal_kg {O : gh_O} (hO : gh_kg O) {bc bs u pc : Nat} {As r : List Value} {W : gh_W} {pc' : Nat} {st' : List Value} {W' : gh_W} (hw : gh_wg W.1) (h : gh_cal O bc bs u pc As r W = some (.inl (pc', st', W'))) : gh_wg W'.1 ∧ W.1.1.length ≤ W'.1.1.length := by
  obtain ⟨-, -, -, -, y, M', hOz, -, rfl⟩ := gh_cal_inv h
  obtain ⟨h1, h2, -⟩ := hO _ _ _ _ _ hOz hw
  exact ⟨h1, h2⟩
theorem gh_rest_kg {O : gh_O} (hO : gh_kg O) {bc bs : Nat} {sc : Option (Nat × (Nat → Int32))} {zr ini : Bool} {i : Instr} {u v : Nat} {w : Int32} {x : Int64} {pc : Nat} {st : List Value} {Wm W' : gh_W} {pc' : Nat} {st' : List Value} (hw : gh_wg Wm.1)
    (h : gh_rest O bc bs sc zr ini i u v w x pc st Wm = some (.inl (pc', st', W'))) : gh_wg W'.1 ∧ Wm.1.1.length ≤ W'.1.1.length := by
  have same : W' = Wm → gh_wg W'.1 ∧ Wm.1.1.length ≤ W'.1.1.length := fun e => by rw [e]; exact ⟨hw, Nat.le_refl _⟩
  unfold gh_rest at h
  split at h
  · exact same (gh_k_inv h).2.2
  · exact same (gh_k_inv h).2.2
  · exact same (gh_k_inv h).2.2
  · exact same (gh_k_inv h).2.2
  · cases hv : Nat.beq v 0 <;> rw [hv] at h <;> exact same (gh_k_inv h).2.2
  · exact same (gh_k_inv h).2.2
  · exact same (gh_k_inv h).2.2
  · obtain ⟨_, _, _, _, _, _, q⟩ := gh_ii_inv h
    exact same q
  · obtain ⟨_, _, _, _, _, _, q⟩ := gh_ii_inv h
    exact same q
  · obtain ⟨_, _, _, _, _, _, q⟩ := gh_ii_inv h
    exact same q
  · obtain ⟨_, _, _, _, _, _, q⟩ := gh_ii_inv h
    exact same q
  · obtain ⟨_, _, _, _, _, _, q⟩ := gh_ii_inv h
    exact same q
  · obtain ⟨_, _, _, _, _, _, q⟩ := gh_ii_inv h
    exact same q
  · obtain ⟨_, _, _, _, _, _, q⟩ := gh_ii_inv h
    exact same q
  · obtain ⟨_, _, _, _, _, _, q⟩ := gh_ii_inv h
    exact same q
  · obtain ⟨_, _, _, _, _, _, q⟩ := gh_ii_inv h
    exact same q
  · obtain ⟨_, _, _, _, _, _, _, q⟩ := gh_iid_inv h
    exact same q
  · obtain ⟨_, _, _, _, _, _, _, q⟩ := gh_iid_inv h
    exact same q
  · obtain ⟨_, _, _, _, _, q⟩ := gh_i_inv h
    exact same q
  · obtain ⟨_, _, _, _, _, q⟩ := gh_i_inv h
    exact same q
  · obtain ⟨_, _, _, _, _, _, q⟩ := gh_jj_inv h
    exact same q
  · obtain ⟨_, _, _, _, _, _, q⟩ := gh_jj_inv h
    exact same q
  · obtain ⟨_, _, _, _, _, _, q⟩ := gh_jj_inv h
    exact same q
  · obtain ⟨_, _, _, _, _, _, _, q⟩ := gh_jjd_inv h
    exact same q
  · obtain ⟨_, _, _, _, _, _, q⟩ := gh_lcmp_inv h
    exact same q
  · obtain ⟨_, _, _, _, _, q⟩ := gh_i2l_inv h
    exact same q
  · obtain ⟨_, _, _, _, _, q⟩ := gh_l2i_inv h
    exact same q
  · obtain ⟨_, _, _, _, _, _, q⟩ := gh_dup_inv h
    exact same q
  · rcases gh_dup2_inv h with ⟨_, _, _, _, _, q⟩ | ⟨_, _, _, _, _, _, q⟩ <;> exact same q
  · obtain ⟨_, _, _, _, _, q⟩ := gh_pop_inv h
    exact same q
  · obtain ⟨_, _, _, _, _, q⟩ := gh_if_inv h
    exact same q
  · obtain ⟨_, _, _, _, _, _, q⟩ := gh_icmp_inv h
    exact same q
  · exact same (gh_k_inv h).2.2
  · obtain ⟨_, _, _, _, q, _⟩ := gh_tab_inv h
    exact same q
  · obtain ⟨_, _, _, _, q, _⟩ := gh_luk_inv h
    exact same q
  · obtain ⟨_, _, _, _, _, _, _, _, _, _, q⟩ := gh_get_inv h
    exact same q
  · obtain ⟨y, q, r, rfl, h1, h2, rfl, rfl, h3⟩ := gh_put_inv h
    rcases h3 with ⟨a, h4, rfl, rfl⟩ | ⟨a, h4, rfl, rfl⟩ | ⟨a, h4, rfl, h5, rfl⟩ | ⟨a, h4, rfl, h5, rfl⟩
    · exact ⟨gh_wg_mI hw _ _, Nat.le_refl _⟩
    · exact ⟨gh_wg_mL hw _ _, Nat.le_refl _⟩
    · exact ⟨gh_wg_mR hw h1 h4, Nat.le_refl _⟩
    · exact ⟨gh_wg_mI hw _ _, Nat.le_refl _⟩
  · obtain ⟨_, _, _, _, _, q, _⟩ := gh_iald_inv h
    exact same q
  · obtain ⟨_, _, _, _, _, _, q, _⟩ := gh_lald_inv h
    exact same q
  · obtain ⟨_, _, _, _, _, _, q, _⟩ := gh_bald_inv h
    exact same q
  · obtain ⟨_, _, _, _, _, _, _, _, _, _, rfl⟩ := gh_iast_inv h
    exact ⟨gh_wg_mI hw _ _, Nat.le_refl _⟩
  · obtain ⟨_, _, _, _, _, _, _, _, _, _, rfl⟩ := gh_last_inv h
    exact ⟨gh_wg_mL hw _ _, Nat.le_refl _⟩
  · obtain ⟨_, _, _, _, _, _, _, _, _, hq⟩ := gh_bast_inv h
    rcases hq with ⟨_, rfl⟩ | ⟨_, rfl⟩ <;> exact ⟨gh_wg_mI hw _ _, Nat.le_refl _⟩
  · obtain ⟨_, _, _, _, q, _⟩ := gh_alen_inv h
    exact same q
  · unfold gh_sta at h
    split at h
    · obtain ⟨_, _, _, _, _, _, _, q⟩ := gh_mmx_inv h
      exact same q
    · obtain ⟨_, _, _, _, _, _, _, q⟩ := gh_mmn_inv h
      exact same q
    · obtain ⟨_, _, _, _, _, _, _, q⟩ := gh_mml_inv h
      exact same q
    · obtain ⟨_, _, _, _, _, _, _, _, _, _, _, _, _, _, _, _, _, _, _, rfl⟩ := gh_acp_inv h
      exact ⟨gh_wg_mI hw _ _, Nat.le_refl _⟩
    · exact gh_cal_kg hO hw (gh_ivs_inv h).2
  · unfold gh_vir at h
    split at h
    · obtain ⟨_, _, _, _, _, _, _, _, q⟩ := gh_sln_inv h
      exact same q
    · obtain ⟨_, _, _, _, _, _, _, _, _, _, q⟩ := gh_sch_inv h
      exact same q
    · obtain ⟨_, _, _, _, _, h2⟩ := gh_ivv_inv h
      exact gh_cal_kg hO hw h2
  · (try unfold gh_ire at h)
    (try unfold gh_lre at h)
    (try unfold gh_vre at h)
    split at h
    · first | (cases h; done) | (obtain ⟨-, h⟩ := gh_bif h; cases h)
    · cases h
  · (try unfold gh_ire at h)
    (try unfold gh_lre at h)
    (try unfold gh_vre at h)
    split at h
    · first | (cases h; done) | (obtain ⟨-, h⟩ := gh_bif h; cases h)
    · cases h
  · (try unfold gh_ire at h)
    (try unfold gh_lre at h)
    (try unfold gh_vre at h)
    split at h
    · first | (cases h; done) | (obtain ⟨-, h⟩ := gh_bif h; cases h)
    · cases h
  · cases h
theorem gh_stp_kg {O : gh_O} (hO : gh_kg O) {bc bs : Nat} {sc : Option (Nat × (Nat → Int32))} {zr ini : Bool} {i : Instr} {u v : Nat} {w : Int32} {x : Int64} {pc : Nat} {lv lv' : gh_L} {st : List Value} {Wm W' : gh_W} {pc' : Nat} {st' : List Value} (hw : gh_wg Wm.1)
    (h : gh_stp O bc bs sc zr ini i u v w x pc lv st Wm = some (.inl (pc', lv', st', W'))) : gh_wg W'.1 ∧ Wm.1.1.length ≤ W'.1.1.length := by
  have same : W' = Wm → gh_wg W'.1 ∧ Wm.1.1.length ≤ W'.1.1.length := fun e => by rw [e]; exact ⟨hw, Nat.le_refl _⟩
  unfold gh_stp at h
  split at h
  iterate 5
    · first | unfold gh_il at h | unfold gh_jl at h | unfold gh_al at h
      split at h
      · exact same (gh_go_inv h).2.2.2
      · cases h
  iterate 5
    · first | unfold gh_is at h | unfold gh_js at h | unfold gh_as at h
      split at h
      · exact same (gh_go_inv h).2.2.2
      · cases h
  · unfold gh_inc at h
    split at h
    · exact same (gh_go_inv h).2.2.2
    · cases h
  · obtain ⟨-, -, h2, -⟩ := gh_lifv_inv h
    obtain ⟨-, -, -, -, -, rfl⟩ := gh_new_inv h2
    exact ⟨gh_wg_mk hw _, by show Wm.1.1.length ≤ (Wm.1.1 ++ [_]).length; simp⟩
  · obtain ⟨-, -, h2, -⟩ := gh_lifv_inv h
    obtain ⟨_, _, -, -, -, -, -, -, -, -, rfl⟩ := gh_newa_inv h2
    exact ⟨gh_wg_mk hw _, by show Wm.1.1.length ≤ (Wm.1.1 ++ [_]).length; simp⟩
  · obtain ⟨-, -, h2, -⟩ := gh_lifv_inv h
    by_cases hu : u = 2000
    · subst hu
      have h3 : gh_oi pc st Wm = some (.inl (pc', st', W')) := h2
      obtain ⟨_, _, _, _, _, _, q⟩ := gh_oi_inv h3
      exact same q
    · obtain ⟨_, _, _, _, h3⟩ := gh_spe_inv hu h2
      exact gh_cal_kg hO hw h3
  · exact gh_rest_kg hO hw (gh_lift_inv h).1
theorem gh_run_kg {O : gh_O} (hO : gh_kg O) {f : Nat → Option gh_E} {bc bs : Nat} {sc : Option (Nat × (Nat → Int32))} {zr ini : Bool} : ∀ (n : Nat) (σ : gh_S) (r : gh_R), gh_wg σ.2.2.2.1 → gh_run O f bc bs sc zr ini n σ = some r → gh_wg r.2.1 ∧ σ.2.2.2.1.1.length ≤ r.2.1.1.length ∧ (∀ x, r.1 = some x → (∃ i, x = .int i) ∨ ∃ i, x = .long i) := by
  intro n
  induction n with
  | zero => intro σ r _ h; cases h
  | succ n ih =>
    intro σ r hw h
    obtain ⟨pc, lv, st, Wm⟩ := σ
    rw [gh_run] at h
    unfold gh_step at h
    split at h
    · rename_i τ hst
      split at hst
      · obtain ⟨pc', lv', st', W'⟩ := τ
        obtain ⟨h1, h2⟩ := gh_stp_kg hO hw hst
        obtain ⟨h3, h4, h5⟩ := ih _ _ h1 h
        exact ⟨h3, Nat.le_trans h2 h4, h5⟩
      · cases hst
    · rename_i r' hst
      cases h
      split at hst
      · obtain ⟨h1, h2⟩ := gh_stp_ret hst
        refine ⟨by rw [h1]; exact hw, by rw [h1]; exact Nat.le_refl _, fun x hx => ?_⟩
        rcases h2 with ⟨-, y, -, h3, -⟩ | ⟨-, y, -, h3⟩ | ⟨-, -, h3⟩
        · rw [h3] at hx
          exact Or.inl ⟨y, (Option.some.inj hx).symm⟩
        · rw [h3] at hx
          exact Or.inr ⟨y, (Option.some.inj hx).symm⟩
        · rw [h3] at hx
          cases hx
      · cases hst
    · cases h

theorem gh_ex_kg (F : Nat → Nat → Option gh_E) : ∀ d n, gh_kg (gh_ex F d n) := by
  intro d
  induction d with
  | zero => intro n z As M y M' h; cases h
  | succ d ih =>
    intro n z As M y M' h hw
    obtain ⟨-, -, k, j, hr⟩ := gh_ex_inv h
    exact gh_run_kg (ih n) n _ _ hw hr
theorem gh_wg_M0 : gh_wg gh_M0 := fun _ _ _ => rfl
theorem gh_wg_Md : gh_wg gh_Md := by
  have h1 : gh_wg gh_Mb := (gh_ex_kg gh_F 20 400 _ _ _ _ _ (gh_some_of gh_c0 gh_c0_none) (gh_wg_mk gh_wg_M0 _)).1
  exact (gh_ex_kg gh_F 20 800 _ _ _ _ _ (gh_some_of gh_c1 gh_c1_none) (gh_wg_mk h1 _)).1
set_option maxRecDepth 100000 in
theorem gh_Md_R : (List.range 96).all (fun c => (List.range 64).all (fun k => gh_Md.2.2.2 c k == gh_R0 false c k)) = true := by decide +kernel
/-- the state when both objects are made -/
def gh_S0 : gh_St := (gh_Md.2.1, gh_Md.2.2.1, false)
theorem gh_rl0_len : (gh_rl0 false).length = 96 := by decide +kernel
theorem gh_rl0_row : (gh_rl0 false).all (fun l => Nat.ble l.length 63) = true := by decide +kernel
theorem gh_R0_none {c k : Nat} (h : 96 ≤ c ∨ 64 ≤ k) : gh_R0 false c k = none := by
  unfold gh_R0
  by_cases hc : c < 96
  · have hk : 64 ≤ k := by omega
    have hl : c < (gh_rl0 false).length := by rw [gh_rl0_len]; exact hc
    have hr := List.all_eq_true.mp gh_rl0_row _ (List.getElem_mem hl)
    have hr : ((gh_rl0 false)[c]).length ≤ 63 := Nat.le_of_ble_eq_true hr
    rw [List.getD_eq_getElem?_getD, List.getD_eq_getElem?_getD, List.getElem?_eq_getElem hl]
    show (((gh_rl0 false)[c])[k]?).getD none = none
    rw [List.getElem?_eq_none (by omega)]
    rfl
  · rw [List.getD_eq_getElem?_getD, List.getD_eq_getElem?_getD, List.getElem?_eq_none (l := gh_rl0 false) (i := c) (by rw [gh_rl0_len]; omega)]
    show (([] : List (Option Nat))[k]?).getD none = none
    simp
theorem gh_mo_of {M : gh_M} (h1 : M.1 = gh_shp) (h2 : M.2.2.2 = gh_R0 false) : M = gh_mo (M.2.1, M.2.2.1, false) := by
  obtain ⟨a, b, c, d⟩ := M
  have h1 : a = gh_shp := h1
  have h2 : d = gh_R0 false := h2
  subst h1
  subst h2
  rfl
theorem gh_Md_mo : gh_Md = gh_mo gh_S0 := by
  have hR : gh_Md.2.2.2 = gh_R0 false := by
    funext c k
    by_cases h : 96 ≤ c ∨ 64 ≤ k
    · rw [gh_R0_none h]
      refine gh_wg_Md c k ?_
      rw [gh_Md_shp]
      exact h
    · have h1 := List.all_eq_true.mp gh_Md_R c (List.mem_range.mpr (by omega))
      have h2 := List.all_eq_true.mp h1 k (List.mem_range.mpr (by omega))
      exact eq_of_beq h2
  exact gh_mo_of gh_Md_shp hR

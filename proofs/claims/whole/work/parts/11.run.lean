/-! ===== what a step keeps of the memory's form ===== -/
def gh_kp (O : gh_O) : Prop := ∀ z As M y M', O z As M = some (y, M') → gh_wf M → gh_wf M' ∧ M.1.length ≤ M'.1.length ∧ (∀ x, y = some x → (∃ i, x = .int i) ∨ ∃ i, x = .long i)
theorem gh_cal_kp {O : gh_O} (hO : gh_kp O) {bc bs u pc : Nat} {As r : List Value} {W : gh_W} {pc' : Nat} {st' : List Value} {W' : gh_W} (hw : gh_wf W.1) (h : gh_cal O bc bs u pc As r W = some (.inl (pc', st', W'))) : gh_wf W'.1 ∧ W.1.1.length ≤ W'.1.1.length := by
  obtain ⟨-, -, -, -, y, M', hOz, -, rfl⟩ := gh_cal_inv h
  obtain ⟨h1, h2, -⟩ := hO _ _ _ _ _ hOz hw
  exact ⟨h1, h2⟩
theorem gh_cal_nr {O : gh_O} {bc bs u pc : Nat} {As r : List Value} {W : gh_W} {y : gh_R} (h : gh_cal O bc bs u pc As r W = some (.inr y)) : False := by
  unfold gh_cal at h
  obtain ⟨-, h⟩ := gh_bif h
  split at h
  · exact gh_k_nr h
  · exact gh_k_nr h
  · cases h
theorem gh_rest_kp {O : gh_O} (hO : gh_kp O) {bc bs : Nat} {sc : Option (Nat × (Nat → Int32))} {zr ini : Bool} {i : Instr} {u v : Nat} {w : Int32} {x : Int64} {pc : Nat} {st : List Value} {Wm W' : gh_W} {pc' : Nat} {st' : List Value} (hw : gh_wf Wm.1)
    (h : gh_rest O bc bs sc zr ini i u v w x pc st Wm = some (.inl (pc', st', W'))) : gh_wf W'.1 ∧ Wm.1.1.length ≤ W'.1.1.length := by
  have same : W' = Wm → gh_wf W'.1 ∧ Wm.1.1.length ≤ W'.1.1.length := fun e => by rw [e]; exact ⟨hw, Nat.le_refl _⟩
  unfold gh_rest at h
  split at h
  · exact same (gh_k_inv h).2.2
  · exact same (gh_k_inv h).2.2
  · exact same (gh_k_inv h).2.2
  · exact same (gh_k_inv h).2.2
  · cases hv : Nat.beq v 0 <;> rw [hv] at h <;> exact same (gh_k_inv h).2.2
  · exact same (gh_k_inv h).2.2
  · exact same (gh_k_inv h).2.2
  · obtain ⟨_, _, _, _, _, _, q⟩ := gh_ii_inv h
    exact same q
  · obtain ⟨_, _, _, _, _, _, q⟩ := gh_ii_inv h
    exact same q
  · obtain ⟨_, _, _, _, _, _, q⟩ := gh_ii_inv h
    exact same q
  · obtain ⟨_, _, _, _, _, _, q⟩ := gh_ii_inv h
    exact same q
  · obtain ⟨_, _, _, _, _, _, q⟩ := gh_ii_inv h
    exact same q
  · obtain ⟨_, _, _, _, _, _, q⟩ := gh_ii_inv h
    exact same q
  · obtain ⟨_, _, _, _, _, _, q⟩ := gh_ii_inv h
    exact same q
  · obtain ⟨_, _, _, _, _, _, q⟩ := gh_ii_inv h
    exact same q
  · obtain ⟨_, _, _, _, _, _, q⟩ := gh_ii_inv h
    exact same q
  · obtain ⟨_, _, _, _, _, _, _, q⟩ := gh_iid_inv h
    exact same q
  · obtain ⟨_, _, _, _, _, _, _, q⟩ := gh_iid_inv h
    exact same q
  · obtain ⟨_, _, _, _, _, q⟩ := gh_i_inv h
    exact same q
  · obtain ⟨_, _, _, _, _, q⟩ := gh_i_inv h
    exact same q
  · obtain ⟨_, _, _, _, _, _, q⟩ := gh_jj_inv h
    exact same q
  · obtain ⟨_, _, _, _, _, _, q⟩ := gh_jj_inv h
    exact same q
  · obtain ⟨_, _, _, _, _, _, q⟩ := gh_jj_inv h
    exact same q
  · obtain ⟨_, _, _, _, _, _, _, q⟩ := gh_jjd_inv h
    exact same q
  · obtain ⟨_, _, _, _, _, _, q⟩ := gh_lcmp_inv h
    exact same q
  · obtain ⟨_, _, _, _, _, q⟩ := gh_i2l_inv h
    exact same q
  · obtain ⟨_, _, _, _, _, q⟩ := gh_l2i_inv h
    exact same q
  · obtain ⟨_, _, _, _, _, _, q⟩ := gh_dup_inv h
    exact same q
  · rcases gh_dup2_inv h with ⟨_, _, _, _, _, q⟩ | ⟨_, _, _, _, _, _, q⟩ <;> exact same q
  · obtain ⟨_, _, _, _, _, q⟩ := gh_pop_inv h
    exact same q
  · obtain ⟨_, _, _, _, _, q⟩ := gh_if_inv h
    exact same q
  · obtain ⟨_, _, _, _, _, _, q⟩ := gh_icmp_inv h
    exact same q
  · exact same (gh_k_inv h).2.2
  · obtain ⟨_, _, _, _, q, _⟩ := gh_tab_inv h
    exact same q
  · obtain ⟨_, _, _, _, q, _⟩ := gh_luk_inv h
    exact same q
  · obtain ⟨_, _, _, _, _, _, _, _, _, _, q⟩ := gh_get_inv h
    exact same q
  · obtain ⟨y, q, r, rfl, h1, h2, rfl, rfl, h3⟩ := gh_put_inv h
    rcases h3 with ⟨a, h4, rfl, rfl⟩ | ⟨a, h4, rfl, rfl⟩ | ⟨a, h4, rfl, h5, rfl⟩ | ⟨a, h4, rfl, h5, rfl⟩
    · exact ⟨gh_wf_mI hw _ _, Nat.le_refl _⟩
    · exact ⟨gh_wf_mL hw _ _, Nat.le_refl _⟩
    · exact ⟨gh_wf_mR hw _ _ _ h5, Nat.le_refl _⟩
    · exact ⟨gh_wf_mI hw _ _, Nat.le_refl _⟩
  · obtain ⟨_, _, _, _, _, q, _⟩ := gh_iald_inv h
    exact same q
  · obtain ⟨_, _, _, _, _, _, q, _⟩ := gh_lald_inv h
    exact same q
  · obtain ⟨_, _, _, _, _, _, q, _⟩ := gh_bald_inv h
    exact same q
  · obtain ⟨_, _, _, _, _, _, _, _, _, _, rfl⟩ := gh_iast_inv h
    exact ⟨gh_wf_mI hw _ _, Nat.le_refl _⟩
  · obtain ⟨_, _, _, _, _, _, _, _, _, _, rfl⟩ := gh_last_inv h
    exact ⟨gh_wf_mL hw _ _, Nat.le_refl _⟩
  · obtain ⟨_, _, _, _, _, _, _, _, _, hq⟩ := gh_bast_inv h
    rcases hq with ⟨_, rfl⟩ | ⟨_, rfl⟩ <;> exact ⟨gh_wf_mI hw _ _, Nat.le_refl _⟩
  · obtain ⟨_, _, _, _, q, _⟩ := gh_alen_inv h
    exact same q
  · unfold gh_sta at h
    split at h
    · obtain ⟨_, _, _, _, _, _, _, q⟩ := gh_mmx_inv h
      exact same q
    · obtain ⟨_, _, _, _, _, _, _, q⟩ := gh_mmn_inv h
      exact same q
    · obtain ⟨_, _, _, _, _, _, _, q⟩ := gh_mml_inv h
      exact same q
    · obtain ⟨_, _, _, _, _, _, _, _, _, _, _, _, _, _, _, _, _, _, _, rfl⟩ := gh_acp_inv h
      exact ⟨gh_wf_mI hw _ _, Nat.le_refl _⟩
    · exact gh_cal_kp hO hw (gh_ivs_inv h).2
  · unfold gh_vir at h
    split at h
    · obtain ⟨_, _, _, _, _, _, _, _, q⟩ := gh_sln_inv h
      exact same q
    · obtain ⟨_, _, _, _, _, _, _, _, _, _, q⟩ := gh_sch_inv h
      exact same q
    · obtain ⟨_, _, _, _, _, h2⟩ := gh_ivv_inv h
      exact gh_cal_kp hO hw h2
  · (try unfold gh_ire at h)
    (try unfold gh_lre at h)
    (try unfold gh_vre at h)
    split at h
    · first | (cases h; done) | (obtain ⟨-, h⟩ := gh_bif h; cases h)
    · cases h
  · (try unfold gh_ire at h)
    (try unfold gh_lre at h)
    (try unfold gh_vre at h)
    split at h
    · first | (cases h; done) | (obtain ⟨-, h⟩ := gh_bif h; cases h)
    · cases h
  · (try unfold gh_ire at h)
    (try unfold gh_lre at h)
    (try unfold gh_vre at h)
    split at h
    · first | (cases h; done) | (obtain ⟨-, h⟩ := gh_bif h; cases h)
    · cases h
  · cases h
/-- what a return tells: nothing of the memory changed -/
theorem gh_rest_ret {O : gh_O} {bc bs : Nat} {sc : Option (Nat × (Nat → Int32))} {zr ini : Bool} {i : Instr} {u v : Nat} {w : Int32} {x : Int64} {pc : Nat} {st : List Value} {Wm : gh_W} {r : gh_R}
    (h : gh_rest O bc bs sc zr ini i u v w x pc st Wm = some (.inr r)) : r.2 = Wm ∧ ((i = .ireturn ∧ ∃ y, st = [.int y] ∧ r.1 = some (.int y) ∧ (zr = true → gh_isB y = true)) ∨ (i = .lreturn ∧ ∃ y, st = [.long y] ∧ r.1 = some (.long y)) ∨ (i = .return_ ∧ st = [] ∧ r.1 = none)) := by
  unfold gh_rest at h
  split at h
  · exact (gh_k_nr h).elim
  · exact (gh_k_nr h).elim
  · exact (gh_k_nr h).elim
  · exact (gh_k_nr h).elim
  · cases hv : Nat.beq v 0 <;> rw [hv] at h <;> exact (gh_k_nr h).elim
  · exact (gh_k_nr h).elim
  · exact (gh_k_nr h).elim
  · unfold gh_ii at h
    (repeat' (split at h)) <;> first | exact (gh_k_nr h).elim | (cases h; done) | (obtain ⟨-, h⟩ := gh_bif h; exact (gh_k_nr h).elim)
  · unfold gh_ii at h
    (repeat' (split at h)) <;> first | exact (gh_k_nr h).elim | (cases h; done) | (obtain ⟨-, h⟩ := gh_bif h; exact (gh_k_nr h).elim)
  · unfold gh_ii at h
    (repeat' (split at h)) <;> first | exact (gh_k_nr h).elim | (cases h; done) | (obtain ⟨-, h⟩ := gh_bif h; exact (gh_k_nr h).elim)
  · unfold gh_ii at h
    (repeat' (split at h)) <;> first | exact (gh_k_nr h).elim | (cases h; done) | (obtain ⟨-, h⟩ := gh_bif h; exact (gh_k_nr h).elim)
  · unfold gh_ii at h
    (repeat' (split at h)) <;> first | exact (gh_k_nr h).elim | (cases h; done) | (obtain ⟨-, h⟩ := gh_bif h; exact (gh_k_nr h).elim)
  · unfold gh_ii at h
    (repeat' (split at h)) <;> first | exact (gh_k_nr h).elim | (cases h; done) | (obtain ⟨-, h⟩ := gh_bif h; exact (gh_k_nr h).elim)
  · unfold gh_ii at h
    (repeat' (split at h)) <;> first | exact (gh_k_nr h).elim | (cases h; done) | (obtain ⟨-, h⟩ := gh_bif h; exact (gh_k_nr h).elim)
  · unfold gh_ii at h
    (repeat' (split at h)) <;> first | exact (gh_k_nr h).elim | (cases h; done) | (obtain ⟨-, h⟩ := gh_bif h; exact (gh_k_nr h).elim)
  · unfold gh_ii at h
    (repeat' (split at h)) <;> first | exact (gh_k_nr h).elim | (cases h; done) | (obtain ⟨-, h⟩ := gh_bif h; exact (gh_k_nr h).elim)
  · unfold gh_iid at h
    (repeat' (split at h)) <;> first | exact (gh_k_nr h).elim | (cases h; done) | (obtain ⟨-, h⟩ := gh_bif h; exact (gh_k_nr h).elim)
  · unfold gh_iid at h
    (repeat' (split at h)) <;> first | exact (gh_k_nr h).elim | (cases h; done) | (obtain ⟨-, h⟩ := gh_bif h; exact (gh_k_nr h).elim)
  · unfold gh_i at h
    (repeat' (split at h)) <;> first | exact (gh_k_nr h).elim | (cases h; done) | (obtain ⟨-, h⟩ := gh_bif h; exact (gh_k_nr h).elim)
  · unfold gh_i at h
    (repeat' (split at h)) <;> first | exact (gh_k_nr h).elim | (cases h; done) | (obtain ⟨-, h⟩ := gh_bif h; exact (gh_k_nr h).elim)
  · unfold gh_jj at h
    (repeat' (split at h)) <;> first | exact (gh_k_nr h).elim | (cases h; done) | (obtain ⟨-, h⟩ := gh_bif h; exact (gh_k_nr h).elim)
  · unfold gh_jj at h
    (repeat' (split at h)) <;> first | exact (gh_k_nr h).elim | (cases h; done) | (obtain ⟨-, h⟩ := gh_bif h; exact (gh_k_nr h).elim)
  · unfold gh_jj at h
    (repeat' (split at h)) <;> first | exact (gh_k_nr h).elim | (cases h; done) | (obtain ⟨-, h⟩ := gh_bif h; exact (gh_k_nr h).elim)
  · unfold gh_jjd at h
    (repeat' (split at h)) <;> first | exact (gh_k_nr h).elim | (cases h; done) | (obtain ⟨-, h⟩ := gh_bif h; exact (gh_k_nr h).elim)
  · unfold gh_lcmp at h
    (repeat' (split at h)) <;> first | exact (gh_k_nr h).elim | (cases h; done) | (obtain ⟨-, h⟩ := gh_bif h; exact (gh_k_nr h).elim)
  · unfold gh_i2l at h
    (repeat' (split at h)) <;> first | exact (gh_k_nr h).elim | (cases h; done) | (obtain ⟨-, h⟩ := gh_bif h; exact (gh_k_nr h).elim)
  · unfold gh_l2i at h
    (repeat' (split at h)) <;> first | exact (gh_k_nr h).elim | (cases h; done) | (obtain ⟨-, h⟩ := gh_bif h; exact (gh_k_nr h).elim)
  · unfold gh_dup at h
    (repeat' (split at h)) <;> first | exact (gh_k_nr h).elim | (cases h; done) | (obtain ⟨-, h⟩ := gh_bif h; exact (gh_k_nr h).elim)
  · unfold gh_dup2 at h
    (repeat' (split at h)) <;> first | exact (gh_k_nr h).elim | (cases h; done) | (obtain ⟨-, h⟩ := gh_bif h; exact (gh_k_nr h).elim)
  · unfold gh_pop at h
    (repeat' (split at h)) <;> first | exact (gh_k_nr h).elim | (cases h; done) | (obtain ⟨-, h⟩ := gh_bif h; exact (gh_k_nr h).elim)
  · unfold gh_if at h
    split at h
    · cases hc : gh_cmp _ _ _ <;> rw [hc] at h <;> exact (gh_k_nr h).elim
    · cases h
  · unfold gh_icmp at h
    split at h
    · cases hc : gh_cmp _ _ _ <;> rw [hc] at h <;> exact (gh_k_nr h).elim
    · cases h
  · exact (gh_k_nr h).elim
  · unfold gh_tab gh_to at h
    (repeat' (split at h)) <;> first | exact (gh_k_nr h).elim | cases h
  · unfold gh_luk gh_to at h
    (repeat' (split at h)) <;> first | exact (gh_k_nr h).elim | cases h
  · unfold gh_get at h
    split at h
    · split at h
      · obtain ⟨-, h⟩ := gh_bif h
        (repeat' (split at h)) <;> first | exact (gh_k_nr h).elim | cases h
      · cases h
    · cases h
  · unfold gh_put at h
    split at h
    · split at h
      · obtain ⟨-, h⟩ := gh_bif h
        split at h
        · exact (gh_k_nr h).elim
        · exact (gh_k_nr h).elim
        · cases hb : Nat.blt _ Wm.1.1.length <;> rw [hb] at h <;> first | exact (gh_k_nr h).elim | cases h
        · obtain ⟨-, h⟩ := gh_bif h
          exact (gh_k_nr h).elim
        · cases h
      · cases h
    · cases h
  · unfold gh_iald at h
    (repeat' (split at h)) <;> first | exact (gh_k_nr h).elim | (cases h; done) | (obtain ⟨-, h⟩ := gh_bif h; exact (gh_k_nr h).elim)
  · unfold gh_lald at h
    (repeat' (split at h)) <;> first | exact (gh_k_nr h).elim | (cases h; done) | (obtain ⟨-, h⟩ := gh_bif h; exact (gh_k_nr h).elim)
  · unfold gh_bald at h
    (repeat' (split at h)) <;> first | exact (gh_k_nr h).elim | (cases h; done) | (obtain ⟨-, h⟩ := gh_bif h; exact (gh_k_nr h).elim)
  · unfold gh_iast at h
    (repeat' (split at h)) <;> first | exact (gh_k_nr h).elim | (cases h; done) | (obtain ⟨-, h⟩ := gh_bif h; exact (gh_k_nr h).elim)
  · unfold gh_last at h
    (repeat' (split at h)) <;> first | exact (gh_k_nr h).elim | (cases h; done) | (obtain ⟨-, h⟩ := gh_bif h; exact (gh_k_nr h).elim)
  · unfold gh_bast at h
    (repeat' (split at h)) <;> first | exact (gh_k_nr h).elim | (cases h; done) | (obtain ⟨-, h⟩ := gh_bif h; exact (gh_k_nr h).elim)
  · unfold gh_alen at h
    (repeat' (split at h)) <;> first | exact (gh_k_nr h).elim | (cases h; done) | (obtain ⟨-, h⟩ := gh_bif h; exact (gh_k_nr h).elim)
  · unfold gh_sta at h
    split at h
    · unfold gh_mmx at h
      (repeat' (split at h)) <;> first | exact (gh_k_nr h).elim | (cases h; done) | (obtain ⟨-, h⟩ := gh_bif h; exact (gh_k_nr h).elim)
    · unfold gh_mmn at h
      (repeat' (split at h)) <;> first | exact (gh_k_nr h).elim | (cases h; done) | (obtain ⟨-, h⟩ := gh_bif h; exact (gh_k_nr h).elim)
    · unfold gh_mml at h
      (repeat' (split at h)) <;> first | exact (gh_k_nr h).elim | (cases h; done) | (obtain ⟨-, h⟩ := gh_bif h; exact (gh_k_nr h).elim)
    · unfold gh_acp at h
      (repeat' (split at h)) <;> first | exact (gh_k_nr h).elim | (cases h; done) | (obtain ⟨-, h⟩ := gh_bif h; exact (gh_k_nr h).elim)
    · exact (gh_cal_nr (gh_ivs_inv h).2).elim
  · unfold gh_vir at h
    split at h
    · unfold gh_sln at h
      (repeat' (split at h)) <;> first | exact (gh_k_nr h).elim | (cases h; done) | (obtain ⟨-, h⟩ := gh_bif h; exact (gh_k_nr h).elim)
    · unfold gh_sch at h
      (repeat' (split at h)) <;> first | exact (gh_k_nr h).elim | (cases h; done) | (obtain ⟨-, h⟩ := gh_bif h; exact (gh_k_nr h).elim)
    · obtain ⟨_, _, _, _, _, h2⟩ := gh_ivv_inv h
      exact (gh_cal_nr h2).elim
  · unfold gh_ire at h
    split at h
    · rename_i y
      obtain ⟨hb, h⟩ := gh_bif h
      cases h
      refine ⟨rfl, Or.inl ⟨rfl, y, rfl, rfl, fun hz => ?_⟩⟩
      rw [hz] at hb
      simpa using hb
    · cases h
  · unfold gh_lre at h
    split at h
    · rename_i y
      cases h
      exact ⟨rfl, Or.inr (Or.inl ⟨rfl, y, rfl, rfl⟩)⟩
    · cases h
  · unfold gh_vre at h
    split at h
    · cases h
      exact ⟨rfl, Or.inr (Or.inr ⟨rfl, rfl, rfl⟩)⟩
    · cases h
  · cases h
theorem gh_stp_kp {O : gh_O} (hO : gh_kp O) {bc bs : Nat} {sc : Option (Nat × (Nat → Int32))} {zr ini : Bool} {i : Instr} {u v : Nat} {w : Int32} {x : Int64} {pc : Nat} {lv lv' : gh_L} {st : List Value} {Wm W' : gh_W} {pc' : Nat} {st' : List Value} (hw : gh_wf Wm.1)
    (h : gh_stp O bc bs sc zr ini i u v w x pc lv st Wm = some (.inl (pc', lv', st', W'))) : gh_wf W'.1 ∧ Wm.1.1.length ≤ W'.1.1.length := by
  have same : W' = Wm → gh_wf W'.1 ∧ Wm.1.1.length ≤ W'.1.1.length := fun e => by rw [e]; exact ⟨hw, Nat.le_refl _⟩
  unfold gh_stp at h
  split at h
  iterate 5
    · first | unfold gh_il at h | unfold gh_jl at h | unfold gh_al at h
      split at h
      · exact same (gh_go_inv h).2.2.2
      · cases h
  iterate 5
    · first | unfold gh_is at h | unfold gh_js at h | unfold gh_as at h
      split at h
      · exact same (gh_go_inv h).2.2.2
      · cases h
  · unfold gh_inc at h
    split at h
    · exact same (gh_go_inv h).2.2.2
    · cases h
  · obtain ⟨-, -, h2, -⟩ := gh_lifv_inv h
    obtain ⟨-, -, -, -, -, rfl⟩ := gh_new_inv h2
    exact ⟨gh_wf_mk hw _, by show Wm.1.1.length ≤ (Wm.1.1 ++ [_]).length; simp⟩
  · obtain ⟨-, -, h2, -⟩ := gh_lifv_inv h
    obtain ⟨_, _, -, -, -, -, -, -, -, -, rfl⟩ := gh_newa_inv h2
    exact ⟨gh_wf_mk hw _, by show Wm.1.1.length ≤ (Wm.1.1 ++ [_]).length; simp⟩
  · obtain ⟨-, -, h2, -⟩ := gh_lifv_inv h
    by_cases hu : u = 2000
    · subst hu
      have h3 : gh_oi pc st Wm = some (.inl (pc', st', W')) := h2
      obtain ⟨_, _, _, _, _, _, q⟩ := gh_oi_inv h3
      exact same q
    · obtain ⟨_, _, _, _, h3⟩ := gh_spe_inv hu h2
      exact gh_cal_kp hO hw h3
  · exact gh_rest_kp hO hw (gh_lift_inv h).1
theorem gh_stp_ret {O : gh_O} {bc bs : Nat} {sc : Option (Nat × (Nat → Int32))} {zr ini : Bool} {i : Instr} {u v : Nat} {w : Int32} {x : Int64} {pc : Nat} {lv : gh_L} {st : List Value} {Wm : gh_W} {r : gh_R}
    (h : gh_stp O bc bs sc zr ini i u v w x pc lv st Wm = some (.inr r)) : r.2 = Wm ∧ ((i = .ireturn ∧ ∃ y, st = [.int y] ∧ r.1 = some (.int y) ∧ (zr = true → gh_isB y = true)) ∨ (i = .lreturn ∧ ∃ y, st = [.long y] ∧ r.1 = some (.long y)) ∨ (i = .return_ ∧ st = [] ∧ r.1 = none)) := by
  unfold gh_stp at h
  split at h
  iterate 5
    · first | unfold gh_il at h | unfold gh_jl at h | unfold gh_al at h
      split at h <;> cases h
  iterate 5
    · first | unfold gh_is at h | unfold gh_js at h | unfold gh_as at h
      split at h <;> cases h
  · unfold gh_inc at h
    split at h <;> cases h
  · unfold gh_lifv at h
    obtain ⟨-, h⟩ := gh_bif h
    have h2 := gh_lift_ret h
    unfold gh_new at h2
    obtain ⟨-, h2⟩ := gh_bif h2
    exact (gh_k_nr h2).elim
  · unfold gh_lifv at h
    obtain ⟨-, h⟩ := gh_bif h
    have h2 := gh_lift_ret h
    unfold gh_newa at h2
    split at h2
    · obtain ⟨-, h2⟩ := gh_bif h2
      exact (gh_k_nr h2).elim
    · cases h2
  · unfold gh_lifv at h
    obtain ⟨-, h⟩ := gh_bif h
    have h2 := gh_lift_ret h
    by_cases hu : u = 2000
    · subst hu
      have h3 : gh_oi pc st Wm = some (.inr r) := h2
      unfold gh_oi at h3
      split at h3
      · obtain ⟨-, h3⟩ := gh_bif h3
        exact (gh_k_nr h3).elim
      · cases h3
    · obtain ⟨_, _, _, _, h3⟩ := gh_spe_inv hu h2
      exact (gh_cal_nr h3).elim
  · exact gh_rest_ret (gh_lift_ret h)
theorem gh_run_kp {O : gh_O} (hO : gh_kp O) {f : Nat → Option gh_E} {bc bs : Nat} {sc : Option (Nat × (Nat → Int32))} {zr ini : Bool} : ∀ (n : Nat) (σ : gh_S) (r : gh_R), gh_wf σ.2.2.2.1 → gh_run O f bc bs sc zr ini n σ = some r → gh_wf r.2.1 ∧ σ.2.2.2.1.1.length ≤ r.2.1.1.length ∧ (∀ x, r.1 = some x → (∃ i, x = .int i) ∨ ∃ i, x = .long i) := by
  intro n
  induction n with
  | zero => intro σ r _ h; cases h
  | succ n ih =>
    intro σ r hw h
    obtain ⟨pc, lv, st, Wm⟩ := σ
    rw [gh_run] at h
    unfold gh_step at h
    split at h
    · rename_i τ hst
      split at hst
      · obtain ⟨pc', lv', st', W'⟩ := τ
        obtain ⟨h1, h2⟩ := gh_stp_kp hO hw hst
        obtain ⟨h3, h4, h5⟩ := ih _ _ h1 h
        exact ⟨h3, Nat.le_trans h2 h4, h5⟩
      · cases hst
    · rename_i r' hst
      cases h
      split at hst
      · obtain ⟨h1, h2⟩ := gh_stp_ret hst
        refine ⟨by rw [h1]; exact hw, by rw [h1]; exact Nat.le_refl _, fun x hx => ?_⟩
        rcases h2 with ⟨-, y, -, h3, -⟩ | ⟨-, y, -, h3⟩ | ⟨-, -, h3⟩
        · rw [h3] at hx
          exact Or.inl ⟨y, (Option.some.inj hx).symm⟩
        · rw [h3] at hx
          exact Or.inr ⟨y, (Option.some.inj hx).symm⟩
        · rw [h3] at hx
          cases hx
      · cases hst
    · cases h

/-! ===== MORE LOCALS DO NO HARM ===== -/
def gh_lle (lv lv' : gh_L) : Prop := ∀ q ∈ lv, gh_lk lv' q.1 = some q.2
def gh_lls (lv' : gh_L) : gh_L → Prop
  | [] => True
  | q :: t => gh_lk lv' q.1 = some q.2 ∧ gh_lls lv' t
theorem gh_lls_le {lv' : gh_L} : ∀ {lv : gh_L}, gh_lls lv' lv → gh_lle lv lv' := by
  intro lv
  induction lv with
  | nil => intro _ q hq; cases hq
  | cons a t ih =>
    intro h q hq
    rcases List.mem_cons.mp hq with rfl | hq
    · exact h.1
    · exact ih h.2 q hq
theorem gh_lle_lk {lv lv' : gh_L} (h : gh_lle lv lv') {i : Nat} {v : Value} (hi : gh_lk lv i = some v) : gh_lk lv' i = some v := h (i, v) (gh_lk_mem hi)
theorem gh_lk_filter {g : Nat × Value → Bool} {k : Nat} {w : Value} (hg : g (k, w) = true) : ∀ {lv : gh_L}, gh_lk lv k = some w → gh_lk (lv.filter g) k = some w := by
  intro lv
  induction lv with
  | nil => intro h; cases h
  | cons a t ih =>
    intro h
    rw [gh_lk] at h
    cases hb : Nat.beq a.1 k with
    | true =>
      rw [hb] at h
      have e1 := gh_be hb
      have e2 : a.2 = w := Option.some.inj h
      have ea : a = (k, w) := by rw [← e1, ← e2]
      rw [ea, List.filter_cons_of_pos hg, gh_lk]
      show (bif Nat.beq k k then some w else _) = _
      rw [Nat.beq_refl]
      rfl
    | false =>
      rw [hb] at h
      cases ha : g a with
      | true =>
        rw [List.filter_cons_of_pos ha, gh_lk, hb]
        exact ih h
      | false =>
        rw [List.filter_cons_of_neg (by rw [ha]; decide)]
        exact ih h
theorem gh_lle_filter {lv lv' : gh_L} (g : Nat × Value → Bool) (h : gh_lle lv lv') : gh_lle (lv.filter g) (lv'.filter g) := by
  intro q hq
  obtain ⟨h1, h2⟩ := List.mem_filter.mp hq
  exact gh_lk_filter h2 (h q h1)
theorem gh_lle_put {lv lv' : gh_L} (g : Nat × Value → Bool) (i : Nat) (v : Value) (hg : ∀ q, g q = true → q.1 ≠ i) (h : gh_lle lv lv') : gh_lle ((i, v) :: lv.filter g) ((i, v) :: lv'.filter g) := by
  intro q hq
  rw [gh_lk]
  rcases List.mem_cons.mp hq with rfl | hq
  · show (bif Nat.beq i i then some v else _) = _
    rw [Nat.beq_refl]
    rfl
  · have hne := hg q (List.mem_filter.mp hq).2
    have hb : Nat.beq i q.1 = false := by
      cases hb : Nat.beq i q.1 with
      | false => rfl
      | true => exact absurd (gh_be hb).symm hne
    show (bif Nat.beq i q.1 then some v else _) = _
    rw [hb]
    exact gh_lle_filter g h q hq
theorem gh_lle_s1 {lv lv' : gh_L} (h : gh_lle lv lv') (i : Nat) (v : Value) : gh_lle (gh_s1 lv i v) (gh_s1 lv' i v) :=
  gh_lle_put _ i v (fun q hq z => by
    have h1 := gh_b1 hq
    rw [z] at h1
    simp at h1) h
theorem gh_lle_s2 {lv lv' : gh_L} (h : gh_lle lv lv') (i : Nat) (v : Value) : gh_lle (gh_s2 lv i v) (gh_s2 lv' i v) :=
  gh_lle_put _ i v (fun q hq z => by
    have h1 := gh_b1 hq
    rw [z] at h1
    simp at h1) h
theorem gh_lift_le {lv lv' : gh_L} (hl : gh_lle lv lv') {o : Option gh_N} {pc' : Nat} {l1 : gh_L} {st' : List Value} {W' : gh_W} (h : gh_lift lv o = some (.inl (pc', l1, st', W'))) : ∃ l2, gh_lift lv' o = some (.inl (pc', l2, st', W')) ∧ gh_lle l1 l2 := by
  obtain ⟨rfl, rfl⟩ := gh_lift_inv h
  exact ⟨lv', rfl, hl⟩
theorem gh_lifv_le {n : Nat} {lv lv' : gh_L} (hl : gh_lle lv lv') {st : List Value} {o : Option gh_N} {pc' : Nat} {l1 : gh_L} {st' : List Value} {W' : gh_W} (h : gh_lifv n lv st o = some (.inl (pc', l1, st', W'))) : ∃ l2, gh_lifv n lv' st o = some (.inl (pc', l2, st', W')) ∧ gh_lle l1 l2 := by
  unfold gh_lifv at h ⊢
  obtain ⟨hb, h⟩ := gh_bif h
  rw [hb]
  exact gh_lift_le (gh_lle_filter _ hl) h
theorem gh_stp_le {O : gh_O} {bc bs : Nat} {sc : Option (Nat × (Nat → Int32))} {zr ini : Bool} {i : Instr} {u v : Nat} {w : Int32} {x : Int64} {pc : Nat} {lv lv' l1 : gh_L} {st : List Value} {Wm W' : gh_W} {pc' : Nat} {st' : List Value} (hl : gh_lle lv lv')
    (h : gh_stp O bc bs sc zr ini i u v w x pc lv st Wm = some (.inl (pc', l1, st', W'))) : ∃ l2, gh_stp O bc bs sc zr ini i u v w x pc lv' st Wm = some (.inl (pc', l2, st', W')) ∧ gh_lle l1 l2 := by
  unfold gh_stp at h
  split at h
  · unfold gh_il at h
    split at h
    · rename_i y hy
      obtain ⟨rfl, rfl, rfl, rfl⟩ := gh_go_inv h
      refine ⟨lv', ?_, hl⟩
      show gh_il (gh_lk lv' _) _ lv' _ _ = _
      rw [gh_lle_lk hl hy]
      rfl
    · cases h
  · unfold gh_il at h
    split at h
    · rename_i y hy
      obtain ⟨rfl, rfl, rfl, rfl⟩ := gh_go_inv h
      refine ⟨lv', ?_, hl⟩
      show gh_il (gh_lk lv' _) _ lv' _ _ = _
      rw [gh_lle_lk hl hy]
      rfl
    · cases h
  · unfold gh_jl at h
    split at h
    · rename_i y hy
      obtain ⟨rfl, rfl, rfl, rfl⟩ := gh_go_inv h
      refine ⟨lv', ?_, hl⟩
      show gh_jl (gh_lk lv' _) _ lv' _ _ = _
      rw [gh_lle_lk hl hy]
      rfl
    · cases h
  · unfold gh_jl at h
    split at h
    · rename_i y hy
      obtain ⟨rfl, rfl, rfl, rfl⟩ := gh_go_inv h
      refine ⟨lv', ?_, hl⟩
      show gh_jl (gh_lk lv' _) _ lv' _ _ = _
      rw [gh_lle_lk hl hy]
      rfl
    · cases h
  · unfold gh_al at h
    split at h
    · rename_i y hy
      obtain ⟨rfl, rfl, rfl, rfl⟩ := gh_go_inv h
      refine ⟨lv', ?_, hl⟩
      show gh_al (gh_lk lv' _) _ lv' _ _ = _
      rw [gh_lle_lk hl hy]
      rfl
    · cases h
  · unfold gh_is at h
    split at h
    · obtain ⟨rfl, rfl, rfl, rfl⟩ := gh_go_inv h
      exact ⟨_, rfl, gh_lle_s1 hl _ _⟩
    · cases h
  · unfold gh_is at h
    split at h
    · obtain ⟨rfl, rfl, rfl, rfl⟩ := gh_go_inv h
      exact ⟨_, rfl, gh_lle_s1 hl _ _⟩
    · cases h
  · unfold gh_js at h
    split at h
    · obtain ⟨rfl, rfl, rfl, rfl⟩ := gh_go_inv h
      exact ⟨_, rfl, gh_lle_s2 hl _ _⟩
    · cases h
  · unfold gh_js at h
    split at h
    · obtain ⟨rfl, rfl, rfl, rfl⟩ := gh_go_inv h
      exact ⟨_, rfl, gh_lle_s2 hl _ _⟩
    · cases h
  · unfold gh_as at h
    split at h
    · obtain ⟨rfl, rfl, rfl, rfl⟩ := gh_go_inv h
      exact ⟨_, rfl, gh_lle_s1 hl _ _⟩
    · cases h
  · unfold gh_inc at h
    split at h
    · rename_i a ha
      obtain ⟨rfl, rfl, rfl, rfl⟩ := gh_go_inv h
      refine ⟨gh_s1 lv' _ (.int (a + w)), ?_, gh_lle_s1 hl _ _⟩
      show gh_inc _ w _ lv' _ _ = _
      unfold gh_inc
      rw [gh_lle_lk hl ha]
      rfl
    · cases h
  · exact gh_lifv_le hl h
  · exact gh_lifv_le hl h
  · exact gh_lifv_le hl h
  · obtain ⟨l2, h2, h3⟩ := gh_lift_le hl h
    refine ⟨l2, ?_, h3⟩
    rw [← h2]
    unfold gh_stp
    split <;> first | rfl | (exfalso; simp_all; done)
/-- a run goes the same way with more locals -/
theorem gh_run_le {O : gh_O} {f : Nat → Option gh_E} {bc bs : Nat} {sc : Option (Nat × (Nat → Int32))} {zr ini : Bool} : ∀ (n pc : Nat) (lv lv' : gh_L) (st : List Value) (W : gh_W) (r : gh_R), gh_lle lv lv' → gh_run O f bc bs sc zr ini n (pc, lv, st, W) = some r → gh_run O f bc bs sc zr ini n (pc, lv', st, W) = some r := by
  intro n
  induction n with
  | zero => intro pc lv lv' st W r _ h; cases h
  | succ n ih =>
    intro pc lv lv' st W r hl h
    rw [gh_run] at h ⊢
    unfold gh_step at h ⊢
    cases hf : f pc with
    | none =>
      have hf' : f (pc, lv, st, W).1 = none := hf
      try rw [hf'] at h
      cases h
    | some en =>
      obtain ⟨i, len, u, v, w, x⟩ := en
      have hf1 : f (pc, lv, st, W).1 = some (i, len, u, v, w, x) := hf
      have hf2 : f (pc, lv', st, W).1 = some (i, len, u, v, w, x) := hf
      try rw [hf1] at h
      try rw [hf2]
      have h : (match gh_stp O bc bs sc zr ini i u v w x pc lv st W with
        | some (.inl τ) => gh_run O f bc bs sc zr ini n τ
        | some (.inr r) => some r
        | none => none) = some r := h
      show (match gh_stp O bc bs sc zr ini i u v w x pc lv' st W with
        | some (.inl τ) => gh_run O f bc bs sc zr ini n τ
        | some (.inr r) => some r
        | none => none) = some r
      cases hs : gh_stp O bc bs sc zr ini i u v w x pc lv st W with
      | none => rw [hs] at h; cases h
      | some y =>
        rw [hs] at h
        cases y with
        | inl τ =>
          obtain ⟨pc', l1, st', W'⟩ := τ
          obtain ⟨l2, h2, h3⟩ := gh_stp_le hl hs
          rw [h2]
          exact ih pc' l1 l2 st' W' r h3 h
        | inr r' =>
          have e : gh_stp O bc bs sc zr ini i u v w x pc lv' st W = some (.inr r') := by
            have q := gh_stp_ret hs
            unfold gh_stp at hs ⊢
            rcases q.2 with ⟨rfl, -⟩ | ⟨rfl, -⟩ | ⟨rfl, -⟩
            · have h9 := gh_lift_ret hs
              show gh_lift lv' _ = _
              rw [h9]
              rfl
            · have h9 := gh_lift_ret hs
              show gh_lift lv' _ = _
              rw [h9]
              rfl
            · have h9 := gh_lift_ret hs
              show gh_lift lv' _ = _
              rw [h9]
              rfl
          rw [e]
          exact h
theorem gh_T_weak {d : Nat} {f : Nat → Option gh_E} {bc bs : Nat} {sc : Option (Nat × (Nat → Int32))} {zr ini : Bool} {pc : Nat} {lv lv' : gh_L} {st : List Value} {W : gh_W} {r : gh_R} (h : gh_lls lv' lv) (k : gh_T d f bc bs sc zr ini (pc, lv, st, W) r) : gh_T d f bc bs sc zr ini (pc, lv', st, W) r := by
  obtain ⟨n, hn⟩ := k
  exact ⟨n, gh_run_le n pc lv lv' st W r (gh_lls_le h) hn⟩

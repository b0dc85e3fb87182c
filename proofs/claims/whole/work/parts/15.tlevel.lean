/-! ===== RUNS OF THE PURE MACHINE, PIECE BY PIECE ===== -/
def gh_le (O O' : gh_O) : Prop := ∀ z As M r, O z As M = some r → O' z As M = some r
theorem gh_cal_mono {O O' : gh_O} (hO : gh_le O O') {bc bs u pc : Nat} {As r : List Value} {W : gh_W} {y : gh_N} (h : gh_cal O bc bs u pc As r W = some y) : gh_cal O' bc bs u pc As r W = some y := by
  unfold gh_cal at h ⊢
  obtain ⟨hb, h⟩ := gh_bif h
  rw [hb]
  cases hz : O u As W.1 with
  | none => rw [hz] at h; cases h
  | some q =>
    rw [hO _ _ _ _ hz]
    rw [hz] at h
    exact h
theorem gh_rest_mono {O O' : gh_O} (hO : gh_le O O') {bc bs : Nat} {sc : Option (Nat × (Nat → Int32))} {zr ini : Bool} {i : Instr} {u v : Nat} {w : Int32} {x : Int64} {pc : Nat} {st : List Value} {Wm : gh_W} {y : gh_N}
    (h : gh_rest O bc bs sc zr ini i u v w x pc st Wm = some y) : gh_rest O' bc bs sc zr ini i u v w x pc st Wm = some y := by
  unfold gh_rest at h
  split at h
  all_goals first
    | exact h
    | (cases h; done)
    | skip
  · show gh_sta O' bc bs u v pc st Wm = some y
    unfold gh_sta at h ⊢
    split at h
    · exact h
    · exact h
    · exact h
    · exact h
    · unfold gh_ivs at h ⊢
      obtain ⟨hb, h⟩ := gh_bif h
      rw [hb]
      exact gh_cal_mono hO h
  · show gh_vir O' bc bs u v pc st Wm = some y
    unfold gh_vir at h ⊢
    split at h
    · exact h
    · exact h
    · obtain ⟨h3, b, r, h4, h5, h6⟩ := gh_ivv_inv h
      unfold gh_ivv
      rw [Nat.ble_eq_true_of_le h3, h4]
      show (match Wm.1.1[b]? with
        | some (.inr ci) => bif Nat.beq ci (gh_oc u) then gh_cal O' bc bs u pc (.ref b :: (st.take v).reverse) r Wm else none
        | _ => none) = some y
      rw [h5]
      show (bif Nat.beq (gh_oc u) (gh_oc u) then gh_cal O' bc bs u pc (.ref b :: (st.take v).reverse) r Wm else none) = some y
      rw [Nat.beq_refl]
      exact gh_cal_mono hO h6
theorem gh_stp_mono {O O' : gh_O} (hO : gh_le O O') {bc bs : Nat} {sc : Option (Nat × (Nat → Int32))} {zr ini : Bool} {i : Instr} {u v : Nat} {w : Int32} {x : Int64} {pc : Nat} {lv : gh_L} {st : List Value} {Wm : gh_W} {y : gh_S ⊕ gh_R}
    (h : gh_stp O bc bs sc zr ini i u v w x pc lv st Wm = some y) : gh_stp O' bc bs sc zr ini i u v w x pc lv st Wm = some y := by
  unfold gh_stp at h ⊢
  split at h
  all_goals first
    | exact h
    | skip
  · unfold gh_lifv at h ⊢
    obtain ⟨hb, h⟩ := gh_bif h
    rw [hb]
    show gh_lift _ (gh_spe O' bc bs u v pc st Wm) = some y
    cases hz : gh_spe O bc bs u v pc st Wm with
    | none => rw [hz] at h; cases h
    | some q =>
      have e : gh_spe O' bc bs u v pc st Wm = some q := by
        unfold gh_spe at hz ⊢
        split at hz
        · exact hz
        · obtain ⟨hb, hz⟩ := gh_bif hz
          rw [hb]
          cases hd : st.drop v with
          | nil => rw [hd] at hz; cases hz
          | cons a r =>
            rw [hd] at hz
            cases a with
            | ref b => exact gh_cal_mono hO hz
            | _ => cases hz
      rw [e]
      rw [hz] at h
      exact h
  · cases hz : gh_rest O bc bs sc zr ini _ u v w x pc st Wm with
    | none => rw [hz] at h; cases h
    | some q =>
      rw [hz] at h
      rw [gh_rest_mono hO hz]
      exact h
theorem gh_run_mono {O O' : gh_O} (hO : gh_le O O') {f : Nat → Option gh_E} {bc bs : Nat} {sc : Option (Nat × (Nat → Int32))} {zr ini : Bool} : ∀ (n n' : Nat) (σ : gh_S) (r : gh_R), n ≤ n' → gh_run O f bc bs sc zr ini n σ = some r → gh_run O' f bc bs sc zr ini n' σ = some r := by
  intro n
  induction n with
  | zero => intro n' σ r _ h; cases h
  | succ n ih =>
    intro n' σ r hn h
    obtain ⟨k, rfl⟩ : ∃ k, n' = k + 1 := ⟨n' - 1, by omega⟩
    rw [gh_run] at h ⊢
    cases hs : gh_step O f bc bs sc zr ini σ with
    | none => rw [hs] at h; cases h
    | some y =>
      have e : gh_step O' f bc bs sc zr ini σ = some y := by
        unfold gh_step at hs ⊢
        cases hf : f σ.1 with
        | none => rw [hf] at hs; cases hs
        | some q =>
          rw [hf] at hs
          exact gh_stp_mono hO hs
      rw [e]
      rw [hs] at h
      cases y with
      | inl τ => exact ih k τ r (by omega) h
      | inr r' => exact h
theorem gh_ex_mono (F : Nat → Nat → Option gh_E) : ∀ d n n', n ≤ n' → gh_le (gh_ex F d n) (gh_ex F d n') := by
  intro d
  induction d with
  | zero => intro n n' _ z As M r h; cases h
  | succ d ih =>
    intro n n' hn z As M r h
    obtain ⟨y, M'⟩ := r
    obtain ⟨h1, h2, k, j, h3⟩ := gh_ex_inv h
    rw [gh_ex]
    have hb : (Nat.blt z gh_NZ && Nat.ble (lg_sl As).length (gh_ln z)) = true := by
      rw [Bool.and_eq_true]
      exact ⟨Nat.ble_eq_true_of_le h1, Nat.ble_eq_true_of_le h2⟩
    rw [hb, gh_run_mono (ih n n' hn) n n' _ _ hn h3]
    rfl
def gh_T (d : Nat) (f : Nat → Option gh_E) (bc bs : Nat) (sc : Option (Nat × (Nat → Int32))) (zr ini : Bool) (σ : gh_S) (r : gh_R) : Prop := ∃ n, gh_run (gh_ex gh_F d n) f bc bs sc zr ini n σ = some r
def gh_Mx (d z : Nat) (As : List Value) (M : gh_M) (y : Option Value) (M' : gh_M) : Prop := ∃ n, gh_ex gh_F d n z As M = some (y, M')
section GhT
variable {d : Nat} {f : Nat → Option gh_E} {bc bs : Nat} {sc : Option (Nat × (Nat → Int32))} {zr ini : Bool}
theorem gh_T_step {σ τ : gh_S} {r : gh_R} (h : ∀ O, gh_step O f bc bs sc zr ini σ = some (.inl τ)) (k : gh_T d f bc bs sc zr ini τ r) : gh_T d f bc bs sc zr ini σ r := by
  obtain ⟨n, hn⟩ := k
  refine ⟨n + 1, ?_⟩
  rw [gh_run, h]
  exact gh_run_mono (gh_ex_mono gh_F d n (n + 1) (by omega)) n n τ r (Nat.le_refl _) hn
theorem gh_T_ret {σ : gh_S} {r : gh_R} (h : ∀ O, gh_step O f bc bs sc zr ini σ = some (.inr r)) : gh_T d f bc bs sc zr ini σ r := ⟨1, by rw [gh_run, h]⟩
def gh_sts (O : gh_O) (f : Nat → Option gh_E) (bc bs : Nat) (sc : Option (Nat × (Nat → Int32))) (zr ini : Bool) : Nat → gh_S → Option gh_S
  | 0, σ => some σ
  | n + 1, σ => match gh_step O f bc bs sc zr ini σ with
    | some (.inl τ) => gh_sts O f bc bs sc zr ini n τ
    | _ => none
theorem gh_T_steps (n : Nat) {σ τ : gh_S} {r : gh_R} (h : ∀ O, gh_sts O f bc bs sc zr ini n σ = some τ) (k : gh_T d f bc bs sc zr ini τ r) : gh_T d f bc bs sc zr ini σ r := by
  obtain ⟨j, hj⟩ := k
  have key : ∀ (n : Nat) (σ : gh_S) (j : Nat) (O : gh_O), gh_sts O f bc bs sc zr ini n σ = some τ → gh_run O f bc bs sc zr ini j τ = some r → gh_run O f bc bs sc zr ini (n + j) σ = some r := by
    intro n
    induction n with
    | zero =>
      intro σ j O h1 h2
      cases h1
      rw [Nat.zero_add]
      exact h2
    | succ n ih =>
      intro σ j O h1 h2
      rw [show n + 1 + j = (n + j) + 1 by omega, gh_run]
      rw [gh_sts] at h1
      cases hs : gh_step O f bc bs sc zr ini σ with
      | none => rw [hs] at h1; cases h1
      | some y =>
        rw [hs] at h1
        cases y with
        | inl τ' => exact ih τ' j O h1 h2
        | inr _ => cases h1
  refine ⟨n + j, key n σ j _ (h _) ?_⟩
  exact gh_run_mono (gh_ex_mono gh_F d j (n + j) (by omega)) j j τ r (Nat.le_refl _) hj
theorem gh_T_call {σ τ : gh_S} {r : gh_R} {z : Nat} {As : List Value} {M : gh_M} {y : Option Value} {M' : gh_M} (hM : gh_Mx d z As M y M') (h : ∀ O : gh_O, O z As M = some (y, M') → gh_step O f bc bs sc zr ini σ = some (.inl τ)) (k : gh_T d f bc bs sc zr ini τ r) : gh_T d f bc bs sc zr ini σ r := by
  obtain ⟨n, hn⟩ := k
  obtain ⟨j, hj⟩ := hM
  refine ⟨n + j + 1, ?_⟩
  rw [gh_run, h _ (gh_ex_mono gh_F d j (n + j + 1) (by omega) _ _ _ _ hj)]
  exact gh_run_mono (gh_ex_mono gh_F d n (n + j + 1) (by omega)) n (n + j) τ r (by omega) hn
theorem gh_bi {α β : Type} {o : Option α} {g : α → Option β} {r : β} (h : o.bind g = some r) : ∃ x, o = some x ∧ g x = some r := by
  cases o with
  | none => cases h
  | some x => exact ⟨x, rfl, h⟩
end GhT

/-! ===== switches ===== -/
section GhSw
variable {d : Nat} {f : Nat → Option gh_E} {bc bs : Nat} {sc : Option (Nat × (Nat → Int32))} {zr ini : Bool} {pc ln u v : Nat} {w : Int32} {xx : Int64} {lv : gh_L} {st : List Value} {W : gh_W} {r : gh_R}
theorem gh_T_at {x : Int32} (k : Int32) {τ : gh_S} (hx : gh_cmp .eq x k = true) (h : ∀ O, gh_step O f bc bs sc zr ini (pc, lv, .int k :: st, W) = some (.inl τ)) (kk : gh_T d f bc bs sc zr ini τ r) : gh_T d f bc bs sc zr ini (pc, lv, .int x :: st, W) r := by
  have e : x = k := of_decide_eq_true hx
  subst e
  exact gh_T_step h kk
def gh_ne (x : Int32) : Nat → Prop
  | 0 => True
  | n + 1 => gh_ne x n ∧ gh_cmp .eq x (nI n) = false
theorem gh_ne_out {x : Int32} : ∀ n : Nat, n < 2 ^ 31 → gh_ne x n → x.toInt < 0 ∨ (n : Int) ≤ x.toInt := by
  intro n
  induction n with
  | zero => intro _ _; omega
  | succ n ih =>
    intro hn h
    have h1 := ih (by omega) h.1
    have h2 : ¬ x = nI n := of_decide_eq_false h.2
    rcases h1 with h1 | h1
    · exact Or.inl h1
    · refine Or.inr ?_
      have h3 : x.toInt ≠ (n : Int) := by
        intro q
        exact h2 (Int32.toInt_inj.mp (by rw [q, nI_toInt (by omega)]))
      omega
theorem gh_T_td {x : Int32} {dflt hi : Int} {offs : Array Int} {tgt : Nat} (n : Nat) (hf : f pc = some (.tableswitch dflt 0 hi offs, ln, u, v, w, xx)) (hn : hi + 1 = (n : Int)) (hlt : n < 2 ^ 31) (hx : gh_ne x n) (ht : (pc : Int) + dflt = (tgt : Int)) (kk : gh_T d f bc bs sc zr ini (tgt, lv, st, W) r) : gh_T d f bc bs sc zr ini (pc, lv, .int x :: st, W) r := by
  refine gh_T_step (fun O => ?_) kk
  unfold gh_step
  rw [hf]
  show gh_lift lv (if x.toInt < 0 ∨ hi < x.toInt then gh_to pc dflt st W else _) = _
  have h1 := gh_ne_out n hlt hx
  rw [if_pos (by omega)]
  unfold gh_to
  rw [if_pos (by omega), ht]
  rfl
theorem gh_T_ld {x : Int32} {dflt a b : Int} {tgt : Nat} (hf : f pc = some (.lookupswitch dflt #[(0, a), (1, b)], ln, u, v, w, xx)) (hx : gh_ne x 2) (ht : (pc : Int) + dflt = (tgt : Int)) (kk : gh_T d f bc bs sc zr ini (tgt, lv, st, W) r) : gh_T d f bc bs sc zr ini (pc, lv, .int x :: st, W) r := by
  refine gh_T_step (fun O => ?_) kk
  unfold gh_step
  rw [hf]
  have h1 := gh_ne_out 2 (by decide) hx
  have e : Op.lookupswitch.offset [(0, a), (1, b)] dflt x.toInt = dflt := by
    have n0 : ¬ (0 : Int) = x.toInt := by omega
    have n1 : ¬ (1 : Int) = x.toInt := by omega
    have m0 : ¬ x.toInt = (0 : Int) := by omega
    have m1 : ¬ x.toInt = (1 : Int) := by omega
    simp [Op.lookupswitch.offset, n0, n1, m0, m1]
  show gh_lift lv (gh_to pc (Op.lookupswitch.offset [(0, a), (1, b)] dflt x.toInt) st W) = _
  rw [e]
  unfold gh_to
  rw [if_pos (by omega), ht]
  rfl
/-! Strings: false is "dock", true is "price" -/
def gh_wd (b : Bool) : Nat := bif b then gh_SC + 2 else gh_SC + 1
def gh_wl (b : Bool) : Int32 := bif b then 5 else 4
theorem gh_T_ch {b : Bool} {k0 n : Nat} {k x : Int32} (hf : f pc = some (.invokevirtual k0, ln, 1005, n, w, xx)) (h : gh_ch b k = some x) (hrm : gh_rm st = true) (kk : gh_T d f bc bs sc zr ini (pc + 3, lv, .int x :: st, W) r) : gh_T d f bc bs sc zr ini (pc, lv, .int k :: .ref (gh_wd b) :: st, W) r := by
  obtain ⟨h1, rfl⟩ := gh_bs h
  refine gh_T_step (fun O => ?_) kk
  unfold gh_step
  rw [hf]
  show gh_lift lv (gh_sch pc (.int k :: .ref (gh_wd b) :: st) W) = _
  unfold gh_sch
  have e : gh_six (gh_wd b) = some (bif b then 1 else 0) := by cases b <;> rfl
  show gh_lift lv (match gh_six (gh_wd b) with
    | some i => bif gh_rm st && gh_in k (gh_sl.getD i 0) then gh_k (pc + 3) (.int (gh_sc i k) :: st) W else none
    | none => none) = _
  rw [e]
  show gh_lift lv (bif gh_rm st && gh_in k (gh_sl.getD (bif b then 1 else 0) 0) then gh_k (pc + 3) (.int (gh_sc (bif b then 1 else 0) k) :: st) W else none) = _
  rw [hrm, h1]
  rfl
end GhSw

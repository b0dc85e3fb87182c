def sX2_reachFrom_39 (N : Nat) (kc2 : Int32 → Int32 → Int32 → gh_St → Option (gh_St)) (l1 : Int32) (l2 : Int32) (l3 : Int32) (S : gh_St) : Option (gh_St) :=
  kc2 l1 l2 (l3 + 1) S
set_option maxRecDepth 100000 in
theorem kX2_reachFrom_39 (d N : Nat) (kc2 : Int32 → Int32 → Int32 → gh_St → Option (gh_St)) (hkc2 : ∀ (l1 : Int32) (l2 : Int32) (l3 : Int32) (S : gh_St) (r : gh_St), kc2 l1 l2 l3 S = some r → gh_T (d + 2) fX2_reachFrom 0 0 none false false (2, [(0, .ref 26), (1, .int l1), (2, .int l2), (3, .int l3)], [], (gh_mo S, 0, 0)) (none, (gh_mo r, 0, 0))) (l1 : Int32) (l2 : Int32) (l3 : Int32) (S : gh_St) (r : gh_St) (h : sX2_reachFrom_39 N kc2 l1 l2 l3 S = some r) : gh_T (d + 2) fX2_reachFrom 0 0 none false false (39, [(0, .ref 26), (1, .int l1), (2, .int l2), (3, .int l3)], [], (gh_mo S, 0, 0)) (none, (gh_mo r, 0, 0)) := by
  unfold sX2_reachFrom_39 at h
  refine gh_T_steps 2 (τ := (2, [(3, .int (l3 + 1)), (0, .ref 26), (1, .int l1), (2, .int l2)], [], (gh_mo S, 0, 0))) (fun _ => rfl) ?_
  refine gh_T_weak (lv := [(0, .ref 26), (1, .int l1), (2, .int l2), (3, .int (l3 + 1))]) ⟨rfl, rfl, rfl, rfl, trivial⟩ ?_
  exact hkc2 l1 l2 (l3 + 1) S _ h
def sX2_reachFrom_2 (N : Nat) : Nat → Int32 → Int32 → Int32 → gh_St → Option (gh_St)
  | 0, _, _, _, _ => none
  | n + 1, l1, l2, l3, S =>
    bif gh_cmp .ge l3 8 then
      (some S)
    else
      (bif gh_cmp .eq l3 l2 then
        (sX2_reachFrom_39 N (sX2_reachFrom_2 N n) l1 l2 l3 S)
      else
        ((gh_ra S 36 8 l3).bind fun x1 =>
        (gh_ra S 31 8 l3).bind fun x2 =>
        bif gh_cmp .eq ((x1 &&& x2) &&& ((1 : Int32) <<< (l1 &&& 31))) 0 then
          (sX2_reachFrom_39 N (sX2_reachFrom_2 N n) l1 l2 l3 S)
        else
          ((sX2_reachBy N l3 l1 S).bind fun q3 =>
          sX2_reachFrom_39 N (sX2_reachFrom_2 N n) l1 l2 l3 q3)))
set_option maxRecDepth 100000 in
theorem kX2_reachFrom_2 (d N : Nat) : ∀ (n : Nat) (l1 : Int32) (l2 : Int32) (l3 : Int32) (S : gh_St) (r : gh_St), sX2_reachFrom_2 N n l1 l2 l3 S = some r → gh_T (d + 2) fX2_reachFrom 0 0 none false false (2, [(0, .ref 26), (1, .int l1), (2, .int l2), (3, .int l3)], [], (gh_mo S, 0, 0)) (none, (gh_mo r, 0, 0)) := by
  intro n
  induction n with
  | zero =>
    intro l1 l2 l3 S r h
    cases h
  | succ n ih =>
    intro l1 l2 l3 S r h
    rw [sX2_reachFrom_2] at h
    refine gh_T_steps 2 (τ := (5, [(0, .ref 26), (1, .int l1), (2, .int l2), (3, .int l3)], [.int 8, .int l3], (gh_mo S, 0, 0))) (fun _ => rfl) ?_
    cases c6 : gh_cmp .ge l3 8 with
    | true =>
      rw [c6, cond_true] at h
      refine gh_T_ic true rfl c6 ?_
      cases h
      exact gh_T_ret (fun _ => rfl)
    | false =>
      rw [c6, cond_false] at h
      refine gh_T_ic false rfl c6 ?_
      refine gh_T_steps 2 (τ := (10, [(0, .ref 26), (1, .int l1), (2, .int l2), (3, .int l3)], [.int l2, .int l3], (gh_mo S, 0, 0))) (fun _ => rfl) ?_
      cases c5 : gh_cmp .eq l3 l2 with
      | true =>
        rw [c5, cond_true] at h
        refine gh_T_ic true rfl c5 ?_
        exact kX2_reachFrom_39 d N (sX2_reachFrom_2 N n) ih l1 l2 l3 S _ h
      | false =>
        rw [c5, cond_false] at h
        refine gh_T_ic false rfl c5 ?_
        refine gh_T_steps 3 (τ := (18, [(0, .ref 26), (1, .int l1), (2, .int l2), (3, .int l3)], [.int l3, .ref 36], (gh_mo S, 0, 0))) (fun _ => rfl) ?_
        obtain ⟨x1, hx1, h⟩ := gh_bi h
        refine gh_T_ra rfl rfl hx1 ?_
        refine gh_T_steps 3 (τ := (24, [(0, .ref 26), (1, .int l1), (2, .int l2), (3, .int l3)], [.int l3, .ref 31, .int x1], (gh_mo S, 0, 0))) (fun _ => rfl) ?_
        obtain ⟨x2, hx2, h⟩ := gh_bi h
        refine gh_T_ra rfl rfl hx2 ?_
        refine gh_T_steps 5 (τ := (30, [(0, .ref 26), (1, .int l1), (2, .int l2), (3, .int l3)], [.int ((x1 &&& x2) &&& ((1 : Int32) <<< (l1 &&& 31)))], (gh_mo S, 0, 0))) (fun _ => rfl) ?_
        cases c4 : gh_cmp .eq ((x1 &&& x2) &&& ((1 : Int32) <<< (l1 &&& 31))) 0 with
        | true =>
          rw [c4, cond_true] at h
          refine gh_T_if true rfl c4 ?_
          exact kX2_reachFrom_39 d N (sX2_reachFrom_2 N n) ih l1 l2 l3 S _ h
        | false =>
          rw [c4, cond_false] at h
          refine gh_T_if false rfl c4 ?_
          refine gh_T_steps 3 (τ := (36, [(0, .ref 26), (1, .int l1), (2, .int l2), (3, .int l3)], [.int l1, .int l3, .ref 26], (gh_mo S, 0, 0))) (fun _ => rfl) ?_
          obtain ⟨q3, hq3, h⟩ := gh_bi h
          refine gh_T_iv (As := [.int l3, .int l1]) (b := 26) (rest := []) (y := none) (M' := gh_mo q3) rfl rfl rfl rfl rfl rfl rfl rfl rfl ⟨Nat.le_refl _, Nat.le_refl _⟩ (kX2_reachBy d N l3 l1 S q3 hq3) ?_
          exact kX2_reachFrom_39 d N (sX2_reachFrom_2 N n) ih l1 l2 l3 q3 _ h
def sX2_reachFrom (N : Nat) (a1 : Int32) (a2 : Int32) (S : gh_St) : Option (gh_St) :=
  sX2_reachFrom_2 N N a1 a2 0 S
set_option maxRecDepth 100000 in
theorem kX2_reachFrom_e (d N : Nat) (a1 : Int32) (a2 : Int32) (S : gh_St) (r : gh_St) (h : sX2_reachFrom N a1 a2 S = some r) : gh_T (d + 2) fX2_reachFrom 0 0 none false false (0, [(0, .ref 26), (1, .int a1), (2, .int a2)], [], (gh_mo S, 0, 0)) (none, (gh_mo r, 0, 0)) := by
  unfold sX2_reachFrom at h
  refine gh_T_steps 2 (τ := (2, [(3, .int 0), (0, .ref 26), (1, .int a1), (2, .int a2)], [], (gh_mo S, 0, 0))) (fun _ => rfl) ?_
  refine gh_T_weak (lv := [(0, .ref 26), (1, .int a1), (2, .int a2), (3, .int 0)]) ⟨rfl, rfl, rfl, rfl, trivial⟩ ?_
  exact kX2_reachFrom_2 d N N a1 a2 0 S _ h
theorem kX2_reachFrom (d N : Nat) (a1 : Int32) (a2 : Int32) (S : gh_St) (r : gh_St) (h : sX2_reachFrom N a1 a2 S = some r) : gh_Mx (d + 3) 24 [.ref 26, .int a1, .int a2] (gh_mo S) none (gh_mo r) :=
  gh_Mx_of rfl rfl rfl rfl rfl rfl (kX2_reachFrom_e d N a1 a2 S r h)
def sX2_exchange_105 (N : Nat) (kc19 : Int32 → Int32 → gh_St → Option (gh_St)) (l1 : Int32) (l3 : Int32) (S : gh_St) : Option (gh_St) :=
  kc19 l1 (l3 + 1) S
set_option maxRecDepth 100000 in
theorem kX2_exchange_105 (d N : Nat) (kc19 : Int32 → Int32 → gh_St → Option (gh_St)) (hkc19 : ∀ (l1 : Int32) (l3 : Int32) (S : gh_St) (r : gh_St), kc19 l1 l3 S = some r → gh_T (d + 3) fX2_exchange 0 0 none false false (19, [(0, .ref 26), (1, .int l1), (3, .int l3)], [], (gh_mo S, 0, 0)) (none, (gh_mo r, 0, 0))) (l1 : Int32) (l3 : Int32) (S : gh_St) (r : gh_St) (h : sX2_exchange_105 N kc19 l1 l3 S = some r) : gh_T (d + 3) fX2_exchange 0 0 none false false (105, [(0, .ref 26), (1, .int l1), (3, .int l3)], [], (gh_mo S, 0, 0)) (none, (gh_mo r, 0, 0)) := by
  unfold sX2_exchange_105 at h
  refine gh_T_steps 2 (τ := (19, [(3, .int (l3 + 1)), (0, .ref 26), (1, .int l1)], [], (gh_mo S, 0, 0))) (fun _ => rfl) ?_
  refine gh_T_weak (lv := [(0, .ref 26), (1, .int l1), (3, .int (l3 + 1))]) ⟨rfl, rfl, rfl, trivial⟩ ?_
  exact hkc19 l1 (l3 + 1) S _ h
def sX2_exchange_19 (N : Nat) : Nat → Int32 → Int32 → gh_St → Option (gh_St)
  | 0, _, _, _ => none
  | n + 1, l1, l3, S =>
    bif gh_cmp .ge l3 (S.1 26 11) then
      (some S)
    else
      ((gh_ra S 33 12 l3).bind fun x1 =>
      (gh_ra S 36 8 l1).bind fun x2 =>
      (gh_ra S 31 8 l1).bind fun x3 =>
      bif gh_cmp .eq ((x2 &&& x3) &&& ((1 : Int32) <<< (x1 &&& 31))) 0 then
        ((sX2_reachFrom N x1 l1 S).bind fun q4 =>
        (gh_ra q4 32 12 x1).bind fun x5 =>
        bif gh_cmp .ge x5 (q4.1 26 10) then
          (sX2_exchange_105 N (sX2_exchange_19 N n) l1 l3 q4)
        else
          ((sX2_reachBySpare N x1 q4).bind fun q6 =>
          sX2_exchange_105 N (sX2_exchange_19 N n) l1 l3 q6))
      else
        ((gh_ra S 36 8 l1).bind fun x8 =>
        (gh_wa S 36 8 l1 (x8 &&& (((1 : Int32) <<< (x1 &&& 31)) ^^^ (-1 : Int32)))).bind fun S9 =>
        (sX2_shift N x1 S9).bind fun q10 =>
        some q10))
set_option maxRecDepth 100000 in
theorem kX2_exchange_19 (d N : Nat) : ∀ (n : Nat) (l1 : Int32) (l3 : Int32) (S : gh_St) (r : gh_St), sX2_exchange_19 N n l1 l3 S = some r → gh_T (d + 3) fX2_exchange 0 0 none false false (19, [(0, .ref 26), (1, .int l1), (3, .int l3)], [], (gh_mo S, 0, 0)) (none, (gh_mo r, 0, 0)) := by
  intro n
  induction n with
  | zero =>
    intro l1 l3 S r h
    cases h
  | succ n ih =>
    intro l1 l3 S r h
    rw [sX2_exchange_19] at h
    refine gh_T_steps 3 (τ := (24, [(0, .ref 26), (1, .int l1), (3, .int l3)], [.int (S.1 26 11), .int l3], (gh_mo S, 0, 0))) (fun _ => rfl) ?_
    cases c12 : gh_cmp .ge l3 (S.1 26 11) with
    | true =>
      rw [c12, cond_true] at h
      refine gh_T_ic true rfl c12 ?_
      cases h
      exact gh_T_ret (fun _ => rfl)
    | false =>
      rw [c12, cond_false] at h
      refine gh_T_ic false rfl c12 ?_
      refine gh_T_steps 3 (τ := (32, [(0, .ref 26), (1, .int l1), (3, .int l3)], [.int l3, .ref 33], (gh_mo S, 0, 0))) (fun _ => rfl) ?_
      obtain ⟨x1, hx1, h⟩ := gh_bi h
      refine gh_T_ra rfl rfl hx1 ?_
      refine gh_T_steps 4 (τ := (40, [(4, .int x1), (0, .ref 26), (1, .int l1), (3, .int l3)], [.int l1, .ref 36], (gh_mo S, 0, 0))) (fun _ => rfl) ?_
      obtain ⟨x2, hx2, h⟩ := gh_bi h
      refine gh_T_ra rfl rfl hx2 ?_
      refine gh_T_steps 3 (τ := (46, [(4, .int x1), (0, .ref 26), (1, .int l1), (3, .int l3)], [.int l1, .ref 31, .int x2], (gh_mo S, 0, 0))) (fun _ => rfl) ?_
      obtain ⟨x3, hx3, h⟩ := gh_bi h
      refine gh_T_ra rfl rfl hx3 ?_
      refine gh_T_steps 5 (τ := (53, [(4, .int x1), (0, .ref 26), (1, .int l1), (3, .int l3)], [.int ((x2 &&& x3) &&& ((1 : Int32) <<< (x1 &&& 31)))], (gh_mo S, 0, 0))) (fun _ => rfl) ?_
      cases c11 : gh_cmp .eq ((x2 &&& x3) &&& ((1 : Int32) <<< (x1 &&& 31))) 0 with
      | true =>
        rw [c11, cond_true] at h
        refine gh_T_if true rfl c11 ?_
        refine gh_T_steps 3 (τ := (82, [(4, .int x1), (0, .ref 26), (1, .int l1), (3, .int l3)], [.int l1, .int x1, .ref 26], (gh_mo S, 0, 0))) (fun _ => rfl) ?_
        obtain ⟨q4, hq4, h⟩ := gh_bi h
        refine gh_T_iv (As := [.int x1, .int l1]) (b := 26) (rest := []) (y := none) (M' := gh_mo q4) rfl rfl rfl rfl rfl rfl rfl rfl rfl ⟨Nat.le_refl _, Nat.le_refl _⟩ (kX2_reachFrom d N x1 l1 S q4 hq4) ?_
        refine gh_T_steps 3 (τ := (91, [(4, .int x1), (0, .ref 26), (1, .int l1), (3, .int l3)], [.int x1, .ref 32], (gh_mo q4, 0, 0))) (fun _ => rfl) ?_
        obtain ⟨x5, hx5, h⟩ := gh_bi h
        refine gh_T_ra rfl rfl hx5 ?_
        refine gh_T_steps 2 (τ := (96, [(4, .int x1), (0, .ref 26), (1, .int l1), (3, .int l3)], [.int (q4.1 26 10), .int x5], (gh_mo q4, 0, 0))) (fun _ => rfl) ?_
        cases c7 : gh_cmp .ge x5 (q4.1 26 10) with
        | true =>
          rw [c7, cond_true] at h
          refine gh_T_ic true rfl c7 ?_
          refine gh_T_weak (lv := [(0, .ref 26), (1, .int l1), (3, .int l3)]) ⟨rfl, rfl, rfl, trivial⟩ ?_
          exact kX2_exchange_105 d N (sX2_exchange_19 N n) ih l1 l3 q4 _ h
        | false =>
          rw [c7, cond_false] at h
          refine gh_T_ic false rfl c7 ?_
          refine gh_T_steps 2 (τ := (102, [(4, .int x1), (0, .ref 26), (1, .int l1), (3, .int l3)], [.int x1, .ref 26], (gh_mo q4, 0, 0))) (fun _ => rfl) ?_
          obtain ⟨q6, hq6, h⟩ := gh_bi h
          refine gh_T_iv (As := [.int x1]) (b := 26) (rest := []) (y := none) (M' := gh_mo q6) rfl rfl rfl rfl rfl rfl rfl rfl rfl ⟨Nat.le_refl _, Nat.le_refl _⟩ (kX2_reachBySpare (d + 1) N x1 q4 q6 hq6) ?_
          refine gh_T_weak (lv := [(0, .ref 26), (1, .int l1), (3, .int l3)]) ⟨rfl, rfl, rfl, trivial⟩ ?_
          exact kX2_exchange_105 d N (sX2_exchange_19 N n) ih l1 l3 q6 _ h
      | false =>
        rw [c11, cond_false] at h
        refine gh_T_if false rfl c11 ?_
        refine gh_T_steps 4 (τ := (62, [(4, .int x1), (0, .ref 26), (1, .int l1), (3, .int l3)], [.int l1, .ref 36, .int l1, .ref 36], (gh_mo S, 0, 0))) (fun _ => rfl) ?_
        obtain ⟨x8, hx8, h⟩ := gh_bi h
        refine gh_T_ra rfl rfl hx8 ?_
        refine gh_T_steps 6 (τ := (70, [(4, .int x1), (0, .ref 26), (1, .int l1), (3, .int l3)], [.int (x8 &&& (((1 : Int32) <<< (x1 &&& 31)) ^^^ (-1 : Int32))), .int l1, .ref 36], (gh_mo S, 0, 0))) (fun _ => rfl) ?_
        obtain ⟨S9, hS9, h⟩ := gh_bi h
        refine gh_T_wa rfl rfl hS9 ?_
        refine gh_T_steps 2 (τ := (74, [(4, .int x1), (0, .ref 26), (1, .int l1), (3, .int l3)], [.int x1, .ref 26], (gh_mo S9, 0, 0))) (fun _ => rfl) ?_
        obtain ⟨q10, hq10, h⟩ := gh_bi h
        refine gh_T_iv (As := [.int x1]) (b := 26) (rest := []) (y := none) (M' := gh_mo q10) rfl rfl rfl rfl rfl rfl rfl rfl rfl ⟨Nat.le_refl _, Nat.le_refl _⟩ (kX2_shift (d + 2) N x1 S9 q10 hq10) ?_
        cases h
        exact gh_T_ret (fun _ => rfl)
def sX2_exchange (N : Nat) (a1 : Int32) (a2 : Int32) (S : gh_St) : Option (gh_St) :=
  (sX2_reach N a2 a1 ((-1)) (gh_fI (gh_fI S 26 11 0) 26 12 0)).bind fun q1 =>
  sX2_exchange_19 N N a1 0 q1
set_option maxRecDepth 100000 in
theorem kX2_exchange_e (d N : Nat) (a1 : Int32) (a2 : Int32) (S : gh_St) (r : gh_St) (h : sX2_exchange N a1 a2 S = some r) : gh_T (d + 3) fX2_exchange 0 0 none false false (0, [(0, .ref 26), (1, .int a1), (2, .int a2)], [], (gh_mo S, 0, 0)) (none, (gh_mo r, 0, 0)) := by
  unfold sX2_exchange at h
  refine gh_T_steps 10 (τ := (14, [(0, .ref 26), (1, .int a1), (2, .int a2)], [.int ((-1)), .int a1, .int a2, .ref 26], (gh_mo (gh_fI (gh_fI S 26 11 0) 26 12 0), 0, 0))) (fun _ => rfl) ?_
  obtain ⟨q1, hq1, h⟩ := gh_bi h
  refine gh_T_iv (As := [.int a2, .int a1, .int ((-1))]) (b := 26) (rest := []) (y := none) (M' := gh_mo q1) rfl rfl rfl rfl rfl rfl rfl rfl rfl ⟨Nat.le_refl _, Nat.le_refl _⟩ (kX2_reach (d + 2) N a2 a1 ((-1)) (gh_fI (gh_fI S 26 11 0) 26 12 0) q1 hq1) ?_
  refine gh_T_steps 2 (τ := (19, [(3, .int 0), (0, .ref 26), (1, .int a1), (2, .int a2)], [], (gh_mo q1, 0, 0))) (fun _ => rfl) ?_
  refine gh_T_weak (lv := [(0, .ref 26), (1, .int a1), (3, .int 0)]) ⟨rfl, rfl, rfl, trivial⟩ ?_
  exact kX2_exchange_19 d N N a1 0 q1 _ h
theorem kX2_exchange (d N : Nat) (a1 : Int32) (a2 : Int32) (S : gh_St) (r : gh_St) (h : sX2_exchange N a1 a2 S = some r) : gh_Mx (d + 4) 27 [.ref 26, .int a1, .int a2] (gh_mo S) none (gh_mo r) :=
  gh_Mx_of rfl rfl rfl rfl rfl rfl (kX2_exchange_e d N a1 a2 S r h)
def sX3_value (N : Nat) (b : Bool) (a1 : Int32) (S : gh_St) : Option (Int32 × gh_St) :=
  (gh_ra S 8 100 a1).bind fun x1 =>
  (gh_ra S 9 100 a1).bind fun x2 =>
  (gh_ra S 10 100 a1).bind fun x3 =>
  (sX5_value N b x1 x2 x3 S).bind fun q4 =>
  some (q4.1, q4.2)
set_option maxRecDepth 100000 in
theorem kX3_value_e (d N : Nat) (b : Bool) (a1 : Int32) (S : gh_St) (r : Int32 × gh_St) (h : sX3_value N b a1 S = some r) : gh_T (d + 1) fX3_value 0 0 none false false (0, [(0, .ref 6), (1, .int a1), (2, .ref (gh_pl b))], [], (gh_mo S, 0, 0)) (some (.int r.1), (gh_mo r.2, 0, 0)) := by
  unfold sX3_value at h
  cases b with
  | false =>
    refine gh_T_steps 4 (τ := (6, [(0, .ref 6), (1, .int a1), (2, .ref (gh_pl false))], [.int a1, .ref 8, .ref (gh_pl false)], (gh_mo S, 0, 0))) (fun _ => rfl) ?_
    obtain ⟨x1, hx1, h⟩ := gh_bi h
    refine gh_T_ra rfl rfl hx1 ?_
    refine gh_T_steps 3 (τ := (12, [(0, .ref 6), (1, .int a1), (2, .ref (gh_pl false))], [.int a1, .ref 9, .int x1, .ref (gh_pl false)], (gh_mo S, 0, 0))) (fun _ => rfl) ?_
    obtain ⟨x2, hx2, h⟩ := gh_bi h
    refine gh_T_ra rfl rfl hx2 ?_
    refine gh_T_steps 3 (τ := (18, [(0, .ref 6), (1, .int a1), (2, .ref (gh_pl false))], [.int a1, .ref 10, .int x2, .int x1, .ref (gh_pl false)], (gh_mo S, 0, 0))) (fun _ => rfl) ?_
    obtain ⟨x3, hx3, h⟩ := gh_bi h
    refine gh_T_ra rfl rfl hx3 ?_
    obtain ⟨q4, hq4, h⟩ := gh_bi h
    refine gh_T_iv (As := [.int x1, .int x2, .int x3]) (b := gh_pl false) (rest := []) (y := some (.int q4.1)) (M' := gh_mo q4.2) rfl rfl rfl rfl rfl rfl rfl rfl rfl ⟨Nat.le_refl _, Nat.le_refl _⟩ (kX5_value d N false x1 x2 x3 S q4 hq4) ?_
    cases h
    exact gh_T_ret (fun _ => rfl)
  | true =>
    refine gh_T_steps 4 (τ := (6, [(0, .ref 6), (1, .int a1), (2, .ref (gh_pl true))], [.int a1, .ref 8, .ref (gh_pl true)], (gh_mo S, 0, 0))) (fun _ => rfl) ?_
    obtain ⟨x1, hx1, h⟩ := gh_bi h
    refine gh_T_ra rfl rfl hx1 ?_
    refine gh_T_steps 3 (τ := (12, [(0, .ref 6), (1, .int a1), (2, .ref (gh_pl true))], [.int a1, .ref 9, .int x1, .ref (gh_pl true)], (gh_mo S, 0, 0))) (fun _ => rfl) ?_
    obtain ⟨x2, hx2, h⟩ := gh_bi h
    refine gh_T_ra rfl rfl hx2 ?_
    refine gh_T_steps 3 (τ := (18, [(0, .ref 6), (1, .int a1), (2, .ref (gh_pl true))], [.int a1, .ref 10, .int x2, .int x1, .ref (gh_pl true)], (gh_mo S, 0, 0))) (fun _ => rfl) ?_
    obtain ⟨x3, hx3, h⟩ := gh_bi h
    refine gh_T_ra rfl rfl hx3 ?_
    obtain ⟨q4, hq4, h⟩ := gh_bi h
    refine gh_T_iv (As := [.int x1, .int x2, .int x3]) (b := gh_pl true) (rest := []) (y := some (.int q4.1)) (M' := gh_mo q4.2) rfl rfl rfl rfl rfl rfl rfl rfl rfl ⟨Nat.le_refl _, Nat.le_refl _⟩ (kX5_value d N true x1 x2 x3 S q4 hq4) ?_
    cases h
    exact gh_T_ret (fun _ => rfl)
theorem kX3_value (d N : Nat) (b : Bool) (a1 : Int32) (S : gh_St) (r : Int32 × gh_St) (h : sX3_value N b a1 S = some r) : gh_Mx (d + 2) 32 [.ref 6, .int a1, .ref (gh_pl b)] (gh_mo S) (some (.int r.1)) (gh_mo r.2) :=
  gh_Mx_of rfl rfl rfl rfl rfl rfl (kX3_value_e d N b a1 S r h)
def sX3_valueOf_36 (N : Nat) (b : Bool) (kc5 : Int32 → Int64 → Int32 → gh_St → Option (Int64 × gh_St)) (l1 : Int32) (l3 : Int64) (l5 : Int32) (S : gh_St) : Option (Int64 × gh_St) :=
  kc5 l1 l3 (l5 + 1) S
set_option maxRecDepth 100000 in
theorem kX3_valueOf_36 (d N : Nat) (b : Bool) (kc5 : Int32 → Int64 → Int32 → gh_St → Option (Int64 × gh_St)) (hkc5 : ∀ (l1 : Int32) (l3 : Int64) (l5 : Int32) (S : gh_St) (r : Int64 × gh_St), kc5 l1 l3 l5 S = some r → gh_T (d + 2) fX3_valueOf 0 0 none false false (5, [(0, .ref 6), (1, .int l1), (2, .ref (gh_pl b)), (3, .long l3), (5, .int l5)], [], (gh_mo S, 0, 0)) (some (.long r.1), (gh_mo r.2, 0, 0))) (l1 : Int32) (l3 : Int64) (l5 : Int32) (S : gh_St) (r : Int64 × gh_St) (h : sX3_valueOf_36 N b kc5 l1 l3 l5 S = some r) : gh_T (d + 2) fX3_valueOf 0 0 none false false (36, [(0, .ref 6), (1, .int l1), (2, .ref (gh_pl b)), (3, .long l3), (5, .int l5)], [], (gh_mo S, 0, 0)) (some (.long r.1), (gh_mo r.2, 0, 0)) := by
  unfold sX3_valueOf_36 at h
  cases b with
  | false =>
    refine gh_T_steps 2 (τ := (5, [(5, .int (l5 + 1)), (0, .ref 6), (1, .int l1), (2, .ref (gh_pl false)), (3, .long l3)], [], (gh_mo S, 0, 0))) (fun _ => rfl) ?_
    refine gh_T_weak (lv := [(0, .ref 6), (1, .int l1), (2, .ref (gh_pl false)), (3, .long l3), (5, .int (l5 + 1))]) ⟨rfl, rfl, rfl, rfl, rfl, trivial⟩ ?_
    exact hkc5 l1 l3 (l5 + 1) S _ h
  | true =>
    refine gh_T_steps 2 (τ := (5, [(5, .int (l5 + 1)), (0, .ref 6), (1, .int l1), (2, .ref (gh_pl true)), (3, .long l3)], [], (gh_mo S, 0, 0))) (fun _ => rfl) ?_
    refine gh_T_weak (lv := [(0, .ref 6), (1, .int l1), (2, .ref (gh_pl true)), (3, .long l3), (5, .int (l5 + 1))]) ⟨rfl, rfl, rfl, rfl, rfl, trivial⟩ ?_
    exact hkc5 l1 l3 (l5 + 1) S _ h
def sX3_valueOf_5 (N : Nat) (b : Bool) : Nat → Int32 → Int64 → Int32 → gh_St → Option (Int64 × gh_St)
  | 0, _, _, _, _ => none
  | n + 1, l1, l3, l5, S =>
    bif gh_cmp .ge l5 (S.1 6 4) then
      (some (l3, S))
    else
      ((gh_ra S 7 100 l5).bind fun x1 =>
      bif gh_cmp .ne x1 l1 then
        (sX3_valueOf_36 N b (sX3_valueOf_5 N b n) l1 l3 l5 S)
      else
        ((sX3_value N b l5 S).bind fun q2 =>
        sX3_valueOf_36 N b (sX3_valueOf_5 N b n) l1 (l3 + ((q2.1 : Int32).toInt64)) l5 q2.2))
set_option maxRecDepth 100000 in
theorem kX3_valueOf_5 (d N : Nat) (b : Bool) : ∀ (n : Nat) (l1 : Int32) (l3 : Int64) (l5 : Int32) (S : gh_St) (r : Int64 × gh_St), sX3_valueOf_5 N b n l1 l3 l5 S = some r → gh_T (d + 2) fX3_valueOf 0 0 none false false (5, [(0, .ref 6), (1, .int l1), (2, .ref (gh_pl b)), (3, .long l3), (5, .int l5)], [], (gh_mo S, 0, 0)) (some (.long r.1), (gh_mo r.2, 0, 0)) := by
  cases b with
  | false =>
    intro n
    induction n with
    | zero =>
      intro l1 l3 l5 S r h
      cases h
    | succ n ih =>
      intro l1 l3 l5 S r h
      rw [sX3_valueOf_5] at h
      refine gh_T_steps 3 (τ := (11, [(0, .ref 6), (1, .int l1), (2, .ref (gh_pl false)), (3, .long l3), (5, .int l5)], [.int (S.1 6 4), .int l5], (gh_mo S, 0, 0))) (fun _ => rfl) ?_
      cases c4 : gh_cmp .ge l5 (S.1 6 4) with
      | true =>
        rw [c4, cond_true] at h
        refine gh_T_ic true rfl c4 ?_
        refine gh_T_steps 1 (τ := (43, [(0, .ref 6), (1, .int l1), (2, .ref (gh_pl false)), (3, .long l3), (5, .int l5)], [.long l3], (gh_mo S, 0, 0))) (fun _ => rfl) ?_
        cases h
        exact gh_T_ret (fun _ => rfl)
      | false =>
        rw [c4, cond_false] at h
        refine gh_T_ic false rfl c4 ?_
        refine gh_T_steps 3 (τ := (20, [(0, .ref 6), (1, .int l1), (2, .ref (gh_pl false)), (3, .long l3), (5, .int l5)], [.int l5, .ref 7], (gh_mo S, 0, 0))) (fun _ => rfl) ?_
        obtain ⟨x1, hx1, h⟩ := gh_bi h
        refine gh_T_ra rfl rfl hx1 ?_
        refine gh_T_steps 1 (τ := (22, [(0, .ref 6), (1, .int l1), (2, .ref (gh_pl false)), (3, .long l3), (5, .int l5)], [.int l1, .int x1], (gh_mo S, 0, 0))) (fun _ => rfl) ?_
        cases c3 : gh_cmp .ne x1 l1 with
        | true =>
          rw [c3, cond_true] at h
          refine gh_T_ic true rfl c3 ?_
          exact kX3_valueOf_36 d N false (sX3_valueOf_5 N false n) ih l1 l3 l5 S _ h
        | false =>
          rw [c3, cond_false] at h
          refine gh_T_ic false rfl c3 ?_
          refine gh_T_steps 4 (τ := (30, [(0, .ref 6), (1, .int l1), (2, .ref (gh_pl false)), (3, .long l3), (5, .int l5)], [.ref (gh_pl false), .int l5, .ref 6, .long l3], (gh_mo S, 0, 0))) (fun _ => rfl) ?_
          obtain ⟨q2, hq2, h⟩ := gh_bi h
          refine gh_T_iv (As := [.int l5, .ref (gh_pl false)]) (b := 6) (rest := [.long l3]) (y := some (.int q2.1)) (M' := gh_mo q2.2) rfl rfl rfl rfl rfl rfl rfl rfl rfl ⟨Nat.le_refl _, Nat.le_refl _⟩ (kX3_value d N false l5 S q2 hq2) ?_
          refine gh_T_steps 3 (τ := (36, [(3, .long (l3 + ((q2.1 : Int32).toInt64))), (0, .ref 6), (1, .int l1), (2, .ref (gh_pl false)), (5, .int l5)], [], (gh_mo q2.2, 0, 0))) (fun _ => rfl) ?_
          refine gh_T_weak (lv := [(0, .ref 6), (1, .int l1), (2, .ref (gh_pl false)), (3, .long (l3 + ((q2.1 : Int32).toInt64))), (5, .int l5)]) ⟨rfl, rfl, rfl, rfl, rfl, trivial⟩ ?_
          exact kX3_valueOf_36 d N false (sX3_valueOf_5 N false n) ih l1 (l3 + ((q2.1 : Int32).toInt64)) l5 q2.2 _ h
  | true =>
    intro n
    induction n with
    | zero =>
      intro l1 l3 l5 S r h
      cases h
    | succ n ih =>
      intro l1 l3 l5 S r h
      rw [sX3_valueOf_5] at h
      refine gh_T_steps 3 (τ := (11, [(0, .ref 6), (1, .int l1), (2, .ref (gh_pl true)), (3, .long l3), (5, .int l5)], [.int (S.1 6 4), .int l5], (gh_mo S, 0, 0))) (fun _ => rfl) ?_
      cases c4 : gh_cmp .ge l5 (S.1 6 4) with
      | true =>
        rw [c4, cond_true] at h
        refine gh_T_ic true rfl c4 ?_
        refine gh_T_steps 1 (τ := (43, [(0, .ref 6), (1, .int l1), (2, .ref (gh_pl true)), (3, .long l3), (5, .int l5)], [.long l3], (gh_mo S, 0, 0))) (fun _ => rfl) ?_
        cases h
        exact gh_T_ret (fun _ => rfl)
      | false =>
        rw [c4, cond_false] at h
        refine gh_T_ic false rfl c4 ?_
        refine gh_T_steps 3 (τ := (20, [(0, .ref 6), (1, .int l1), (2, .ref (gh_pl true)), (3, .long l3), (5, .int l5)], [.int l5, .ref 7], (gh_mo S, 0, 0))) (fun _ => rfl) ?_
        obtain ⟨x1, hx1, h⟩ := gh_bi h
        refine gh_T_ra rfl rfl hx1 ?_
        refine gh_T_steps 1 (τ := (22, [(0, .ref 6), (1, .int l1), (2, .ref (gh_pl true)), (3, .long l3), (5, .int l5)], [.int l1, .int x1], (gh_mo S, 0, 0))) (fun _ => rfl) ?_
        cases c3 : gh_cmp .ne x1 l1 with
        | true =>
          rw [c3, cond_true] at h
          refine gh_T_ic true rfl c3 ?_
          exact kX3_valueOf_36 d N true (sX3_valueOf_5 N true n) ih l1 l3 l5 S _ h
        | false =>
          rw [c3, cond_false] at h
          refine gh_T_ic false rfl c3 ?_
          refine gh_T_steps 4 (τ := (30, [(0, .ref 6), (1, .int l1), (2, .ref (gh_pl true)), (3, .long l3), (5, .int l5)], [.ref (gh_pl true), .int l5, .ref 6, .long l3], (gh_mo S, 0, 0))) (fun _ => rfl) ?_
          obtain ⟨q2, hq2, h⟩ := gh_bi h
          refine gh_T_iv (As := [.int l5, .ref (gh_pl true)]) (b := 6) (rest := [.long l3]) (y := some (.int q2.1)) (M' := gh_mo q2.2) rfl rfl rfl rfl rfl rfl rfl rfl rfl ⟨Nat.le_refl _, Nat.le_refl _⟩ (kX3_value d N true l5 S q2 hq2) ?_
          refine gh_T_steps 3 (τ := (36, [(3, .long (l3 + ((q2.1 : Int32).toInt64))), (0, .ref 6), (1, .int l1), (2, .ref (gh_pl true)), (5, .int l5)], [], (gh_mo q2.2, 0, 0))) (fun _ => rfl) ?_
          refine gh_T_weak (lv := [(0, .ref 6), (1, .int l1), (2, .ref (gh_pl true)), (3, .long (l3 + ((q2.1 : Int32).toInt64))), (5, .int l5)]) ⟨rfl, rfl, rfl, rfl, rfl, trivial⟩ ?_
          exact kX3_valueOf_36 d N true (sX3_valueOf_5 N true n) ih l1 (l3 + ((q2.1 : Int32).toInt64)) l5 q2.2 _ h
def sX3_valueOf (N : Nat) (b : Bool) (a1 : Int32) (S : gh_St) : Option (Int64 × gh_St) :=
  sX3_valueOf_5 N b N a1 0 0 S
set_option maxRecDepth 100000 in
theorem kX3_valueOf_e (d N : Nat) (b : Bool) (a1 : Int32) (S : gh_St) (r : Int64 × gh_St) (h : sX3_valueOf N b a1 S = some r) : gh_T (d + 2) fX3_valueOf 0 0 none false false (0, [(0, .ref 6), (1, .int a1), (2, .ref (gh_pl b))], [], (gh_mo S, 0, 0)) (some (.long r.1), (gh_mo r.2, 0, 0)) := by
  unfold sX3_valueOf at h
  cases b with
  | false =>
    refine gh_T_steps 4 (τ := (5, [(5, .int 0), (3, .long 0), (0, .ref 6), (1, .int a1), (2, .ref (gh_pl false))], [], (gh_mo S, 0, 0))) (fun _ => rfl) ?_
    refine gh_T_weak (lv := [(0, .ref 6), (1, .int a1), (2, .ref (gh_pl false)), (3, .long 0), (5, .int 0)]) ⟨rfl, rfl, rfl, rfl, rfl, trivial⟩ ?_
    exact kX3_valueOf_5 d N false N a1 0 0 S _ h
  | true =>
    refine gh_T_steps 4 (τ := (5, [(5, .int 0), (3, .long 0), (0, .ref 6), (1, .int a1), (2, .ref (gh_pl true))], [], (gh_mo S, 0, 0))) (fun _ => rfl) ?_
    refine gh_T_weak (lv := [(0, .ref 6), (1, .int a1), (2, .ref (gh_pl true)), (3, .long 0), (5, .int 0)]) ⟨rfl, rfl, rfl, rfl, rfl, trivial⟩ ?_
    exact kX3_valueOf_5 d N true N a1 0 0 S _ h
theorem kX3_valueOf (d N : Nat) (b : Bool) (a1 : Int32) (S : gh_St) (r : Int64 × gh_St) (h : sX3_valueOf N b a1 S = some r) : gh_Mx (d + 3) 33 [.ref 6, .int a1, .ref (gh_pl b)] (gh_mo S) (some (.long r.1)) (gh_mo r.2) :=
  gh_Mx_of rfl rfl rfl rfl rfl rfl (kX3_valueOf_e d N b a1 S r h)
def sX4_add (N : Nat) (a1 : Int32) (a2 : Int32) (a3 : Int32) (S : gh_St) : Option (Int32 × gh_St) :=
  (sX9_within N a1 0 11 S).bind fun q1 =>
  bif gh_cmp .eq q1.1 0 then
    (some ((-1), q1.2))
  else
    ((sX9_within N a2 0 11 q1.2).bind fun q2 =>
    bif gh_cmp .eq q2.1 0 then
      (some ((-1), q2.2))
    else
      (bif gh_cmp .ne a1 a2 then
        ((sX9_within N a3 1 60 q2.2).bind fun q3 =>
        bif gh_cmp .eq q3.1 0 then
          (some ((-1), q3.2))
        else
          (bif gh_cmp .lt (q3.2.1 11 7) 20 then
            ((gh_wa q3.2 12 20 (q3.2.1 11 7) a1).bind fun S4 =>
            (gh_wa S4 13 20 (S4.1 11 7) a2).bind fun S5 =>
            (gh_wa S5 14 20 (S5.1 11 7) a3).bind fun S6 =>
            (gh_wa S6 15 20 (S6.1 11 7) ((-1))).bind fun S7 =>
            some (((gh_fI S7 11 7 ((S7.1 11 7) + (1 : Int32))).1 11 7) - (1 : Int32), gh_fI S7 11 7 ((S7.1 11 7) + (1 : Int32))))
          else
            (some ((-1), q3.2))))
      else
        (some ((-1), q2.2))))
set_option maxRecDepth 100000 in
theorem kX4_add_e (d N : Nat) (a1 : Int32) (a2 : Int32) (a3 : Int32) (S : gh_St) (r : Int32 × gh_St) (h : sX4_add N a1 a2 a3 S = some r) : gh_T (d + 1) fX4_add 0 0 none false false (0, [(0, .ref 11), (1, .int a1), (2, .int a2), (3, .int a3)], [], (gh_mo S, 0, 0)) (some (.int r.1), (gh_mo r.2, 0, 0)) := by
  unfold sX4_add at h
  refine gh_T_steps 3 (τ := (4, [(0, .ref 11), (1, .int a1), (2, .int a2), (3, .int a3)], [.int 11, .int 0, .int a1], (gh_mo S, 0, 0))) (fun _ => rfl) ?_
  obtain ⟨q1, hq1, h⟩ := gh_bi h
  refine gh_T_is (As := [.int a1, .int 0, .int 11]) (rest := []) (y := some (.int q1.1)) (M' := gh_mo q1.2) rfl rfl rfl rfl rfl rfl rfl ⟨Nat.le_refl _, Nat.le_refl _⟩ (kX9_within d N a1 0 11 S q1 hq1) ?_
  cases c12 : gh_cmp .eq q1.1 0 with
  | true =>
    rw [c12, cond_true] at h
    refine gh_T_if true rfl c12 ?_
    refine gh_T_steps 1 (τ := (26, [(0, .ref 11), (1, .int a1), (2, .int a2), (3, .int a3)], [.int ((-1))], (gh_mo q1.2, 0, 0))) (fun _ => rfl) ?_
    cases h
    exact gh_T_ret (fun _ => rfl)
  | false =>
    rw [c12, cond_false] at h
    refine gh_T_if false rfl c12 ?_
    refine gh_T_steps 3 (τ := (14, [(0, .ref 11), (1, .int a1), (2, .int a2), (3, .int a3)], [.int 11, .int 0, .int a2], (gh_mo q1.2, 0, 0))) (fun _ => rfl) ?_
    obtain ⟨q2, hq2, h⟩ := gh_bi h
    refine gh_T_is (As := [.int a2, .int 0, .int 11]) (rest := []) (y := some (.int q2.1)) (M' := gh_mo q2.2) rfl rfl rfl rfl rfl rfl rfl ⟨Nat.le_refl _, Nat.le_refl _⟩ (kX9_within d N a2 0 11 q1.2 q2 hq2) ?_
    cases c11 : gh_cmp .eq q2.1 0 with
    | true =>
      rw [c11, cond_true] at h
      refine gh_T_if true rfl c11 ?_
      refine gh_T_steps 1 (τ := (26, [(0, .ref 11), (1, .int a1), (2, .int a2), (3, .int a3)], [.int ((-1))], (gh_mo q2.2, 0, 0))) (fun _ => rfl) ?_
      cases h
      exact gh_T_ret (fun _ => rfl)
    | false =>
      rw [c11, cond_false] at h
      refine gh_T_if false rfl c11 ?_
      refine gh_T_steps 2 (τ := (22, [(0, .ref 11), (1, .int a1), (2, .int a2), (3, .int a3)], [.int a2, .int a1], (gh_mo q2.2, 0, 0))) (fun _ => rfl) ?_
      cases c10 : gh_cmp .ne a1 a2 with
      | true =>
        rw [c10, cond_true] at h
        refine gh_T_ic true rfl c10 ?_
        refine gh_T_steps 3 (τ := (31, [(0, .ref 11), (1, .int a1), (2, .int a2), (3, .int a3)], [.int 60, .int 1, .int a3], (gh_mo q2.2, 0, 0))) (fun _ => rfl) ?_
        obtain ⟨q3, hq3, h⟩ := gh_bi h
        refine gh_T_is (As := [.int a3, .int 1, .int 60]) (rest := []) (y := some (.int q3.1)) (M' := gh_mo q3.2) rfl rfl rfl rfl rfl rfl rfl ⟨Nat.le_refl _, Nat.le_refl _⟩ (kX9_within d N a3 1 60 q2.2 q3 hq3) ?_
        cases c9 : gh_cmp .eq q3.1 0 with
        | true =>
          rw [c9, cond_true] at h
          refine gh_T_if true rfl c9 ?_
          refine gh_T_steps 1 (τ := (47, [(0, .ref 11), (1, .int a1), (2, .int a2), (3, .int a3)], [.int ((-1))], (gh_mo q3.2, 0, 0))) (fun _ => rfl) ?_
          cases h
          exact gh_T_ret (fun _ => rfl)
        | false =>
          rw [c9, cond_false] at h
          refine gh_T_if false rfl c9 ?_
          refine gh_T_steps 3 (τ := (43, [(0, .ref 11), (1, .int a1), (2, .int a2), (3, .int a3)], [.int 20, .int (q3.2.1 11 7)], (gh_mo q3.2, 0, 0))) (fun _ => rfl) ?_
          cases c8 : gh_cmp .lt (q3.2.1 11 7) 20 with
          | true =>
            rw [c8, cond_true] at h
            refine gh_T_ic true rfl c8 ?_
            refine gh_T_steps 5 (τ := (57, [(0, .ref 11), (1, .int a1), (2, .int a2), (3, .int a3)], [.int a1, .int (q3.2.1 11 7), .ref 12], (gh_mo q3.2, 0, 0))) (fun _ => rfl) ?_
            obtain ⟨S4, hS4, h⟩ := gh_bi h
            refine gh_T_wa rfl rfl hS4 ?_
            refine gh_T_steps 5 (τ := (67, [(0, .ref 11), (1, .int a1), (2, .int a2), (3, .int a3)], [.int a2, .int (S4.1 11 7), .ref 13], (gh_mo S4, 0, 0))) (fun _ => rfl) ?_
            obtain ⟨S5, hS5, h⟩ := gh_bi h
            refine gh_T_wa rfl rfl hS5 ?_
            refine gh_T_steps 5 (τ := (77, [(0, .ref 11), (1, .int a1), (2, .int a2), (3, .int a3)], [.int a3, .int (S5.1 11 7), .ref 14], (gh_mo S5, 0, 0))) (fun _ => rfl) ?_
            obtain ⟨S6, hS6, h⟩ := gh_bi h
            refine gh_T_wa rfl rfl hS6 ?_
            refine gh_T_steps 5 (τ := (87, [(0, .ref 11), (1, .int a1), (2, .int a2), (3, .int a3)], [.int ((-1)), .int (S6.1 11 7), .ref 15], (gh_mo S6, 0, 0))) (fun _ => rfl) ?_
            obtain ⟨S7, hS7, h⟩ := gh_bi h
            refine gh_T_wa rfl rfl hS7 ?_
            refine gh_T_steps 10 (τ := (104, [(0, .ref 11), (1, .int a1), (2, .int a2), (3, .int a3)], [.int (((gh_fI S7 11 7 ((S7.1 11 7) + (1 : Int32))).1 11 7) - (1 : Int32))], (gh_mo (gh_fI S7 11 7 ((S7.1 11 7) + (1 : Int32))), 0, 0))) (fun _ => rfl) ?_
            cases h
            exact gh_T_ret (fun _ => rfl)
          | false =>
            rw [c8, cond_false] at h
            refine gh_T_ic false rfl c8 ?_
            refine gh_T_steps 1 (τ := (47, [(0, .ref 11), (1, .int a1), (2, .int a2), (3, .int a3)], [.int ((-1))], (gh_mo q3.2, 0, 0))) (fun _ => rfl) ?_
            cases h
            exact gh_T_ret (fun _ => rfl)
      | false =>
        rw [c10, cond_false] at h
        refine gh_T_ic false rfl c10 ?_
        refine gh_T_steps 1 (τ := (26, [(0, .ref 11), (1, .int a1), (2, .int a2), (3, .int a3)], [.int ((-1))], (gh_mo q2.2, 0, 0))) (fun _ => rfl) ?_
        cases h
        exact gh_T_ret (fun _ => rfl)
theorem kX4_add (d N : Nat) (a1 : Int32) (a2 : Int32) (a3 : Int32) (S : gh_St) (r : Int32 × gh_St) (h : sX4_add N a1 a2 a3 S = some r) : gh_Mx (d + 2) 38 [.ref 11, .int a1, .int a2, .int a3] (gh_mo S) (some (.int r.1)) (gh_mo r.2) :=
  gh_Mx_of rfl rfl rfl rfl rfl rfl (kX4_add_e d N a1 a2 a3 S r h)
def sX4_spread_3 (N : Nat) : Nat → Int32 → Int32 → Int32 → Int32 → gh_St → Option (gh_St)
  | 0, _, _, _, _, _ => none
  | n + 1, l1, l2, l3, l4, S =>
    bif gh_cmp .ge l4 (S.1 11 7) then
      (some S)
    else
      ((sX4_costOf N l4 l1 S).bind fun q1 =>
      (gh_ra q1.2 12 20 l4).bind fun x2 =>
      (gh_ra q1.2 13 20 l4).bind fun x3 =>
      (sX4_spreadOver N x2 x3 q1.1 l2 l3 q1.2).bind fun q4 =>
      (gh_ra q4 13 20 l4).bind fun x5 =>
      (gh_ra q4 12 20 l4).bind fun x6 =>
      (sX4_spreadOver N x5 x6 q1.1 l2 l3 q4).bind fun q7 =>
      (sX4_spread_3 N n) l1 l2 l3 (l4 + 1) q7)
set_option maxRecDepth 100000 in
theorem kX4_spread_3 (d N : Nat) : ∀ (n : Nat) (l1 : Int32) (l2 : Int32) (l3 : Int32) (l4 : Int32) (S : gh_St) (r : gh_St), sX4_spread_3 N n l1 l2 l3 l4 S = some r → gh_T (d + 1) fX4_spread 0 0 none false false (3, [(0, .ref 11), (1, .int l1), (2, .int l2), (3, .int l3), (4, .int l4)], [], (gh_mo S, 0, 0)) (none, (gh_mo r, 0, 0)) := by
  intro n
  induction n with
  | zero =>
    intro l1 l2 l3 l4 S r h
    cases h
  | succ n ih =>
    intro l1 l2 l3 l4 S r h
    rw [sX4_spread_3] at h
    refine gh_T_steps 3 (τ := (9, [(0, .ref 11), (1, .int l1), (2, .int l2), (3, .int l3), (4, .int l4)], [.int (S.1 11 7), .int l4], (gh_mo S, 0, 0))) (fun _ => rfl) ?_
    cases c8 : gh_cmp .ge l4 (S.1 11 7) with
    | true =>
      rw [c8, cond_true] at h
      refine gh_T_ic true rfl c8 ?_
      cases h
      exact gh_T_ret (fun _ => rfl)
    | false =>
      rw [c8, cond_false] at h
      refine gh_T_ic false rfl c8 ?_
      refine gh_T_steps 3 (τ := (16, [(0, .ref 11), (1, .int l1), (2, .int l2), (3, .int l3), (4, .int l4)], [.int l1, .int l4, .ref 11], (gh_mo S, 0, 0))) (fun _ => rfl) ?_
      obtain ⟨q1, hq1, h⟩ := gh_bi h
      refine gh_T_iv (As := [.int l4, .int l1]) (b := 11) (rest := []) (y := some (.int q1.1)) (M' := gh_mo q1.2) rfl rfl rfl rfl rfl rfl rfl rfl rfl ⟨Nat.le_refl _, Nat.le_refl _⟩ (kX4_costOf d N l4 l1 S q1 hq1) ?_
      refine gh_T_steps 5 (τ := (28, [(5, .int q1.1), (0, .ref 11), (1, .int l1), (2, .int l2), (3, .int l3), (4, .int l4)], [.int l4, .ref 12, .ref 11], (gh_mo q1.2, 0, 0))) (fun _ => rfl) ?_
      obtain ⟨x2, hx2, h⟩ := gh_bi h
      refine gh_T_ra rfl rfl hx2 ?_
      refine gh_T_steps 3 (τ := (35, [(5, .int q1.1), (0, .ref 11), (1, .int l1), (2, .int l2), (3, .int l3), (4, .int l4)], [.int l4, .ref 13, .int x2, .ref 11], (gh_mo q1.2, 0, 0))) (fun _ => rfl) ?_
      obtain ⟨x3, hx3, h⟩ := gh_bi h
      refine gh_T_ra rfl rfl hx3 ?_
      refine gh_T_steps 3 (τ := (40, [(5, .int q1.1), (0, .ref 11), (1, .int l1), (2, .int l2), (3, .int l3), (4, .int l4)], [.int l3, .int l2, .int q1.1, .int x3, .int x2, .ref 11], (gh_mo q1.2, 0, 0))) (fun _ => rfl) ?_
      obtain ⟨q4, hq4, h⟩ := gh_bi h
      refine gh_T_iv (As := [.int x2, .int x3, .int q1.1, .int l2, .int l3]) (b := 11) (rest := []) (y := none) (M' := gh_mo q4) rfl rfl rfl rfl rfl rfl rfl rfl rfl ⟨Nat.le_refl _, Nat.le_refl _⟩ (kX4_spreadOver d N x2 x3 q1.1 l2 l3 q1.2 q4 hq4) ?_
      refine gh_T_steps 4 (τ := (50, [(5, .int q1.1), (0, .ref 11), (1, .int l1), (2, .int l2), (3, .int l3), (4, .int l4)], [.int l4, .ref 13, .ref 11], (gh_mo q4, 0, 0))) (fun _ => rfl) ?_
      obtain ⟨x5, hx5, h⟩ := gh_bi h
      refine gh_T_ra rfl rfl hx5 ?_
      refine gh_T_steps 3 (τ := (57, [(5, .int q1.1), (0, .ref 11), (1, .int l1), (2, .int l2), (3, .int l3), (4, .int l4)], [.int l4, .ref 12, .int x5, .ref 11], (gh_mo q4, 0, 0))) (fun _ => rfl) ?_
      obtain ⟨x6, hx6, h⟩ := gh_bi h
      refine gh_T_ra rfl rfl hx6 ?_
      refine gh_T_steps 3 (τ := (62, [(5, .int q1.1), (0, .ref 11), (1, .int l1), (2, .int l2), (3, .int l3), (4, .int l4)], [.int l3, .int l2, .int q1.1, .int x6, .int x5, .ref 11], (gh_mo q4, 0, 0))) (fun _ => rfl) ?_
      obtain ⟨q7, hq7, h⟩ := gh_bi h
      refine gh_T_iv (As := [.int x5, .int x6, .int q1.1, .int l2, .int l3]) (b := 11) (rest := []) (y := none) (M' := gh_mo q7) rfl rfl rfl rfl rfl rfl rfl rfl rfl ⟨Nat.le_refl _, Nat.le_refl _⟩ (kX4_spreadOver d N x5 x6 q1.1 l2 l3 q4 q7 hq7) ?_
      refine gh_T_steps 2 (τ := (3, [(4, .int (l4 + 1)), (5, .int q1.1), (0, .ref 11), (1, .int l1), (2, .int l2), (3, .int l3)], [], (gh_mo q7, 0, 0))) (fun _ => rfl) ?_
      refine gh_T_weak (lv := [(0, .ref 11), (1, .int l1), (2, .int l2), (3, .int l3), (4, .int (l4 + 1))]) ⟨rfl, rfl, rfl, rfl, rfl, trivial⟩ ?_
      exact ih l1 l2 l3 (l4 + 1) q7 _ h
def sX4_spread (N : Nat) (a1 : Int32) (a2 : Int32) (a3 : Int32) (S : gh_St) : Option (gh_St) :=
  sX4_spread_3 N N a1 a2 a3 0 S
set_option maxRecDepth 100000 in
theorem kX4_spread_e (d N : Nat) (a1 : Int32) (a2 : Int32) (a3 : Int32) (S : gh_St) (r : gh_St) (h : sX4_spread N a1 a2 a3 S = some r) : gh_T (d + 1) fX4_spread 0 0 none false false (0, [(0, .ref 11), (1, .int a1), (2, .int a2), (3, .int a3)], [], (gh_mo S, 0, 0)) (none, (gh_mo r, 0, 0)) := by
  unfold sX4_spread at h
  refine gh_T_steps 2 (τ := (3, [(4, .int 0), (0, .ref 11), (1, .int a1), (2, .int a2), (3, .int a3)], [], (gh_mo S, 0, 0))) (fun _ => rfl) ?_
  refine gh_T_weak (lv := [(0, .ref 11), (1, .int a1), (2, .int a2), (3, .int a3), (4, .int 0)]) ⟨rfl, rfl, rfl, rfl, rfl, trivial⟩ ?_
  exact kX4_spread_3 d N N a1 a2 a3 0 S _ h
theorem kX4_spread (d N : Nat) (a1 : Int32) (a2 : Int32) (a3 : Int32) (S : gh_St) (r : gh_St) (h : sX4_spread N a1 a2 a3 S = some r) : gh_Mx (d + 2) 41 [.ref 11, .int a1, .int a2, .int a3] (gh_mo S) none (gh_mo r) :=
  gh_Mx_of rfl rfl rfl rfl rfl rfl (kX4_spread_e d N a1 a2 a3 S r h)
def sX4_trace_78 (N : Nat) (kc5 : Int32 → Int32 → Int32 → Int32 → gh_St → Option (gh_St)) (l1 : Int32) (l2 : Int32) (l4 : Int32) (t0 : Int32) (S : gh_St) : Option (gh_St) :=
  kc5 l1 l2 t0 (l4 + 1) S
set_option maxRecDepth 100000 in
theorem kX4_trace_78 (d N : Nat) (kc5 : Int32 → Int32 → Int32 → Int32 → gh_St → Option (gh_St)) (hkc5 : ∀ (l1 : Int32) (l2 : Int32) (l3 : Int32) (l4 : Int32) (S : gh_St) (r : gh_St), kc5 l1 l2 l3 l4 S = some r → gh_T (d + 2) fX4_trace 0 0 none false false (5, [(0, .ref 11), (1, .int l1), (2, .int l2), (3, .int l3), (4, .int l4)], [], (gh_mo S, 0, 0)) (none, (gh_mo r, 0, 0))) (l1 : Int32) (l2 : Int32) (l4 : Int32) (t0 : Int32) (S : gh_St) (r : gh_St) (h : sX4_trace_78 N kc5 l1 l2 l4 t0 S = some r) : gh_T (d + 2) fX4_trace 0 0 none false false (78, [(0, .ref 11), (1, .int l1), (2, .int l2), (4, .int l4)], [.int t0], (gh_mo S, 0, 0)) (none, (gh_mo r, 0, 0)) := by
  unfold sX4_trace_78 at h
  refine gh_T_steps 3 (τ := (5, [(4, .int (l4 + 1)), (3, .int t0), (0, .ref 11), (1, .int l1), (2, .int l2)], [], (gh_mo S, 0, 0))) (fun _ => rfl) ?_
  refine gh_T_weak (lv := [(0, .ref 11), (1, .int l1), (2, .int l2), (3, .int t0), (4, .int (l4 + 1))]) ⟨rfl, rfl, rfl, rfl, rfl, trivial⟩ ?_
  exact hkc5 l1 l2 t0 (l4 + 1) S _ h
def sX4_trace_5 (N : Nat) : Nat → Int32 → Int32 → Int32 → Int32 → gh_St → Option (gh_St)
  | 0, _, _, _, _, _ => none
  | n + 1, l1, l2, l3, l4, S =>
    bif gh_cmp .ge l4 (S.1 11 6) then
      (some S)
    else
      ((sX4_firstLeg N l1 l3 l2 ((S.1 11 6) - l4) S).bind fun q1 =>
      bif gh_cmp .ne q1.1 ((-1)) then
        ((gh_wa q1.2 17 5 l4 q1.1).bind fun S2 =>
        (gh_ra S2 12 20 q1.1).bind fun x3 =>
        bif gh_cmp .ne x3 l3 then
          ((gh_ra S2 12 20 q1.1).bind fun x4 =>
          (sX4_trace_5 N n) l1 l2 x4 (l4 + 1) S2)
        else
          ((gh_ra S2 13 20 q1.1).bind fun x5 =>
          sX4_trace_78 N (sX4_trace_5 N n) l1 l2 l4 x5 S2))
      else
        (some q1.2))
set_option maxRecDepth 100000 in
theorem kX4_trace_5 (d N : Nat) : ∀ (n : Nat) (l1 : Int32) (l2 : Int32) (l3 : Int32) (l4 : Int32) (S : gh_St) (r : gh_St), sX4_trace_5 N n l1 l2 l3 l4 S = some r → gh_T (d + 2) fX4_trace 0 0 none false false (5, [(0, .ref 11), (1, .int l1), (2, .int l2), (3, .int l3), (4, .int l4)], [], (gh_mo S, 0, 0)) (none, (gh_mo r, 0, 0)) := by
  intro n
  induction n with
  | zero =>
    intro l1 l2 l3 l4 S r h
    cases h
  | succ n ih =>
    intro l1 l2 l3 l4 S r h
    rw [sX4_trace_5] at h
    refine gh_T_steps 3 (τ := (11, [(0, .ref 11), (1, .int l1), (2, .int l2), (3, .int l3), (4, .int l4)], [.int (S.1 11 6), .int l4], (gh_mo S, 0, 0))) (fun _ => rfl) ?_
    cases c8 : gh_cmp .ge l4 (S.1 11 6) with
    | true =>
      rw [c8, cond_true] at h
      refine gh_T_ic true rfl c8 ?_
      cases h
      exact gh_T_ret (fun _ => rfl)
    | false =>
      rw [c8, cond_false] at h
      refine gh_T_ic false rfl c8 ?_
      refine gh_T_steps 10 (τ := (29, [(5, .int ((S.1 11 6) - l4)), (0, .ref 11), (1, .int l1), (2, .int l2), (3, .int l3), (4, .int l4)], [.int ((S.1 11 6) - l4), .int l2, .int l3, .int l1, .ref 11], (gh_mo S, 0, 0))) (fun _ => rfl) ?_
      obtain ⟨q1, hq1, h⟩ := gh_bi h
      refine gh_T_iv (As := [.int l1, .int l3, .int l2, .int ((S.1 11 6) - l4)]) (b := 11) (rest := []) (y := some (.int q1.1)) (M' := gh_mo q1.2) rfl rfl rfl rfl rfl rfl rfl rfl rfl ⟨Nat.le_refl _, Nat.le_refl _⟩ (kX4_firstLeg d N l1 l3 l2 ((S.1 11 6) - l4) S q1 hq1) ?_
      refine gh_T_steps 3 (τ := (37, [(6, .int q1.1), (5, .int ((S.1 11 6) - l4)), (0, .ref 11), (1, .int l1), (2, .int l2), (3, .int l3), (4, .int l4)], [.int ((-1)), .int q1.1], (gh_mo q1.2, 0, 0))) (fun _ => rfl) ?_
      cases c7 : gh_cmp .ne q1.1 ((-1)) with
      | true =>
        rw [c7, cond_true] at h
        refine gh_T_ic true rfl c7 ?_
        refine gh_T_steps 4 (τ := (49, [(6, .int q1.1), (5, .int ((S.1 11 6) - l4)), (0, .ref 11), (1, .int l1), (2, .int l2), (3, .int l3), (4, .int l4)], [.int q1.1, .int l4, .ref 17], (gh_mo q1.2, 0, 0))) (fun _ => rfl) ?_
        obtain ⟨S2, hS2, h⟩ := gh_bi h
        refine gh_T_wa rfl rfl hS2 ?_
        refine gh_T_steps 3 (τ := (56, [(6, .int q1.1), (5, .int ((S.1 11 6) - l4)), (0, .ref 11), (1, .int l1), (2, .int l2), (3, .int l3), (4, .int l4)], [.int q1.1, .ref 12], (gh_mo S2, 0, 0))) (fun _ => rfl) ?_
        obtain ⟨x3, hx3, h⟩ := gh_bi h
        refine gh_T_ra rfl rfl hx3 ?_
        refine gh_T_steps 1 (τ := (58, [(6, .int q1.1), (5, .int ((S.1 11 6) - l4)), (0, .ref 11), (1, .int l1), (2, .int l2), (3, .int l3), (4, .int l4)], [.int l3, .int x3], (gh_mo S2, 0, 0))) (fun _ => rfl) ?_
        cases c6 : gh_cmp .ne x3 l3 with
        | true =>
          rw [c6, cond_true] at h
          refine gh_T_ic true rfl c6 ?_
          refine gh_T_steps 3 (τ := (77, [(6, .int q1.1), (5, .int ((S.1 11 6) - l4)), (0, .ref 11), (1, .int l1), (2, .int l2), (3, .int l3), (4, .int l4)], [.int q1.1, .ref 12], (gh_mo S2, 0, 0))) (fun _ => rfl) ?_
          obtain ⟨x4, hx4, h⟩ := gh_bi h
          refine gh_T_ra rfl rfl hx4 ?_
          refine gh_T_steps 3 (τ := (5, [(4, .int (l4 + 1)), (3, .int x4), (6, .int q1.1), (5, .int ((S.1 11 6) - l4)), (0, .ref 11), (1, .int l1), (2, .int l2)], [], (gh_mo S2, 0, 0))) (fun _ => rfl) ?_
          refine gh_T_weak (lv := [(0, .ref 11), (1, .int l1), (2, .int l2), (3, .int x4), (4, .int (l4 + 1))]) ⟨rfl, rfl, rfl, rfl, rfl, trivial⟩ ?_
          exact ih l1 l2 x4 (l4 + 1) S2 _ h
        | false =>
          rw [c6, cond_false] at h
          refine gh_T_ic false rfl c6 ?_
          refine gh_T_steps 3 (τ := (67, [(6, .int q1.1), (5, .int ((S.1 11 6) - l4)), (0, .ref 11), (1, .int l1), (2, .int l2), (3, .int l3), (4, .int l4)], [.int q1.1, .ref 13], (gh_mo S2, 0, 0))) (fun _ => rfl) ?_
          obtain ⟨x5, hx5, h⟩ := gh_bi h
          refine gh_T_ra rfl rfl hx5 ?_
          refine gh_T_steps 1 (τ := (78, [(6, .int q1.1), (5, .int ((S.1 11 6) - l4)), (0, .ref 11), (1, .int l1), (2, .int l2), (3, .int l3), (4, .int l4)], [.int x5], (gh_mo S2, 0, 0))) (fun _ => rfl) ?_
          refine gh_T_weak (lv := [(0, .ref 11), (1, .int l1), (2, .int l2), (4, .int l4)]) ⟨rfl, rfl, rfl, rfl, trivial⟩ ?_
          exact kX4_trace_78 d N (sX4_trace_5 N n) ih l1 l2 l4 x5 S2 _ h
      | false =>
        rw [c7, cond_false] at h
        refine gh_T_ic false rfl c7 ?_
        cases h
        exact gh_T_ret (fun _ => rfl)
def sX4_trace (N : Nat) (a1 : Int32) (a2 : Int32) (S : gh_St) : Option (gh_St) :=
  sX4_trace_5 N N a1 a2 a2 0 S
set_option maxRecDepth 100000 in
theorem kX4_trace_e (d N : Nat) (a1 : Int32) (a2 : Int32) (S : gh_St) (r : gh_St) (h : sX4_trace N a1 a2 S = some r) : gh_T (d + 2) fX4_trace 0 0 none false false (0, [(0, .ref 11), (1, .int a1), (2, .int a2)], [], (gh_mo S, 0, 0)) (none, (gh_mo r, 0, 0)) := by
  unfold sX4_trace at h
  refine gh_T_steps 4 (τ := (5, [(4, .int 0), (3, .int a2), (0, .ref 11), (1, .int a1), (2, .int a2)], [], (gh_mo S, 0, 0))) (fun _ => rfl) ?_
  refine gh_T_weak (lv := [(0, .ref 11), (1, .int a1), (2, .int a2), (3, .int a2), (4, .int 0)]) ⟨rfl, rfl, rfl, rfl, rfl, trivial⟩ ?_
  exact kX4_trace_5 d N N a1 a2 a2 0 S _ h
theorem kX4_trace (d N : Nat) (a1 : Int32) (a2 : Int32) (S : gh_St) (r : gh_St) (h : sX4_trace N a1 a2 S = some r) : gh_Mx (d + 3) 43 [.ref 11, .int a1, .int a2] (gh_mo S) none (gh_mo r) :=
  gh_Mx_of rfl rfl rfl rfl rfl rfl (kX4_trace_e d N a1 a2 S r h)
def sX5_hasPrice (N : Nat) (b : Bool) (a1 : Int32) (S : gh_St) : Option (Int32 × gh_St) :=
  (sX9_isKind N a1 S).bind fun q1 =>
  bif gh_cmp .eq q1.1 0 then
    (some (0, q1.2))
  else
    ((gh_ra q1.2 (gh_pl b + 2) 4 a1).bind fun x2 =>
    bif gh_cmp .eq x2 0 then
      (some (0, q1.2))
    else
      (some (1, q1.2)))
set_option maxRecDepth 100000 in
theorem kX5_hasPrice_e (d N : Nat) (b : Bool) (a1 : Int32) (S : gh_St) (r : Int32 × gh_St) (h : sX5_hasPrice N b a1 S = some r) : gh_T (d + 2) fX5_hasPrice 0 0 none true false (0, [(0, .ref (gh_pl b)), (1, .int a1)], [], (gh_mo S, 0, 0)) (some (.int r.1), (gh_mo r.2, 0, 0)) := by
  unfold sX5_hasPrice at h
  cases b with
  | false =>
    refine gh_T_steps 1 (τ := (1, [(0, .ref (gh_pl false)), (1, .int a1)], [.int a1], (gh_mo S, 0, 0))) (fun _ => rfl) ?_
    obtain ⟨q1, hq1, h⟩ := gh_bi h
    refine gh_T_is (As := [.int a1]) (rest := []) (y := some (.int q1.1)) (M' := gh_mo q1.2) rfl rfl rfl rfl rfl rfl rfl ⟨Nat.le_refl _, Nat.le_refl _⟩ (kX9_isKind d N a1 S q1 hq1) ?_
    cases c4 : gh_cmp .eq q1.1 0 with
    | true =>
      rw [c4, cond_true] at h
      refine gh_T_if true rfl c4 ?_
      refine gh_T_steps 1 (τ := (21, [(0, .ref (gh_pl false)), (1, .int a1)], [.int 0], (gh_mo q1.2, 0, 0))) (fun _ => rfl) ?_
      cases h
      exact gh_T_ret (fun _ => rfl)
    | false =>
      rw [c4, cond_false] at h
      refine gh_T_if false rfl c4 ?_
      refine gh_T_steps 3 (τ := (12, [(0, .ref (gh_pl false)), (1, .int a1)], [.int a1, .ref (gh_pl false + 2)], (gh_mo q1.2, 0, 0))) (fun _ => rfl) ?_
      obtain ⟨x2, hx2, h⟩ := gh_bi h
      refine gh_T_rb rfl (Or.inr rfl) rfl hx2 ?_
      cases c3 : gh_cmp .eq x2 0 with
      | true =>
        rw [c3, cond_true] at h
        refine gh_T_if true rfl c3 ?_
        refine gh_T_steps 1 (τ := (21, [(0, .ref (gh_pl false)), (1, .int a1)], [.int 0], (gh_mo q1.2, 0, 0))) (fun _ => rfl) ?_
        cases h
        exact gh_T_ret (fun _ => rfl)
      | false =>
        rw [c3, cond_false] at h
        refine gh_T_if false rfl c3 ?_
        refine gh_T_steps 2 (τ := (21, [(0, .ref (gh_pl false)), (1, .int a1)], [.int 1], (gh_mo q1.2, 0, 0))) (fun _ => rfl) ?_
        cases h
        exact gh_T_ret (fun _ => rfl)
  | true =>
    refine gh_T_steps 1 (τ := (1, [(0, .ref (gh_pl true)), (1, .int a1)], [.int a1], (gh_mo S, 0, 0))) (fun _ => rfl) ?_
    obtain ⟨q1, hq1, h⟩ := gh_bi h
    refine gh_T_is (As := [.int a1]) (rest := []) (y := some (.int q1.1)) (M' := gh_mo q1.2) rfl rfl rfl rfl rfl rfl rfl ⟨Nat.le_refl _, Nat.le_refl _⟩ (kX9_isKind d N a1 S q1 hq1) ?_
    cases c4 : gh_cmp .eq q1.1 0 with
    | true =>
      rw [c4, cond_true] at h
      refine gh_T_if true rfl c4 ?_
      refine gh_T_steps 1 (τ := (21, [(0, .ref (gh_pl true)), (1, .int a1)], [.int 0], (gh_mo q1.2, 0, 0))) (fun _ => rfl) ?_
      cases h
      exact gh_T_ret (fun _ => rfl)
    | false =>
      rw [c4, cond_false] at h
      refine gh_T_if false rfl c4 ?_
      refine gh_T_steps 3 (τ := (12, [(0, .ref (gh_pl true)), (1, .int a1)], [.int a1, .ref (gh_pl true + 2)], (gh_mo q1.2, 0, 0))) (fun _ => rfl) ?_
      obtain ⟨x2, hx2, h⟩ := gh_bi h
      refine gh_T_rb rfl (Or.inr rfl) rfl hx2 ?_
      cases c3 : gh_cmp .eq x2 0 with
      | true =>
        rw [c3, cond_true] at h
        refine gh_T_if true rfl c3 ?_
        refine gh_T_steps 1 (τ := (21, [(0, .ref (gh_pl true)), (1, .int a1)], [.int 0], (gh_mo q1.2, 0, 0))) (fun _ => rfl) ?_
        cases h
        exact gh_T_ret (fun _ => rfl)
      | false =>
        rw [c3, cond_false] at h
        refine gh_T_if false rfl c3 ?_
        refine gh_T_steps 2 (τ := (21, [(0, .ref (gh_pl true)), (1, .int a1)], [.int 1], (gh_mo q1.2, 0, 0))) (fun _ => rfl) ?_
        cases h
        exact gh_T_ret (fun _ => rfl)
theorem kX5_hasPrice (d N : Nat) (b : Bool) (a1 : Int32) (S : gh_St) (r : Int32 × gh_St) (h : sX5_hasPrice N b a1 S = some r) : gh_Mx (d + 3) 48 [.ref (gh_pl b), .int a1] (gh_mo S) (some (.int r.1)) (gh_mo r.2) :=
  gh_Mx_of rfl rfl rfl rfl rfl rfl (kX5_hasPrice_e d N b a1 S r h)
def sX5_addPrice (N : Nat) (b : Bool) (a1 : Int32) (a2 : Int32) (S : gh_St) : Option (gh_St) :=
  (sX9_isKind N a1 S).bind fun q1 =>
  bif gh_cmp .eq q1.1 0 then
    (some q1.2)
  else
    ((gh_wa q1.2 (gh_pl b + 1) 4 a1 a2).bind fun S2 =>
    (gh_wa S2 (gh_pl b + 2) 4 a1 (vp_nar .boolean 1)).bind fun S3 =>
    some S3)
set_option maxRecDepth 100000 in
theorem kX5_addPrice_e (d N : Nat) (b : Bool) (a1 : Int32) (a2 : Int32) (S : gh_St) (r : gh_St) (h : sX5_addPrice N b a1 a2 S = some r) : gh_T (d + 2) fX5_addPrice 0 0 none false false (0, [(0, .ref (gh_pl b)), (1, .int a1), (2, .int a2)], [], (gh_mo S, 0, 0)) (none, (gh_mo r, 0, 0)) := by
  unfold sX5_addPrice at h
  cases b with
  | false =>
    refine gh_T_steps 1 (τ := (1, [(0, .ref (gh_pl false)), (1, .int a1), (2, .int a2)], [.int a1], (gh_mo S, 0, 0))) (fun _ => rfl) ?_
    obtain ⟨q1, hq1, h⟩ := gh_bi h
    refine gh_T_is (As := [.int a1]) (rest := []) (y := some (.int q1.1)) (M' := gh_mo q1.2) rfl rfl rfl rfl rfl rfl rfl ⟨Nat.le_refl _, Nat.le_refl _⟩ (kX9_isKind d N a1 S q1 hq1) ?_
    cases c4 : gh_cmp .eq q1.1 0 with
    | true =>
      rw [c4, cond_true] at h
      refine gh_T_if true rfl c4 ?_
      cases h
      exact gh_T_ret (fun _ => rfl)
    | false =>
      rw [c4, cond_false] at h
      refine gh_T_if false rfl c4 ?_
      refine gh_T_steps 4 (τ := (13, [(0, .ref (gh_pl false)), (1, .int a1), (2, .int a2)], [.int a2, .int a1, .ref (gh_pl false + 1)], (gh_mo q1.2, 0, 0))) (fun _ => rfl) ?_
      obtain ⟨S2, hS2, h⟩ := gh_bi h
      refine gh_T_wa rfl rfl hS2 ?_
      refine gh_T_steps 4 (τ := (20, [(0, .ref (gh_pl false)), (1, .int a1), (2, .int a2)], [.int 1, .int a1, .ref (gh_pl false + 2)], (gh_mo S2, 0, 0))) (fun _ => rfl) ?_
      obtain ⟨S3, hS3, h⟩ := gh_bi h
      refine gh_T_wz rfl rfl hS3 ?_
      cases h
      exact gh_T_ret (fun _ => rfl)
  | true =>
    refine gh_T_steps 1 (τ := (1, [(0, .ref (gh_pl true)), (1, .int a1), (2, .int a2)], [.int a1], (gh_mo S, 0, 0))) (fun _ => rfl) ?_
    obtain ⟨q1, hq1, h⟩ := gh_bi h
    refine gh_T_is (As := [.int a1]) (rest := []) (y := some (.int q1.1)) (M' := gh_mo q1.2) rfl rfl rfl rfl rfl rfl rfl ⟨Nat.le_refl _, Nat.le_refl _⟩ (kX9_isKind d N a1 S q1 hq1) ?_
    cases c4 : gh_cmp .eq q1.1 0 with
    | true =>
      rw [c4, cond_true] at h
      refine gh_T_if true rfl c4 ?_
      cases h
      exact gh_T_ret (fun _ => rfl)
    | false =>
      rw [c4, cond_false] at h
      refine gh_T_if false rfl c4 ?_
      refine gh_T_steps 4 (τ := (13, [(0, .ref (gh_pl true)), (1, .int a1), (2, .int a2)], [.int a2, .int a1, .ref (gh_pl true + 1)], (gh_mo q1.2, 0, 0))) (fun _ => rfl) ?_
      obtain ⟨S2, hS2, h⟩ := gh_bi h
      refine gh_T_wa rfl rfl hS2 ?_
      refine gh_T_steps 4 (τ := (20, [(0, .ref (gh_pl true)), (1, .int a1), (2, .int a2)], [.int 1, .int a1, .ref (gh_pl true + 2)], (gh_mo S2, 0, 0))) (fun _ => rfl) ?_
      obtain ⟨S3, hS3, h⟩ := gh_bi h
      refine gh_T_wz rfl rfl hS3 ?_
      cases h
      exact gh_T_ret (fun _ => rfl)
theorem kX5_addPrice (d N : Nat) (b : Bool) (a1 : Int32) (a2 : Int32) (S : gh_St) (r : gh_St) (h : sX5_addPrice N b a1 a2 S = some r) : gh_Mx (d + 3) 51 [.ref (gh_pl b), .int a1, .int a2] (gh_mo S) none (gh_mo r) :=
  gh_Mx_of rfl rfl rfl rfl rfl rfl (kX5_addPrice_e d N b a1 a2 S r h)
def sX6_isLetter_22 (N : Nat) (S : gh_St) : Option (Int32 × gh_St) :=
  some (1, S)
set_option maxRecDepth 100000 in
theorem kX6_isLetter_22 (d N : Nat) (S : gh_St) (r : Int32 × gh_St) (h : sX6_isLetter_22 N S = some r) : gh_T (d + 1) fX6_isLetter 0 0 none true false (22, [], [], (gh_mo S, 0, 0)) (some (.int r.1), (gh_mo r.2, 0, 0)) := by
  unfold sX6_isLetter_22 at h
  refine gh_T_steps 2 (τ := (27, [], [.int 1], (gh_mo S, 0, 0))) (fun _ => rfl) ?_
  cases h
  exact gh_T_ret (fun _ => rfl)
def sX6_isLetter (N : Nat) (a0 : Int32) (S : gh_St) : Option (Int32 × gh_St) :=
  (sX9_within N a0 97 122 S).bind fun q1 =>
  bif gh_cmp .ne q1.1 0 then
    (sX6_isLetter_22 N q1.2)
  else
    ((sX9_within N a0 65 90 q1.2).bind fun q2 =>
    bif gh_cmp .eq q2.1 0 then
      (some (0, q2.2))
    else
      (sX6_isLetter_22 N q2.2))
set_option maxRecDepth 100000 in
theorem kX6_isLetter_e (d N : Nat) (a0 : Int32) (S : gh_St) (r : Int32 × gh_St) (h : sX6_isLetter N a0 S = some r) : gh_T (d + 1) fX6_isLetter 0 0 none true false (0, [(0, .int a0)], [], (gh_mo S, 0, 0)) (some (.int r.1), (gh_mo r.2, 0, 0)) := by
  unfold sX6_isLetter at h
  refine gh_T_steps 3 (τ := (5, [(0, .int a0)], [.int 122, .int 97, .int a0], (gh_mo S, 0, 0))) (fun _ => rfl) ?_
  obtain ⟨q1, hq1, h⟩ := gh_bi h
  refine gh_T_is (As := [.int a0, .int 97, .int 122]) (rest := []) (y := some (.int q1.1)) (M' := gh_mo q1.2) rfl rfl rfl rfl rfl rfl rfl ⟨Nat.le_refl _, Nat.le_refl _⟩ (kX9_within d N a0 97 122 S q1 hq1) ?_
  cases c4 : gh_cmp .ne q1.1 0 with
  | true =>
    rw [c4, cond_true] at h
    refine gh_T_if true rfl c4 ?_
    refine gh_T_weak (lv := []) trivial ?_
    exact kX6_isLetter_22 d N q1.2 _ h
  | false =>
    rw [c4, cond_false] at h
    refine gh_T_if false rfl c4 ?_
    refine gh_T_steps 3 (τ := (16, [(0, .int a0)], [.int 90, .int 65, .int a0], (gh_mo q1.2, 0, 0))) (fun _ => rfl) ?_
    obtain ⟨q2, hq2, h⟩ := gh_bi h
    refine gh_T_is (As := [.int a0, .int 65, .int 90]) (rest := []) (y := some (.int q2.1)) (M' := gh_mo q2.2) rfl rfl rfl rfl rfl rfl rfl ⟨Nat.le_refl _, Nat.le_refl _⟩ (kX9_within d N a0 65 90 q1.2 q2 hq2) ?_
    cases c3 : gh_cmp .eq q2.1 0 with
    | true =>
      rw [c3, cond_true] at h
      refine gh_T_if true rfl c3 ?_
      refine gh_T_steps 1 (τ := (27, [(0, .int a0)], [.int 0], (gh_mo q2.2, 0, 0))) (fun _ => rfl) ?_
      cases h
      exact gh_T_ret (fun _ => rfl)
    | false =>
      rw [c3, cond_false] at h
      refine gh_T_if false rfl c3 ?_
      refine gh_T_weak (lv := []) trivial ?_
      exact kX6_isLetter_22 d N q2.2 _ h
theorem kX6_isLetter (d N : Nat) (a0 : Int32) (S : gh_St) (r : Int32 × gh_St) (h : sX6_isLetter N a0 S = some r) : gh_Mx (d + 2) 58 [.int a0] (gh_mo S) (some (.int r.1)) (gh_mo r.2) :=
  gh_Mx_of rfl rfl rfl rfl rfl rfl (kX6_isLetter_e d N a0 S r h)
def sX6_isDigit (N : Nat) (a0 : Int32) (S : gh_St) : Option (Int32 × gh_St) :=
  (sX9_within N a0 48 57 S).bind fun q1 =>
  (gh_gB q1.1).bind fun x2 => some (x2, q1.2)
set_option maxRecDepth 100000 in
theorem kX6_isDigit_e (d N : Nat) (a0 : Int32) (S : gh_St) (r : Int32 × gh_St) (h : sX6_isDigit N a0 S = some r) : gh_T (d + 1) fX6_isDigit 0 0 none true false (0, [(0, .int a0)], [], (gh_mo S, 0, 0)) (some (.int r.1), (gh_mo r.2, 0, 0)) := by
  unfold sX6_isDigit at h
  refine gh_T_steps 3 (τ := (5, [(0, .int a0)], [.int 57, .int 48, .int a0], (gh_mo S, 0, 0))) (fun _ => rfl) ?_
  obtain ⟨q1, hq1, h⟩ := gh_bi h
  refine gh_T_is (As := [.int a0, .int 48, .int 57]) (rest := []) (y := some (.int q1.1)) (M' := gh_mo q1.2) rfl rfl rfl rfl rfl rfl rfl ⟨Nat.le_refl _, Nat.le_refl _⟩ (kX9_within d N a0 48 57 S q1 hq1) ?_
  obtain ⟨x2, hx2, h⟩ := gh_bi h
  obtain ⟨hz, rfl⟩ := gh_bs hx2
  cases h
  exact gh_T_rz rfl hz
theorem kX6_isDigit (d N : Nat) (a0 : Int32) (S : gh_St) (r : Int32 × gh_St) (h : sX6_isDigit N a0 S = some r) : gh_Mx (d + 2) 59 [.int a0] (gh_mo S) (some (.int r.1)) (gh_mo r.2) :=
  gh_Mx_of rfl rfl rfl rfl rfl rfl (kX6_isDigit_e d N a0 S r h)
def sX6_faultOfFirst_51 (N : Nat) (b : Bool) (t0 : Int32) (t1 : Int32) (S : gh_St) : Option (Int32 × gh_St) :=
  bif gh_cmp .gt t1 t0 then
    (some (3, S))
  else
    (some (0, S))
set_option maxRecDepth 100000 in
theorem kX6_faultOfFirst_51 (d N : Nat) (b : Bool) (t0 : Int32) (t1 : Int32) (S : gh_St) (r : Int32 × gh_St) (h : sX6_faultOfFirst_51 N b t0 t1 S = some r) : gh_T (d + 3) fX6_faultOfFirst 0 0 none false false (51, [], [.int t0, .int t1], (gh_mo S, 0, 0)) (some (.int r.1), (gh_mo r.2, 0, 0)) := by
  unfold sX6_faultOfFirst_51 at h
  cases b with
  | false =>
    cases c1 : gh_cmp .gt t1 t0 with
    | true =>
      rw [c1, cond_true] at h
      refine gh_T_ic true rfl c1 ?_
      refine gh_T_steps 1 (τ := (59, [], [.int 3], (gh_mo S, 0, 0))) (fun _ => rfl) ?_
      cases h
      exact gh_T_ret (fun _ => rfl)
    | false =>
      rw [c1, cond_false] at h
      refine gh_T_ic false rfl c1 ?_
      refine gh_T_steps 2 (τ := (59, [], [.int 0], (gh_mo S, 0, 0))) (fun _ => rfl) ?_
      cases h
      exact gh_T_ret (fun _ => rfl)
  | true =>
    cases c1 : gh_cmp .gt t1 t0 with
    | true =>
      rw [c1, cond_true] at h
      refine gh_T_ic true rfl c1 ?_
      refine gh_T_steps 1 (τ := (59, [], [.int 3], (gh_mo S, 0, 0))) (fun _ => rfl) ?_
      cases h
      exact gh_T_ret (fun _ => rfl)
    | false =>
      rw [c1, cond_false] at h
      refine gh_T_ic false rfl c1 ?_
      refine gh_T_steps 2 (τ := (59, [], [.int 0], (gh_mo S, 0, 0))) (fun _ => rfl) ?_
      cases h
      exact gh_T_ret (fun _ => rfl)
def sX6_faultOfFirst_26 (N : Nat) (b : Bool) (t0 : Int32) (S : gh_St) : Option (Int32 × gh_St) :=
  bif gh_cmp .eq t0 0 then
    (bif gh_cmp .eq (S.1 45 8) 0 then
      (sX6_faultOfFirst_51 N b 3 (S.1 45 6) S)
    else
      (sX6_faultOfFirst_51 N b 400 (S.1 45 6) S))
  else
    (some (2, S))
set_option maxRecDepth 100000 in
theorem kX6_faultOfFirst_26 (d N : Nat) (b : Bool) (t0 : Int32) (S : gh_St) (r : Int32 × gh_St) (h : sX6_faultOfFirst_26 N b t0 S = some r) : gh_T (d + 3) fX6_faultOfFirst 0 0 none false false (26, [(0, .ref 45)], [.int t0], (gh_mo S, 0, 0)) (some (.int r.1), (gh_mo r.2, 0, 0)) := by
  unfold sX6_faultOfFirst_26 at h
  cases b with
  | false =>
    refine gh_T_steps 2 (τ := (28, [(2, .int t0), (0, .ref 45)], [.int t0], (gh_mo S, 0, 0))) (fun _ => rfl) ?_
    cases c2 : gh_cmp .eq t0 0 with
    | true =>
      rw [c2, cond_true] at h
      refine gh_T_if true rfl c2 ?_
      refine gh_T_steps 4 (τ := (41, [(2, .int t0), (0, .ref 45)], [.int (S.1 45 8), .int (S.1 45 6)], (gh_mo S, 0, 0))) (fun _ => rfl) ?_
      cases c1 : gh_cmp .eq (S.1 45 8) 0 with
      | true =>
        rw [c1, cond_true] at h
        refine gh_T_if true rfl c1 ?_
        refine gh_T_steps 1 (τ := (51, [(2, .int t0), (0, .ref 45)], [.int 3, .int (S.1 45 6)], (gh_mo S, 0, 0))) (fun _ => rfl) ?_
        refine gh_T_weak (lv := []) trivial ?_
        exact kX6_faultOfFirst_51 d N false 3 (S.1 45 6) S _ h
      | false =>
        rw [c1, cond_false] at h
        refine gh_T_if false rfl c1 ?_
        refine gh_T_steps 2 (τ := (51, [(2, .int t0), (0, .ref 45)], [.int 400, .int (S.1 45 6)], (gh_mo S, 0, 0))) (fun _ => rfl) ?_
        refine gh_T_weak (lv := []) trivial ?_
        exact kX6_faultOfFirst_51 d N false 400 (S.1 45 6) S _ h
    | false =>
      rw [c2, cond_false] at h
      refine gh_T_if false rfl c2 ?_
      refine gh_T_steps 1 (τ := (32, [(2, .int t0), (0, .ref 45)], [.int 2], (gh_mo S, 0, 0))) (fun _ => rfl) ?_
      cases h
      exact gh_T_ret (fun _ => rfl)
  | true =>
    refine gh_T_steps 2 (τ := (28, [(2, .int t0), (0, .ref 45)], [.int t0], (gh_mo S, 0, 0))) (fun _ => rfl) ?_
    cases c2 : gh_cmp .eq t0 0 with
    | true =>
      rw [c2, cond_true] at h
      refine gh_T_if true rfl c2 ?_
      refine gh_T_steps 4 (τ := (41, [(2, .int t0), (0, .ref 45)], [.int (S.1 45 8), .int (S.1 45 6)], (gh_mo S, 0, 0))) (fun _ => rfl) ?_
      cases c1 : gh_cmp .eq (S.1 45 8) 0 with
      | true =>
        rw [c1, cond_true] at h
        refine gh_T_if true rfl c1 ?_
        refine gh_T_steps 1 (τ := (51, [(2, .int t0), (0, .ref 45)], [.int 3, .int (S.1 45 6)], (gh_mo S, 0, 0))) (fun _ => rfl) ?_
        refine gh_T_weak (lv := []) trivial ?_
        exact kX6_faultOfFirst_51 d N true 3 (S.1 45 6) S _ h
      | false =>
        rw [c1, cond_false] at h
        refine gh_T_if false rfl c1 ?_
        refine gh_T_steps 2 (τ := (51, [(2, .int t0), (0, .ref 45)], [.int 400, .int (S.1 45 6)], (gh_mo S, 0, 0))) (fun _ => rfl) ?_
        refine gh_T_weak (lv := []) trivial ?_
        exact kX6_faultOfFirst_51 d N true 400 (S.1 45 6) S _ h
    | false =>
      rw [c2, cond_false] at h
      refine gh_T_if false rfl c2 ?_
      refine gh_T_steps 1 (τ := (32, [(2, .int t0), (0, .ref 45)], [.int 2], (gh_mo S, 0, 0))) (fun _ => rfl) ?_
      cases h
      exact gh_T_ret (fun _ => rfl)
def sX6_faultOfFirst (N : Nat) (b : Bool) (S : gh_St) : Option (Int32 × gh_St) :=
  bif gh_cmp .eq (S.1 45 8) 0 then
    ((sX5_hasPrice N b (S.1 45 6) S).bind fun q1 =>
    sX6_faultOfFirst_26 N b q1.1 q1.2)
  else
    ((sX5_hasDock N b (S.1 45 6) S).bind fun q2 =>
    sX6_faultOfFirst_26 N b q2.1 q2.2)
set_option maxRecDepth 100000 in
theorem kX6_faultOfFirst_e (d N : Nat) (b : Bool) (S : gh_St) (r : Int32 × gh_St) (h : sX6_faultOfFirst N b S = some r) : gh_T (d + 3) fX6_faultOfFirst 0 0 none false false (0, [(0, .ref 45), (1, .ref (gh_pl b))], [], (gh_mo S, 0, 0)) (some (.int r.1), (gh_mo r.2, 0, 0)) := by
  unfold sX6_faultOfFirst at h
  cases b with
  | false =>
    refine gh_T_steps 2 (τ := (4, [(0, .ref 45), (1, .ref (gh_pl false))], [.int (S.1 45 8)], (gh_mo S, 0, 0))) (fun _ => rfl) ?_
    cases c3 : gh_cmp .eq (S.1 45 8) 0 with
    | true =>
      rw [c3, cond_true] at h
      refine gh_T_if true rfl c3 ?_
      refine gh_T_steps 3 (τ := (23, [(0, .ref 45), (1, .ref (gh_pl false))], [.int (S.1 45 6), .ref (gh_pl false)], (gh_mo S, 0, 0))) (fun _ => rfl) ?_
      obtain ⟨q1, hq1, h⟩ := gh_bi h
      refine gh_T_iv (As := [.int (S.1 45 6)]) (b := gh_pl false) (rest := []) (y := some (.int q1.1)) (M' := gh_mo q1.2) rfl rfl rfl rfl rfl rfl rfl rfl rfl ⟨Nat.le_refl _, Nat.le_refl _⟩ (kX5_hasPrice d N false (S.1 45 6) S q1 hq1) ?_
      refine gh_T_weak (lv := [(0, .ref 45)]) ⟨rfl, trivial⟩ ?_
      exact kX6_faultOfFirst_26 d N false q1.1 q1.2 _ h
    | false =>
      rw [c3, cond_false] at h
      refine gh_T_if false rfl c3 ?_
      refine gh_T_steps 3 (τ := (12, [(0, .ref 45), (1, .ref (gh_pl false))], [.int (S.1 45 6), .ref (gh_pl false)], (gh_mo S, 0, 0))) (fun _ => rfl) ?_
      obtain ⟨q2, hq2, h⟩ := gh_bi h
      refine gh_T_iv (As := [.int (S.1 45 6)]) (b := gh_pl false) (rest := []) (y := some (.int q2.1)) (M' := gh_mo q2.2) rfl rfl rfl rfl rfl rfl rfl rfl rfl ⟨Nat.le_refl _, Nat.le_refl _⟩ (kX5_hasDock (d + 2) N false (S.1 45 6) S q2 hq2) ?_
      refine gh_T_steps 1 (τ := (26, [(0, .ref 45), (1, .ref (gh_pl false))], [.int q2.1], (gh_mo q2.2, 0, 0))) (fun _ => rfl) ?_
      refine gh_T_weak (lv := [(0, .ref 45)]) ⟨rfl, trivial⟩ ?_
      exact kX6_faultOfFirst_26 d N false q2.1 q2.2 _ h
  | true =>
    refine gh_T_steps 2 (τ := (4, [(0, .ref 45), (1, .ref (gh_pl true))], [.int (S.1 45 8)], (gh_mo S, 0, 0))) (fun _ => rfl) ?_
    cases c3 : gh_cmp .eq (S.1 45 8) 0 with
    | true =>
      rw [c3, cond_true] at h
      refine gh_T_if true rfl c3 ?_
      refine gh_T_steps 3 (τ := (23, [(0, .ref 45), (1, .ref (gh_pl true))], [.int (S.1 45 6), .ref (gh_pl true)], (gh_mo S, 0, 0))) (fun _ => rfl) ?_
      obtain ⟨q1, hq1, h⟩ := gh_bi h
      refine gh_T_iv (As := [.int (S.1 45 6)]) (b := gh_pl true) (rest := []) (y := some (.int q1.1)) (M' := gh_mo q1.2) rfl rfl rfl rfl rfl rfl rfl rfl rfl ⟨Nat.le_refl _, Nat.le_refl _⟩ (kX5_hasPrice d N true (S.1 45 6) S q1 hq1) ?_
      refine gh_T_weak (lv := [(0, .ref 45)]) ⟨rfl, trivial⟩ ?_
      exact kX6_faultOfFirst_26 d N true q1.1 q1.2 _ h
    | false =>
      rw [c3, cond_false] at h
      refine gh_T_if false rfl c3 ?_
      refine gh_T_steps 3 (τ := (12, [(0, .ref 45), (1, .ref (gh_pl true))], [.int (S.1 45 6), .ref (gh_pl true)], (gh_mo S, 0, 0))) (fun _ => rfl) ?_
      obtain ⟨q2, hq2, h⟩ := gh_bi h
      refine gh_T_iv (As := [.int (S.1 45 6)]) (b := gh_pl true) (rest := []) (y := some (.int q2.1)) (M' := gh_mo q2.2) rfl rfl rfl rfl rfl rfl rfl rfl rfl ⟨Nat.le_refl _, Nat.le_refl _⟩ (kX5_hasDock (d + 2) N true (S.1 45 6) S q2 hq2) ?_
      refine gh_T_steps 1 (τ := (26, [(0, .ref 45), (1, .ref (gh_pl true))], [.int q2.1], (gh_mo q2.2, 0, 0))) (fun _ => rfl) ?_
      refine gh_T_weak (lv := [(0, .ref 45)]) ⟨rfl, trivial⟩ ?_
      exact kX6_faultOfFirst_26 d N true q2.1 q2.2 _ h
theorem kX6_faultOfFirst (d N : Nat) (b : Bool) (S : gh_St) (r : Int32 × gh_St) (h : sX6_faultOfFirst N b S = some r) : gh_Mx (d + 4) 62 [.ref 45, .ref (gh_pl b)] (gh_mo S) (some (.int r.1)) (gh_mo r.2) :=
  gh_Mx_of rfl rfl rfl rfl rfl rfl (kX6_faultOfFirst_e d N b S r h)
def sX6_faultOfSecond_31 (N : Nat) (t0 : Int32) (S : gh_St) : Option (Int32 × gh_St) :=
  bif gh_cmp .eq t0 0 then
    (some (3, S))
  else
    (some (0, S))
set_option maxRecDepth 100000 in
theorem kX6_faultOfSecond_31 (d N : Nat) (t0 : Int32) (S : gh_St) (r : Int32 × gh_St) (h : sX6_faultOfSecond_31 N t0 S = some r) : gh_T (d + 1) fX6_faultOfSecond 0 0 none false false (31, [], [.int t0], (gh_mo S, 0, 0)) (some (.int r.1), (gh_mo r.2, 0, 0)) := by
  unfold sX6_faultOfSecond_31 at h
  refine gh_T_steps 2 (τ := (33, [(1, .int t0)], [.int t0], (gh_mo S, 0, 0))) (fun _ => rfl) ?_
  cases c1 : gh_cmp .eq t0 0 with
  | true =>
    rw [c1, cond_true] at h
    refine gh_T_if true rfl c1 ?_
    refine gh_T_steps 1 (τ := (41, [(1, .int t0)], [.int 3], (gh_mo S, 0, 0))) (fun _ => rfl) ?_
    cases h
    exact gh_T_ret (fun _ => rfl)
  | false =>
    rw [c1, cond_false] at h
    refine gh_T_if false rfl c1 ?_
    refine gh_T_steps 2 (τ := (41, [(1, .int t0)], [.int 0], (gh_mo S, 0, 0))) (fun _ => rfl) ?_
    cases h
    exact gh_T_ret (fun _ => rfl)
def sX6_faultOfSecond (N : Nat) (S : gh_St) : Option (Int32 × gh_St) :=
  bif gh_cmp .eq (S.1 45 8) 0 then
    ((sX9_within N (S.1 45 6) 0 9999 S).bind fun q1 =>
    sX6_faultOfSecond_31 N q1.1 q1.2)
  else
    ((sX9_within N (S.1 45 6) 1 50 S).bind fun q2 =>
    sX6_faultOfSecond_31 N q2.1 q2.2)
set_option maxRecDepth 100000 in
theorem kX6_faultOfSecond_e (d N : Nat) (S : gh_St) (r : Int32 × gh_St) (h : sX6_faultOfSecond N S = some r) : gh_T (d + 1) fX6_faultOfSecond 0 0 none false false (0, [(0, .ref 45)], [], (gh_mo S, 0, 0)) (some (.int r.1), (gh_mo r.2, 0, 0)) := by
  unfold sX6_faultOfSecond at h
  refine gh_T_steps 2 (τ := (4, [(0, .ref 45)], [.int (S.1 45 8)], (gh_mo S, 0, 0))) (fun _ => rfl) ?_
  cases c3 : gh_cmp .eq (S.1 45 8) 0 with
  | true =>
    rw [c3, cond_true] at h
    refine gh_T_if true rfl c3 ?_
    refine gh_T_steps 4 (τ := (28, [(0, .ref 45)], [.int 9999, .int 0, .int (S.1 45 6)], (gh_mo S, 0, 0))) (fun _ => rfl) ?_
    obtain ⟨q1, hq1, h⟩ := gh_bi h
    refine gh_T_is (As := [.int (S.1 45 6), .int 0, .int 9999]) (rest := []) (y := some (.int q1.1)) (M' := gh_mo q1.2) rfl rfl rfl rfl rfl rfl rfl ⟨Nat.le_refl _, Nat.le_refl _⟩ (kX9_within d N (S.1 45 6) 0 9999 S q1 hq1) ?_
    refine gh_T_weak (lv := []) trivial ?_
    exact kX6_faultOfSecond_31 d N q1.1 q1.2 _ h
  | false =>
    rw [c3, cond_false] at h
    refine gh_T_if false rfl c3 ?_
    refine gh_T_steps 4 (τ := (14, [(0, .ref 45)], [.int 50, .int 1, .int (S.1 45 6)], (gh_mo S, 0, 0))) (fun _ => rfl) ?_
    obtain ⟨q2, hq2, h⟩ := gh_bi h
    refine gh_T_is (As := [.int (S.1 45 6), .int 1, .int 50]) (rest := []) (y := some (.int q2.1)) (M' := gh_mo q2.2) rfl rfl rfl rfl rfl rfl rfl ⟨Nat.le_refl _, Nat.le_refl _⟩ (kX9_within d N (S.1 45 6) 1 50 S q2 hq2) ?_
    refine gh_T_steps 1 (τ := (31, [(0, .ref 45)], [.int q2.1], (gh_mo q2.2, 0, 0))) (fun _ => rfl) ?_
    refine gh_T_weak (lv := []) trivial ?_
    exact kX6_faultOfSecond_31 d N q2.1 q2.2 _ h
theorem kX6_faultOfSecond (d N : Nat) (S : gh_St) (r : Int32 × gh_St) (h : sX6_faultOfSecond N S = some r) : gh_Mx (d + 2) 63 [.ref 45] (gh_mo S) (some (.int r.1)) (gh_mo r.2) :=
  gh_Mx_of rfl rfl rfl rfl rfl rfl (kX6_faultOfSecond_e d N S r h)
def sX6_accept_101 (N : Nat) (b : Bool) (S : gh_St) : Option (gh_St) :=
  some (gh_fI S 45 7 3)
set_option maxRecDepth 100000 in
theorem kX6_accept_101 (d N : Nat) (b : Bool) (S : gh_St) (r : gh_St) (h : sX6_accept_101 N b S = some r) : gh_T (d + 3) fX6_accept 0 0 none false false (101, [(0, .ref 45)], [], (gh_mo S, 0, 0)) (none, (gh_mo r, 0, 0)) := by
  unfold sX6_accept_101 at h
  cases b with
  | false =>
    refine gh_T_steps 4 (τ := (124, [(0, .ref 45)], [], (gh_mo (gh_fI S 45 7 3), 0, 0))) (fun _ => rfl) ?_
    cases h
    exact gh_T_ret (fun _ => rfl)
  | true =>
    refine gh_T_steps 4 (τ := (124, [(0, .ref 45)], [], (gh_mo (gh_fI S 45 7 3), 0, 0))) (fun _ => rfl) ?_
    cases h
    exact gh_T_ret (fun _ => rfl)
def sX6_accept (N : Nat) (b : Bool) (S : gh_St) : Option (gh_St) :=
  bif gh_cmp .eq (S.1 45 7) 0 then
    ((sX6_isWord N false S).bind fun q2 =>
    (gh_fZ q2.2 45 8 q2.1).bind fun S3 =>
    some (gh_fI S3 45 7 1))
  else
    bif gh_cmp .eq (S.1 45 7) 1 then
    (some (gh_fI (gh_fI S 45 9 (S.1 45 6)) 45 7 2))
  else
    bif gh_cmp .eq (S.1 45 7) 2 then
    (bif gh_cmp .eq (S.1 45 8) 0 then
          ((sX5_addPrice N b (S.1 45 9) (S.1 45 6) S).bind fun q6 =>
          sX6_accept_101 N b q6)
        else
          ((sX5_addDock N b (S.1 45 9) (S.1 45 6) S).bind fun q7 =>
          sX6_accept_101 N b q7))
  else
    (some (gh_fI (gh_fI S 45 10 ((S.1 45 10) + (1 : Int32))) 45 7 0))
set_option maxRecDepth 100000 in
theorem kX6_accept_e (d N : Nat) (b : Bool) (S : gh_St) (r : gh_St) (h : sX6_accept N b S = some r) : gh_T (d + 3) fX6_accept 0 0 none false false (0, [(0, .ref 45), (1, .ref 43), (2, .ref (gh_pl b))], [], (gh_mo S, 0, 0)) (none, (gh_mo r, 0, 0)) := by
  unfold sX6_accept at h
  cases b with
  | false =>
    refine gh_T_steps 2 (τ := (4, [(0, .ref 45), (1, .ref 43), (2, .ref (gh_pl false))], [.int (S.1 45 7)], (gh_mo S, 0, 0))) (fun _ => rfl) ?_
    cases c1 : gh_cmp .eq (S.1 45 7) 0 with
    | true =>
      rw [c1, cond_true] at h
      refine gh_T_at 0 c1 (τ := (32, [(0, .ref 45), (1, .ref 43), (2, .ref (gh_pl false))], [], (gh_mo S, 0, 0))) (fun _ => rfl) ?_
      refine gh_T_steps 4 (τ := (37, [(0, .ref 45), (1, .ref 43), (2, .ref (gh_pl false))], [.ref (gh_wd false), .ref 43, .ref 45, .ref 45], (gh_mo S, 0, 0))) (fun _ => rfl) ?_
      obtain ⟨q2, hq2, h⟩ := gh_bi h
      refine gh_T_iv (As := [.ref 43, .ref (gh_wd false)]) (b := 45) (rest := [.ref 45]) (y := some (.int q2.1)) (M' := gh_mo q2.2) rfl rfl rfl rfl rfl rfl rfl rfl rfl ⟨Nat.le_refl _, Nat.le_refl _⟩ (kX6_isWord (d + 2) N false S q2 hq2) ?_
      obtain ⟨S3, hS3, h⟩ := gh_bi h
      refine gh_T_fz rfl rfl rfl hS3 ?_
      refine gh_T_steps 4 (τ := (124, [(0, .ref 45), (1, .ref 43), (2, .ref (gh_pl false))], [], (gh_mo (gh_fI S3 45 7 1), 0, 0))) (fun _ => rfl) ?_
      cases h
      exact gh_T_ret (fun _ => rfl)
    | false =>
      rw [c1, cond_false] at h
      cases c4 : gh_cmp .eq (S.1 45 7) 1 with
      | true =>
        rw [c4, cond_true] at h
        refine gh_T_at 1 c4 (τ := (51, [(0, .ref 45), (1, .ref 43), (2, .ref (gh_pl false))], [], (gh_mo S, 0, 0))) (fun _ => rfl) ?_
        refine gh_T_steps 8 (τ := (124, [(0, .ref 45), (1, .ref 43), (2, .ref (gh_pl false))], [], (gh_mo (gh_fI (gh_fI S 45 9 (S.1 45 6)) 45 7 2), 0, 0))) (fun _ => rfl) ?_
        cases h
        exact gh_T_ret (fun _ => rfl)
      | false =>
        rw [c4, cond_false] at h
        cases c5 : gh_cmp .eq (S.1 45 7) 2 with
        | true =>
          rw [c5, cond_true] at h
          refine gh_T_at 2 c5 (τ := (67, [(0, .ref 45), (1, .ref 43), (2, .ref (gh_pl false))], [], (gh_mo S, 0, 0))) (fun _ => rfl) ?_
          refine gh_T_steps 2 (τ := (71, [(0, .ref 45), (1, .ref 43), (2, .ref (gh_pl false))], [.int (S.1 45 8)], (gh_mo S, 0, 0))) (fun _ => rfl) ?_
          cases c8 : gh_cmp .eq (S.1 45 8) 0 with
          | true =>
            rw [c8, cond_true] at h
            refine gh_T_if true rfl c8 ?_
            refine gh_T_steps 5 (τ := (98, [(0, .ref 45), (1, .ref 43), (2, .ref (gh_pl false))], [.int (S.1 45 6), .int (S.1 45 9), .ref (gh_pl false)], (gh_mo S, 0, 0))) (fun _ => rfl) ?_
            obtain ⟨q6, hq6, h⟩ := gh_bi h
            refine gh_T_iv (As := [.int (S.1 45 9), .int (S.1 45 6)]) (b := gh_pl false) (rest := []) (y := none) (M' := gh_mo q6) rfl rfl rfl rfl rfl rfl rfl rfl rfl ⟨Nat.le_refl _, Nat.le_refl _⟩ (kX5_addPrice d N false (S.1 45 9) (S.1 45 6) S q6 hq6) ?_
            refine gh_T_weak (lv := [(0, .ref 45)]) ⟨rfl, trivial⟩ ?_
            exact kX6_accept_101 d N false q6 _ h
          | false =>
            rw [c8, cond_false] at h
            refine gh_T_if false rfl c8 ?_
            refine gh_T_steps 5 (τ := (83, [(0, .ref 45), (1, .ref 43), (2, .ref (gh_pl false))], [.int (S.1 45 6), .int (S.1 45 9), .ref (gh_pl false)], (gh_mo S, 0, 0))) (fun _ => rfl) ?_
            obtain ⟨q7, hq7, h⟩ := gh_bi h
            refine gh_T_iv (As := [.int (S.1 45 9), .int (S.1 45 6)]) (b := gh_pl false) (rest := []) (y := none) (M' := gh_mo q7) rfl rfl rfl rfl rfl rfl rfl rfl rfl ⟨Nat.le_refl _, Nat.le_refl _⟩ (kX5_addDock (d + 1) N false (S.1 45 9) (S.1 45 6) S q7 hq7) ?_
            refine gh_T_steps 1 (τ := (101, [(0, .ref 45), (1, .ref 43), (2, .ref (gh_pl false))], [], (gh_mo q7, 0, 0))) (fun _ => rfl) ?_
            refine gh_T_weak (lv := [(0, .ref 45)]) ⟨rfl, trivial⟩ ?_
            exact kX6_accept_101 d N false q7 _ h
        | false =>
          rw [c5, cond_false] at h
          refine gh_T_td (tgt := 109) 3 rfl rfl (by decide) ⟨⟨⟨trivial, c1⟩, c4⟩, c5⟩ (by decide) ?_
          refine gh_T_steps 9 (τ := (124, [(0, .ref 45), (1, .ref 43), (2, .ref (gh_pl false))], [], (gh_mo (gh_fI (gh_fI S 45 10 ((S.1 45 10) + (1 : Int32))) 45 7 0), 0, 0))) (fun _ => rfl) ?_
          cases h
          exact gh_T_ret (fun _ => rfl)
  | true =>
    refine gh_T_steps 2 (τ := (4, [(0, .ref 45), (1, .ref 43), (2, .ref (gh_pl true))], [.int (S.1 45 7)], (gh_mo S, 0, 0))) (fun _ => rfl) ?_
    cases c1 : gh_cmp .eq (S.1 45 7) 0 with
    | true =>
      rw [c1, cond_true] at h
      refine gh_T_at 0 c1 (τ := (32, [(0, .ref 45), (1, .ref 43), (2, .ref (gh_pl true))], [], (gh_mo S, 0, 0))) (fun _ => rfl) ?_
      refine gh_T_steps 4 (τ := (37, [(0, .ref 45), (1, .ref 43), (2, .ref (gh_pl true))], [.ref (gh_wd false), .ref 43, .ref 45, .ref 45], (gh_mo S, 0, 0))) (fun _ => rfl) ?_
      obtain ⟨q2, hq2, h⟩ := gh_bi h
      refine gh_T_iv (As := [.ref 43, .ref (gh_wd false)]) (b := 45) (rest := [.ref 45]) (y := some (.int q2.1)) (M' := gh_mo q2.2) rfl rfl rfl rfl rfl rfl rfl rfl rfl ⟨Nat.le_refl _, Nat.le_refl _⟩ (kX6_isWord (d + 2) N false S q2 hq2) ?_
      obtain ⟨S3, hS3, h⟩ := gh_bi h
      refine gh_T_fz rfl rfl rfl hS3 ?_
      refine gh_T_steps 4 (τ := (124, [(0, .ref 45), (1, .ref 43), (2, .ref (gh_pl true))], [], (gh_mo (gh_fI S3 45 7 1), 0, 0))) (fun _ => rfl) ?_
      cases h
      exact gh_T_ret (fun _ => rfl)
    | false =>
      rw [c1, cond_false] at h
      cases c4 : gh_cmp .eq (S.1 45 7) 1 with
      | true =>
        rw [c4, cond_true] at h
        refine gh_T_at 1 c4 (τ := (51, [(0, .ref 45), (1, .ref 43), (2, .ref (gh_pl true))], [], (gh_mo S, 0, 0))) (fun _ => rfl) ?_
        refine gh_T_steps 8 (τ := (124, [(0, .ref 45), (1, .ref 43), (2, .ref (gh_pl true))], [], (gh_mo (gh_fI (gh_fI S 45 9 (S.1 45 6)) 45 7 2), 0, 0))) (fun _ => rfl) ?_
        cases h
        exact gh_T_ret (fun _ => rfl)
      | false =>
        rw [c4, cond_false] at h
        cases c5 : gh_cmp .eq (S.1 45 7) 2 with
        | true =>
          rw [c5, cond_true] at h
          refine gh_T_at 2 c5 (τ := (67, [(0, .ref 45), (1, .ref 43), (2, .ref (gh_pl true))], [], (gh_mo S, 0, 0))) (fun _ => rfl) ?_
          refine gh_T_steps 2 (τ := (71, [(0, .ref 45), (1, .ref 43), (2, .ref (gh_pl true))], [.int (S.1 45 8)], (gh_mo S, 0, 0))) (fun _ => rfl) ?_
          cases c8 : gh_cmp .eq (S.1 45 8) 0 with
          | true =>
            rw [c8, cond_true] at h
            refine gh_T_if true rfl c8 ?_
            refine gh_T_steps 5 (τ := (98, [(0, .ref 45), (1, .ref 43), (2, .ref (gh_pl true))], [.int (S.1 45 6), .int (S.1 45 9), .ref (gh_pl true)], (gh_mo S, 0, 0))) (fun _ => rfl) ?_
            obtain ⟨q6, hq6, h⟩ := gh_bi h
            refine gh_T_iv (As := [.int (S.1 45 9), .int (S.1 45 6)]) (b := gh_pl true) (rest := []) (y := none) (M' := gh_mo q6) rfl rfl rfl rfl rfl rfl rfl rfl rfl ⟨Nat.le_refl _, Nat.le_refl _⟩ (kX5_addPrice d N true (S.1 45 9) (S.1 45 6) S q6 hq6) ?_
            refine gh_T_weak (lv := [(0, .ref 45)]) ⟨rfl, trivial⟩ ?_
            exact kX6_accept_101 d N true q6 _ h
          | false =>
            rw [c8, cond_false] at h
            refine gh_T_if false rfl c8 ?_
            refine gh_T_steps 5 (τ := (83, [(0, .ref 45), (1, .ref 43), (2, .ref (gh_pl true))], [.int (S.1 45 6), .int (S.1 45 9), .ref (gh_pl true)], (gh_mo S, 0, 0))) (fun _ => rfl) ?_
            obtain ⟨q7, hq7, h⟩ := gh_bi h
            refine gh_T_iv (As := [.int (S.1 45 9), .int (S.1 45 6)]) (b := gh_pl true) (rest := []) (y := none) (M' := gh_mo q7) rfl rfl rfl rfl rfl rfl rfl rfl rfl ⟨Nat.le_refl _, Nat.le_refl _⟩ (kX5_addDock (d + 1) N true (S.1 45 9) (S.1 45 6) S q7 hq7) ?_
            refine gh_T_steps 1 (τ := (101, [(0, .ref 45), (1, .ref 43), (2, .ref (gh_pl true))], [], (gh_mo q7, 0, 0))) (fun _ => rfl) ?_
            refine gh_T_weak (lv := [(0, .ref 45)]) ⟨rfl, trivial⟩ ?_
            exact kX6_accept_101 d N true q7 _ h
        | false =>
          rw [c5, cond_false] at h
          refine gh_T_td (tgt := 109) 3 rfl rfl (by decide) ⟨⟨⟨trivial, c1⟩, c4⟩, c5⟩ (by decide) ?_
          refine gh_T_steps 9 (τ := (124, [(0, .ref 45), (1, .ref 43), (2, .ref (gh_pl true))], [], (gh_mo (gh_fI (gh_fI S 45 10 ((S.1 45 10) + (1 : Int32))) 45 7 0), 0, 0))) (fun _ => rfl) ?_
          cases h
          exact gh_T_ret (fun _ => rfl)
theorem kX6_accept (d N : Nat) (b : Bool) (S : gh_St) (r : gh_St) (h : sX6_accept N b S = some r) : gh_Mx (d + 4) 64 [.ref 45, .ref 43, .ref (gh_pl b)] (gh_mo S) none (gh_mo r) :=
  gh_Mx_of rfl rfl rfl rfl rfl rfl (kX6_accept_e d N b S r h)
def sX7_add (N : Nat) (a1 : Int32) (a2 : Int32) (a3 : Int32) (S : gh_St) : Option (Int32 × gh_St) :=
  (sX9_within N a1 0 999 S).bind fun q1 =>
  bif gh_cmp .eq q1.1 0 then
    (some ((-1), q1.2))
  else
    ((sX9_isKind N a2 q1.2).bind fun q2 =>
    bif gh_cmp .eq q2.1 0 then
      (some ((-1), q2.2))
    else
      ((sX9_within N a3 1 9 q2.2).bind fun q3 =>
      bif gh_cmp .ne q3.1 0 then
        (bif gh_cmp .lt (q3.2.1 18 7) 7 then
          ((gh_wa q3.2 19 7 (q3.2.1 18 7) a1).bind fun S4 =>
          (gh_wa S4 20 7 (S4.1 18 7) a2).bind fun S5 =>
          (gh_wa S5 21 7 (S5.1 18 7) a3).bind fun S6 =>
          (sX7_sortIn N (S6.1 18 7) S6).bind fun q7 =>
          some (((gh_fI (gh_fI q7 18 7 ((q7.1 18 7) + (1 : Int32))) 18 11 0).1 18 7) - (1 : Int32), gh_fI (gh_fI q7 18 7 ((q7.1 18 7) + (1 : Int32))) 18 11 0))
        else
          (some ((-1), q3.2)))
      else
        (some ((-1), q3.2))))
set_option maxRecDepth 100000 in
theorem kX7_add_e (d N : Nat) (a1 : Int32) (a2 : Int32) (a3 : Int32) (S : gh_St) (r : Int32 × gh_St) (h : sX7_add N a1 a2 a3 S = some r) : gh_T (d + 2) fX7_add 0 0 none false false (0, [(0, .ref 18), (1, .int a1), (2, .int a2), (3, .int a3)], [], (gh_mo S, 0, 0)) (some (.int r.1), (gh_mo r.2, 0, 0)) := by
  unfold sX7_add at h
  refine gh_T_steps 3 (τ := (5, [(0, .ref 18), (1, .int a1), (2, .int a2), (3, .int a3)], [.int 999, .int 0, .int a1], (gh_mo S, 0, 0))) (fun _ => rfl) ?_
  obtain ⟨q1, hq1, h⟩ := gh_bi h
  refine gh_T_is (As := [.int a1, .int 0, .int 999]) (rest := []) (y := some (.int q1.1)) (M' := gh_mo q1.2) rfl rfl rfl rfl rfl rfl rfl ⟨Nat.le_refl _, Nat.le_refl _⟩ (kX9_within (d + 1) N a1 0 999 S q1 hq1) ?_
  cases c11 : gh_cmp .eq q1.1 0 with
  | true =>
    rw [c11, cond_true] at h
    refine gh_T_if true rfl c11 ?_
    refine gh_T_steps 1 (τ := (29, [(0, .ref 18), (1, .int a1), (2, .int a2), (3, .int a3)], [.int ((-1))], (gh_mo q1.2, 0, 0))) (fun _ => rfl) ?_
    cases h
    exact gh_T_ret (fun _ => rfl)
  | false =>
    rw [c11, cond_false] at h
    refine gh_T_if false rfl c11 ?_
    refine gh_T_steps 1 (τ := (12, [(0, .ref 18), (1, .int a1), (2, .int a2), (3, .int a3)], [.int a2], (gh_mo q1.2, 0, 0))) (fun _ => rfl) ?_
    obtain ⟨q2, hq2, h⟩ := gh_bi h
    refine gh_T_is (As := [.int a2]) (rest := []) (y := some (.int q2.1)) (M' := gh_mo q2.2) rfl rfl rfl rfl rfl rfl rfl ⟨Nat.le_refl _, Nat.le_refl _⟩ (kX9_isKind d N a2 q1.2 q2 hq2) ?_
    cases c10 : gh_cmp .eq q2.1 0 with
    | true =>
      rw [c10, cond_true] at h
      refine gh_T_if true rfl c10 ?_
      refine gh_T_steps 1 (τ := (29, [(0, .ref 18), (1, .int a1), (2, .int a2), (3, .int a3)], [.int ((-1))], (gh_mo q2.2, 0, 0))) (fun _ => rfl) ?_
      cases h
      exact gh_T_ret (fun _ => rfl)
    | false =>
      rw [c10, cond_false] at h
      refine gh_T_if false rfl c10 ?_
      refine gh_T_steps 3 (τ := (22, [(0, .ref 18), (1, .int a1), (2, .int a2), (3, .int a3)], [.int 9, .int 1, .int a3], (gh_mo q2.2, 0, 0))) (fun _ => rfl) ?_
      obtain ⟨q3, hq3, h⟩ := gh_bi h
      refine gh_T_is (As := [.int a3, .int 1, .int 9]) (rest := []) (y := some (.int q3.1)) (M' := gh_mo q3.2) rfl rfl rfl rfl rfl rfl rfl ⟨Nat.le_refl _, Nat.le_refl _⟩ (kX9_within (d + 1) N a3 1 9 q2.2 q3 hq3) ?_
      cases c9 : gh_cmp .ne q3.1 0 with
      | true =>
        rw [c9, cond_true] at h
        refine gh_T_if true rfl c9 ?_
        refine gh_T_steps 3 (τ := (36, [(0, .ref 18), (1, .int a1), (2, .int a2), (3, .int a3)], [.int 7, .int (q3.2.1 18 7)], (gh_mo q3.2, 0, 0))) (fun _ => rfl) ?_
        cases c8 : gh_cmp .lt (q3.2.1 18 7) 7 with
        | true =>
          rw [c8, cond_true] at h
          refine gh_T_ic true rfl c8 ?_
          refine gh_T_steps 5 (τ := (50, [(0, .ref 18), (1, .int a1), (2, .int a2), (3, .int a3)], [.int a1, .int (q3.2.1 18 7), .ref 19], (gh_mo q3.2, 0, 0))) (fun _ => rfl) ?_
          obtain ⟨S4, hS4, h⟩ := gh_bi h
          refine gh_T_wa rfl rfl hS4 ?_
          refine gh_T_steps 5 (τ := (60, [(0, .ref 18), (1, .int a1), (2, .int a2), (3, .int a3)], [.int a2, .int (S4.1 18 7), .ref 20], (gh_mo S4, 0, 0))) (fun _ => rfl) ?_
          obtain ⟨S5, hS5, h⟩ := gh_bi h
          refine gh_T_wa rfl rfl hS5 ?_
          refine gh_T_steps 5 (τ := (70, [(0, .ref 18), (1, .int a1), (2, .int a2), (3, .int a3)], [.int a3, .int (S5.1 18 7), .ref 21], (gh_mo S5, 0, 0))) (fun _ => rfl) ?_
          obtain ⟨S6, hS6, h⟩ := gh_bi h
          refine gh_T_wa rfl rfl hS6 ?_
          refine gh_T_steps 3 (τ := (76, [(0, .ref 18), (1, .int a1), (2, .int a2), (3, .int a3)], [.int (S6.1 18 7), .ref 18], (gh_mo S6, 0, 0))) (fun _ => rfl) ?_
          obtain ⟨q7, hq7, h⟩ := gh_bi h
          refine gh_T_iv (As := [.int (S6.1 18 7)]) (b := 18) (rest := []) (y := none) (M' := gh_mo q7) rfl rfl rfl rfl rfl rfl rfl rfl rfl ⟨Nat.le_refl _, Nat.le_refl _⟩ (kX7_sortIn (d + 1) N (S6.1 18 7) S6 q7 hq7) ?_
          refine gh_T_steps 13 (τ := (100, [(0, .ref 18), (1, .int a1), (2, .int a2), (3, .int a3)], [.int (((gh_fI (gh_fI q7 18 7 ((q7.1 18 7) + (1 : Int32))) 18 11 0).1 18 7) - (1 : Int32))], (gh_mo (gh_fI (gh_fI q7 18 7 ((q7.1 18 7) + (1 : Int32))) 18 11 0), 0, 0))) (fun _ => rfl) ?_
          cases h
          exact gh_T_ret (fun _ => rfl)
        | false =>
          rw [c8, cond_false] at h
          refine gh_T_ic false rfl c8 ?_
          refine gh_T_steps 1 (τ := (40, [(0, .ref 18), (1, .int a1), (2, .int a2), (3, .int a3)], [.int ((-1))], (gh_mo q3.2, 0, 0))) (fun _ => rfl) ?_
          cases h
          exact gh_T_ret (fun _ => rfl)
      | false =>
        rw [c9, cond_false] at h
        refine gh_T_if false rfl c9 ?_
        refine gh_T_steps 1 (τ := (29, [(0, .ref 18), (1, .int a1), (2, .int a2), (3, .int a3)], [.int ((-1))], (gh_mo q3.2, 0, 0))) (fun _ => rfl) ?_
        cases h
        exact gh_T_ret (fun _ => rfl)
theorem kX7_add (d N : Nat) (a1 : Int32) (a2 : Int32) (a3 : Int32) (S : gh_St) (r : Int32 × gh_St) (h : sX7_add N a1 a2 a3 S = some r) : gh_Mx (d + 3) 66 [.ref 18, .int a1, .int a2, .int a3] (gh_mo S) (some (.int r.1)) (gh_mo r.2) :=
  gh_Mx_of rfl rfl rfl rfl rfl rfl (kX7_add_e d N a1 a2 a3 S r h)
def sX9_holds (N : Nat) (a1 : Int32) (a2 : Int32) (S : gh_St) : Option (Int32 × gh_St) :=
  (sX9_isBin N a1 S).bind fun q1 =>
  bif gh_cmp .eq q1.1 0 then
    (some (0, q1.2))
  else
    ((sX9_within N a2 1 500000 q1.2).bind fun q2 =>
    bif gh_cmp .eq q2.1 0 then
      (some (0, q2.2))
    else
      ((gh_ra q2.2 3 8 a1).bind fun x3 =>
      bif gh_cmp .le x3 a2 then
        ((gh_wa q2.2 4 8 a1 a2).bind fun S4 =>
        some (1, S4))
      else
        (some (0, q2.2))))
set_option maxRecDepth 100000 in
theorem kX9_holds_e (d N : Nat) (a1 : Int32) (a2 : Int32) (S : gh_St) (r : Int32 × gh_St) (h : sX9_holds N a1 a2 S = some r) : gh_T (d + 2) fX9_holds 0 0 none true false (0, [(0, .ref 0), (1, .int a1), (2, .int a2)], [], (gh_mo S, 0, 0)) (some (.int r.1), (gh_mo r.2, 0, 0)) := by
  unfold sX9_holds at h
  refine gh_T_steps 1 (τ := (1, [(0, .ref 0), (1, .int a1), (2, .int a2)], [.int a1], (gh_mo S, 0, 0))) (fun _ => rfl) ?_
  obtain ⟨q1, hq1, h⟩ := gh_bi h
  refine gh_T_is (As := [.int a1]) (rest := []) (y := some (.int q1.1)) (M' := gh_mo q1.2) rfl rfl rfl rfl rfl rfl rfl ⟨Nat.le_refl _, Nat.le_refl _⟩ (kX9_isBin d N a1 S q1 hq1) ?_
  cases c7 : gh_cmp .eq q1.1 0 with
  | true =>
    rw [c7, cond_true] at h
    refine gh_T_if true rfl c7 ?_
    refine gh_T_steps 1 (τ := (31, [(0, .ref 0), (1, .int a1), (2, .int a2)], [.int 0], (gh_mo q1.2, 0, 0))) (fun _ => rfl) ?_
    cases h
    exact gh_T_ret (fun _ => rfl)
  | false =>
    rw [c7, cond_false] at h
    refine gh_T_if false rfl c7 ?_
    refine gh_T_steps 3 (τ := (11, [(0, .ref 0), (1, .int a1), (2, .int a2)], [.int 500000, .int 1, .int a2], (gh_mo q1.2, 0, 0))) (fun _ => rfl) ?_
    obtain ⟨q2, hq2, h⟩ := gh_bi h
    refine gh_T_is (As := [.int a2, .int 1, .int 500000]) (rest := []) (y := some (.int q2.1)) (M' := gh_mo q2.2) rfl rfl rfl rfl rfl rfl rfl ⟨Nat.le_refl _, Nat.le_refl _⟩ (kX9_within (d + 1) N a2 1 500000 q1.2 q2 hq2) ?_
    cases c6 : gh_cmp .eq q2.1 0 with
    | true =>
      rw [c6, cond_true] at h
      refine gh_T_if true rfl c6 ?_
      refine gh_T_steps 1 (τ := (31, [(0, .ref 0), (1, .int a1), (2, .int a2)], [.int 0], (gh_mo q2.2, 0, 0))) (fun _ => rfl) ?_
      cases h
      exact gh_T_ret (fun _ => rfl)
    | false =>
      rw [c6, cond_false] at h
      refine gh_T_if false rfl c6 ?_
      refine gh_T_steps 4 (τ := (25, [(0, .ref 0), (1, .int a1), (2, .int a2)], [.int a1, .ref 3], (gh_mo q2.2, 0, 0))) (fun _ => rfl) ?_
      obtain ⟨x3, hx3, h⟩ := gh_bi h
      refine gh_T_ra rfl rfl hx3 ?_
      refine gh_T_steps 1 (τ := (27, [(0, .ref 0), (1, .int a1), (2, .int a2)], [.int a2, .int x3], (gh_mo q2.2, 0, 0))) (fun _ => rfl) ?_
      cases c5 : gh_cmp .le x3 a2 with
      | true =>
        rw [c5, cond_true] at h
        refine gh_T_ic true rfl c5 ?_
        refine gh_T_steps 5 (τ := (41, [(0, .ref 0), (1, .int a1), (2, .int a2)], [.int a2, .int a1, .ref 4], (gh_mo q2.2, 0, 0))) (fun _ => rfl) ?_
        obtain ⟨S4, hS4, h⟩ := gh_bi h
        refine gh_T_wa rfl rfl hS4 ?_
        refine gh_T_steps 1 (τ := (43, [(0, .ref 0), (1, .int a1), (2, .int a2)], [.int 1], (gh_mo S4, 0, 0))) (fun _ => rfl) ?_
        cases h
        exact gh_T_ret (fun _ => rfl)
      | false =>
        rw [c5, cond_false] at h
        refine gh_T_ic false rfl c5 ?_
        refine gh_T_steps 1 (τ := (31, [(0, .ref 0), (1, .int a1), (2, .int a2)], [.int 0], (gh_mo q2.2, 0, 0))) (fun _ => rfl) ?_
        cases h
        exact gh_T_ret (fun _ => rfl)
theorem kX9_holds (d N : Nat) (a1 : Int32) (a2 : Int32) (S : gh_St) (r : Int32 × gh_St) (h : sX9_holds N a1 a2 S = some r) : gh_Mx (d + 3) 79 [.ref 0, .int a1, .int a2] (gh_mo S) (some (.int r.1)) (gh_mo r.2) :=
  gh_Mx_of rfl rfl rfl rfl rfl rfl (kX9_holds_e d N a1 a2 S r h)

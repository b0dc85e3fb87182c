def sX4_find_126 (N : Nat) (kc75 : Int32 → Int32 → Int32 → Int32 → gh_St → Option (Int32 × gh_St)) (l1 : Int32) (l2 : Int32) (l4 : Int32) (l5 : Int32) (S : gh_St) : Option (Int32 × gh_St) :=
  kc75 l1 l2 l4 (l5 + 1) S
set_option maxRecDepth 100000 in
theorem kX4_find_126 (d N : Nat) (kc75 : Int32 → Int32 → Int32 → Int32 → gh_St → Option (Int32 × gh_St)) (hkc75 : ∀ (l1 : Int32) (l2 : Int32) (l4 : Int32) (l5 : Int32) (S : gh_St) (r : Int32 × gh_St), kc75 l1 l2 l4 l5 S = some r → gh_T (d + 3) fX4_find 0 0 none false false (75, [(0, .ref 11), (1, .int l1), (2, .int l2), (4, .int l4), (5, .int l5)], [], (gh_mo S, 0, 0)) (some (.int r.1), (gh_mo r.2, 0, 0))) (l1 : Int32) (l2 : Int32) (l4 : Int32) (l5 : Int32) (S : gh_St) (r : Int32 × gh_St) (h : sX4_find_126 N kc75 l1 l2 l4 l5 S = some r) : gh_T (d + 3) fX4_find 0 0 none false false (126, [(0, .ref 11), (1, .int l1), (2, .int l2), (4, .int l4), (5, .int l5)], [], (gh_mo S, 0, 0)) (some (.int r.1), (gh_mo r.2, 0, 0)) := by
  unfold sX4_find_126 at h
  refine gh_T_steps 2 (τ := (75, [(5, .int (l5 + 1)), (0, .ref 11), (1, .int l1), (2, .int l2), (4, .int l4)], [], (gh_mo S, 0, 0))) (fun _ => rfl) ?_
  refine gh_T_weak (lv := [(0, .ref 11), (1, .int l1), (2, .int l2), (4, .int l4), (5, .int (l5 + 1))]) ⟨rfl, rfl, rfl, rfl, rfl, trivial⟩ ?_
  exact hkc75 l1 l2 l4 (l5 + 1) S _ h
def sX4_find_75 (N : Nat) : Nat → Int32 → Int32 → Int32 → Int32 → gh_St → Option (Int32 × gh_St)
  | 0, _, _, _, _, _ => none
  | n + 1, l1, l2, l4, l5, S =>
    bif gh_cmp .gt l5 5 then
      (bif gh_cmp .ne (S.1 11 6) 0 then
        ((sX4_trace N l1 l2 S).bind fun q1 =>
        some (l4, q1))
      else
        (some ((-1), S)))
    else
      ((sX4_spread N l1 l2 l5 S).bind fun q3 =>
      (gh_ra q3 16 72 ((l5 * (12 : Int32)) + l2)).bind fun x4 =>
      bif gh_cmp .ge x4 l4 then
        (sX4_find_126 N (sX4_find_75 N n) l1 l2 l4 l5 q3)
      else
        ((gh_ra q3 16 72 ((l5 * (12 : Int32)) + l2)).bind fun x5 =>
        sX4_find_126 N (sX4_find_75 N n) l1 l2 x5 l5 (gh_fI q3 11 6 l5)))
set_option maxRecDepth 100000 in
theorem kX4_find_75 (d N : Nat) : ∀ (n : Nat) (l1 : Int32) (l2 : Int32) (l4 : Int32) (l5 : Int32) (S : gh_St) (r : Int32 × gh_St), sX4_find_75 N n l1 l2 l4 l5 S = some r → gh_T (d + 3) fX4_find 0 0 none false false (75, [(0, .ref 11), (1, .int l1), (2, .int l2), (4, .int l4), (5, .int l5)], [], (gh_mo S, 0, 0)) (some (.int r.1), (gh_mo r.2, 0, 0)) := by
  intro n
  induction n with
  | zero =>
    intro l1 l2 l4 l5 S r h
    cases h
  | succ n ih =>
    intro l1 l2 l4 l5 S r h
    rw [sX4_find_75] at h
    refine gh_T_steps 2 (τ := (78, [(0, .ref 11), (1, .int l1), (2, .int l2), (4, .int l4), (5, .int l5)], [.int 5, .int l5], (gh_mo S, 0, 0))) (fun _ => rfl) ?_
    cases c7 : gh_cmp .gt l5 5 with
    | true =>
      rw [c7, cond_true] at h
      refine gh_T_ic true rfl c7 ?_
      refine gh_T_steps 2 (τ := (136, [(0, .ref 11), (1, .int l1), (2, .int l2), (4, .int l4), (5, .int l5)], [.int (S.1 11 6)], (gh_mo S, 0, 0))) (fun _ => rfl) ?_
      cases c2 : gh_cmp .ne (S.1 11 6) 0 with
      | true =>
        rw [c2, cond_true] at h
        refine gh_T_if true rfl c2 ?_
        refine gh_T_steps 3 (τ := (144, [(0, .ref 11), (1, .int l1), (2, .int l2), (4, .int l4), (5, .int l5)], [.int l2, .int l1, .ref 11], (gh_mo S, 0, 0))) (fun _ => rfl) ?_
        obtain ⟨q1, hq1, h⟩ := gh_bi h
        refine gh_T_iv (As := [.int l1, .int l2]) (b := 11) (rest := []) (y := none) (M' := gh_mo q1) rfl rfl rfl rfl rfl rfl rfl rfl rfl ⟨Nat.le_refl _, Nat.le_refl _⟩ (kX4_trace d N l1 l2 S q1 hq1) ?_
        refine gh_T_steps 1 (τ := (149, [(0, .ref 11), (1, .int l1), (2, .int l2), (4, .int l4), (5, .int l5)], [.int l4], (gh_mo q1, 0, 0))) (fun _ => rfl) ?_
        cases h
        exact gh_T_ret (fun _ => rfl)
      | false =>
        rw [c2, cond_false] at h
        refine gh_T_if false rfl c2 ?_
        refine gh_T_steps 1 (τ := (140, [(0, .ref 11), (1, .int l1), (2, .int l2), (4, .int l4), (5, .int l5)], [.int ((-1))], (gh_mo S, 0, 0))) (fun _ => rfl) ?_
        cases h
        exact gh_T_ret (fun _ => rfl)
    | false =>
      rw [c7, cond_false] at h
      refine gh_T_ic false rfl c7 ?_
      refine gh_T_steps 4 (τ := (86, [(0, .ref 11), (1, .int l1), (2, .int l2), (4, .int l4), (5, .int l5)], [.int l5, .int l2, .int l1, .ref 11], (gh_mo S, 0, 0))) (fun _ => rfl) ?_
      obtain ⟨q3, hq3, h⟩ := gh_bi h
      refine gh_T_iv (As := [.int l1, .int l2, .int l5]) (b := 11) (rest := []) (y := none) (M' := gh_mo q3) rfl rfl rfl rfl rfl rfl rfl rfl rfl ⟨Nat.le_refl _, Nat.le_refl _⟩ (kX4_spread (d + 1) N l1 l2 l5 S q3 hq3) ?_
      refine gh_T_steps 7 (τ := (100, [(0, .ref 11), (1, .int l1), (2, .int l2), (4, .int l4), (5, .int l5)], [.int ((l5 * (12 : Int32)) + l2), .ref 16], (gh_mo q3, 0, 0))) (fun _ => rfl) ?_
      obtain ⟨x4, hx4, h⟩ := gh_bi h
      refine gh_T_ra rfl rfl hx4 ?_
      refine gh_T_steps 1 (τ := (103, [(0, .ref 11), (1, .int l1), (2, .int l2), (4, .int l4), (5, .int l5)], [.int l4, .int x4], (gh_mo q3, 0, 0))) (fun _ => rfl) ?_
      cases c6 : gh_cmp .ge x4 l4 with
      | true =>
        rw [c6, cond_true] at h
        refine gh_T_ic true rfl c6 ?_
        exact kX4_find_126 d N (sX4_find_75 N n) ih l1 l2 l4 l5 q3 _ h
      | false =>
        rw [c6, cond_false] at h
        refine gh_T_ic false rfl c6 ?_
        refine gh_T_steps 7 (τ := (117, [(0, .ref 11), (1, .int l1), (2, .int l2), (4, .int l4), (5, .int l5)], [.int ((l5 * (12 : Int32)) + l2), .ref 16], (gh_mo q3, 0, 0))) (fun _ => rfl) ?_
        obtain ⟨x5, hx5, h⟩ := gh_bi h
        refine gh_T_ra rfl rfl hx5 ?_
        refine gh_T_steps 4 (τ := (126, [(4, .int x5), (0, .ref 11), (1, .int l1), (2, .int l2), (5, .int l5)], [], (gh_mo (gh_fI q3 11 6 l5), 0, 0))) (fun _ => rfl) ?_
        refine gh_T_weak (lv := [(0, .ref 11), (1, .int l1), (2, .int l2), (4, .int x5), (5, .int l5)]) ⟨rfl, rfl, rfl, rfl, rfl, trivial⟩ ?_
        exact kX4_find_126 d N (sX4_find_75 N n) ih l1 l2 x5 l5 (gh_fI q3 11 6 l5) _ h
def sX4_find_36 (N : Nat) : Nat → Int32 → Int32 → Int32 → Int32 → gh_St → Option (Int32 × gh_St)
  | 0, _, _, _, _, _ => none
  | n + 1, l1, l2, l3, l4, S =>
    bif gh_cmp .ge l4 72 then
      ((gh_wa S 16 72 l3 0).bind fun S1 =>
      sX4_find_75 N N l1 l2 1000000 1 S1)
    else
      ((gh_wa S 16 72 l4 1000000).bind fun S2 =>
      (sX4_find_36 N n) l1 l2 l3 (l4 + 1) S2)
set_option maxRecDepth 100000 in
theorem kX4_find_36 (d N : Nat) : ∀ (n : Nat) (l1 : Int32) (l2 : Int32) (l3 : Int32) (l4 : Int32) (S : gh_St) (r : Int32 × gh_St), sX4_find_36 N n l1 l2 l3 l4 S = some r → gh_T (d + 3) fX4_find 0 0 none false false (36, [(0, .ref 11), (1, .int l1), (2, .int l2), (3, .int l3), (4, .int l4)], [], (gh_mo S, 0, 0)) (some (.int r.1), (gh_mo r.2, 0, 0)) := by
  intro n
  induction n with
  | zero =>
    intro l1 l2 l3 l4 S r h
    cases h
  | succ n ih =>
    intro l1 l2 l3 l4 S r h
    rw [sX4_find_36] at h
    refine gh_T_steps 4 (τ := (43, [(0, .ref 11), (1, .int l1), (2, .int l2), (3, .int l3), (4, .int l4)], [.int 72, .int l4], (gh_mo S, 0, 0))) (fun _ => rfl) ?_
    cases c3 : gh_cmp .ge l4 72 with
    | true =>
      rw [c3, cond_true] at h
      refine gh_T_ic true rfl c3 ?_
      refine gh_T_steps 4 (τ := (67, [(0, .ref 11), (1, .int l1), (2, .int l2), (3, .int l3), (4, .int l4)], [.int 0, .int l3, .ref 16], (gh_mo S, 0, 0))) (fun _ => rfl) ?_
      obtain ⟨S1, hS1, h⟩ := gh_bi h
      refine gh_T_wa rfl rfl hS1 ?_
      refine gh_T_steps 4 (τ := (75, [(5, .int 1), (4, .int 1000000), (0, .ref 11), (1, .int l1), (2, .int l2), (3, .int l3)], [], (gh_mo S1, 0, 0))) (fun _ => rfl) ?_
      refine gh_T_weak (lv := [(0, .ref 11), (1, .int l1), (2, .int l2), (4, .int 1000000), (5, .int 1)]) ⟨rfl, rfl, rfl, rfl, rfl, trivial⟩ ?_
      exact kX4_find_75 d N N l1 l2 1000000 1 S1 _ h
    | false =>
      rw [c3, cond_false] at h
      refine gh_T_ic false rfl c3 ?_
      refine gh_T_steps 4 (τ := (54, [(0, .ref 11), (1, .int l1), (2, .int l2), (3, .int l3), (4, .int l4)], [.int 1000000, .int l4, .ref 16], (gh_mo S, 0, 0))) (fun _ => rfl) ?_
      obtain ⟨S2, hS2, h⟩ := gh_bi h
      refine gh_T_wa rfl rfl hS2 ?_
      refine gh_T_steps 2 (τ := (36, [(4, .int (l4 + 1)), (0, .ref 11), (1, .int l1), (2, .int l2), (3, .int l3)], [], (gh_mo S2, 0, 0))) (fun _ => rfl) ?_
      refine gh_T_weak (lv := [(0, .ref 11), (1, .int l1), (2, .int l2), (3, .int l3), (4, .int (l4 + 1))]) ⟨rfl, rfl, rfl, rfl, rfl, trivial⟩ ?_
      exact ih l1 l2 l3 (l4 + 1) S2 _ h
def sX4_find (N : Nat) (a1 : Int32) (a2 : Int32) (a3 : Int32) (S : gh_St) : Option (Int32 × gh_St) :=
  (sX9_isKind N a1 (gh_fI S 11 6 0)).bind fun q1 =>
  bif gh_cmp .eq q1.1 0 then
    (some ((-1), q1.2))
  else
    ((sX9_isBin N a2 q1.2).bind fun q2 =>
    bif gh_cmp .eq q2.1 0 then
      (some ((-1), q2.2))
    else
      ((sX9_isBin N a3 q2.2).bind fun q3 =>
      bif gh_cmp .eq q3.1 0 then
        (some ((-1), q3.2))
      else
        (bif gh_cmp .ne a2 a3 then
          (sX4_find_36 N N a1 a2 a3 0 q3.2)
        else
          (some ((-1), q3.2)))))
set_option maxRecDepth 100000 in
theorem kX4_find_e (d N : Nat) (a1 : Int32) (a2 : Int32) (a3 : Int32) (S : gh_St) (r : Int32 × gh_St) (h : sX4_find N a1 a2 a3 S = some r) : gh_T (d + 3) fX4_find 0 0 none false false (0, [(0, .ref 11), (1, .int a1), (2, .int a2), (3, .int a3)], [], (gh_mo S, 0, 0)) (some (.int r.1), (gh_mo r.2, 0, 0)) := by
  unfold sX4_find at h
  refine gh_T_steps 4 (τ := (6, [(0, .ref 11), (1, .int a1), (2, .int a2), (3, .int a3)], [.int a1], (gh_mo (gh_fI S 11 6 0), 0, 0))) (fun _ => rfl) ?_
  obtain ⟨q1, hq1, h⟩ := gh_bi h
  refine gh_T_is (As := [.int a1]) (rest := []) (y := some (.int q1.1)) (M' := gh_mo q1.2) rfl rfl rfl rfl rfl rfl rfl ⟨Nat.le_refl _, Nat.le_refl _⟩ (kX9_isKind (d + 1) N a1 (gh_fI S 11 6 0) q1 hq1) ?_
  cases c7 : gh_cmp .eq q1.1 0 with
  | true =>
    rw [c7, cond_true] at h
    refine gh_T_if true rfl c7 ?_
    refine gh_T_steps 1 (τ := (32, [(0, .ref 11), (1, .int a1), (2, .int a2), (3, .int a3)], [.int ((-1))], (gh_mo q1.2, 0, 0))) (fun _ => rfl) ?_
    cases h
    exact gh_T_ret (fun _ => rfl)
  | false =>
    rw [c7, cond_false] at h
    refine gh_T_if false rfl c7 ?_
    refine gh_T_steps 1 (τ := (13, [(0, .ref 11), (1, .int a1), (2, .int a2), (3, .int a3)], [.int a2], (gh_mo q1.2, 0, 0))) (fun _ => rfl) ?_
    obtain ⟨q2, hq2, h⟩ := gh_bi h
    refine gh_T_is (As := [.int a2]) (rest := []) (y := some (.int q2.1)) (M' := gh_mo q2.2) rfl rfl rfl rfl rfl rfl rfl ⟨Nat.le_refl _, Nat.le_refl _⟩ (kX9_isBin (d + 1) N a2 q1.2 q2 hq2) ?_
    cases c6 : gh_cmp .eq q2.1 0 with
    | true =>
      rw [c6, cond_true] at h
      refine gh_T_if true rfl c6 ?_
      refine gh_T_steps 1 (τ := (32, [(0, .ref 11), (1, .int a1), (2, .int a2), (3, .int a3)], [.int ((-1))], (gh_mo q2.2, 0, 0))) (fun _ => rfl) ?_
      cases h
      exact gh_T_ret (fun _ => rfl)
    | false =>
      rw [c6, cond_false] at h
      refine gh_T_if false rfl c6 ?_
      refine gh_T_steps 1 (τ := (20, [(0, .ref 11), (1, .int a1), (2, .int a2), (3, .int a3)], [.int a3], (gh_mo q2.2, 0, 0))) (fun _ => rfl) ?_
      obtain ⟨q3, hq3, h⟩ := gh_bi h
      refine gh_T_is (As := [.int a3]) (rest := []) (y := some (.int q3.1)) (M' := gh_mo q3.2) rfl rfl rfl rfl rfl rfl rfl ⟨Nat.le_refl _, Nat.le_refl _⟩ (kX9_isBin (d + 1) N a3 q2.2 q3 hq3) ?_
      cases c5 : gh_cmp .eq q3.1 0 with
      | true =>
        rw [c5, cond_true] at h
        refine gh_T_if true rfl c5 ?_
        refine gh_T_steps 1 (τ := (32, [(0, .ref 11), (1, .int a1), (2, .int a2), (3, .int a3)], [.int ((-1))], (gh_mo q3.2, 0, 0))) (fun _ => rfl) ?_
        cases h
        exact gh_T_ret (fun _ => rfl)
      | false =>
        rw [c5, cond_false] at h
        refine gh_T_if false rfl c5 ?_
        refine gh_T_steps 2 (τ := (28, [(0, .ref 11), (1, .int a1), (2, .int a2), (3, .int a3)], [.int a3, .int a2], (gh_mo q3.2, 0, 0))) (fun _ => rfl) ?_
        cases c4 : gh_cmp .ne a2 a3 with
        | true =>
          rw [c4, cond_true] at h
          refine gh_T_ic true rfl c4 ?_
          refine gh_T_steps 2 (τ := (36, [(4, .int 0), (0, .ref 11), (1, .int a1), (2, .int a2), (3, .int a3)], [], (gh_mo q3.2, 0, 0))) (fun _ => rfl) ?_
          refine gh_T_weak (lv := [(0, .ref 11), (1, .int a1), (2, .int a2), (3, .int a3), (4, .int 0)]) ⟨rfl, rfl, rfl, rfl, rfl, trivial⟩ ?_
          exact kX4_find_36 d N N a1 a2 a3 0 q3.2 _ h
        | false =>
          rw [c4, cond_false] at h
          refine gh_T_ic false rfl c4 ?_
          refine gh_T_steps 1 (τ := (32, [(0, .ref 11), (1, .int a1), (2, .int a2), (3, .int a3)], [.int ((-1))], (gh_mo q3.2, 0, 0))) (fun _ => rfl) ?_
          cases h
          exact gh_T_ret (fun _ => rfl)
theorem kX4_find (d N : Nat) (a1 : Int32) (a2 : Int32) (a3 : Int32) (S : gh_St) (r : Int32 × gh_St) (h : sX4_find N a1 a2 a3 S = some r) : gh_Mx (d + 4) 39 [.ref 11, .int a1, .int a2, .int a3] (gh_mo S) (some (.int r.1)) (gh_mo r.2) :=
  gh_Mx_of rfl rfl rfl rfl rfl rfl (kX4_find_e d N a1 a2 a3 S r h)
def sX6_readNumber_5 (N : Nat) : Nat → gh_St → Option (gh_St)
  | 0, _ => none
  | n + 1, S =>
    bif gh_cmp .ge (S.1 45 3) (S.1 43 1) then
      (some S)
    else
      ((gh_ra S 44 200 (S.1 45 3)).bind fun x1 =>
      (sX6_isDigit N x1 S).bind fun q2 =>
      bif gh_cmp .eq q2.1 0 then
        (some q2.2)
      else
        ((gh_ra q2.2 44 200 (q2.2.1 45 3)).bind fun x3 =>
        (sX6_readNumber_5 N n)  (gh_fI (gh_fI q2.2 45 6 (gh_min 1000000 ((((q2.2.1 45 6) * (10 : Int32)) + x3) - (48 : Int32)))) 45 3 (((gh_fI q2.2 45 6 (gh_min 1000000 ((((q2.2.1 45 6) * (10 : Int32)) + x3) - (48 : Int32)))).1 45 3) + (1 : Int32)))))
set_option maxRecDepth 100000 in
theorem kX6_readNumber_5 (d N : Nat) : ∀ (n : Nat) (S : gh_St) (r : gh_St), sX6_readNumber_5 N n S = some r → gh_T (d + 2) fX6_readNumber 0 0 none false false (5, [(0, .ref 45), (1, .ref 43)], [], (gh_mo S, 0, 0)) (none, (gh_mo r, 0, 0)) := by
  intro n
  induction n with
  | zero =>
    intro S r h
    cases h
  | succ n ih =>
    intro S r h
    rw [sX6_readNumber_5] at h
    refine gh_T_steps 4 (τ := (13, [(0, .ref 45), (1, .ref 43)], [.int (S.1 43 1), .int (S.1 45 3)], (gh_mo S, 0, 0))) (fun _ => rfl) ?_
    cases c5 : gh_cmp .ge (S.1 45 3) (S.1 43 1) with
    | true =>
      rw [c5, cond_true] at h
      refine gh_T_ic true rfl c5 ?_
      cases h
      exact gh_T_ret (fun _ => rfl)
    | false =>
      rw [c5, cond_false] at h
      refine gh_T_ic false rfl c5 ?_
      refine gh_T_steps 4 (τ := (24, [(0, .ref 45), (1, .ref 43)], [.int (S.1 45 3), .ref 44], (gh_mo S, 0, 0))) (fun _ => rfl) ?_
      obtain ⟨x1, hx1, h⟩ := gh_bi h
      refine gh_T_ra rfl rfl hx1 ?_
      obtain ⟨q2, hq2, h⟩ := gh_bi h
      refine gh_T_is (As := [.int x1]) (rest := []) (y := some (.int q2.1)) (M' := gh_mo q2.2) rfl rfl rfl rfl rfl rfl rfl ⟨Nat.le_refl _, Nat.le_refl _⟩ (kX6_isDigit d N x1 S q2 hq2) ?_
      cases c4 : gh_cmp .eq q2.1 0 with
      | true =>
        rw [c4, cond_true] at h
        refine gh_T_if true rfl c4 ?_
        cases h
        exact gh_T_ret (fun _ => rfl)
      | false =>
        rw [c4, cond_false] at h
        refine gh_T_if false rfl c4 ?_
        refine gh_T_steps 10 (τ := (49, [(0, .ref 45), (1, .ref 43)], [.int (q2.2.1 45 3), .ref 44, .int ((q2.2.1 45 6) * (10 : Int32)), .int 1000000, .ref 45], (gh_mo q2.2, 0, 0))) (fun _ => rfl) ?_
        obtain ⟨x3, hx3, h⟩ := gh_bi h
        refine gh_T_ra rfl rfl hx3 ?_
        refine gh_T_steps 12 (τ := (5, [(0, .ref 45), (1, .ref 43)], [], (gh_mo (gh_fI (gh_fI q2.2 45 6 (gh_min 1000000 ((((q2.2.1 45 6) * (10 : Int32)) + x3) - (48 : Int32)))) 45 3 (((gh_fI q2.2 45 6 (gh_min 1000000 ((((q2.2.1 45 6) * (10 : Int32)) + x3) - (48 : Int32)))).1 45 3) + (1 : Int32))), 0, 0))) (fun _ => rfl) ?_
        exact ih  (gh_fI (gh_fI q2.2 45 6 (gh_min 1000000 ((((q2.2.1 45 6) * (10 : Int32)) + x3) - (48 : Int32)))) 45 3 (((gh_fI q2.2 45 6 (gh_min 1000000 ((((q2.2.1 45 6) * (10 : Int32)) + x3) - (48 : Int32)))).1 45 3) + (1 : Int32))) _ h
def sX6_readNumber (N : Nat) (S : gh_St) : Option (gh_St) :=
  sX6_readNumber_5 N N (gh_fI S 45 6 0)
set_option maxRecDepth 100000 in
theorem kX6_readNumber_e (d N : Nat) (S : gh_St) (r : gh_St) (h : sX6_readNumber N S = some r) : gh_T (d + 2) fX6_readNumber 0 0 none false false (0, [(0, .ref 45), (1, .ref 43)], [], (gh_mo S, 0, 0)) (none, (gh_mo r, 0, 0)) := by
  unfold sX6_readNumber at h
  refine gh_T_steps 3 (τ := (5, [(0, .ref 45), (1, .ref 43)], [], (gh_mo (gh_fI S 45 6 0), 0, 0))) (fun _ => rfl) ?_
  exact kX6_readNumber_5 d N N (gh_fI S 45 6 0) _ h
theorem kX6_readNumber (d N : Nat) (S : gh_St) (r : gh_St) (h : sX6_readNumber N S = some r) : gh_Mx (d + 3) 57 [.ref 45, .ref 43] (gh_mo S) none (gh_mo r) :=
  gh_Mx_of rfl rfl rfl rfl rfl rfl (kX6_readNumber_e d N S r h)
def sX9_way (N : Nat) (a1 : Int32) (a2 : Int32) (a3 : Int32) (S : gh_St) : Option (Int32 × gh_St) :=
  (sX4_find N a1 a2 a3 S).bind fun q1 =>
  some (q1.1, q1.2)
set_option maxRecDepth 100000 in
theorem kX9_way_e (d N : Nat) (a1 : Int32) (a2 : Int32) (a3 : Int32) (S : gh_St) (r : Int32 × gh_St) (h : sX9_way N a1 a2 a3 S = some r) : gh_T (d + 4) fX9_way 0 0 none false false (0, [(0, .ref 0), (1, .int a1), (2, .int a2), (3, .int a3)], [], (gh_mo S, 0, 0)) (some (.int r.1), (gh_mo r.2, 0, 0)) := by
  unfold sX9_way at h
  refine gh_T_steps 5 (τ := (7, [(0, .ref 0), (1, .int a1), (2, .int a2), (3, .int a3)], [.int a3, .int a2, .int a1, .ref 11], (gh_mo S, 0, 0))) (fun _ => rfl) ?_
  obtain ⟨q1, hq1, h⟩ := gh_bi h
  refine gh_T_iv (As := [.int a1, .int a2, .int a3]) (b := 11) (rest := []) (y := some (.int q1.1)) (M' := gh_mo q1.2) rfl rfl rfl rfl rfl rfl rfl rfl rfl ⟨Nat.le_refl _, Nat.le_refl _⟩ (kX4_find d N a1 a2 a3 S q1 hq1) ?_
  cases h
  exact gh_T_ret (fun _ => rfl)
theorem kX9_way (d N : Nat) (a1 : Int32) (a2 : Int32) (a3 : Int32) (S : gh_St) (r : Int32 × gh_St) (h : sX9_way N a1 a2 a3 S = some r) : gh_Mx (d + 5) 83 [.ref 0, .int a1, .int a2, .int a3] (gh_mo S) (some (.int r.1)) (gh_mo r.2) :=
  gh_Mx_of rfl rfl rfl rfl rfl rfl (kX9_way_e d N a1 a2 a3 S r h)
def sX9_wayLeg (N : Nat) (a1 : Int32) (a2 : Int32) (a3 : Int32) (a4 : Int32) (S : gh_St) : Option (Int32 × gh_St) :=
  (sX4_find N a1 a2 a3 S).bind fun q1 =>
  bif gh_cmp .eq q1.1 ((-1)) then
    (some ((-1), q1.2))
  else
    ((sX9_within N a4 0 ((q1.2.1 11 6) - (1 : Int32)) q1.2).bind fun q2 =>
    bif gh_cmp .ne q2.1 0 then
      ((gh_ra q2.2 17 5 a4).bind fun x3 =>
      some (x3, q2.2))
    else
      (some ((-1), q2.2)))
set_option maxRecDepth 100000 in
theorem kX9_wayLeg_e (d N : Nat) (a1 : Int32) (a2 : Int32) (a3 : Int32) (a4 : Int32) (S : gh_St) (r : Int32 × gh_St) (h : sX9_wayLeg N a1 a2 a3 a4 S = some r) : gh_T (d + 4) fX9_wayLeg 0 0 none false false (0, [(0, .ref 0), (1, .int a1), (2, .int a2), (3, .int a3), (4, .int a4)], [], (gh_mo S, 0, 0)) (some (.int r.1), (gh_mo r.2, 0, 0)) := by
  unfold sX9_wayLeg at h
  refine gh_T_steps 5 (τ := (7, [(0, .ref 0), (1, .int a1), (2, .int a2), (3, .int a3), (4, .int a4)], [.int a3, .int a2, .int a1, .ref 11], (gh_mo S, 0, 0))) (fun _ => rfl) ?_
  obtain ⟨q1, hq1, h⟩ := gh_bi h
  refine gh_T_iv (As := [.int a1, .int a2, .int a3]) (b := 11) (rest := []) (y := some (.int q1.1)) (M' := gh_mo q1.2) rfl rfl rfl rfl rfl rfl rfl rfl rfl ⟨Nat.le_refl _, Nat.le_refl _⟩ (kX4_find d N a1 a2 a3 S q1 hq1) ?_
  refine gh_T_steps 1 (τ := (11, [(0, .ref 0), (1, .int a1), (2, .int a2), (3, .int a3), (4, .int a4)], [.int ((-1)), .int q1.1], (gh_mo q1.2, 0, 0))) (fun _ => rfl) ?_
  cases c5 : gh_cmp .eq q1.1 ((-1)) with
  | true =>
    rw [c5, cond_true] at h
    refine gh_T_ic true rfl c5 ?_
    refine gh_T_steps 1 (τ := (33, [(0, .ref 0), (1, .int a1), (2, .int a2), (3, .int a3), (4, .int a4)], [.int ((-1))], (gh_mo q1.2, 0, 0))) (fun _ => rfl) ?_
    cases h
    exact gh_T_ret (fun _ => rfl)
  | false =>
    rw [c5, cond_false] at h
    refine gh_T_ic false rfl c5 ?_
    refine gh_T_steps 7 (τ := (26, [(0, .ref 0), (1, .int a1), (2, .int a2), (3, .int a3), (4, .int a4)], [.int ((q1.2.1 11 6) - (1 : Int32)), .int 0, .int a4], (gh_mo q1.2, 0, 0))) (fun _ => rfl) ?_
    obtain ⟨q2, hq2, h⟩ := gh_bi h
    refine gh_T_is (As := [.int a4, .int 0, .int ((q1.2.1 11 6) - (1 : Int32))]) (rest := []) (y := some (.int q2.1)) (M' := gh_mo q2.2) rfl rfl rfl rfl rfl rfl rfl ⟨Nat.le_refl _, Nat.le_refl _⟩ (kX9_within (d + 3) N a4 0 ((q1.2.1 11 6) - (1 : Int32)) q1.2 q2 hq2) ?_
    cases c4 : gh_cmp .ne q2.1 0 with
    | true =>
      rw [c4, cond_true] at h
      refine gh_T_if true rfl c4 ?_
      refine gh_T_steps 4 (τ := (43, [(0, .ref 0), (1, .int a1), (2, .int a2), (3, .int a3), (4, .int a4)], [.int a4, .ref 17], (gh_mo q2.2, 0, 0))) (fun _ => rfl) ?_
      obtain ⟨x3, hx3, h⟩ := gh_bi h
      refine gh_T_ra rfl rfl hx3 ?_
      cases h
      exact gh_T_ret (fun _ => rfl)
    | false =>
      rw [c4, cond_false] at h
      refine gh_T_if false rfl c4 ?_
      refine gh_T_steps 1 (τ := (33, [(0, .ref 0), (1, .int a1), (2, .int a2), (3, .int a3), (4, .int a4)], [.int ((-1))], (gh_mo q2.2, 0, 0))) (fun _ => rfl) ?_
      cases h
      exact gh_T_ret (fun _ => rfl)
theorem kX9_wayLeg (d N : Nat) (a1 : Int32) (a2 : Int32) (a3 : Int32) (a4 : Int32) (S : gh_St) (r : Int32 × gh_St) (h : sX9_wayLeg N a1 a2 a3 a4 S = some r) : gh_Mx (d + 5) 84 [.ref 0, .int a1, .int a2, .int a3, .int a4] (gh_mo S) (some (.int r.1)) (gh_mo r.2) :=
  gh_Mx_of rfl rfl rfl rfl rfl rfl (kX9_wayLeg_e d N a1 a2 a3 a4 S r h)
def sX9_move_91 (N : Nat) (l5 : Int32) (S : gh_St) : Option (Int32 × gh_St) :=
  some (l5, S)
set_option maxRecDepth 100000 in
theorem kX9_move_91 (d N : Nat) (l5 : Int32) (S : gh_St) (r : Int32 × gh_St) (h : sX9_move_91 N l5 S = some r) : gh_T (d + 4) fX9_move 0 0 none false false (91, [(5, .int l5)], [], (gh_mo S, 0, 0)) (some (.int r.1), (gh_mo r.2, 0, 0)) := by
  unfold sX9_move_91 at h
  refine gh_T_steps 1 (τ := (93, [(5, .int l5)], [.int l5], (gh_mo S, 0, 0))) (fun _ => rfl) ?_
  cases h
  exact gh_T_ret (fun _ => rfl)
def sX9_move (N : Nat) (a1 : Int32) (a2 : Int32) (a3 : Int32) (S : gh_St) : Option (Int32 × gh_St) :=
  (sX0_canTake N a1 a3 S).bind fun q1 =>
  bif gh_cmp .ne q1.1 0 then
    ((gh_ra q1.2 2 8 a1).bind fun x2 =>
    (sX0_canPut N a2 x2 a3 q1.2).bind fun q3 =>
    bif gh_cmp .ne q3.1 0 then
      ((sX4_find N x2 a1 a2 q3.2).bind fun q4 =>
      bif gh_cmp .eq q4.1 ((-1)) then
        (sX9_move_91 N q4.1 q4.2)
      else
        ((sX4_goBy N x2 q4.1 q4.2).bind fun q5 =>
        (sX0_take N a1 a3 q5).bind fun q6 =>
        (sX0_put N a2 x2 a3 q6.1 q6.2).bind fun q7 =>
        sX9_move_91 N q4.1 q7))
    else
      (some ((-1), q3.2)))
  else
    (some ((-1), q1.2))
set_option maxRecDepth 100000 in
theorem kX9_move_e (d N : Nat) (a1 : Int32) (a2 : Int32) (a3 : Int32) (S : gh_St) (r : Int32 × gh_St) (h : sX9_move N a1 a2 a3 S = some r) : gh_T (d + 4) fX9_move 0 0 none false false (0, [(0, .ref 0), (1, .int a1), (2, .int a2), (3, .int a3)], [], (gh_mo S, 0, 0)) (some (.int r.1), (gh_mo r.2, 0, 0)) := by
  unfold sX9_move at h
  refine gh_T_steps 4 (τ := (6, [(0, .ref 0), (1, .int a1), (2, .int a2), (3, .int a3)], [.int a3, .int a1, .ref 1], (gh_mo S, 0, 0))) (fun _ => rfl) ?_
  obtain ⟨q1, hq1, h⟩ := gh_bi h
  refine gh_T_iv (As := [.int a1, .int a3]) (b := 1) (rest := []) (y := some (.int q1.1)) (M' := gh_mo q1.2) rfl rfl rfl rfl rfl rfl rfl rfl rfl ⟨Nat.le_refl _, Nat.le_refl _⟩ (kX0_canTake (d + 1) N a1 a3 S q1 hq1) ?_
  cases c10 : gh_cmp .ne q1.1 0 with
  | true =>
    rw [c10, cond_true] at h
    refine gh_T_if true rfl c10 ?_
    refine gh_T_steps 4 (τ := (22, [(0, .ref 0), (1, .int a1), (2, .int a2), (3, .int a3)], [.int a1, .ref 2], (gh_mo q1.2, 0, 0))) (fun _ => rfl) ?_
    obtain ⟨x2, hx2, h⟩ := gh_bi h
    refine gh_T_ra rfl rfl hx2 ?_
    refine gh_T_steps 6 (τ := (33, [(4, .int x2), (0, .ref 0), (1, .int a1), (2, .int a2), (3, .int a3)], [.int a3, .int x2, .int a2, .ref 1], (gh_mo q1.2, 0, 0))) (fun _ => rfl) ?_
    obtain ⟨q3, hq3, h⟩ := gh_bi h
    refine gh_T_iv (As := [.int a2, .int x2, .int a3]) (b := 1) (rest := []) (y := some (.int q3.1)) (M' := gh_mo q3.2) rfl rfl rfl rfl rfl rfl rfl rfl rfl ⟨Nat.le_refl _, Nat.le_refl _⟩ (kX0_canPut (d + 1) N a2 x2 a3 q1.2 q3 hq3) ?_
    cases c9 : gh_cmp .ne q3.1 0 with
    | true =>
      rw [c9, cond_true] at h
      refine gh_T_if true rfl c9 ?_
      refine gh_T_steps 5 (τ := (49, [(4, .int x2), (0, .ref 0), (1, .int a1), (2, .int a2), (3, .int a3)], [.int a2, .int a1, .int x2, .ref 11], (gh_mo q3.2, 0, 0))) (fun _ => rfl) ?_
      obtain ⟨q4, hq4, h⟩ := gh_bi h
      refine gh_T_iv (As := [.int x2, .int a1, .int a2]) (b := 11) (rest := []) (y := some (.int q4.1)) (M' := gh_mo q4.2) rfl rfl rfl rfl rfl rfl rfl rfl rfl ⟨Nat.le_refl _, Nat.le_refl _⟩ (kX4_find d N x2 a1 a2 q3.2 q4 hq4) ?_
      refine gh_T_steps 3 (τ := (57, [(5, .int q4.1), (4, .int x2), (0, .ref 0), (1, .int a1), (2, .int a2), (3, .int a3)], [.int ((-1)), .int q4.1], (gh_mo q4.2, 0, 0))) (fun _ => rfl) ?_
      cases c8 : gh_cmp .eq q4.1 ((-1)) with
      | true =>
        rw [c8, cond_true] at h
        refine gh_T_ic true rfl c8 ?_
        refine gh_T_weak (lv := [(5, .int q4.1)]) ⟨rfl, trivial⟩ ?_
        exact kX9_move_91 d N q4.1 q4.2 _ h
      | false =>
        rw [c8, cond_false] at h
        refine gh_T_ic false rfl c8 ?_
        refine gh_T_steps 4 (τ := (68, [(5, .int q4.1), (4, .int x2), (0, .ref 0), (1, .int a1), (2, .int a2), (3, .int a3)], [.int q4.1, .int x2, .ref 11], (gh_mo q4.2, 0, 0))) (fun _ => rfl) ?_
        obtain ⟨q5, hq5, h⟩ := gh_bi h
        refine gh_T_iv (As := [.int x2, .int q4.1]) (b := 11) (rest := []) (y := none) (M' := gh_mo q5) rfl rfl rfl rfl rfl rfl rfl rfl rfl ⟨Nat.le_refl _, Nat.le_refl _⟩ (kX4_goBy (d + 3) N x2 q4.1 q4.2 q5 hq5) ?_
        refine gh_T_steps 9 (τ := (85, [(5, .int q4.1), (4, .int x2), (0, .ref 0), (1, .int a1), (2, .int a2), (3, .int a3)], [.int a3, .int a1, .ref 1, .int a3, .int x2, .int a2, .ref 1], (gh_mo q5, 0, 0))) (fun _ => rfl) ?_
        obtain ⟨q6, hq6, h⟩ := gh_bi h
        refine gh_T_iv (As := [.int a1, .int a3]) (b := 1) (rest := [.int a3, .int x2, .int a2, .ref 1]) (y := some (.long q6.1)) (M' := gh_mo q6.2) rfl rfl rfl rfl rfl rfl rfl rfl rfl ⟨Nat.le_refl _, Nat.le_refl _⟩ (kX0_take (d + 2) N a1 a3 q5 q6 hq6) ?_
        obtain ⟨q7, hq7, h⟩ := gh_bi h
        refine gh_T_iv (As := [.int a2, .int x2, .int a3, .long q6.1]) (b := 1) (rest := []) (y := none) (M' := gh_mo q7) rfl rfl rfl rfl rfl rfl rfl rfl rfl ⟨Nat.le_refl _, Nat.le_refl _⟩ (kX0_put (d + 3) N a2 x2 a3 q6.1 q6.2 q7 hq7) ?_
        refine gh_T_weak (lv := [(5, .int q4.1)]) ⟨rfl, trivial⟩ ?_
        exact kX9_move_91 d N q4.1 q7 _ h
    | false =>
      rw [c9, cond_false] at h
      refine gh_T_if false rfl c9 ?_
      refine gh_T_steps 1 (τ := (40, [(4, .int x2), (0, .ref 0), (1, .int a1), (2, .int a2), (3, .int a3)], [.int ((-1))], (gh_mo q3.2, 0, 0))) (fun _ => rfl) ?_
      cases h
      exact gh_T_ret (fun _ => rfl)
  | false =>
    rw [c10, cond_false] at h
    refine gh_T_if false rfl c10 ?_
    refine gh_T_steps 1 (τ := (13, [(0, .ref 0), (1, .int a1), (2, .int a2), (3, .int a3)], [.int ((-1))], (gh_mo q1.2, 0, 0))) (fun _ => rfl) ?_
    cases h
    exact gh_T_ret (fun _ => rfl)
theorem kX9_move (d N : Nat) (a1 : Int32) (a2 : Int32) (a3 : Int32) (S : gh_St) (r : Int32 × gh_St) (h : sX9_move N a1 a2 a3 S = some r) : gh_Mx (d + 5) 85 [.ref 0, .int a1, .int a2, .int a3] (gh_mo S) (some (.int r.1)) (gh_mo r.2) :=
  gh_Mx_of rfl rfl rfl rfl rfl rfl (kX9_move_e d N a1 a2 a3 S r h)
def sX9_dry (N : Nat) (a1 : Int32) (a2 : Int32) (a3 : Int32) (a4 : Int32) (S : gh_St) : Option (Int32 × gh_St) :=
  (sX0_canTake N a1 a3 S).bind fun q1 =>
  bif gh_cmp .eq q1.1 0 then
    (some ((-1), q1.2))
  else
    ((sX9_within N a4 0 300 q1.2).bind fun q2 =>
    bif gh_cmp .eq q2.1 0 then
      (some ((-1), q2.2))
    else
      ((sX0_moist N a1 q2.2).bind fun q3 =>
      bif gh_cmp .lt a4 q3.1 then
        ((gh_ra q3.2 2 8 a1).bind fun x4 =>
        (sX0_part N a1 a3 q3.2).bind fun q5 =>
        (gh_dj q5.1 (((1000 : Int32) - a4 : Int32).toInt64)).bind fun x6 =>
        bif gh_cmp .lt ((x6 : Int64).toInt32) 1 then
          (some ((-1), q5.2))
        else
          ((sX0_canPut N a2 x4 ((x6 : Int64).toInt32) q5.2).bind fun q7 =>
          bif gh_cmp .ne q7.1 0 then
            ((sX4_find N x4 a1 a2 q7.2).bind fun q8 =>
            bif gh_cmp .ne q8.1 ((-1)) then
              ((sX4_goBy N x4 q8.1 q8.2).bind fun q9 =>
              (sX0_take N a1 a3 q9).bind fun q10 =>
              (sX0_put N a2 x4 ((x6 : Int64).toInt32) q10.1 q10.2).bind fun q11 =>
              some ((x6 : Int64).toInt32, gh_fL q11 0 10 ((q11.2.1 0 10) + ((a3 - ((x6 : Int64).toInt32) : Int32).toInt64))))
            else
              (some ((-1), q8.2)))
          else
            (some ((-1), q7.2))))
      else
        (some ((-1), q3.2))))
set_option maxRecDepth 100000 in
theorem kX9_dry_e (d N : Nat) (a1 : Int32) (a2 : Int32) (a3 : Int32) (a4 : Int32) (S : gh_St) (r : Int32 × gh_St) (h : sX9_dry N a1 a2 a3 a4 S = some r) : gh_T (d + 4) fX9_dry 0 0 none false false (0, [(0, .ref 0), (1, .int a1), (2, .int a2), (3, .int a3), (4, .int a4)], [], (gh_mo S, 0, 0)) (some (.int r.1), (gh_mo r.2, 0, 0)) := by
  unfold sX9_dry at h
  refine gh_T_steps 4 (τ := (6, [(0, .ref 0), (1, .int a1), (2, .int a2), (3, .int a3), (4, .int a4)], [.int a3, .int a1, .ref 1], (gh_mo S, 0, 0))) (fun _ => rfl) ?_
  obtain ⟨q1, hq1, h⟩ := gh_bi h
  refine gh_T_iv (As := [.int a1, .int a3]) (b := 1) (rest := []) (y := some (.int q1.1)) (M' := gh_mo q1.2) rfl rfl rfl rfl rfl rfl rfl rfl rfl ⟨Nat.le_refl _, Nat.le_refl _⟩ (kX0_canTake (d + 1) N a1 a3 S q1 hq1) ?_
  cases c17 : gh_cmp .eq q1.1 0 with
  | true =>
    rw [c17, cond_true] at h
    refine gh_T_if true rfl c17 ?_
    refine gh_T_steps 1 (τ := (38, [(0, .ref 0), (1, .int a1), (2, .int a2), (3, .int a3), (4, .int a4)], [.int ((-1))], (gh_mo q1.2, 0, 0))) (fun _ => rfl) ?_
    cases h
    exact gh_T_ret (fun _ => rfl)
  | false =>
    rw [c17, cond_false] at h
    refine gh_T_if false rfl c17 ?_
    refine gh_T_steps 3 (τ := (18, [(0, .ref 0), (1, .int a1), (2, .int a2), (3, .int a3), (4, .int a4)], [.int 300, .int 0, .int a4], (gh_mo q1.2, 0, 0))) (fun _ => rfl) ?_
    obtain ⟨q2, hq2, h⟩ := gh_bi h
    refine gh_T_is (As := [.int a4, .int 0, .int 300]) (rest := []) (y := some (.int q2.1)) (M' := gh_mo q2.2) rfl rfl rfl rfl rfl rfl rfl ⟨Nat.le_refl _, Nat.le_refl _⟩ (kX9_within (d + 3) N a4 0 300 q1.2 q2 hq2) ?_
    cases c16 : gh_cmp .eq q2.1 0 with
    | true =>
      rw [c16, cond_true] at h
      refine gh_T_if true rfl c16 ?_
      refine gh_T_steps 1 (τ := (38, [(0, .ref 0), (1, .int a1), (2, .int a2), (3, .int a3), (4, .int a4)], [.int ((-1))], (gh_mo q2.2, 0, 0))) (fun _ => rfl) ?_
      cases h
      exact gh_T_ret (fun _ => rfl)
    | false =>
      rw [c16, cond_false] at h
      refine gh_T_if false rfl c16 ?_
      refine gh_T_steps 4 (τ := (31, [(0, .ref 0), (1, .int a1), (2, .int a2), (3, .int a3), (4, .int a4)], [.int a1, .ref 1, .int a4], (gh_mo q2.2, 0, 0))) (fun _ => rfl) ?_
      obtain ⟨q3, hq3, h⟩ := gh_bi h
      refine gh_T_iv (As := [.int a1]) (b := 1) (rest := [.int a4]) (y := some (.int q3.1)) (M' := gh_mo q3.2) rfl rfl rfl rfl rfl rfl rfl rfl rfl ⟨Nat.le_refl _, Nat.le_refl _⟩ (kX0_moist (d + 3) N a1 q2.2 q3 hq3) ?_
      cases c15 : gh_cmp .lt a4 q3.1 with
      | true =>
        rw [c15, cond_true] at h
        refine gh_T_ic true rfl c15 ?_
        refine gh_T_steps 4 (τ := (47, [(0, .ref 0), (1, .int a1), (2, .int a2), (3, .int a3), (4, .int a4)], [.int a1, .ref 2], (gh_mo q3.2, 0, 0))) (fun _ => rfl) ?_
        obtain ⟨x4, hx4, h⟩ := gh_bi h
        refine gh_T_ra rfl rfl hx4 ?_
        refine gh_T_steps 5 (τ := (56, [(5, .int x4), (0, .ref 0), (1, .int a1), (2, .int a2), (3, .int a3), (4, .int a4)], [.int a3, .int a1, .ref 1], (gh_mo q3.2, 0, 0))) (fun _ => rfl) ?_
        obtain ⟨q5, hq5, h⟩ := gh_bi h
        refine gh_T_iv (As := [.int a1, .int a3]) (b := 1) (rest := []) (y := some (.long q5.1)) (M' := gh_mo q5.2) rfl rfl rfl rfl rfl rfl rfl rfl rfl ⟨Nat.le_refl _, Nat.le_refl _⟩ (kX0_part (d + 3) N a1 a3 q3.2 q5 hq5) ?_
        refine gh_T_steps 4 (τ := (66, [(5, .int x4), (0, .ref 0), (1, .int a1), (2, .int a2), (3, .int a3), (4, .int a4)], [.long (((1000 : Int32) - a4 : Int32).toInt64), .long q5.1], (gh_mo q5.2, 0, 0))) (fun _ => rfl) ?_
        obtain ⟨x6, hx6, h⟩ := gh_bi h
        refine gh_T_dj rfl hx6 ?_
        refine gh_T_steps 4 (τ := (73, [(6, .int ((x6 : Int64).toInt32)), (5, .int x4), (0, .ref 0), (1, .int a1), (2, .int a2), (3, .int a3), (4, .int a4)], [.int 1, .int ((x6 : Int64).toInt32)], (gh_mo q5.2, 0, 0))) (fun _ => rfl) ?_
        cases c14 : gh_cmp .lt ((x6 : Int64).toInt32) 1 with
        | true =>
          rw [c14, cond_true] at h
          refine gh_T_ic true rfl c14 ?_
          refine gh_T_steps 1 (τ := (92, [(6, .int ((x6 : Int64).toInt32)), (5, .int x4), (0, .ref 0), (1, .int a1), (2, .int a2), (3, .int a3), (4, .int a4)], [.int ((-1))], (gh_mo q5.2, 0, 0))) (fun _ => rfl) ?_
          cases h
          exact gh_T_ret (fun _ => rfl)
        | false =>
          rw [c14, cond_false] at h
          refine gh_T_ic false rfl c14 ?_
          refine gh_T_steps 5 (τ := (85, [(6, .int ((x6 : Int64).toInt32)), (5, .int x4), (0, .ref 0), (1, .int a1), (2, .int a2), (3, .int a3), (4, .int a4)], [.int ((x6 : Int64).toInt32), .int x4, .int a2, .ref 1], (gh_mo q5.2, 0, 0))) (fun _ => rfl) ?_
          obtain ⟨q7, hq7, h⟩ := gh_bi h
          refine gh_T_iv (As := [.int a2, .int x4, .int ((x6 : Int64).toInt32)]) (b := 1) (rest := []) (y := some (.int q7.1)) (M' := gh_mo q7.2) rfl rfl rfl rfl rfl rfl rfl rfl rfl ⟨Nat.le_refl _, Nat.le_refl _⟩ (kX0_canPut (d + 1) N a2 x4 ((x6 : Int64).toInt32) q5.2 q7 hq7) ?_
          cases c13 : gh_cmp .ne q7.1 0 with
          | true =>
            rw [c13, cond_true] at h
            refine gh_T_if true rfl c13 ?_
            refine gh_T_steps 5 (τ := (101, [(6, .int ((x6 : Int64).toInt32)), (5, .int x4), (0, .ref 0), (1, .int a1), (2, .int a2), (3, .int a3), (4, .int a4)], [.int a2, .int a1, .int x4, .ref 11], (gh_mo q7.2, 0, 0))) (fun _ => rfl) ?_
            obtain ⟨q8, hq8, h⟩ := gh_bi h
            refine gh_T_iv (As := [.int x4, .int a1, .int a2]) (b := 11) (rest := []) (y := some (.int q8.1)) (M' := gh_mo q8.2) rfl rfl rfl rfl rfl rfl rfl rfl rfl ⟨Nat.le_refl _, Nat.le_refl _⟩ (kX4_find d N x4 a1 a2 q7.2 q8 hq8) ?_
            refine gh_T_steps 3 (τ := (109, [(7, .int q8.1), (6, .int ((x6 : Int64).toInt32)), (5, .int x4), (0, .ref 0), (1, .int a1), (2, .int a2), (3, .int a3), (4, .int a4)], [.int ((-1)), .int q8.1], (gh_mo q8.2, 0, 0))) (fun _ => rfl) ?_
            cases c12 : gh_cmp .ne q8.1 ((-1)) with
            | true =>
              rw [c12, cond_true] at h
              refine gh_T_ic true rfl c12 ?_
              refine gh_T_steps 4 (τ := (122, [(7, .int q8.1), (6, .int ((x6 : Int64).toInt32)), (5, .int x4), (0, .ref 0), (1, .int a1), (2, .int a2), (3, .int a3), (4, .int a4)], [.int q8.1, .int x4, .ref 11], (gh_mo q8.2, 0, 0))) (fun _ => rfl) ?_
              obtain ⟨q9, hq9, h⟩ := gh_bi h
              refine gh_T_iv (As := [.int x4, .int q8.1]) (b := 11) (rest := []) (y := none) (M' := gh_mo q9) rfl rfl rfl rfl rfl rfl rfl rfl rfl ⟨Nat.le_refl _, Nat.le_refl _⟩ (kX4_goBy (d + 3) N x4 q8.1 q8.2 q9 hq9) ?_
              refine gh_T_steps 9 (τ := (140, [(7, .int q8.1), (6, .int ((x6 : Int64).toInt32)), (5, .int x4), (0, .ref 0), (1, .int a1), (2, .int a2), (3, .int a3), (4, .int a4)], [.int a3, .int a1, .ref 1, .int ((x6 : Int64).toInt32), .int x4, .int a2, .ref 1], (gh_mo q9, 0, 0))) (fun _ => rfl) ?_
              obtain ⟨q10, hq10, h⟩ := gh_bi h
              refine gh_T_iv (As := [.int a1, .int a3]) (b := 1) (rest := [.int ((x6 : Int64).toInt32), .int x4, .int a2, .ref 1]) (y := some (.long q10.1)) (M' := gh_mo q10.2) rfl rfl rfl rfl rfl rfl rfl rfl rfl ⟨Nat.le_refl _, Nat.le_refl _⟩ (kX0_take (d + 2) N a1 a3 q9 q10 hq10) ?_
              obtain ⟨q11, hq11, h⟩ := gh_bi h
              refine gh_T_iv (As := [.int a2, .int x4, .int ((x6 : Int64).toInt32), .long q10.1]) (b := 1) (rest := []) (y := none) (M' := gh_mo q11) rfl rfl rfl rfl rfl rfl rfl rfl rfl ⟨Nat.le_refl _, Nat.le_refl _⟩ (kX0_put (d + 3) N a2 x4 ((x6 : Int64).toInt32) q10.1 q10.2 q11 hq11) ?_
              refine gh_T_steps 10 (τ := (162, [(7, .int q8.1), (6, .int ((x6 : Int64).toInt32)), (5, .int x4), (0, .ref 0), (1, .int a1), (2, .int a2), (3, .int a3), (4, .int a4)], [.int ((x6 : Int64).toInt32)], (gh_mo (gh_fL q11 0 10 ((q11.2.1 0 10) + ((a3 - ((x6 : Int64).toInt32) : Int32).toInt64))), 0, 0))) (fun _ => rfl) ?_
              cases h
              exact gh_T_ret (fun _ => rfl)
            | false =>
              rw [c12, cond_false] at h
              refine gh_T_ic false rfl c12 ?_
              refine gh_T_steps 1 (τ := (113, [(7, .int q8.1), (6, .int ((x6 : Int64).toInt32)), (5, .int x4), (0, .ref 0), (1, .int a1), (2, .int a2), (3, .int a3), (4, .int a4)], [.int ((-1))], (gh_mo q8.2, 0, 0))) (fun _ => rfl) ?_
              cases h
              exact gh_T_ret (fun _ => rfl)
          | false =>
            rw [c13, cond_false] at h
            refine gh_T_if false rfl c13 ?_
            refine gh_T_steps 1 (τ := (92, [(6, .int ((x6 : Int64).toInt32)), (5, .int x4), (0, .ref 0), (1, .int a1), (2, .int a2), (3, .int a3), (4, .int a4)], [.int ((-1))], (gh_mo q7.2, 0, 0))) (fun _ => rfl) ?_
            cases h
            exact gh_T_ret (fun _ => rfl)
      | false =>
        rw [c15, cond_false] at h
        refine gh_T_ic false rfl c15 ?_
        refine gh_T_steps 1 (τ := (38, [(0, .ref 0), (1, .int a1), (2, .int a2), (3, .int a3), (4, .int a4)], [.int ((-1))], (gh_mo q3.2, 0, 0))) (fun _ => rfl) ?_
        cases h
        exact gh_T_ret (fun _ => rfl)
theorem kX9_dry (d N : Nat) (a1 : Int32) (a2 : Int32) (a3 : Int32) (a4 : Int32) (S : gh_St) (r : Int32 × gh_St) (h : sX9_dry N a1 a2 a3 a4 S = some r) : gh_Mx (d + 5) 86 [.ref 0, .int a1, .int a2, .int a3, .int a4] (gh_mo S) (some (.int r.1)) (gh_mo r.2) :=
  gh_Mx_of rfl rfl rfl rfl rfl rfl (kX9_dry_e d N a1 a2 a3 a4 S r h)
def sX2_cheapest_32 (N : Nat) (kc4 : Int32 → Int32 → gh_St → Option (Int32 × gh_St)) (l1 : Int32) (l2 : Int32) (S : gh_St) : Option (Int32 × gh_St) :=
  kc4 l1 (l2 + 1) S
set_option maxRecDepth 100000 in
theorem kX2_cheapest_32 (d N : Nat) (kc4 : Int32 → Int32 → gh_St → Option (Int32 × gh_St)) (hkc4 : ∀ (l1 : Int32) (l2 : Int32) (S : gh_St) (r : Int32 × gh_St), kc4 l1 l2 S = some r → gh_T (d + 4) fX2_cheapest 0 0 none true false (4, [(0, .ref 26), (1, .int l1), (2, .int l2)], [], (gh_mo S, 0, 0)) (some (.int r.1), (gh_mo r.2, 0, 0))) (l1 : Int32) (l2 : Int32) (S : gh_St) (r : Int32 × gh_St) (h : sX2_cheapest_32 N kc4 l1 l2 S = some r) : gh_T (d + 4) fX2_cheapest 0 0 none true false (32, [(0, .ref 26), (1, .int l1), (2, .int l2)], [], (gh_mo S, 0, 0)) (some (.int r.1), (gh_mo r.2, 0, 0)) := by
  unfold sX2_cheapest_32 at h
  refine gh_T_steps 2 (τ := (4, [(2, .int (l2 + 1)), (0, .ref 26), (1, .int l1)], [], (gh_mo S, 0, 0))) (fun _ => rfl) ?_
  refine gh_T_weak (lv := [(0, .ref 26), (1, .int l1), (2, .int (l2 + 1))]) ⟨rfl, rfl, rfl, trivial⟩ ?_
  exact hkc4 l1 (l2 + 1) S _ h
def sX2_cheapest_87 (N : Nat) (kc79 : Int32 → gh_St → Option (Int32 × gh_St)) : Nat → Int32 → Int32 → gh_St → Option (Int32 × gh_St)
  | 0, _, _, _ => none
  | n + 1, l2, l3, S =>
    (gh_ra S 29 8 l2).bind fun x1 =>
    bif gh_cmp .ge l3 x1 then
      (kc79 (l2 + 1) S)
    else
      ((sX2_addHour N l2 S).bind fun q2 =>
      bif gh_cmp .ne q2.1 0 then
        ((sX2_cheapest_87 N kc79 n) l2 (l3 + 1) q2.2)
      else
        (some (0, q2.2)))
set_option maxRecDepth 100000 in
theorem kX2_cheapest_87 (d N : Nat) (kc79 : Int32 → gh_St → Option (Int32 × gh_St)) (hkc79 : ∀ (l2 : Int32) (S : gh_St) (r : Int32 × gh_St), kc79 l2 S = some r → gh_T (d + 4) fX2_cheapest 0 0 none true false (79, [(0, .ref 26), (2, .int l2)], [], (gh_mo S, 0, 0)) (some (.int r.1), (gh_mo r.2, 0, 0))) : ∀ (n : Nat) (l2 : Int32) (l3 : Int32) (S : gh_St) (r : Int32 × gh_St), sX2_cheapest_87 N kc79 n l2 l3 S = some r → gh_T (d + 4) fX2_cheapest 0 0 none true false (87, [(0, .ref 26), (2, .int l2), (3, .int l3)], [], (gh_mo S, 0, 0)) (some (.int r.1), (gh_mo r.2, 0, 0)) := by
  intro n
  induction n with
  | zero =>
    intro l2 l3 S r h
    cases h
  | succ n ih =>
    intro l2 l3 S r h
    rw [sX2_cheapest_87] at h
    refine gh_T_steps 4 (τ := (93, [(0, .ref 26), (2, .int l2), (3, .int l3)], [.int l2, .ref 29, .int l3], (gh_mo S, 0, 0))) (fun _ => rfl) ?_
    obtain ⟨x1, hx1, h⟩ := gh_bi h
    refine gh_T_ra rfl rfl hx1 ?_
    cases c4 : gh_cmp .ge l3 x1 with
    | true =>
      rw [c4, cond_true] at h
      refine gh_T_ic true rfl c4 ?_
      refine gh_T_steps 2 (τ := (79, [(2, .int (l2 + 1)), (0, .ref 26), (3, .int l3)], [], (gh_mo S, 0, 0))) (fun _ => rfl) ?_
      refine gh_T_weak (lv := [(0, .ref 26), (2, .int (l2 + 1))]) ⟨rfl, rfl, trivial⟩ ?_
      exact hkc79 (l2 + 1) S _ h
    | false =>
      rw [c4, cond_false] at h
      refine gh_T_ic false rfl c4 ?_
      refine gh_T_steps 2 (τ := (99, [(0, .ref 26), (2, .int l2), (3, .int l3)], [.int l2, .ref 26], (gh_mo S, 0, 0))) (fun _ => rfl) ?_
      obtain ⟨q2, hq2, h⟩ := gh_bi h
      refine gh_T_iv (As := [.int l2]) (b := 26) (rest := []) (y := some (.int q2.1)) (M' := gh_mo q2.2) rfl rfl rfl rfl rfl rfl rfl rfl rfl ⟨Nat.le_refl _, Nat.le_refl _⟩ (kX2_addHour d N l2 S q2 hq2) ?_
      cases c3 : gh_cmp .ne q2.1 0 with
      | true =>
        rw [c3, cond_true] at h
        refine gh_T_if true rfl c3 ?_
        refine gh_T_steps 2 (τ := (87, [(3, .int (l3 + 1)), (0, .ref 26), (2, .int l2)], [], (gh_mo q2.2, 0, 0))) (fun _ => rfl) ?_
        refine gh_T_weak (lv := [(0, .ref 26), (2, .int l2), (3, .int (l3 + 1))]) ⟨rfl, rfl, rfl, trivial⟩ ?_
        exact ih l2 (l3 + 1) q2.2 _ h
      | false =>
        rw [c3, cond_false] at h
        refine gh_T_if false rfl c3 ?_
        refine gh_T_steps 1 (τ := (106, [(0, .ref 26), (2, .int l2), (3, .int l3)], [.int 0], (gh_mo q2.2, 0, 0))) (fun _ => rfl) ?_
        cases h
        exact gh_T_ret (fun _ => rfl)
def sX2_cheapest_79 (N : Nat) : Nat → Int32 → gh_St → Option (Int32 × gh_St)
  | 0, _, _ => none
  | n + 1, l2, S =>
    bif gh_cmp .ge l2 8 then
      (some (1, S))
    else
      (sX2_cheapest_87 N (sX2_cheapest_79 N n) N l2 0 S)
set_option maxRecDepth 100000 in
theorem kX2_cheapest_79 (d N : Nat) : ∀ (n : Nat) (l2 : Int32) (S : gh_St) (r : Int32 × gh_St), sX2_cheapest_79 N n l2 S = some r → gh_T (d + 4) fX2_cheapest 0 0 none true false (79, [(0, .ref 26), (2, .int l2)], [], (gh_mo S, 0, 0)) (some (.int r.1), (gh_mo r.2, 0, 0)) := by
  intro n
  induction n with
  | zero =>
    intro l2 S r h
    cases h
  | succ n ih =>
    intro l2 S r h
    rw [sX2_cheapest_79] at h
    refine gh_T_steps 2 (τ := (82, [(0, .ref 26), (2, .int l2)], [.int 8, .int l2], (gh_mo S, 0, 0))) (fun _ => rfl) ?_
    cases c1 : gh_cmp .ge l2 8 with
    | true =>
      rw [c1, cond_true] at h
      refine gh_T_ic true rfl c1 ?_
      refine gh_T_steps 1 (τ := (120, [(0, .ref 26), (2, .int l2)], [.int 1], (gh_mo S, 0, 0))) (fun _ => rfl) ?_
      cases h
      exact gh_T_ret (fun _ => rfl)
    | false =>
      rw [c1, cond_false] at h
      refine gh_T_ic false rfl c1 ?_
      refine gh_T_steps 2 (τ := (87, [(3, .int 0), (0, .ref 26), (2, .int l2)], [], (gh_mo S, 0, 0))) (fun _ => rfl) ?_
      refine gh_T_weak (lv := [(0, .ref 26), (2, .int l2), (3, .int 0)]) ⟨rfl, rfl, rfl, trivial⟩ ?_
      exact kX2_cheapest_87 d N (sX2_cheapest_79 N n) ih N l2 0 S _ h
def sX2_cheapest_40 (N : Nat) : Nat → Int32 → Int32 → gh_St → Option (Int32 × gh_St)
  | 0, _, _, _ => none
  | n + 1, l1, l2, S =>
    bif gh_cmp .ge l2 8 then
      (sX2_cheapest_79 N N 0 S)
    else
      ((gh_wa S 36 8 l2 0).bind fun S1 =>
      (gh_ra S1 30 8 l2).bind fun x2 =>
      (gh_wa S1 31 8 l2 (l1 &&& (((1 : Int32) <<< (x2 &&& 31)) - (1 : Int32)))).bind fun S3 =>
      (sX2_cheapest_40 N n) l1 (l2 + 1) S3)
set_option maxRecDepth 100000 in
theorem kX2_cheapest_40 (d N : Nat) : ∀ (n : Nat) (l1 : Int32) (l2 : Int32) (S : gh_St) (r : Int32 × gh_St), sX2_cheapest_40 N n l1 l2 S = some r → gh_T (d + 4) fX2_cheapest 0 0 none true false (40, [(0, .ref 26), (1, .int l1), (2, .int l2)], [], (gh_mo S, 0, 0)) (some (.int r.1), (gh_mo r.2, 0, 0)) := by
  intro n
  induction n with
  | zero =>
    intro l1 l2 S r h
    cases h
  | succ n ih =>
    intro l1 l2 S r h
    rw [sX2_cheapest_40] at h
    refine gh_T_steps 2 (τ := (43, [(0, .ref 26), (1, .int l1), (2, .int l2)], [.int 8, .int l2], (gh_mo S, 0, 0))) (fun _ => rfl) ?_
    cases c4 : gh_cmp .ge l2 8 with
    | true =>
      rw [c4, cond_true] at h
      refine gh_T_ic true rfl c4 ?_
      refine gh_T_steps 2 (τ := (79, [(2, .int 0), (0, .ref 26), (1, .int l1)], [], (gh_mo S, 0, 0))) (fun _ => rfl) ?_
      refine gh_T_weak (lv := [(0, .ref 26), (2, .int 0)]) ⟨rfl, rfl, trivial⟩ ?_
      exact kX2_cheapest_79 d N N 0 S _ h
    | false =>
      rw [c4, cond_false] at h
      refine gh_T_ic false rfl c4 ?_
      refine gh_T_steps 4 (τ := (52, [(0, .ref 26), (1, .int l1), (2, .int l2)], [.int 0, .int l2, .ref 36], (gh_mo S, 0, 0))) (fun _ => rfl) ?_
      obtain ⟨S1, hS1, h⟩ := gh_bi h
      refine gh_T_wa rfl rfl hS1 ?_
      refine gh_T_steps 8 (τ := (65, [(0, .ref 26), (1, .int l1), (2, .int l2)], [.int l2, .ref 30, .int 1, .int l1, .int l2, .ref 31], (gh_mo S1, 0, 0))) (fun _ => rfl) ?_
      obtain ⟨x2, hx2, h⟩ := gh_bi h
      refine gh_T_ra rfl rfl hx2 ?_
      refine gh_T_steps 4 (τ := (70, [(0, .ref 26), (1, .int l1), (2, .int l2)], [.int (l1 &&& (((1 : Int32) <<< (x2 &&& 31)) - (1 : Int32))), .int l2, .ref 31], (gh_mo S1, 0, 0))) (fun _ => rfl) ?_
      obtain ⟨S3, hS3, h⟩ := gh_bi h
      refine gh_T_wa rfl rfl hS3 ?_
      refine gh_T_steps 2 (τ := (40, [(2, .int (l2 + 1)), (0, .ref 26), (1, .int l1)], [], (gh_mo S3, 0, 0))) (fun _ => rfl) ?_
      refine gh_T_weak (lv := [(0, .ref 26), (1, .int l1), (2, .int (l2 + 1))]) ⟨rfl, rfl, rfl, trivial⟩ ?_
      exact ih l1 (l2 + 1) S3 _ h
def sX2_cheapest_4 (N : Nat) : Nat → Int32 → Int32 → gh_St → Option (Int32 × gh_St)
  | 0, _, _, _ => none
  | n + 1, l1, l2, S =>
    bif gh_cmp .ge l2 12 then
      (sX2_cheapest_40 N N l1 0 S)
    else
      ((gh_wa S 32 12 l2 0).bind fun S1 =>
      (gh_ra S1 27 12 l2).bind fun x2 =>
      bif gh_cmp .eq x2 0 then
        (sX2_cheapest_32 N (sX2_cheapest_4 N n) l1 l2 S1)
      else
        (sX2_cheapest_32 N (sX2_cheapest_4 N n) (l1 ||| ((1 : Int32) <<< (l2 &&& 31))) l2 S1))
set_option maxRecDepth 100000 in
theorem kX2_cheapest_4 (d N : Nat) : ∀ (n : Nat) (l1 : Int32) (l2 : Int32) (S : gh_St) (r : Int32 × gh_St), sX2_cheapest_4 N n l1 l2 S = some r → gh_T (d + 4) fX2_cheapest 0 0 none true false (4, [(0, .ref 26), (1, .int l1), (2, .int l2)], [], (gh_mo S, 0, 0)) (some (.int r.1), (gh_mo r.2, 0, 0)) := by
  intro n
  induction n with
  | zero =>
    intro l1 l2 S r h
    cases h
  | succ n ih =>
    intro l1 l2 S r h
    rw [sX2_cheapest_4] at h
    refine gh_T_steps 2 (τ := (7, [(0, .ref 26), (1, .int l1), (2, .int l2)], [.int 12, .int l2], (gh_mo S, 0, 0))) (fun _ => rfl) ?_
    cases c4 : gh_cmp .ge l2 12 with
    | true =>
      rw [c4, cond_true] at h
      refine gh_T_ic true rfl c4 ?_
      refine gh_T_steps 2 (τ := (40, [(2, .int 0), (0, .ref 26), (1, .int l1)], [], (gh_mo S, 0, 0))) (fun _ => rfl) ?_
      refine gh_T_weak (lv := [(0, .ref 26), (1, .int l1), (2, .int 0)]) ⟨rfl, rfl, rfl, trivial⟩ ?_
      exact kX2_cheapest_40 d N N l1 0 S _ h
    | false =>
      rw [c4, cond_false] at h
      refine gh_T_ic false rfl c4 ?_
      refine gh_T_steps 4 (τ := (16, [(0, .ref 26), (1, .int l1), (2, .int l2)], [.int 0, .int l2, .ref 32], (gh_mo S, 0, 0))) (fun _ => rfl) ?_
      obtain ⟨S1, hS1, h⟩ := gh_bi h
      refine gh_T_wa rfl rfl hS1 ?_
      refine gh_T_steps 3 (τ := (22, [(0, .ref 26), (1, .int l1), (2, .int l2)], [.int l2, .ref 27], (gh_mo S1, 0, 0))) (fun _ => rfl) ?_
      obtain ⟨x2, hx2, h⟩ := gh_bi h
      refine gh_T_rb rfl (Or.inr rfl) rfl hx2 ?_
      cases c3 : gh_cmp .eq x2 0 with
      | true =>
        rw [c3, cond_true] at h
        refine gh_T_if true rfl c3 ?_
        exact kX2_cheapest_32 d N (sX2_cheapest_4 N n) ih l1 l2 S1 _ h
      | false =>
        rw [c3, cond_false] at h
        refine gh_T_if false rfl c3 ?_
        refine gh_T_steps 6 (τ := (32, [(1, .int (l1 ||| ((1 : Int32) <<< (l2 &&& 31)))), (0, .ref 26), (2, .int l2)], [], (gh_mo S1, 0, 0))) (fun _ => rfl) ?_
        refine gh_T_weak (lv := [(0, .ref 26), (1, .int (l1 ||| ((1 : Int32) <<< (l2 &&& 31)))), (2, .int l2)]) ⟨rfl, rfl, rfl, trivial⟩ ?_
        exact kX2_cheapest_32 d N (sX2_cheapest_4 N n) ih (l1 ||| ((1 : Int32) <<< (l2 &&& 31))) l2 S1 _ h
def sX2_cheapest (N : Nat) (S : gh_St) : Option (Int32 × gh_St) :=
  sX2_cheapest_4 N N 0 0 S
set_option maxRecDepth 100000 in
theorem kX2_cheapest_e (d N : Nat) (S : gh_St) (r : Int32 × gh_St) (h : sX2_cheapest N S = some r) : gh_T (d + 4) fX2_cheapest 0 0 none true false (0, [(0, .ref 26)], [], (gh_mo S, 0, 0)) (some (.int r.1), (gh_mo r.2, 0, 0)) := by
  unfold sX2_cheapest at h
  refine gh_T_steps 4 (τ := (4, [(2, .int 0), (1, .int 0), (0, .ref 26)], [], (gh_mo S, 0, 0))) (fun _ => rfl) ?_
  refine gh_T_weak (lv := [(0, .ref 26), (1, .int 0), (2, .int 0)]) ⟨rfl, rfl, rfl, trivial⟩ ?_
  exact kX2_cheapest_4 d N N 0 0 S _ h
theorem kX2_cheapest (d N : Nat) (S : gh_St) (r : Int32 × gh_St) (h : sX2_cheapest N S = some r) : gh_Mx (d + 5) 20 [.ref 26] (gh_mo S) (some (.int r.1)) (gh_mo r.2) :=
  gh_Mx_of rfl rfl rfl rfl rfl rfl (kX2_cheapest_e d N S r h)
def sX6_next_85 (N : Nat) : Nat → gh_St → Option (gh_St)
  | 0, _ => none
  | n + 1, S =>
    bif gh_cmp .ge (S.1 45 3) (S.1 43 1) then
      (some S)
    else
      ((gh_ra S 44 200 (S.1 45 3)).bind fun x1 =>
      (sX6_isLetter N x1 S).bind fun q2 =>
      bif gh_cmp .eq q2.1 0 then
        (some q2.2)
      else
        ((sX6_next_85 N n)  (gh_fI q2.2 45 3 ((q2.2.1 45 3) + (1 : Int32)))))
set_option maxRecDepth 100000 in
theorem kX6_next_85 (d N : Nat) : ∀ (n : Nat) (S : gh_St) (r : gh_St), sX6_next_85 N n S = some r → gh_T (d + 3) fX6_next 0 0 none false false (85, [(0, .ref 45), (1, .ref 43)], [], (gh_mo S, 0, 0)) (none, (gh_mo r, 0, 0)) := by
  intro n
  induction n with
  | zero =>
    intro S r h
    cases h
  | succ n ih =>
    intro S r h
    rw [sX6_next_85] at h
    refine gh_T_steps 4 (τ := (93, [(0, .ref 45), (1, .ref 43)], [.int (S.1 43 1), .int (S.1 45 3)], (gh_mo S, 0, 0))) (fun _ => rfl) ?_
    cases c4 : gh_cmp .ge (S.1 45 3) (S.1 43 1) with
    | true =>
      rw [c4, cond_true] at h
      refine gh_T_ic true rfl c4 ?_
      cases h
      exact gh_T_ret (fun _ => rfl)
    | false =>
      rw [c4, cond_false] at h
      refine gh_T_ic false rfl c4 ?_
      refine gh_T_steps 4 (τ := (104, [(0, .ref 45), (1, .ref 43)], [.int (S.1 45 3), .ref 44], (gh_mo S, 0, 0))) (fun _ => rfl) ?_
      obtain ⟨x1, hx1, h⟩ := gh_bi h
      refine gh_T_ra rfl rfl hx1 ?_
      obtain ⟨q2, hq2, h⟩ := gh_bi h
      refine gh_T_is (As := [.int x1]) (rest := []) (y := some (.int q2.1)) (M' := gh_mo q2.2) rfl rfl rfl rfl rfl rfl rfl ⟨Nat.le_refl _, Nat.le_refl _⟩ (kX6_isLetter (d + 1) N x1 S q2 hq2) ?_
      cases c3 : gh_cmp .eq q2.1 0 with
      | true =>
        rw [c3, cond_true] at h
        refine gh_T_if true rfl c3 ?_
        cases h
        exact gh_T_ret (fun _ => rfl)
      | false =>
        rw [c3, cond_false] at h
        refine gh_T_if false rfl c3 ?_
        refine gh_T_steps 7 (τ := (85, [(0, .ref 45), (1, .ref 43)], [], (gh_mo (gh_fI q2.2 45 3 ((q2.2.1 45 3) + (1 : Int32))), 0, 0))) (fun _ => rfl) ?_
        exact ih  (gh_fI q2.2 45 3 ((q2.2.1 45 3) + (1 : Int32))) _ h
def sX6_next_172 (N : Nat) (t0 : Int32) (S : gh_St) : Option (gh_St) :=
  some (gh_fI (gh_fI S 45 5 t0) 45 3 (((gh_fI S 45 5 t0).1 45 3) + (1 : Int32)))
set_option maxRecDepth 100000 in
theorem kX6_next_172 (d N : Nat) (t0 : Int32) (S : gh_St) (r : gh_St) (h : sX6_next_172 N t0 S = some r) : gh_T (d + 3) fX6_next 0 0 none false false (172, [(0, .ref 45)], [.int t0, .ref 45], (gh_mo S, 0, 0)) (none, (gh_mo r, 0, 0)) := by
  unfold sX6_next_172 at h
  refine gh_T_steps 7 (τ := (185, [(0, .ref 45)], [], (gh_mo (gh_fI (gh_fI S 45 5 t0) 45 3 (((gh_fI S 45 5 t0).1 45 3) + (1 : Int32))), 0, 0))) (fun _ => rfl) ?_
  cases h
  exact gh_T_ret (fun _ => rfl)
def sX6_next_38 (N : Nat) (S : gh_St) : Option (gh_St) :=
  bif gh_cmp .lt ((gh_fI S 45 4 (S.1 45 3)).1 45 3) ((gh_fI S 45 4 (S.1 45 3)).1 43 1) then
    ((gh_ra (gh_fI S 45 4 (S.1 45 3)) 44 200 ((gh_fI S 45 4 (S.1 45 3)).1 45 3)).bind fun x1 =>
    (sX6_isLetter N x1 (gh_fI S 45 4 (S.1 45 3))).bind fun q2 =>
    bif gh_cmp .eq q2.1 0 then
      ((gh_ra q2.2 44 200 (q2.2.1 45 3)).bind fun x3 =>
      (sX6_isDigit N x3 q2.2).bind fun q4 =>
      bif gh_cmp .eq q4.1 0 then
        ((gh_ra q4.2 44 200 (q4.2.1 45 3)).bind fun x5 =>
        bif gh_cmp .ne x5 59 then
          (sX6_next_172 N 1 q4.2)
        else
          (sX6_next_172 N 4 q4.2))
      else
        ((sX6_readNumber N (gh_fI q4.2 45 5 3)).bind fun q7 =>
        some q7))
    else
      (sX6_next_85 N N (gh_fI q2.2 45 5 2)))
  else
    (some (gh_fI (gh_fI S 45 4 (S.1 45 3)) 45 5 0))
set_option maxRecDepth 100000 in
theorem kX6_next_38 (d N : Nat) (S : gh_St) (r : gh_St) (h : sX6_next_38 N S = some r) : gh_T (d + 3) fX6_next 0 0 none false false (38, [(0, .ref 45), (1, .ref 43)], [], (gh_mo S, 0, 0)) (none, (gh_mo r, 0, 0)) := by
  unfold sX6_next_38 at h
  refine gh_T_steps 8 (τ := (54, [(0, .ref 45), (1, .ref 43)], [.int ((gh_fI S 45 4 (S.1 45 3)).1 43 1), .int ((gh_fI S 45 4 (S.1 45 3)).1 45 3)], (gh_mo (gh_fI S 45 4 (S.1 45 3)), 0, 0))) (fun _ => rfl) ?_
  cases c10 : gh_cmp .lt ((gh_fI S 45 4 (S.1 45 3)).1 45 3) ((gh_fI S 45 4 (S.1 45 3)).1 43 1) with
  | true =>
    rw [c10, cond_true] at h
    refine gh_T_ic true rfl c10 ?_
    refine gh_T_steps 4 (τ := (73, [(0, .ref 45), (1, .ref 43)], [.int ((gh_fI S 45 4 (S.1 45 3)).1 45 3), .ref 44], (gh_mo (gh_fI S 45 4 (S.1 45 3)), 0, 0))) (fun _ => rfl) ?_
    obtain ⟨x1, hx1, h⟩ := gh_bi h
    refine gh_T_ra rfl rfl hx1 ?_
    obtain ⟨q2, hq2, h⟩ := gh_bi h
    refine gh_T_is (As := [.int x1]) (rest := []) (y := some (.int q2.1)) (M' := gh_mo q2.2) rfl rfl rfl rfl rfl rfl rfl ⟨Nat.le_refl _, Nat.le_refl _⟩ (kX6_isLetter (d + 1) N x1 (gh_fI S 45 4 (S.1 45 3)) q2 hq2) ?_
    cases c9 : gh_cmp .eq q2.1 0 with
    | true =>
      rw [c9, cond_true] at h
      refine gh_T_if true rfl c9 ?_
      refine gh_T_steps 4 (τ := (132, [(0, .ref 45), (1, .ref 43)], [.int (q2.2.1 45 3), .ref 44], (gh_mo q2.2, 0, 0))) (fun _ => rfl) ?_
      obtain ⟨x3, hx3, h⟩ := gh_bi h
      refine gh_T_ra rfl rfl hx3 ?_
      obtain ⟨q4, hq4, h⟩ := gh_bi h
      refine gh_T_is (As := [.int x3]) (rest := []) (y := some (.int q4.1)) (M' := gh_mo q4.2) rfl rfl rfl rfl rfl rfl rfl ⟨Nat.le_refl _, Nat.le_refl _⟩ (kX6_isDigit (d + 1) N x3 q2.2 q4 hq4) ?_
      cases c8 : gh_cmp .eq q4.1 0 with
      | true =>
        rw [c8, cond_true] at h
        refine gh_T_if true rfl c8 ?_
        refine gh_T_steps 5 (τ := (161, [(0, .ref 45), (1, .ref 43)], [.int (q4.2.1 45 3), .ref 44, .ref 45], (gh_mo q4.2, 0, 0))) (fun _ => rfl) ?_
        obtain ⟨x5, hx5, h⟩ := gh_bi h
        refine gh_T_ra rfl rfl hx5 ?_
        refine gh_T_steps 1 (τ := (164, [(0, .ref 45), (1, .ref 43)], [.int 59, .int x5, .ref 45], (gh_mo q4.2, 0, 0))) (fun _ => rfl) ?_
        cases c6 : gh_cmp .ne x5 59 with
        | true =>
          rw [c6, cond_true] at h
          refine gh_T_ic true rfl c6 ?_
          refine gh_T_steps 1 (τ := (172, [(0, .ref 45), (1, .ref 43)], [.int 1, .ref 45], (gh_mo q4.2, 0, 0))) (fun _ => rfl) ?_
          refine gh_T_weak (lv := [(0, .ref 45)]) ⟨rfl, trivial⟩ ?_
          exact kX6_next_172 d N 1 q4.2 _ h
        | false =>
          rw [c6, cond_false] at h
          refine gh_T_ic false rfl c6 ?_
          refine gh_T_steps 2 (τ := (172, [(0, .ref 45), (1, .ref 43)], [.int 4, .ref 45], (gh_mo q4.2, 0, 0))) (fun _ => rfl) ?_
          refine gh_T_weak (lv := [(0, .ref 45)]) ⟨rfl, trivial⟩ ?_
          exact kX6_next_172 d N 4 q4.2 _ h
      | false =>
        rw [c8, cond_false] at h
        refine gh_T_if false rfl c8 ?_
        refine gh_T_steps 5 (τ := (146, [(0, .ref 45), (1, .ref 43)], [.ref 43, .ref 45], (gh_mo (gh_fI q4.2 45 5 3), 0, 0))) (fun _ => rfl) ?_
        obtain ⟨q7, hq7, h⟩ := gh_bi h
        refine gh_T_iv (As := [.ref 43]) (b := 45) (rest := []) (y := none) (M' := gh_mo q7) rfl rfl rfl rfl rfl rfl rfl rfl rfl ⟨Nat.le_refl _, Nat.le_refl _⟩ (kX6_readNumber d N (gh_fI q4.2 45 5 3) q7 hq7) ?_
        refine gh_T_steps 1 (τ := (185, [(0, .ref 45), (1, .ref 43)], [], (gh_mo q7, 0, 0))) (fun _ => rfl) ?_
        cases h
        exact gh_T_ret (fun _ => rfl)
    | false =>
      rw [c9, cond_false] at h
      refine gh_T_if false rfl c9 ?_
      refine gh_T_steps 3 (τ := (85, [(0, .ref 45), (1, .ref 43)], [], (gh_mo (gh_fI q2.2 45 5 2), 0, 0))) (fun _ => rfl) ?_
      exact kX6_next_85 d N N (gh_fI q2.2 45 5 2) _ h
  | false =>
    rw [c10, cond_false] at h
    refine gh_T_ic false rfl c10 ?_
    refine gh_T_steps 4 (τ := (185, [(0, .ref 45), (1, .ref 43)], [], (gh_mo (gh_fI (gh_fI S 45 4 (S.1 45 3)) 45 5 0), 0, 0))) (fun _ => rfl) ?_
    cases h
    exact gh_T_ret (fun _ => rfl)
def sX6_next_0h (N : Nat) : Nat → gh_St → Option (gh_St)
  | 0, _ => none
  | n + 1, S =>
    bif gh_cmp .ge (S.1 45 3) (S.1 43 1) then
      (sX6_next_38 N S)
    else
      ((gh_ra S 44 200 (S.1 45 3)).bind fun x1 =>
      bif gh_cmp .ne x1 32 then
        (sX6_next_38 N S)
      else
        ((sX6_next_0h N n)  (gh_fI S 45 3 ((S.1 45 3) + (1 : Int32)))))
set_option maxRecDepth 100000 in
theorem kX6_next_0h (d N : Nat) : ∀ (n : Nat) (S : gh_St) (r : gh_St), sX6_next_0h N n S = some r → gh_T (d + 3) fX6_next 0 0 none false false (0, [(0, .ref 45), (1, .ref 43)], [], (gh_mo S, 0, 0)) (none, (gh_mo r, 0, 0)) := by
  intro n
  induction n with
  | zero =>
    intro S r h
    cases h
  | succ n ih =>
    intro S r h
    rw [sX6_next_0h] at h
    refine gh_T_steps 4 (τ := (8, [(0, .ref 45), (1, .ref 43)], [.int (S.1 43 1), .int (S.1 45 3)], (gh_mo S, 0, 0))) (fun _ => rfl) ?_
    cases c3 : gh_cmp .ge (S.1 45 3) (S.1 43 1) with
    | true =>
      rw [c3, cond_true] at h
      refine gh_T_ic true rfl c3 ?_
      exact kX6_next_38 d N S _ h
    | false =>
      rw [c3, cond_false] at h
      refine gh_T_ic false rfl c3 ?_
      refine gh_T_steps 4 (τ := (19, [(0, .ref 45), (1, .ref 43)], [.int (S.1 45 3), .ref 44], (gh_mo S, 0, 0))) (fun _ => rfl) ?_
      obtain ⟨x1, hx1, h⟩ := gh_bi h
      refine gh_T_ra rfl rfl hx1 ?_
      refine gh_T_steps 1 (τ := (22, [(0, .ref 45), (1, .ref 43)], [.int 32, .int x1], (gh_mo S, 0, 0))) (fun _ => rfl) ?_
      cases c2 : gh_cmp .ne x1 32 with
      | true =>
        rw [c2, cond_true] at h
        refine gh_T_ic true rfl c2 ?_
        exact kX6_next_38 d N S _ h
      | false =>
        rw [c2, cond_false] at h
        refine gh_T_ic false rfl c2 ?_
        refine gh_T_steps 7 (τ := (0, [(0, .ref 45), (1, .ref 43)], [], (gh_mo (gh_fI S 45 3 ((S.1 45 3) + (1 : Int32))), 0, 0))) (fun _ => rfl) ?_
        exact ih  (gh_fI S 45 3 ((S.1 45 3) + (1 : Int32))) _ h
def sX6_next (N : Nat) (S : gh_St) : Option (gh_St) :=
  sX6_next_0h N N S
set_option maxRecDepth 100000 in
theorem kX6_next_e (d N : Nat) (S : gh_St) (r : gh_St) (h : sX6_next N S = some r) : gh_T (d + 3) fX6_next 0 0 none false false (0, [(0, .ref 45), (1, .ref 43)], [], (gh_mo S, 0, 0)) (none, (gh_mo r, 0, 0)) := by
  unfold sX6_next at h
  exact kX6_next_0h d N N S _ h
theorem kX6_next (d N : Nat) (S : gh_St) (r : gh_St) (h : sX6_next N S = some r) : gh_Mx (d + 4) 56 [.ref 45, .ref 43] (gh_mo S) none (gh_mo r) :=
  gh_Mx_of rfl rfl rfl rfl rfl rfl (kX6_next_e d N S r h)
def sX2_cost_43 (N : Nat) (S : gh_St) : Option (Int32 × gh_St) :=
  some (S.1 26 13, S)
set_option maxRecDepth 100000 in
theorem kX2_cost_43 (d N : Nat) (S : gh_St) (r : Int32 × gh_St) (h : sX2_cost_43 N S = some r) : gh_T (d + 5) fX2_cost 0 0 none false false (43, [(0, .ref 26)], [], (gh_mo S, 0, 0)) (some (.int r.1), (gh_mo r.2, 0, 0)) := by
  unfold sX2_cost_43 at h
  refine gh_T_steps 2 (τ := (47, [(0, .ref 26)], [.int (S.1 26 13)], (gh_mo S, 0, 0))) (fun _ => rfl) ?_
  cases h
  exact gh_T_ret (fun _ => rfl)
def sX2_cost_38 (N : Nat) (S : gh_St) : Option (Int32 × gh_St) :=
  sX2_cost_43 N (gh_fI S 26 14 1)
set_option maxRecDepth 100000 in
theorem kX2_cost_38 (d N : Nat) (S : gh_St) (r : Int32 × gh_St) (h : sX2_cost_38 N S = some r) : gh_T (d + 5) fX2_cost 0 0 none false false (38, [(0, .ref 26)], [], (gh_mo S, 0, 0)) (some (.int r.1), (gh_mo r.2, 0, 0)) := by
  unfold sX2_cost_38 at h
  refine gh_T_steps 3 (τ := (43, [(0, .ref 26)], [], (gh_mo (gh_fI S 26 14 1), 0, 0))) (fun _ => rfl) ?_
  exact kX2_cost_43 d N (gh_fI S 26 14 1) _ h
def sX2_cost_23 (N : Nat) (t0 : Int32) (S : gh_St) : Option (Int32 × gh_St) :=
  bif gh_cmp .eq ((gh_fI S 26 13 t0).1 26 13) ((-1)) then
    (sX2_cost_38 N (gh_fI S 26 13 t0))
  else
    ((sX2_makeFirst N (gh_fI S 26 13 t0)).bind fun q1 =>
    sX2_cost_38 N q1)
set_option maxRecDepth 100000 in
theorem kX2_cost_23 (d N : Nat) (t0 : Int32) (S : gh_St) (r : Int32 × gh_St) (h : sX2_cost_23 N t0 S = some r) : gh_T (d + 5) fX2_cost 0 0 none false false (23, [(0, .ref 26)], [.int t0, .ref 26], (gh_mo S, 0, 0)) (some (.int r.1), (gh_mo r.2, 0, 0)) := by
  unfold sX2_cost_23 at h
  refine gh_T_steps 4 (τ := (31, [(0, .ref 26)], [.int ((-1)), .int ((gh_fI S 26 13 t0).1 26 13)], (gh_mo (gh_fI S 26 13 t0), 0, 0))) (fun _ => rfl) ?_
  cases c2 : gh_cmp .eq ((gh_fI S 26 13 t0).1 26 13) ((-1)) with
  | true =>
    rw [c2, cond_true] at h
    refine gh_T_ic true rfl c2 ?_
    exact kX2_cost_38 d N (gh_fI S 26 13 t0) _ h
  | false =>
    rw [c2, cond_false] at h
    refine gh_T_ic false rfl c2 ?_
    refine gh_T_steps 1 (τ := (35, [(0, .ref 26)], [.ref 26], (gh_mo (gh_fI S 26 13 t0), 0, 0))) (fun _ => rfl) ?_
    obtain ⟨q1, hq1, h⟩ := gh_bi h
    refine gh_T_iv (As := []) (b := 26) (rest := []) (y := none) (M' := gh_mo q1) rfl rfl rfl rfl rfl rfl rfl rfl rfl ⟨Nat.le_refl _, Nat.le_refl _⟩ (kX2_makeFirst d N (gh_fI S 26 13 t0) q1 hq1) ?_
    exact kX2_cost_38 d N q1 _ h
def sX2_cost (N : Nat) (S : gh_St) : Option (Int32 × gh_St) :=
  bif gh_cmp .ne (S.1 26 14) 0 then
    (sX2_cost_43 N S)
  else
    ((sX2_cheapest N S).bind fun q1 =>
    bif gh_cmp .eq q1.1 0 then
      (sX2_cost_23 N ((-1)) q1.2)
    else
      ((sX2_paid N q1.2).bind fun q2 =>
      sX2_cost_23 N q2.1 q2.2))
set_option maxRecDepth 100000 in
theorem kX2_cost_e (d N : Nat) (S : gh_St) (r : Int32 × gh_St) (h : sX2_cost N S = some r) : gh_T (d + 5) fX2_cost 0 0 none false false (0, [(0, .ref 26)], [], (gh_mo S, 0, 0)) (some (.int r.1), (gh_mo r.2, 0, 0)) := by
  unfold sX2_cost at h
  refine gh_T_steps 2 (τ := (4, [(0, .ref 26)], [.int (S.1 26 14)], (gh_mo S, 0, 0))) (fun _ => rfl) ?_
  cases c4 : gh_cmp .ne (S.1 26 14) 0 with
  | true =>
    rw [c4, cond_true] at h
    refine gh_T_if true rfl c4 ?_
    exact kX2_cost_43 d N S _ h
  | false =>
    rw [c4, cond_false] at h
    refine gh_T_if false rfl c4 ?_
    refine gh_T_steps 2 (τ := (9, [(0, .ref 26)], [.ref 26, .ref 26], (gh_mo S, 0, 0))) (fun _ => rfl) ?_
    obtain ⟨q1, hq1, h⟩ := gh_bi h
    refine gh_T_iv (As := []) (b := 26) (rest := [.ref 26]) (y := some (.int q1.1)) (M' := gh_mo q1.2) rfl rfl rfl rfl rfl rfl rfl rfl rfl ⟨Nat.le_refl _, Nat.le_refl _⟩ (kX2_cheapest d N S q1 hq1) ?_
    cases c3 : gh_cmp .eq q1.1 0 with
    | true =>
      rw [c3, cond_true] at h
      refine gh_T_if true rfl c3 ?_
      refine gh_T_steps 1 (τ := (23, [(0, .ref 26)], [.int ((-1)), .ref 26], (gh_mo q1.2, 0, 0))) (fun _ => rfl) ?_
      exact kX2_cost_23 d N ((-1)) q1.2 _ h
    | false =>
      rw [c3, cond_false] at h
      refine gh_T_if false rfl c3 ?_
      refine gh_T_steps 1 (τ := (16, [(0, .ref 26)], [.ref 26, .ref 26], (gh_mo q1.2, 0, 0))) (fun _ => rfl) ?_
      obtain ⟨q2, hq2, h⟩ := gh_bi h
      refine gh_T_iv (As := []) (b := 26) (rest := [.ref 26]) (y := some (.int q2.1)) (M' := gh_mo q2.2) rfl rfl rfl rfl rfl rfl rfl rfl rfl ⟨Nat.le_refl _, Nat.le_refl _⟩ (kX2_paid (d + 4) N q1.2 q2 hq2) ?_
      refine gh_T_steps 1 (τ := (23, [(0, .ref 26)], [.int q2.1, .ref 26], (gh_mo q2.2, 0, 0))) (fun _ => rfl) ?_
      exact kX2_cost_23 d N q2.1 q2.2 _ h
theorem kX2_cost (d N : Nat) (S : gh_St) (r : Int32 × gh_St) (h : sX2_cost N S = some r) : gh_Mx (d + 6) 18 [.ref 26] (gh_mo S) (some (.int r.1)) (gh_mo r.2) :=
  gh_Mx_of rfl rfl rfl rfl rfl rfl (kX2_cost_e d N S r h)
def sX9_fans (N : Nat) (S : gh_St) : Option (Int32 × gh_St) :=
  (sX2_cost N S).bind fun q1 =>
  some (q1.1, q1.2)
set_option maxRecDepth 100000 in
theorem kX9_fans_e (d N : Nat) (S : gh_St) (r : Int32 × gh_St) (h : sX9_fans N S = some r) : gh_T (d + 6) fX9_fans 0 0 none false false (0, [(0, .ref 0)], [], (gh_mo S, 0, 0)) (some (.int r.1), (gh_mo r.2, 0, 0)) := by
  unfold sX9_fans at h
  refine gh_T_steps 2 (τ := (4, [(0, .ref 0)], [.ref 26], (gh_mo S, 0, 0))) (fun _ => rfl) ?_
  obtain ⟨q1, hq1, h⟩ := gh_bi h
  refine gh_T_iv (As := []) (b := 26) (rest := []) (y := some (.int q1.1)) (M' := gh_mo q1.2) rfl rfl rfl rfl rfl rfl rfl rfl rfl ⟨Nat.le_refl _, Nat.le_refl _⟩ (kX2_cost d N S q1 hq1) ?_
  cases h
  exact gh_T_ret (fun _ => rfl)
theorem kX9_fans (d N : Nat) (S : gh_St) (r : Int32 × gh_St) (h : sX9_fans N S = some r) : gh_Mx (d + 7) 97 [.ref 0] (gh_mo S) (some (.int r.1)) (gh_mo r.2) :=
  gh_Mx_of rfl rfl rfl rfl rfl rfl (kX9_fans_e d N S r h)
def sX9_fansOf (N : Nat) (a1 : Int32) (S : gh_St) : Option (Int32 × gh_St) :=
  (sX9_isBin N a1 S).bind fun q1 =>
  bif gh_cmp .eq q1.1 0 then
    (some ((-1), q1.2))
  else
    ((sX2_cost N q1.2).bind fun q2 =>
    bif gh_cmp .ne q2.1 ((-1)) then
      ((gh_ra q2.2 36 8 a1).bind fun x3 =>
      some (x3, q2.2))
    else
      (some ((-1), q2.2)))
set_option maxRecDepth 100000 in
theorem kX9_fansOf_e (d N : Nat) (a1 : Int32) (S : gh_St) (r : Int32 × gh_St) (h : sX9_fansOf N a1 S = some r) : gh_T (d + 6) fX9_fansOf 0 0 none false false (0, [(0, .ref 0), (1, .int a1)], [], (gh_mo S, 0, 0)) (some (.int r.1), (gh_mo r.2, 0, 0)) := by
  unfold sX9_fansOf at h
  refine gh_T_steps 1 (τ := (1, [(0, .ref 0), (1, .int a1)], [.int a1], (gh_mo S, 0, 0))) (fun _ => rfl) ?_
  obtain ⟨q1, hq1, h⟩ := gh_bi h
  refine gh_T_is (As := [.int a1]) (rest := []) (y := some (.int q1.1)) (M' := gh_mo q1.2) rfl rfl rfl rfl rfl rfl rfl ⟨Nat.le_refl _, Nat.le_refl _⟩ (kX9_isBin (d + 4) N a1 S q1 hq1) ?_
  cases c5 : gh_cmp .eq q1.1 0 with
  | true =>
    rw [c5, cond_true] at h
    refine gh_T_if true rfl c5 ?_
    refine gh_T_steps 1 (τ := (19, [(0, .ref 0), (1, .int a1)], [.int ((-1))], (gh_mo q1.2, 0, 0))) (fun _ => rfl) ?_
    cases h
    exact gh_T_ret (fun _ => rfl)
  | false =>
    rw [c5, cond_false] at h
    refine gh_T_if false rfl c5 ?_
    refine gh_T_steps 2 (τ := (11, [(0, .ref 0), (1, .int a1)], [.ref 26], (gh_mo q1.2, 0, 0))) (fun _ => rfl) ?_
    obtain ⟨q2, hq2, h⟩ := gh_bi h
    refine gh_T_iv (As := []) (b := 26) (rest := []) (y := some (.int q2.1)) (M' := gh_mo q2.2) rfl rfl rfl rfl rfl rfl rfl rfl rfl ⟨Nat.le_refl _, Nat.le_refl _⟩ (kX2_cost d N q1.2 q2 hq2) ?_
    refine gh_T_steps 1 (τ := (15, [(0, .ref 0), (1, .int a1)], [.int ((-1)), .int q2.1], (gh_mo q2.2, 0, 0))) (fun _ => rfl) ?_
    cases c4 : gh_cmp .ne q2.1 ((-1)) with
    | true =>
      rw [c4, cond_true] at h
      refine gh_T_ic true rfl c4 ?_
      refine gh_T_steps 4 (τ := (28, [(0, .ref 0), (1, .int a1)], [.int a1, .ref 36], (gh_mo q2.2, 0, 0))) (fun _ => rfl) ?_
      obtain ⟨x3, hx3, h⟩ := gh_bi h
      refine gh_T_ra rfl rfl hx3 ?_
      cases h
      exact gh_T_ret (fun _ => rfl)
    | false =>
      rw [c4, cond_false] at h
      refine gh_T_ic false rfl c4 ?_
      refine gh_T_steps 1 (τ := (19, [(0, .ref 0), (1, .int a1)], [.int ((-1))], (gh_mo q2.2, 0, 0))) (fun _ => rfl) ?_
      cases h
      exact gh_T_ret (fun _ => rfl)
theorem kX9_fansOf (d N : Nat) (a1 : Int32) (S : gh_St) (r : Int32 × gh_St) (h : sX9_fansOf N a1 S = some r) : gh_Mx (d + 7) 98 [.ref 0, .int a1] (gh_mo S) (some (.int r.1)) (gh_mo r.2) :=
  gh_Mx_of rfl rfl rfl rfl rfl rfl (kX9_fansOf_e d N a1 S r h)

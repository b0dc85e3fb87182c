def sX10_clause_202 (N : Nat) (l4 : Int32) (l5 : Int32) (S : gh_St) : Option (gh_St) :=
  bif gh_cmp .ne (S.1 56 36) 0 then
    (some S)
  else
    ((gh_wa S 78 8 (S.1 56 41) l4).bind fun S1 =>
    (gh_wa S1 79 8 (S1.1 56 41) l5).bind fun S2 =>
    some (gh_fI S2 56 41 ((S2.1 56 41) + (1 : Int32))))
set_option maxRecDepth 100000 in
theorem kX10_clause_202 (d N : Nat) (l4 : Int32) (l5 : Int32) (S : gh_St) (r : gh_St) (h : sX10_clause_202 N l4 l5 S = some r) : gh_T (d + 4) fX10_clause 0 0 none false false (202, [(0, .ref 56), (4, .int l4), (5, .int l5)], [], (gh_mo S, 0, 0)) (none, (gh_mo r, 0, 0)) := by
  unfold sX10_clause_202 at h
  refine gh_T_steps 2 (τ := (206, [(0, .ref 56), (4, .int l4), (5, .int l5)], [.int (S.1 56 36)], (gh_mo S, 0, 0))) (fun _ => rfl) ?_
  cases c3 : gh_cmp .ne (S.1 56 36) 0 with
  | true =>
    rw [c3, cond_true] at h
    refine gh_T_if true rfl c3 ?_
    cases h
    exact gh_T_ret (fun _ => rfl)
  | false =>
    rw [c3, cond_false] at h
    refine gh_T_if false rfl c3 ?_
    refine gh_T_steps 5 (τ := (219, [(0, .ref 56), (4, .int l4), (5, .int l5)], [.int l4, .int (S.1 56 41), .ref 78], (gh_mo S, 0, 0))) (fun _ => rfl) ?_
    obtain ⟨S1, hS1, h⟩ := gh_bi h
    refine gh_T_wa rfl rfl hS1 ?_
    refine gh_T_steps 5 (τ := (230, [(0, .ref 56), (4, .int l4), (5, .int l5)], [.int l5, .int (S1.1 56 41), .ref 79], (gh_mo S1, 0, 0))) (fun _ => rfl) ?_
    obtain ⟨S2, hS2, h⟩ := gh_bi h
    refine gh_T_wa rfl rfl hS2 ?_
    refine gh_T_steps 6 (τ := (241, [(0, .ref 56), (4, .int l4), (5, .int l5)], [], (gh_mo (gh_fI S2 56 41 ((S2.1 56 41) + (1 : Int32))), 0, 0))) (fun _ => rfl) ?_
    cases h
    exact gh_T_ret (fun _ => rfl)
def sX10_clause_179 (N : Nat) (l2 : Int32) (l4 : Int32) (l5 : Int32) (S : gh_St) : Option (gh_St) :=
  bif gh_cmp .ne (S.1 56 36) 0 then
    (sX10_clause_202 N l4 l5 S)
  else
    (bif gh_cmp .ne l2 0 then
      (sX10_clause_202 N l4 l5 S)
    else
      ((gh_wa S 77 4 l4 l5).bind fun S1 =>
      some S1))
set_option maxRecDepth 100000 in
theorem kX10_clause_179 (d N : Nat) (l2 : Int32) (l4 : Int32) (l5 : Int32) (S : gh_St) (r : gh_St) (h : sX10_clause_179 N l2 l4 l5 S = some r) : gh_T (d + 4) fX10_clause 0 0 none false false (179, [(0, .ref 56), (2, .int l2), (4, .int l4), (5, .int l5)], [], (gh_mo S, 0, 0)) (none, (gh_mo r, 0, 0)) := by
  unfold sX10_clause_179 at h
  refine gh_T_steps 2 (τ := (183, [(0, .ref 56), (2, .int l2), (4, .int l4), (5, .int l5)], [.int (S.1 56 36)], (gh_mo S, 0, 0))) (fun _ => rfl) ?_
  cases c3 : gh_cmp .ne (S.1 56 36) 0 with
  | true =>
    rw [c3, cond_true] at h
    refine gh_T_if true rfl c3 ?_
    refine gh_T_weak (lv := [(0, .ref 56), (4, .int l4), (5, .int l5)]) ⟨rfl, rfl, rfl, trivial⟩ ?_
    exact kX10_clause_202 d N l4 l5 S _ h
  | false =>
    rw [c3, cond_false] at h
    refine gh_T_if false rfl c3 ?_
    refine gh_T_steps 1 (τ := (187, [(0, .ref 56), (2, .int l2), (4, .int l4), (5, .int l5)], [.int l2], (gh_mo S, 0, 0))) (fun _ => rfl) ?_
    cases c2 : gh_cmp .ne l2 0 with
    | true =>
      rw [c2, cond_true] at h
      refine gh_T_if true rfl c2 ?_
      refine gh_T_weak (lv := [(0, .ref 56), (4, .int l4), (5, .int l5)]) ⟨rfl, rfl, rfl, trivial⟩ ?_
      exact kX10_clause_202 d N l4 l5 S _ h
    | false =>
      rw [c2, cond_false] at h
      refine gh_T_if false rfl c2 ?_
      refine gh_T_steps 4 (τ := (198, [(0, .ref 56), (2, .int l2), (4, .int l4), (5, .int l5)], [.int l5, .int l4, .ref 77], (gh_mo S, 0, 0))) (fun _ => rfl) ?_
      obtain ⟨S1, hS1, h⟩ := gh_bi h
      refine gh_T_wa rfl rfl hS1 ?_
      refine gh_T_steps 1 (τ := (241, [(0, .ref 56), (2, .int l2), (4, .int l4), (5, .int l5)], [], (gh_mo S1, 0, 0))) (fun _ => rfl) ?_
      cases h
      exact gh_T_ret (fun _ => rfl)
def sX10_clause_174 (N : Nat) (l2 : Int32) (l4 : Int32) (l5 : Int32) (S : gh_St) : Option (gh_St) :=
  (sX10_errs N 1 S).bind fun q1 =>
  sX10_clause_179 N l2 l4 l5 q1
set_option maxRecDepth 100000 in
theorem kX10_clause_174 (d N : Nat) (l2 : Int32) (l4 : Int32) (l5 : Int32) (S : gh_St) (r : gh_St) (h : sX10_clause_174 N l2 l4 l5 S = some r) : gh_T (d + 4) fX10_clause 0 0 none false false (174, [(0, .ref 56), (2, .int l2), (4, .int l4), (5, .int l5)], [], (gh_mo S, 0, 0)) (none, (gh_mo r, 0, 0)) := by
  unfold sX10_clause_174 at h
  refine gh_T_steps 2 (τ := (176, [(0, .ref 56), (2, .int l2), (4, .int l4), (5, .int l5)], [.int 1, .ref 56], (gh_mo S, 0, 0))) (fun _ => rfl) ?_
  obtain ⟨q1, hq1, h⟩ := gh_bi h
  refine gh_T_iv (As := [.int 1]) (b := 56) (rest := []) (y := none) (M' := gh_mo q1) rfl rfl rfl rfl rfl rfl rfl rfl rfl ⟨Nat.le_refl _, Nat.le_refl _⟩ (kX10_errs (d + 3) N 1 S q1 hq1) ?_
  exact kX10_clause_179 d N l2 l4 l5 q1 _ h
def sX10_clause_145 (N : Nat) (l1 : Int32) (l2 : Int32) (l4 : Int32) (t0 : Int32) (t1 : Int32) (S : gh_St) : Option (gh_St) :=
  (sX10_number N t1 t0 l1 S).bind fun q1 =>
  bif gh_cmp .ne (q1.2.1 56 36) 0 then
    (sX10_clause_174 N l2 l4 q1.1 q1.2)
  else
    (bif gh_cmp .ne (q1.2.1 56 34) 3 then
      (sX10_clause_174 N l2 l4 q1.1 q1.2)
    else
      ((sX10_next N l1 q1.2).bind fun q2 =>
      sX10_clause_179 N l2 l4 q1.1 q2))
set_option maxRecDepth 100000 in
theorem kX10_clause_145 (d N : Nat) (l1 : Int32) (l2 : Int32) (l4 : Int32) (t0 : Int32) (t1 : Int32) (S : gh_St) (r : gh_St) (h : sX10_clause_145 N l1 l2 l4 t0 t1 S = some r) : gh_T (d + 4) fX10_clause 0 0 none false false (145, [(0, .ref 56), (1, .int l1), (2, .int l2), (4, .int l4)], [.int t0, .int t1, .ref 56], (gh_mo S, 0, 0)) (none, (gh_mo r, 0, 0)) := by
  unfold sX10_clause_145 at h
  refine gh_T_steps 1 (τ := (146, [(0, .ref 56), (1, .int l1), (2, .int l2), (4, .int l4)], [.int l1, .int t0, .int t1, .ref 56], (gh_mo S, 0, 0))) (fun _ => rfl) ?_
  obtain ⟨q1, hq1, h⟩ := gh_bi h
  refine gh_T_iv (As := [.int t1, .int t0, .int l1]) (b := 56) (rest := []) (y := some (.int q1.1)) (M' := gh_mo q1.2) rfl rfl rfl rfl rfl rfl rfl rfl rfl ⟨Nat.le_refl _, Nat.le_refl _⟩ (kX10_number d N t1 t0 l1 S q1 hq1) ?_
  refine gh_T_steps 3 (τ := (155, [(5, .int q1.1), (0, .ref 56), (1, .int l1), (2, .int l2), (4, .int l4)], [.int (q1.2.1 56 36)], (gh_mo q1.2, 0, 0))) (fun _ => rfl) ?_
  cases c4 : gh_cmp .ne (q1.2.1 56 36) 0 with
  | true =>
    rw [c4, cond_true] at h
    refine gh_T_if true rfl c4 ?_
    refine gh_T_weak (lv := [(0, .ref 56), (2, .int l2), (4, .int l4), (5, .int q1.1)]) ⟨rfl, rfl, rfl, rfl, trivial⟩ ?_
    exact kX10_clause_174 d N l2 l4 q1.1 q1.2 _ h
  | false =>
    rw [c4, cond_false] at h
    refine gh_T_if false rfl c4 ?_
    refine gh_T_steps 3 (τ := (163, [(5, .int q1.1), (0, .ref 56), (1, .int l1), (2, .int l2), (4, .int l4)], [.int 3, .int (q1.2.1 56 34)], (gh_mo q1.2, 0, 0))) (fun _ => rfl) ?_
    cases c3 : gh_cmp .ne (q1.2.1 56 34) 3 with
    | true =>
      rw [c3, cond_true] at h
      refine gh_T_ic true rfl c3 ?_
      refine gh_T_weak (lv := [(0, .ref 56), (2, .int l2), (4, .int l4), (5, .int q1.1)]) ⟨rfl, rfl, rfl, rfl, trivial⟩ ?_
      exact kX10_clause_174 d N l2 l4 q1.1 q1.2 _ h
    | false =>
      rw [c3, cond_false] at h
      refine gh_T_ic false rfl c3 ?_
      refine gh_T_steps 2 (τ := (168, [(5, .int q1.1), (0, .ref 56), (1, .int l1), (2, .int l2), (4, .int l4)], [.int l1, .ref 56], (gh_mo q1.2, 0, 0))) (fun _ => rfl) ?_
      obtain ⟨q2, hq2, h⟩ := gh_bi h
      refine gh_T_iv (As := [.int l1]) (b := 56) (rest := []) (y := none) (M' := gh_mo q2) rfl rfl rfl rfl rfl rfl rfl rfl rfl ⟨Nat.le_refl _, Nat.le_refl _⟩ (kX10_next (d + 1) N l1 q1.2 q2 hq2) ?_
      refine gh_T_steps 1 (τ := (179, [(5, .int q1.1), (0, .ref 56), (1, .int l1), (2, .int l2), (4, .int l4)], [], (gh_mo q2, 0, 0))) (fun _ => rfl) ?_
      refine gh_T_weak (lv := [(0, .ref 56), (2, .int l2), (4, .int l4), (5, .int q1.1)]) ⟨rfl, rfl, rfl, rfl, trivial⟩ ?_
      exact kX10_clause_179 d N l2 l4 q1.1 q2 _ h
def sX10_clause_125 (N : Nat) (l1 : Int32) (l2 : Int32) (t0 : Int32) (t1 : Int32) (S : gh_St) : Option (gh_St) :=
  (sX10_number N t1 t0 l1 S).bind fun q1 =>
  bif gh_cmp .ne l2 0 then
    (sX10_clause_145 N l1 l2 q1.1 50 l2 q1.2)
  else
    (sX10_clause_145 N l1 l2 q1.1 9999 l2 q1.2)
set_option maxRecDepth 100000 in
theorem kX10_clause_125 (d N : Nat) (l1 : Int32) (l2 : Int32) (t0 : Int32) (t1 : Int32) (S : gh_St) (r : gh_St) (h : sX10_clause_125 N l1 l2 t0 t1 S = some r) : gh_T (d + 4) fX10_clause 0 0 none false false (125, [(0, .ref 56), (1, .int l1), (2, .int l2)], [.int t0, .int t1, .ref 56], (gh_mo S, 0, 0)) (none, (gh_mo r, 0, 0)) := by
  unfold sX10_clause_125 at h
  refine gh_T_steps 1 (τ := (126, [(0, .ref 56), (1, .int l1), (2, .int l2)], [.int l1, .int t0, .int t1, .ref 56], (gh_mo S, 0, 0))) (fun _ => rfl) ?_
  obtain ⟨q1, hq1, h⟩ := gh_bi h
  refine gh_T_iv (As := [.int t1, .int t0, .int l1]) (b := 56) (rest := []) (y := some (.int q1.1)) (M' := gh_mo q1.2) rfl rfl rfl rfl rfl rfl rfl rfl rfl ⟨Nat.le_refl _, Nat.le_refl _⟩ (kX10_number d N t1 t0 l1 S q1 hq1) ?_
  refine gh_T_steps 4 (τ := (134, [(4, .int q1.1), (0, .ref 56), (1, .int l1), (2, .int l2)], [.int l2, .int l2, .ref 56], (gh_mo q1.2, 0, 0))) (fun _ => rfl) ?_
  cases c2 : gh_cmp .ne l2 0 with
  | true =>
    rw [c2, cond_true] at h
    refine gh_T_if true rfl c2 ?_
    refine gh_T_steps 1 (τ := (145, [(4, .int q1.1), (0, .ref 56), (1, .int l1), (2, .int l2)], [.int 50, .int l2, .ref 56], (gh_mo q1.2, 0, 0))) (fun _ => rfl) ?_
    refine gh_T_weak (lv := [(0, .ref 56), (1, .int l1), (2, .int l2), (4, .int q1.1)]) ⟨rfl, rfl, rfl, rfl, trivial⟩ ?_
    exact kX10_clause_145 d N l1 l2 q1.1 50 l2 q1.2 _ h
  | false =>
    rw [c2, cond_false] at h
    refine gh_T_if false rfl c2 ?_
    refine gh_T_steps 2 (τ := (145, [(4, .int q1.1), (0, .ref 56), (1, .int l1), (2, .int l2)], [.int 9999, .int l2, .ref 56], (gh_mo q1.2, 0, 0))) (fun _ => rfl) ?_
    refine gh_T_weak (lv := [(0, .ref 56), (1, .int l1), (2, .int l2), (4, .int q1.1)]) ⟨rfl, rfl, rfl, rfl, trivial⟩ ?_
    exact kX10_clause_145 d N l1 l2 q1.1 9999 l2 q1.2 _ h
def sX10_clause_112 (N : Nat) (l1 : Int32) (l2 : Int32) (S : gh_St) : Option (gh_St) :=
  bif gh_cmp .ne l2 0 then
    (sX10_clause_125 N l1 l2 400 0 S)
  else
    (sX10_clause_125 N l1 l2 3 0 S)
set_option maxRecDepth 100000 in
theorem kX10_clause_112 (d N : Nat) (l1 : Int32) (l2 : Int32) (S : gh_St) (r : gh_St) (h : sX10_clause_112 N l1 l2 S = some r) : gh_T (d + 4) fX10_clause 0 0 none false false (112, [(0, .ref 56), (1, .int l1), (2, .int l2)], [], (gh_mo S, 0, 0)) (none, (gh_mo r, 0, 0)) := by
  unfold sX10_clause_112 at h
  refine gh_T_steps 3 (τ := (115, [(0, .ref 56), (1, .int l1), (2, .int l2)], [.int l2, .int 0, .ref 56], (gh_mo S, 0, 0))) (fun _ => rfl) ?_
  cases c1 : gh_cmp .ne l2 0 with
  | true =>
    rw [c1, cond_true] at h
    refine gh_T_if true rfl c1 ?_
    refine gh_T_steps 1 (τ := (125, [(0, .ref 56), (1, .int l1), (2, .int l2)], [.int 400, .int 0, .ref 56], (gh_mo S, 0, 0))) (fun _ => rfl) ?_
    exact kX10_clause_125 d N l1 l2 400 0 S _ h
  | false =>
    rw [c1, cond_false] at h
    refine gh_T_if false rfl c1 ?_
    refine gh_T_steps 2 (τ := (125, [(0, .ref 56), (1, .int l1), (2, .int l2)], [.int 3, .int 0, .ref 56], (gh_mo S, 0, 0))) (fun _ => rfl) ?_
    exact kX10_clause_125 d N l1 l2 3 0 S _ h
def sX10_clause_102 (N : Nat) (l1 : Int32) (l2 : Int32) (t0 : Int32) (S : gh_St) : Option (gh_St) :=
  bif gh_cmp .eq t0 0 then
    (sX10_clause_112 N l1 l2 S)
  else
    ((sX10_errs N 2 S).bind fun q1 =>
    sX10_clause_112 N l1 l2 q1)
set_option maxRecDepth 100000 in
theorem kX10_clause_102 (d N : Nat) (l1 : Int32) (l2 : Int32) (t0 : Int32) (S : gh_St) (r : gh_St) (h : sX10_clause_102 N l1 l2 t0 S = some r) : gh_T (d + 4) fX10_clause 0 0 none false false (102, [(0, .ref 56), (1, .int l1), (2, .int l2)], [.int t0], (gh_mo S, 0, 0)) (none, (gh_mo r, 0, 0)) := by
  unfold sX10_clause_102 at h
  refine gh_T_steps 2 (τ := (104, [(3, .int t0), (0, .ref 56), (1, .int l1), (2, .int l2)], [.int t0], (gh_mo S, 0, 0))) (fun _ => rfl) ?_
  cases c2 : gh_cmp .eq t0 0 with
  | true =>
    rw [c2, cond_true] at h
    refine gh_T_if true rfl c2 ?_
    refine gh_T_weak (lv := [(0, .ref 56), (1, .int l1), (2, .int l2)]) ⟨rfl, rfl, rfl, trivial⟩ ?_
    exact kX10_clause_112 d N l1 l2 S _ h
  | false =>
    rw [c2, cond_false] at h
    refine gh_T_if false rfl c2 ?_
    refine gh_T_steps 2 (τ := (109, [(3, .int t0), (0, .ref 56), (1, .int l1), (2, .int l2)], [.int 2, .ref 56], (gh_mo S, 0, 0))) (fun _ => rfl) ?_
    obtain ⟨q1, hq1, h⟩ := gh_bi h
    refine gh_T_iv (As := [.int 2]) (b := 56) (rest := []) (y := none) (M' := gh_mo q1) rfl rfl rfl rfl rfl rfl rfl rfl rfl ⟨Nat.le_refl _, Nat.le_refl _⟩ (kX10_errs (d + 3) N 2 S q1 hq1) ?_
    refine gh_T_weak (lv := [(0, .ref 56), (1, .int l1), (2, .int l2)]) ⟨rfl, rfl, rfl, trivial⟩ ?_
    exact kX10_clause_112 d N l1 l2 q1 _ h
def sX10_clause_97 (N : Nat) (l1 : Int32) (l2 : Int32) (S : gh_St) : Option (gh_St) :=
  sX10_clause_102 N l1 l2 1 S
set_option maxRecDepth 100000 in
theorem kX10_clause_97 (d N : Nat) (l1 : Int32) (l2 : Int32) (S : gh_St) (r : gh_St) (h : sX10_clause_97 N l1 l2 S = some r) : gh_T (d + 4) fX10_clause 0 0 none false false (97, [(0, .ref 56), (1, .int l1), (2, .int l2)], [], (gh_mo S, 0, 0)) (none, (gh_mo r, 0, 0)) := by
  unfold sX10_clause_97 at h
  refine gh_T_steps 2 (τ := (102, [(0, .ref 56), (1, .int l1), (2, .int l2)], [.int 1], (gh_mo S, 0, 0))) (fun _ => rfl) ?_
  exact kX10_clause_102 d N l1 l2 1 S _ h
def sX10_clause_101 (N : Nat) (l1 : Int32) (l2 : Int32) (S : gh_St) : Option (gh_St) :=
  sX10_clause_102 N l1 l2 0 S
set_option maxRecDepth 100000 in
theorem kX10_clause_101 (d N : Nat) (l1 : Int32) (l2 : Int32) (S : gh_St) (r : gh_St) (h : sX10_clause_101 N l1 l2 S = some r) : gh_T (d + 4) fX10_clause 0 0 none false false (101, [(0, .ref 56), (1, .int l1), (2, .int l2)], [], (gh_mo S, 0, 0)) (none, (gh_mo r, 0, 0)) := by
  unfold sX10_clause_101 at h
  refine gh_T_steps 1 (τ := (102, [(0, .ref 56), (1, .int l1), (2, .int l2)], [.int 0], (gh_mo S, 0, 0))) (fun _ => rfl) ?_
  exact kX10_clause_102 d N l1 l2 0 S _ h
def sX10_clause_39 (N : Nat) (l1 : Int32) (l2 : Int32) (S : gh_St) : Option (gh_St) :=
  (sX10_next N l1 S).bind fun q1 =>
  bif gh_cmp .ne (q1.1 56 34) 2 then
    (sX10_clause_101 N l1 l2 q1)
  else
    (bif gh_cmp .ne l2 0 then
      ((sX10_wasDock N (q1.1 56 35) q1).bind fun q2 =>
      bif gh_cmp .eq q2.1 0 then
        (sX10_clause_101 N l1 l2 q2.2)
      else
        (sX10_clause_97 N l1 l2 q2.2))
    else
      ((sX10_in N ((q1.1 56 35 : Int32).toInt64) 0 3 q1).bind fun q4 =>
      bif gh_cmp .eq q4.1 0 then
        (sX10_clause_101 N l1 l2 q4.2)
      else
        ((gh_ra q4.2 77 4 (q4.2.1 56 35)).bind fun x5 =>
        bif gh_cmp .lt x5 0 then
          (sX10_clause_101 N l1 l2 q4.2)
        else
          (sX10_clause_97 N l1 l2 q4.2))))
set_option maxRecDepth 100000 in
theorem kX10_clause_39 (d N : Nat) (l1 : Int32) (l2 : Int32) (S : gh_St) (r : gh_St) (h : sX10_clause_39 N l1 l2 S = some r) : gh_T (d + 4) fX10_clause 0 0 none false false (39, [(0, .ref 56), (1, .int l1), (2, .int l2)], [], (gh_mo S, 0, 0)) (none, (gh_mo r, 0, 0)) := by
  unfold sX10_clause_39 at h
  refine gh_T_steps 2 (τ := (41, [(0, .ref 56), (1, .int l1), (2, .int l2)], [.int l1, .ref 56], (gh_mo S, 0, 0))) (fun _ => rfl) ?_
  obtain ⟨q1, hq1, h⟩ := gh_bi h
  refine gh_T_iv (As := [.int l1]) (b := 56) (rest := []) (y := none) (M' := gh_mo q1) rfl rfl rfl rfl rfl rfl rfl rfl rfl ⟨Nat.le_refl _, Nat.le_refl _⟩ (kX10_next (d + 1) N l1 S q1 hq1) ?_
  refine gh_T_steps 3 (τ := (49, [(0, .ref 56), (1, .int l1), (2, .int l2)], [.int 2, .int (q1.1 56 34)], (gh_mo q1, 0, 0))) (fun _ => rfl) ?_
  cases c9 : gh_cmp .ne (q1.1 56 34) 2 with
  | true =>
    rw [c9, cond_true] at h
    refine gh_T_ic true rfl c9 ?_
    exact kX10_clause_101 d N l1 l2 q1 _ h
  | false =>
    rw [c9, cond_false] at h
    refine gh_T_ic false rfl c9 ?_
    refine gh_T_steps 1 (τ := (53, [(0, .ref 56), (1, .int l1), (2, .int l2)], [.int l2], (gh_mo q1, 0, 0))) (fun _ => rfl) ?_
    cases c8 : gh_cmp .ne l2 0 with
    | true =>
      rw [c8, cond_true] at h
      refine gh_T_if true rfl c8 ?_
      refine gh_T_steps 3 (τ := (91, [(0, .ref 56), (1, .int l1), (2, .int l2)], [.int (q1.1 56 35), .ref 56], (gh_mo q1, 0, 0))) (fun _ => rfl) ?_
      obtain ⟨q2, hq2, h⟩ := gh_bi h
      refine gh_T_iv (As := [.int (q1.1 56 35)]) (b := 56) (rest := []) (y := some (.int q2.1)) (M' := gh_mo q2.2) rfl rfl rfl rfl rfl rfl rfl rfl rfl ⟨Nat.le_refl _, Nat.le_refl _⟩ (kX10_wasDock (d + 3) N (q1.1 56 35) q1 q2 hq2) ?_
      cases c3 : gh_cmp .eq q2.1 0 with
      | true =>
        rw [c3, cond_true] at h
        refine gh_T_if true rfl c3 ?_
        exact kX10_clause_101 d N l1 l2 q2.2 _ h
      | false =>
        rw [c3, cond_false] at h
        refine gh_T_if false rfl c3 ?_
        exact kX10_clause_97 d N l1 l2 q2.2 _ h
    | false =>
      rw [c8, cond_false] at h
      refine gh_T_if false rfl c8 ?_
      refine gh_T_steps 5 (τ := (65, [(0, .ref 56), (1, .int l1), (2, .int l2)], [.long 3, .long 0, .long ((q1.1 56 35 : Int32).toInt64)], (gh_mo q1, 0, 0))) (fun _ => rfl) ?_
      obtain ⟨q4, hq4, h⟩ := gh_bi h
      refine gh_T_is (As := [.long ((q1.1 56 35 : Int32).toInt64), .long 0, .long 3]) (rest := []) (y := some (.int q4.1)) (M' := gh_mo q4.2) rfl rfl rfl rfl rfl rfl rfl ⟨Nat.le_refl _, Nat.le_refl _⟩ (kX10_in (d + 3) N ((q1.1 56 35 : Int32).toInt64) 0 3 q1 q4 hq4) ?_
      cases c7 : gh_cmp .eq q4.1 0 with
      | true =>
        rw [c7, cond_true] at h
        refine gh_T_if true rfl c7 ?_
        exact kX10_clause_101 d N l1 l2 q4.2 _ h
      | false =>
        rw [c7, cond_false] at h
        refine gh_T_if false rfl c7 ?_
        refine gh_T_steps 4 (τ := (79, [(0, .ref 56), (1, .int l1), (2, .int l2)], [.int (q4.2.1 56 35), .ref 77], (gh_mo q4.2, 0, 0))) (fun _ => rfl) ?_
        obtain ⟨x5, hx5, h⟩ := gh_bi h
        refine gh_T_ra rfl rfl hx5 ?_
        cases c6 : gh_cmp .lt x5 0 with
        | true =>
          rw [c6, cond_true] at h
          refine gh_T_if true rfl c6 ?_
          exact kX10_clause_101 d N l1 l2 q4.2 _ h
        | false =>
          rw [c6, cond_false] at h
          refine gh_T_if false rfl c6 ?_
          refine gh_T_steps 1 (τ := (97, [(0, .ref 56), (1, .int l1), (2, .int l2)], [], (gh_mo q4.2, 0, 0))) (fun _ => rfl) ?_
          exact kX10_clause_97 d N l1 l2 q4.2 _ h
def sX10_clause (N : Nat) (a1 : Int32) (S : gh_St) : Option (gh_St) :=
  bif gh_cmp .eq (S.1 56 34) 1 then
    (bif gh_cmp .ne (S.1 56 35) 1 then
      (sX10_clause_39 N a1 (S.1 56 35) S)
    else
      (bif gh_cmp .ne (S.1 56 41) 8 then
        (sX10_clause_39 N a1 (S.1 56 35) S)
      else
        ((sX10_errs N 4 S).bind fun q1 =>
        some q1)))
  else
    ((sX10_errs N 1 S).bind fun q4 =>
    some q4)
set_option maxRecDepth 100000 in
theorem kX10_clause_e (d N : Nat) (a1 : Int32) (S : gh_St) (r : gh_St) (h : sX10_clause N a1 S = some r) : gh_T (d + 4) fX10_clause 0 0 none false false (0, [(0, .ref 56), (1, .int a1)], [], (gh_mo S, 0, 0)) (none, (gh_mo r, 0, 0)) := by
  unfold sX10_clause at h
  refine gh_T_steps 3 (τ := (5, [(0, .ref 56), (1, .int a1)], [.int 1, .int (S.1 56 34)], (gh_mo S, 0, 0))) (fun _ => rfl) ?_
  cases c5 : gh_cmp .eq (S.1 56 34) 1 with
  | true =>
    rw [c5, cond_true] at h
    refine gh_T_ic true rfl c5 ?_
    refine gh_T_steps 5 (τ := (21, [(2, .int (S.1 56 35)), (0, .ref 56), (1, .int a1)], [.int 1, .int (S.1 56 35)], (gh_mo S, 0, 0))) (fun _ => rfl) ?_
    cases c3 : gh_cmp .ne (S.1 56 35) 1 with
    | true =>
      rw [c3, cond_true] at h
      refine gh_T_ic true rfl c3 ?_
      refine gh_T_weak (lv := [(0, .ref 56), (1, .int a1), (2, .int (S.1 56 35))]) ⟨rfl, rfl, rfl, trivial⟩ ?_
      exact kX10_clause_39 d N a1 (S.1 56 35) S _ h
    | false =>
      rw [c3, cond_false] at h
      refine gh_T_ic false rfl c3 ?_
      refine gh_T_steps 3 (τ := (30, [(2, .int (S.1 56 35)), (0, .ref 56), (1, .int a1)], [.int 8, .int (S.1 56 41)], (gh_mo S, 0, 0))) (fun _ => rfl) ?_
      cases c2 : gh_cmp .ne (S.1 56 41) 8 with
      | true =>
        rw [c2, cond_true] at h
        refine gh_T_ic true rfl c2 ?_
        refine gh_T_weak (lv := [(0, .ref 56), (1, .int a1), (2, .int (S.1 56 35))]) ⟨rfl, rfl, rfl, trivial⟩ ?_
        exact kX10_clause_39 d N a1 (S.1 56 35) S _ h
      | false =>
        rw [c2, cond_false] at h
        refine gh_T_ic false rfl c2 ?_
        refine gh_T_steps 2 (τ := (35, [(2, .int (S.1 56 35)), (0, .ref 56), (1, .int a1)], [.int 4, .ref 56], (gh_mo S, 0, 0))) (fun _ => rfl) ?_
        obtain ⟨q1, hq1, h⟩ := gh_bi h
        refine gh_T_iv (As := [.int 4]) (b := 56) (rest := []) (y := none) (M' := gh_mo q1) rfl rfl rfl rfl rfl rfl rfl rfl rfl ⟨Nat.le_refl _, Nat.le_refl _⟩ (kX10_errs (d + 3) N 4 S q1 hq1) ?_
        cases h
        exact gh_T_ret (fun _ => rfl)
  | false =>
    rw [c5, cond_false] at h
    refine gh_T_ic false rfl c5 ?_
    refine gh_T_steps 2 (τ := (10, [(0, .ref 56), (1, .int a1)], [.int 1, .ref 56], (gh_mo S, 0, 0))) (fun _ => rfl) ?_
    obtain ⟨q4, hq4, h⟩ := gh_bi h
    refine gh_T_iv (As := [.int 1]) (b := 56) (rest := []) (y := none) (M' := gh_mo q4) rfl rfl rfl rfl rfl rfl rfl rfl rfl ⟨Nat.le_refl _, Nat.le_refl _⟩ (kX10_errs (d + 3) N 1 S q4 hq4) ?_
    cases h
    exact gh_T_ret (fun _ => rfl)
theorem kX10_clause (d N : Nat) (a1 : Int32) (S : gh_St) (r : gh_St) (h : sX10_clause N a1 S = some r) : gh_Mx (d + 5) 168 [.ref 56, .int a1] (gh_mo S) none (gh_mo r) :=
  gh_Mx_of rfl rfl rfl rfl rfl rfl (kX10_clause_e d N a1 S r h)
def sX10_list_138 (N : Nat) (kc109 : Int32 → Int32 → gh_St → Option (Int32 × gh_St)) (l2 : Int32) (l3 : Int32) (t0 : Int32) (t1 : Int32) (S : gh_St) : Option (Int32 × gh_St) :=
  (gh_wa S 80 4 t1 t0).bind fun S1 =>
  kc109 l2 (l3 + 1) S1
set_option maxRecDepth 100000 in
theorem kX10_list_138 (d N : Nat) (kc109 : Int32 → Int32 → gh_St → Option (Int32 × gh_St)) (hkc109 : ∀ (l2 : Int32) (l3 : Int32) (S : gh_St) (r : Int32 × gh_St), kc109 l2 l3 S = some r → gh_T (d + 5) fX10_list 0 0 none false false (109, [(0, .ref 56), (2, .int l2), (3, .int l3)], [], (gh_mo S, 0, 0)) (some (.int r.1), (gh_mo r.2, 0, 0))) (l2 : Int32) (l3 : Int32) (t0 : Int32) (t1 : Int32) (S : gh_St) (r : Int32 × gh_St) (h : sX10_list_138 N kc109 l2 l3 t0 t1 S = some r) : gh_T (d + 5) fX10_list 0 0 none false false (138, [(0, .ref 56), (2, .int l2), (3, .int l3)], [.int t0, .int t1, .ref 80], (gh_mo S, 0, 0)) (some (.int r.1), (gh_mo r.2, 0, 0)) := by
  unfold sX10_list_138 at h
  obtain ⟨S1, hS1, h⟩ := gh_bi h
  refine gh_T_wa rfl rfl hS1 ?_
  refine gh_T_steps 2 (τ := (109, [(3, .int (l3 + 1)), (0, .ref 56), (2, .int l2)], [], (gh_mo S1, 0, 0))) (fun _ => rfl) ?_
  refine gh_T_weak (lv := [(0, .ref 56), (2, .int l2), (3, .int (l3 + 1))]) ⟨rfl, rfl, rfl, trivial⟩ ?_
  exact hkc109 l2 (l3 + 1) S1 _ h
def sX10_list_155 (N : Nat) : Nat → Int32 → Int32 → gh_St → Option (Int32 × gh_St)
  | 0, _, _, _ => none
  | n + 1, l2, l3, S =>
    bif gh_cmp .ge l3 8 then
      (some (l2, S))
    else
      ((gh_ra S 78 8 l3).bind fun x1 =>
      (gh_wa S 81 8 l3 x1).bind fun S2 =>
      (gh_ra S2 79 8 l3).bind fun x3 =>
      (gh_wa S2 82 8 l3 x3).bind fun S4 =>
      (sX10_list_155 N n) l2 (l3 + 1) S4)
set_option maxRecDepth 100000 in
theorem kX10_list_155 (d N : Nat) : ∀ (n : Nat) (l2 : Int32) (l3 : Int32) (S : gh_St) (r : Int32 × gh_St), sX10_list_155 N n l2 l3 S = some r → gh_T (d + 5) fX10_list 0 0 none false false (155, [(0, .ref 56), (2, .int l2), (3, .int l3)], [], (gh_mo S, 0, 0)) (some (.int r.1), (gh_mo r.2, 0, 0)) := by
  intro n
  induction n with
  | zero =>
    intro l2 l3 S r h
    cases h
  | succ n ih =>
    intro l2 l3 S r h
    rw [sX10_list_155] at h
    refine gh_T_steps 2 (τ := (158, [(0, .ref 56), (2, .int l2), (3, .int l3)], [.int 8, .int l3], (gh_mo S, 0, 0))) (fun _ => rfl) ?_
    cases c5 : gh_cmp .ge l3 8 with
    | true =>
      rw [c5, cond_true] at h
      refine gh_T_ic true rfl c5 ?_
      refine gh_T_steps 1 (τ := (192, [(0, .ref 56), (2, .int l2), (3, .int l3)], [.int l2], (gh_mo S, 0, 0))) (fun _ => rfl) ?_
      cases h
      exact gh_T_ret (fun _ => rfl)
    | false =>
      rw [c5, cond_false] at h
      refine gh_T_ic false rfl c5 ?_
      refine gh_T_steps 6 (τ := (171, [(0, .ref 56), (2, .int l2), (3, .int l3)], [.int l3, .ref 78, .int l3, .ref 81], (gh_mo S, 0, 0))) (fun _ => rfl) ?_
      obtain ⟨x1, hx1, h⟩ := gh_bi h
      refine gh_T_ra rfl rfl hx1 ?_
      obtain ⟨S2, hS2, h⟩ := gh_bi h
      refine gh_T_wa rfl rfl hS2 ?_
      refine gh_T_steps 6 (τ := (183, [(0, .ref 56), (2, .int l2), (3, .int l3)], [.int l3, .ref 79, .int l3, .ref 82], (gh_mo S2, 0, 0))) (fun _ => rfl) ?_
      obtain ⟨x3, hx3, h⟩ := gh_bi h
      refine gh_T_ra rfl rfl hx3 ?_
      obtain ⟨S4, hS4, h⟩ := gh_bi h
      refine gh_T_wa rfl rfl hS4 ?_
      refine gh_T_steps 2 (τ := (155, [(3, .int (l3 + 1)), (0, .ref 56), (2, .int l2)], [], (gh_mo S4, 0, 0))) (fun _ => rfl) ?_
      refine gh_T_weak (lv := [(0, .ref 56), (2, .int l2), (3, .int (l3 + 1))]) ⟨rfl, rfl, rfl, trivial⟩ ?_
      exact ih l2 (l3 + 1) S4 _ h
def sX10_list_109 (N : Nat) : Nat → Int32 → Int32 → gh_St → Option (Int32 × gh_St)
  | 0, _, _, _ => none
  | n + 1, l2, l3, S =>
    bif gh_cmp .ge l3 4 then
      (sX10_list_155 N N l2 0 (gh_fI S 56 45 (S.1 56 41)))
    else
      ((gh_ra S 77 4 l3).bind fun x1 =>
      bif gh_cmp .ge x1 0 then
        ((gh_ra S 77 4 l3).bind fun x2 =>
        (gh_wa S 80 4 l3 x2).bind fun S3 =>
        (sX10_list_109 N n) l2 (l3 + 1) S3)
      else
        (sX10_list_138 N (sX10_list_109 N n) l2 l3 0 l3 S))
set_option maxRecDepth 100000 in
theorem kX10_list_109 (d N : Nat) : ∀ (n : Nat) (l2 : Int32) (l3 : Int32) (S : gh_St) (r : Int32 × gh_St), sX10_list_109 N n l2 l3 S = some r → gh_T (d + 5) fX10_list 0 0 none false false (109, [(0, .ref 56), (2, .int l2), (3, .int l3)], [], (gh_mo S, 0, 0)) (some (.int r.1), (gh_mo r.2, 0, 0)) := by
  intro n
  induction n with
  | zero =>
    intro l2 l3 S r h
    cases h
  | succ n ih =>
    intro l2 l3 S r h
    rw [sX10_list_109] at h
    refine gh_T_steps 2 (τ := (111, [(0, .ref 56), (2, .int l2), (3, .int l3)], [.int 4, .int l3], (gh_mo S, 0, 0))) (fun _ => rfl) ?_
    cases c5 : gh_cmp .ge l3 4 with
    | true =>
      rw [c5, cond_true] at h
      refine gh_T_ic true rfl c5 ?_
      refine gh_T_steps 6 (τ := (155, [(3, .int 0), (0, .ref 56), (2, .int l2)], [], (gh_mo (gh_fI S 56 45 (S.1 56 41)), 0, 0))) (fun _ => rfl) ?_
      refine gh_T_weak (lv := [(0, .ref 56), (2, .int l2), (3, .int 0)]) ⟨rfl, rfl, rfl, trivial⟩ ?_
      exact kX10_list_155 d N N l2 0 (gh_fI S 56 45 (S.1 56 41)) _ h
    | false =>
      rw [c5, cond_false] at h
      refine gh_T_ic false rfl c5 ?_
      refine gh_T_steps 6 (τ := (124, [(0, .ref 56), (2, .int l2), (3, .int l3)], [.int l3, .ref 77, .int l3, .ref 80], (gh_mo S, 0, 0))) (fun _ => rfl) ?_
      obtain ⟨x1, hx1, h⟩ := gh_bi h
      refine gh_T_ra rfl rfl hx1 ?_
      cases c4 : gh_cmp .ge x1 0 with
      | true =>
        rw [c4, cond_true] at h
        refine gh_T_if true rfl c4 ?_
        refine gh_T_steps 3 (τ := (137, [(0, .ref 56), (2, .int l2), (3, .int l3)], [.int l3, .ref 77, .int l3, .ref 80], (gh_mo S, 0, 0))) (fun _ => rfl) ?_
        obtain ⟨x2, hx2, h⟩ := gh_bi h
        refine gh_T_ra rfl rfl hx2 ?_
        obtain ⟨S3, hS3, h⟩ := gh_bi h
        refine gh_T_wa rfl rfl hS3 ?_
        refine gh_T_steps 2 (τ := (109, [(3, .int (l3 + 1)), (0, .ref 56), (2, .int l2)], [], (gh_mo S3, 0, 0))) (fun _ => rfl) ?_
        refine gh_T_weak (lv := [(0, .ref 56), (2, .int l2), (3, .int (l3 + 1))]) ⟨rfl, rfl, rfl, trivial⟩ ?_
        exact ih l2 (l3 + 1) S3 _ h
      | false =>
        rw [c4, cond_false] at h
        refine gh_T_if false rfl c4 ?_
        refine gh_T_steps 2 (τ := (138, [(0, .ref 56), (2, .int l2), (3, .int l3)], [.int 0, .int l3, .ref 80], (gh_mo S, 0, 0))) (fun _ => rfl) ?_
        exact kX10_list_138 d N (sX10_list_109 N n) ih l2 l3 0 l3 S _ h
def sX10_list_82 (N : Nat) (l2 : Int32) (S : gh_St) : Option (Int32 × gh_St) :=
  bif gh_cmp .le ((gh_fI (gh_fI S 56 38 (S.1 56 36)) 56 39 ((gh_fI S 56 38 (S.1 56 36)).1 56 37)).1 56 36) 0 then
    (sX10_list_109 N N l2 0 (gh_fI (gh_fI S 56 38 (S.1 56 36)) 56 39 ((gh_fI S 56 38 (S.1 56 36)).1 56 37)))
  else
    (some ((-1), gh_fI (gh_fI S 56 38 (S.1 56 36)) 56 39 ((gh_fI S 56 38 (S.1 56 36)).1 56 37)))
set_option maxRecDepth 100000 in
theorem kX10_list_82 (d N : Nat) (l2 : Int32) (S : gh_St) (r : Int32 × gh_St) (h : sX10_list_82 N l2 S = some r) : gh_T (d + 5) fX10_list 0 0 none false false (82, [(0, .ref 56), (2, .int l2)], [], (gh_mo S, 0, 0)) (some (.int r.1), (gh_mo r.2, 0, 0)) := by
  unfold sX10_list_82 at h
  refine gh_T_steps 10 (τ := (102, [(0, .ref 56), (2, .int l2)], [.int ((gh_fI (gh_fI S 56 38 (S.1 56 36)) 56 39 ((gh_fI S 56 38 (S.1 56 36)).1 56 37)).1 56 36)], (gh_mo (gh_fI (gh_fI S 56 38 (S.1 56 36)) 56 39 ((gh_fI S 56 38 (S.1 56 36)).1 56 37)), 0, 0))) (fun _ => rfl) ?_
  cases c1 : gh_cmp .le ((gh_fI (gh_fI S 56 38 (S.1 56 36)) 56 39 ((gh_fI S 56 38 (S.1 56 36)).1 56 37)).1 56 36) 0 with
  | true =>
    rw [c1, cond_true] at h
    refine gh_T_if true rfl c1 ?_
    refine gh_T_steps 2 (τ := (109, [(3, .int 0), (0, .ref 56), (2, .int l2)], [], (gh_mo (gh_fI (gh_fI S 56 38 (S.1 56 36)) 56 39 ((gh_fI S 56 38 (S.1 56 36)).1 56 37)), 0, 0))) (fun _ => rfl) ?_
    refine gh_T_weak (lv := [(0, .ref 56), (2, .int l2), (3, .int 0)]) ⟨rfl, rfl, rfl, trivial⟩ ?_
    exact kX10_list_109 d N N l2 0 (gh_fI (gh_fI S 56 38 (S.1 56 36)) 56 39 ((gh_fI S 56 38 (S.1 56 36)).1 56 37)) _ h
  | false =>
    rw [c1, cond_false] at h
    refine gh_T_if false rfl c1 ?_
    refine gh_T_steps 1 (τ := (106, [(0, .ref 56), (2, .int l2)], [.int ((-1))], (gh_mo (gh_fI (gh_fI S 56 38 (S.1 56 36)) 56 39 ((gh_fI S 56 38 (S.1 56 36)).1 56 37)), 0, 0))) (fun _ => rfl) ?_
    cases h
    exact gh_T_ret (fun _ => rfl)
def sX10_list_57 (N : Nat) : Nat → Int32 → Int32 → gh_St → Option (Int32 × gh_St)
  | 0, _, _, _ => none
  | n + 1, l1, l2, S =>
    bif gh_cmp .eq (S.1 56 34) 0 then
      (sX10_list_82 N l2 S)
    else
      (bif gh_cmp .ne (S.1 56 36) 0 then
        (sX10_list_82 N l2 S)
      else
        ((sX10_clause N l1 S).bind fun q1 =>
        (sX10_list_57 N n) l1 (l2 + 1) q1))
set_option maxRecDepth 100000 in
theorem kX10_list_57 (d N : Nat) : ∀ (n : Nat) (l1 : Int32) (l2 : Int32) (S : gh_St) (r : Int32 × gh_St), sX10_list_57 N n l1 l2 S = some r → gh_T (d + 5) fX10_list 0 0 none false false (57, [(0, .ref 56), (1, .int l1), (2, .int l2)], [], (gh_mo S, 0, 0)) (some (.int r.1), (gh_mo r.2, 0, 0)) := by
  intro n
  induction n with
  | zero =>
    intro l1 l2 S r h
    cases h
  | succ n ih =>
    intro l1 l2 S r h
    rw [sX10_list_57] at h
    refine gh_T_steps 2 (τ := (61, [(0, .ref 56), (1, .int l1), (2, .int l2)], [.int (S.1 56 34)], (gh_mo S, 0, 0))) (fun _ => rfl) ?_
    cases c3 : gh_cmp .eq (S.1 56 34) 0 with
    | true =>
      rw [c3, cond_true] at h
      refine gh_T_if true rfl c3 ?_
      refine gh_T_weak (lv := [(0, .ref 56), (2, .int l2)]) ⟨rfl, rfl, trivial⟩ ?_
      exact kX10_list_82 d N l2 S _ h
    | false =>
      rw [c3, cond_false] at h
      refine gh_T_if false rfl c3 ?_
      refine gh_T_steps 2 (τ := (68, [(0, .ref 56), (1, .int l1), (2, .int l2)], [.int (S.1 56 36)], (gh_mo S, 0, 0))) (fun _ => rfl) ?_
      cases c2 : gh_cmp .ne (S.1 56 36) 0 with
      | true =>
        rw [c2, cond_true] at h
        refine gh_T_if true rfl c2 ?_
        refine gh_T_weak (lv := [(0, .ref 56), (2, .int l2)]) ⟨rfl, rfl, trivial⟩ ?_
        exact kX10_list_82 d N l2 S _ h
      | false =>
        rw [c2, cond_false] at h
        refine gh_T_if false rfl c2 ?_
        refine gh_T_steps 2 (τ := (73, [(0, .ref 56), (1, .int l1), (2, .int l2)], [.int l1, .ref 56], (gh_mo S, 0, 0))) (fun _ => rfl) ?_
        obtain ⟨q1, hq1, h⟩ := gh_bi h
        refine gh_T_iv (As := [.int l1]) (b := 56) (rest := []) (y := none) (M' := gh_mo q1) rfl rfl rfl rfl rfl rfl rfl rfl rfl ⟨Nat.le_refl _, Nat.le_refl _⟩ (kX10_clause d N l1 S q1 hq1) ?_
        refine gh_T_steps 2 (τ := (57, [(2, .int (l2 + 1)), (0, .ref 56), (1, .int l1)], [], (gh_mo q1, 0, 0))) (fun _ => rfl) ?_
        refine gh_T_weak (lv := [(0, .ref 56), (1, .int l1), (2, .int (l2 + 1))]) ⟨rfl, rfl, rfl, trivial⟩ ?_
        exact ih l1 (l2 + 1) q1 _ h
def sX10_list_34 (N : Nat) : Nat → Int32 → Int32 → Int32 → gh_St → Option (Int32 × gh_St)
  | 0, _, _, _, _ => none
  | n + 1, l1, l2, l3, S =>
    bif gh_cmp .ge l3 4 then
      ((sX10_next N l1 S).bind fun q1 =>
      sX10_list_57 N N l1 l2 q1)
    else
      ((gh_wa S 77 4 l3 ((-1))).bind fun S2 =>
      (sX10_list_34 N n) l1 l2 (l3 + 1) S2)
set_option maxRecDepth 100000 in
theorem kX10_list_34 (d N : Nat) : ∀ (n : Nat) (l1 : Int32) (l2 : Int32) (l3 : Int32) (S : gh_St) (r : Int32 × gh_St), sX10_list_34 N n l1 l2 l3 S = some r → gh_T (d + 5) fX10_list 0 0 none false false (34, [(0, .ref 56), (1, .int l1), (2, .int l2), (3, .int l3)], [], (gh_mo S, 0, 0)) (some (.int r.1), (gh_mo r.2, 0, 0)) := by
  intro n
  induction n with
  | zero =>
    intro l1 l2 l3 S r h
    cases h
  | succ n ih =>
    intro l1 l2 l3 S r h
    rw [sX10_list_34] at h
    refine gh_T_steps 2 (τ := (36, [(0, .ref 56), (1, .int l1), (2, .int l2), (3, .int l3)], [.int 4, .int l3], (gh_mo S, 0, 0))) (fun _ => rfl) ?_
    cases c3 : gh_cmp .ge l3 4 with
    | true =>
      rw [c3, cond_true] at h
      refine gh_T_ic true rfl c3 ?_
      refine gh_T_steps 2 (τ := (54, [(0, .ref 56), (1, .int l1), (2, .int l2), (3, .int l3)], [.int l1, .ref 56], (gh_mo S, 0, 0))) (fun _ => rfl) ?_
      obtain ⟨q1, hq1, h⟩ := gh_bi h
      refine gh_T_iv (As := [.int l1]) (b := 56) (rest := []) (y := none) (M' := gh_mo q1) rfl rfl rfl rfl rfl rfl rfl rfl rfl ⟨Nat.le_refl _, Nat.le_refl _⟩ (kX10_next (d + 2) N l1 S q1 hq1) ?_
      refine gh_T_weak (lv := [(0, .ref 56), (1, .int l1), (2, .int l2)]) ⟨rfl, rfl, rfl, trivial⟩ ?_
      exact kX10_list_57 d N N l1 l2 q1 _ h
    | false =>
      rw [c3, cond_false] at h
      refine gh_T_ic false rfl c3 ?_
      refine gh_T_steps 4 (τ := (45, [(0, .ref 56), (1, .int l1), (2, .int l2), (3, .int l3)], [.int ((-1)), .int l3, .ref 77], (gh_mo S, 0, 0))) (fun _ => rfl) ?_
      obtain ⟨S2, hS2, h⟩ := gh_bi h
      refine gh_T_wa rfl rfl hS2 ?_
      refine gh_T_steps 2 (τ := (34, [(3, .int (l3 + 1)), (0, .ref 56), (1, .int l1), (2, .int l2)], [], (gh_mo S2, 0, 0))) (fun _ => rfl) ?_
      refine gh_T_weak (lv := [(0, .ref 56), (1, .int l1), (2, .int l2), (3, .int (l3 + 1))]) ⟨rfl, rfl, rfl, rfl, trivial⟩ ?_
      exact ih l1 l2 (l3 + 1) S2 _ h
def sX10_list (N : Nat) (S : gh_St) : Option (Int32 × gh_St) :=
  sX10_list_34 N N (S.1 56 31) 0 0 (gh_fI (gh_fI (gh_fI (gh_fI (gh_fI S 56 31 0) 56 32 0) 56 36 0) 56 37 ((-1))) 56 41 0)
set_option maxRecDepth 100000 in
theorem kX10_list_e (d N : Nat) (S : gh_St) (r : Int32 × gh_St) (h : sX10_list N S = some r) : gh_T (d + 5) fX10_list 0 0 none false false (0, [(0, .ref 56)], [], (gh_mo S, 0, 0)) (some (.int r.1), (gh_mo r.2, 0, 0)) := by
  unfold sX10_list at h
  refine gh_T_steps 22 (τ := (34, [(3, .int 0), (2, .int 0), (1, .int (S.1 56 31)), (0, .ref 56)], [], (gh_mo (gh_fI (gh_fI (gh_fI (gh_fI (gh_fI S 56 31 0) 56 32 0) 56 36 0) 56 37 ((-1))) 56 41 0), 0, 0))) (fun _ => rfl) ?_
  refine gh_T_weak (lv := [(0, .ref 56), (1, .int (S.1 56 31)), (2, .int 0), (3, .int 0)]) ⟨rfl, rfl, rfl, rfl, trivial⟩ ?_
  exact kX10_list_34 d N N (S.1 56 31) 0 0 (gh_fI (gh_fI (gh_fI (gh_fI (gh_fI S 56 31 0) 56 32 0) 56 36 0) 56 37 ((-1))) 56 41 0) _ h
theorem kX10_list (d N : Nat) (S : gh_St) (r : Int32 × gh_St) (h : sX10_list N S = some r) : gh_Mx (d + 6) 169 [.ref 56] (gh_mo S) (some (.int r.1)) (gh_mo r.2) :=
  gh_Mx_of rfl rfl rfl rfl rfl rfl (kX10_list_e d N S r h)
def sX10_fault (N : Nat) (a1 : Int32) (S : gh_St) : Option (Int32 × gh_St) :=
  bif gh_cmp .ne a1 0 then
    (bif gh_cmp .ne a1 1 then
      (some ((-1), S))
    else
      (some (S.1 56 39, S)))
  else
    (some (S.1 56 38, S))
set_option maxRecDepth 100000 in
theorem kX10_fault_e (d N : Nat) (a1 : Int32) (S : gh_St) (r : Int32 × gh_St) (h : sX10_fault N a1 S = some r) : gh_T d fX10_fault 0 0 none false false (0, [(0, .ref 56), (1, .int a1)], [], (gh_mo S, 0, 0)) (some (.int r.1), (gh_mo r.2, 0, 0)) := by
  unfold sX10_fault at h
  refine gh_T_steps 1 (τ := (1, [(0, .ref 56), (1, .int a1)], [.int a1], (gh_mo S, 0, 0))) (fun _ => rfl) ?_
  cases c2 : gh_cmp .ne a1 0 with
  | true =>
    rw [c2, cond_true] at h
    refine gh_T_if true rfl c2 ?_
    refine gh_T_steps 2 (τ := (13, [(0, .ref 56), (1, .int a1)], [.int 1, .int a1], (gh_mo S, 0, 0))) (fun _ => rfl) ?_
    cases c1 : gh_cmp .ne a1 1 with
    | true =>
      rw [c1, cond_true] at h
      refine gh_T_ic true rfl c1 ?_
      refine gh_T_steps 1 (τ := (24, [(0, .ref 56), (1, .int a1)], [.int ((-1))], (gh_mo S, 0, 0))) (fun _ => rfl) ?_
      cases h
      exact gh_T_ret (fun _ => rfl)
    | false =>
      rw [c1, cond_false] at h
      refine gh_T_ic false rfl c1 ?_
      refine gh_T_steps 3 (τ := (24, [(0, .ref 56), (1, .int a1)], [.int (S.1 56 39)], (gh_mo S, 0, 0))) (fun _ => rfl) ?_
      cases h
      exact gh_T_ret (fun _ => rfl)
  | false =>
    rw [c2, cond_false] at h
    refine gh_T_if false rfl c2 ?_
    refine gh_T_steps 3 (τ := (24, [(0, .ref 56), (1, .int a1)], [.int (S.1 56 38)], (gh_mo S, 0, 0))) (fun _ => rfl) ?_
    cases h
    exact gh_T_ret (fun _ => rfl)
theorem kX10_fault (d N : Nat) (a1 : Int32) (S : gh_St) (r : Int32 × gh_St) (h : sX10_fault N a1 S = some r) : gh_Mx (d + 1) 170 [.ref 56, .int a1] (gh_mo S) (some (.int r.1)) (gh_mo r.2) :=
  gh_Mx_of rfl rfl rfl rfl rfl rfl (kX10_fault_e d N a1 S r h)
def sX10_worthOf_68 (N : Nat) (kc30 : Int32 → Int64 → Int32 → Int32 → gh_St → Option (Int32 × gh_St)) (l1 : Int32) (l2 : Int64) (l5 : Int32) (t0 : Int32) (t1 : Int32) (S : gh_St) : Option (Int32 × gh_St) :=
  kc30 l1 l2 (t1 + t0) (l5 + 1) S
set_option maxRecDepth 100000 in
theorem kX10_worthOf_68 (d N : Nat) (kc30 : Int32 → Int64 → Int32 → Int32 → gh_St → Option (Int32 × gh_St)) (hkc30 : ∀ (l1 : Int32) (l2 : Int64) (l4 : Int32) (l5 : Int32) (S : gh_St) (r : Int32 × gh_St), kc30 l1 l2 l4 l5 S = some r → gh_T d fX10_worthOf 0 0 none false false (30, [(0, .ref 56), (1, .int l1), (2, .long l2), (4, .int l4), (5, .int l5)], [], (gh_mo S, 0, 0)) (some (.int r.1), (gh_mo r.2, 0, 0))) (l1 : Int32) (l2 : Int64) (l5 : Int32) (t0 : Int32) (t1 : Int32) (S : gh_St) (r : Int32 × gh_St) (h : sX10_worthOf_68 N kc30 l1 l2 l5 t0 t1 S = some r) : gh_T d fX10_worthOf 0 0 none false false (68, [(0, .ref 56), (1, .int l1), (2, .long l2), (5, .int l5)], [.int t0, .int t1], (gh_mo S, 0, 0)) (some (.int r.1), (gh_mo r.2, 0, 0)) := by
  unfold sX10_worthOf_68 at h
  refine gh_T_steps 4 (τ := (30, [(5, .int (l5 + 1)), (4, .int (t1 + t0)), (0, .ref 56), (1, .int l1), (2, .long l2)], [], (gh_mo S, 0, 0))) (fun _ => rfl) ?_
  refine gh_T_weak (lv := [(0, .ref 56), (1, .int l1), (2, .long l2), (4, .int (t1 + t0)), (5, .int (l5 + 1))]) ⟨rfl, rfl, rfl, rfl, rfl, trivial⟩ ?_
  exact hkc30 l1 l2 (t1 + t0) (l5 + 1) S _ h
def sX10_worthOf_91 (N : Nat) (l2 : Int64) (t0 : Int32) (S : gh_St) : Option (Int32 × gh_St) :=
  (gh_dj (l2 * ((t0 : Int32).toInt64)) 100).bind fun x1 =>
  some ((l2 - x1 : Int64).toInt32, S)
set_option maxRecDepth 100000 in
theorem kX10_worthOf_91 (d N : Nat) (l2 : Int64) (t0 : Int32) (S : gh_St) (r : Int32 × gh_St) (h : sX10_worthOf_91 N l2 t0 S = some r) : gh_T d fX10_worthOf 0 0 none false false (91, [(2, .long l2)], [.int t0], (gh_mo S, 0, 0)) (some (.int r.1), (gh_mo r.2, 0, 0)) := by
  unfold sX10_worthOf_91 at h
  refine gh_T_steps 7 (τ := (102, [(4, .int t0), (2, .long l2)], [.long 100, .long (l2 * ((t0 : Int32).toInt64)), .long l2], (gh_mo S, 0, 0))) (fun _ => rfl) ?_
  obtain ⟨x1, hx1, h⟩ := gh_bi h
  refine gh_T_dj rfl hx1 ?_
  refine gh_T_steps 2 (τ := (105, [(4, .int t0), (2, .long l2)], [.int ((l2 - x1 : Int64).toInt32)], (gh_mo S, 0, 0))) (fun _ => rfl) ?_
  cases h
  exact gh_T_ret (fun _ => rfl)
def sX10_worthOf_30 (N : Nat) : Nat → Int32 → Int64 → Int32 → Int32 → gh_St → Option (Int32 × gh_St)
  | 0, _, _, _, _, _ => none
  | n + 1, l1, l2, l4, l5, S =>
    bif gh_cmp .ge l5 (S.1 56 45) then
      (bif gh_cmp .le l4 100 then
        (sX10_worthOf_91 N l2 l4 S)
      else
        (sX10_worthOf_91 N l2 100 S))
    else
      ((gh_ra S 63 100 l1).bind fun x2 =>
      (gh_ra S 81 8 l5).bind fun x3 =>
      bif gh_cmp .le x2 x3 then
        (sX10_worthOf_68 N (sX10_worthOf_30 N n) l1 l2 l5 0 l4 S)
      else
        ((gh_ra S 82 8 l5).bind fun x4 =>
        sX10_worthOf_68 N (sX10_worthOf_30 N n) l1 l2 l5 x4 l4 S))
set_option maxRecDepth 100000 in
theorem kX10_worthOf_30 (d N : Nat) : ∀ (n : Nat) (l1 : Int32) (l2 : Int64) (l4 : Int32) (l5 : Int32) (S : gh_St) (r : Int32 × gh_St), sX10_worthOf_30 N n l1 l2 l4 l5 S = some r → gh_T d fX10_worthOf 0 0 none false false (30, [(0, .ref 56), (1, .int l1), (2, .long l2), (4, .int l4), (5, .int l5)], [], (gh_mo S, 0, 0)) (some (.int r.1), (gh_mo r.2, 0, 0)) := by
  intro n
  induction n with
  | zero =>
    intro l1 l2 l4 l5 S r h
    cases h
  | succ n ih =>
    intro l1 l2 l4 l5 S r h
    rw [sX10_worthOf_30] at h
    refine gh_T_steps 3 (τ := (36, [(0, .ref 56), (1, .int l1), (2, .long l2), (4, .int l4), (5, .int l5)], [.int (S.1 56 45), .int l5], (gh_mo S, 0, 0))) (fun _ => rfl) ?_
    cases c6 : gh_cmp .ge l5 (S.1 56 45) with
    | true =>
      rw [c6, cond_true] at h
      refine gh_T_ic true rfl c6 ?_
      refine gh_T_steps 2 (τ := (81, [(0, .ref 56), (1, .int l1), (2, .long l2), (4, .int l4), (5, .int l5)], [.int 100, .int l4], (gh_mo S, 0, 0))) (fun _ => rfl) ?_
      cases c1 : gh_cmp .le l4 100 with
      | true =>
        rw [c1, cond_true] at h
        refine gh_T_ic true rfl c1 ?_
        refine gh_T_steps 1 (τ := (91, [(0, .ref 56), (1, .int l1), (2, .long l2), (4, .int l4), (5, .int l5)], [.int l4], (gh_mo S, 0, 0))) (fun _ => rfl) ?_
        refine gh_T_weak (lv := [(2, .long l2)]) ⟨rfl, trivial⟩ ?_
        exact kX10_worthOf_91 d N l2 l4 S _ h
      | false =>
        rw [c1, cond_false] at h
        refine gh_T_ic false rfl c1 ?_
        refine gh_T_steps 2 (τ := (91, [(0, .ref 56), (1, .int l1), (2, .long l2), (4, .int l4), (5, .int l5)], [.int 100], (gh_mo S, 0, 0))) (fun _ => rfl) ?_
        refine gh_T_weak (lv := [(2, .long l2)]) ⟨rfl, trivial⟩ ?_
        exact kX10_worthOf_91 d N l2 100 S _ h
    | false =>
      rw [c6, cond_false] at h
      refine gh_T_ic false rfl c6 ?_
      refine gh_T_steps 4 (τ := (46, [(0, .ref 56), (1, .int l1), (2, .long l2), (4, .int l4), (5, .int l5)], [.int l1, .ref 63, .int l4], (gh_mo S, 0, 0))) (fun _ => rfl) ?_
      obtain ⟨x2, hx2, h⟩ := gh_bi h
      refine gh_T_ra rfl rfl hx2 ?_
      refine gh_T_steps 3 (τ := (53, [(0, .ref 56), (1, .int l1), (2, .long l2), (4, .int l4), (5, .int l5)], [.int l5, .ref 81, .int x2, .int l4], (gh_mo S, 0, 0))) (fun _ => rfl) ?_
      obtain ⟨x3, hx3, h⟩ := gh_bi h
      refine gh_T_ra rfl rfl hx3 ?_
      cases c5 : gh_cmp .le x2 x3 with
      | true =>
        rw [c5, cond_true] at h
        refine gh_T_ic true rfl c5 ?_
        refine gh_T_steps 1 (τ := (68, [(0, .ref 56), (1, .int l1), (2, .long l2), (4, .int l4), (5, .int l5)], [.int 0, .int l4], (gh_mo S, 0, 0))) (fun _ => rfl) ?_
        refine gh_T_weak (lv := [(0, .ref 56), (1, .int l1), (2, .long l2), (5, .int l5)]) ⟨rfl, rfl, rfl, rfl, trivial⟩ ?_
        exact kX10_worthOf_68 d N (sX10_worthOf_30 N n) ih l1 l2 l5 0 l4 S _ h
      | false =>
        rw [c5, cond_false] at h
        refine gh_T_ic false rfl c5 ?_
        refine gh_T_steps 3 (τ := (63, [(0, .ref 56), (1, .int l1), (2, .long l2), (4, .int l4), (5, .int l5)], [.int l5, .ref 82, .int l4], (gh_mo S, 0, 0))) (fun _ => rfl) ?_
        obtain ⟨x4, hx4, h⟩ := gh_bi h
        refine gh_T_ra rfl rfl hx4 ?_
        refine gh_T_steps 1 (τ := (68, [(0, .ref 56), (1, .int l1), (2, .long l2), (4, .int l4), (5, .int l5)], [.int x4, .int l4], (gh_mo S, 0, 0))) (fun _ => rfl) ?_
        refine gh_T_weak (lv := [(0, .ref 56), (1, .int l1), (2, .long l2), (5, .int l5)]) ⟨rfl, rfl, rfl, rfl, trivial⟩ ?_
        exact kX10_worthOf_68 d N (sX10_worthOf_30 N n) ih l1 l2 l5 x4 l4 S _ h
def sX10_worthOf (N : Nat) (a1 : Int32) (S : gh_St) : Option (Int32 × gh_St) :=
  (gh_rj S 64 100 a1).bind fun x1 =>
  (gh_ra S 62 100 a1).bind fun x2 =>
  (gh_ra S 80 4 x2).bind fun x3 =>
  (gh_dj (x1 * ((x3 : Int32).toInt64)) 1000000).bind fun x4 =>
  sX10_worthOf_30 N N a1 x4 0 0 S
set_option maxRecDepth 100000 in
theorem kX10_worthOf_e (d N : Nat) (a1 : Int32) (S : gh_St) (r : Int32 × gh_St) (h : sX10_worthOf N a1 S = some r) : gh_T d fX10_worthOf 0 0 none false false (0, [(0, .ref 56), (1, .int a1)], [], (gh_mo S, 0, 0)) (some (.int r.1), (gh_mo r.2, 0, 0)) := by
  unfold sX10_worthOf at h
  refine gh_T_steps 3 (τ := (5, [(0, .ref 56), (1, .int a1)], [.int a1, .ref 64], (gh_mo S, 0, 0))) (fun _ => rfl) ?_
  obtain ⟨x1, hx1, h⟩ := gh_bi h
  refine gh_T_rj rfl rfl hx1 ?_
  refine gh_T_steps 5 (τ := (15, [(0, .ref 56), (1, .int a1)], [.int a1, .ref 62, .ref 80, .long x1], (gh_mo S, 0, 0))) (fun _ => rfl) ?_
  obtain ⟨x2, hx2, h⟩ := gh_bi h
  refine gh_T_ra rfl rfl hx2 ?_
  obtain ⟨x3, hx3, h⟩ := gh_bi h
  refine gh_T_ra rfl rfl hx3 ?_
  refine gh_T_steps 3 (τ := (22, [(0, .ref 56), (1, .int a1)], [.long 1000000, .long (x1 * ((x3 : Int32).toInt64))], (gh_mo S, 0, 0))) (fun _ => rfl) ?_
  obtain ⟨x4, hx4, h⟩ := gh_bi h
  refine gh_T_dj rfl hx4 ?_
  refine gh_T_steps 5 (τ := (30, [(5, .int 0), (4, .int 0), (2, .long x4), (0, .ref 56), (1, .int a1)], [], (gh_mo S, 0, 0))) (fun _ => rfl) ?_
  refine gh_T_weak (lv := [(0, .ref 56), (1, .int a1), (2, .long x4), (4, .int 0), (5, .int 0)]) ⟨rfl, rfl, rfl, rfl, rfl, trivial⟩ ?_
  exact kX10_worthOf_30 d N N a1 x4 0 0 S _ h
theorem kX10_worthOf (d N : Nat) (a1 : Int32) (S : gh_St) (r : Int32 × gh_St) (h : sX10_worthOf N a1 S = some r) : gh_Mx (d + 1) 171 [.ref 56, .int a1] (gh_mo S) (some (.int r.1)) (gh_mo r.2) :=
  gh_Mx_of rfl rfl rfl rfl rfl rfl (kX10_worthOf_e d N a1 S r h)
def sX10_worth (N : Nat) (a1 : Int32) (S : gh_St) : Option (Int32 × gh_St) :=
  (sX10_in N ((a1 : Int32).toInt64) 0 (((S.1 56 4) - (1 : Int32) : Int32).toInt64) S).bind fun q1 =>
  bif gh_cmp .eq q1.1 0 then
    (some ((-1), q1.2))
  else
    ((sX10_worthOf N a1 q1.2).bind fun q2 =>
    some (q2.1, q2.2))
set_option maxRecDepth 100000 in
theorem kX10_worth_e (d N : Nat) (a1 : Int32) (S : gh_St) (r : Int32 × gh_St) (h : sX10_worth N a1 S = some r) : gh_T (d + 1) fX10_worth 0 0 none false false (0, [(0, .ref 56), (1, .int a1)], [], (gh_mo S, 0, 0)) (some (.int r.1), (gh_mo r.2, 0, 0)) := by
  unfold sX10_worth at h
  refine gh_T_steps 8 (τ := (10, [(0, .ref 56), (1, .int a1)], [.long (((S.1 56 4) - (1 : Int32) : Int32).toInt64), .long 0, .long ((a1 : Int32).toInt64)], (gh_mo S, 0, 0))) (fun _ => rfl) ?_
  obtain ⟨q1, hq1, h⟩ := gh_bi h
  refine gh_T_is (As := [.long ((a1 : Int32).toInt64), .long 0, .long (((S.1 56 4) - (1 : Int32) : Int32).toInt64)]) (rest := []) (y := some (.int q1.1)) (M' := gh_mo q1.2) rfl rfl rfl rfl rfl rfl rfl ⟨Nat.le_refl _, Nat.le_refl _⟩ (kX10_in d N ((a1 : Int32).toInt64) 0 (((S.1 56 4) - (1 : Int32) : Int32).toInt64) S q1 hq1) ?_
  cases c3 : gh_cmp .eq q1.1 0 with
  | true =>
    rw [c3, cond_true] at h
    refine gh_T_if true rfl c3 ?_
    refine gh_T_steps 1 (τ := (25, [(0, .ref 56), (1, .int a1)], [.int ((-1))], (gh_mo q1.2, 0, 0))) (fun _ => rfl) ?_
    cases h
    exact gh_T_ret (fun _ => rfl)
  | false =>
    rw [c3, cond_false] at h
    refine gh_T_if false rfl c3 ?_
    refine gh_T_steps 2 (τ := (18, [(0, .ref 56), (1, .int a1)], [.int a1, .ref 56], (gh_mo q1.2, 0, 0))) (fun _ => rfl) ?_
    obtain ⟨q2, hq2, h⟩ := gh_bi h
    refine gh_T_iv (As := [.int a1]) (b := 56) (rest := []) (y := some (.int q2.1)) (M' := gh_mo q2.2) rfl rfl rfl rfl rfl rfl rfl rfl rfl ⟨Nat.le_refl _, Nat.le_refl _⟩ (kX10_worthOf d N a1 q1.2 q2 hq2) ?_
    refine gh_T_steps 1 (τ := (25, [(0, .ref 56), (1, .int a1)], [.int q2.1], (gh_mo q2.2, 0, 0))) (fun _ => rfl) ?_
    cases h
    exact gh_T_ret (fun _ => rfl)
theorem kX10_worth (d N : Nat) (a1 : Int32) (S : gh_St) (r : Int32 × gh_St) (h : sX10_worth N a1 S = some r) : gh_Mx (d + 2) 172 [.ref 56, .int a1] (gh_mo S) (some (.int r.1)) (gh_mo r.2) :=
  gh_Mx_of rfl rfl rfl rfl rfl rfl (kX10_worth_e d N a1 S r h)
def sX10_account_86 (N : Nat) (kc33 : Int32 → Int32 → Int64 → Int32 → gh_St → Option (Int64 × gh_St)) (l1 : Int32) (l2 : Int32) (l3 : Int64) (l5 : Int32) (S : gh_St) : Option (Int64 × gh_St) :=
  kc33 l1 l2 l3 (l5 + 1) S
set_option maxRecDepth 100000 in
theorem kX10_account_86 (d N : Nat) (kc33 : Int32 → Int32 → Int64 → Int32 → gh_St → Option (Int64 × gh_St)) (hkc33 : ∀ (l1 : Int32) (l2 : Int32) (l3 : Int64) (l5 : Int32) (S : gh_St) (r : Int64 × gh_St), kc33 l1 l2 l3 l5 S = some r → gh_T (d + 1) fX10_account 0 0 none false false (33, [(0, .ref 56), (1, .int l1), (2, .int l2), (3, .long l3), (5, .int l5)], [], (gh_mo S, 0, 0)) (some (.long r.1), (gh_mo r.2, 0, 0))) (l1 : Int32) (l2 : Int32) (l3 : Int64) (l5 : Int32) (S : gh_St) (r : Int64 × gh_St) (h : sX10_account_86 N kc33 l1 l2 l3 l5 S = some r) : gh_T (d + 1) fX10_account 0 0 none false false (86, [(0, .ref 56), (1, .int l1), (2, .int l2), (3, .long l3), (5, .int l5)], [], (gh_mo S, 0, 0)) (some (.long r.1), (gh_mo r.2, 0, 0)) := by
  unfold sX10_account_86 at h
  refine gh_T_steps 2 (τ := (33, [(5, .int (l5 + 1)), (0, .ref 56), (1, .int l1), (2, .int l2), (3, .long l3)], [], (gh_mo S, 0, 0))) (fun _ => rfl) ?_
  refine gh_T_weak (lv := [(0, .ref 56), (1, .int l1), (2, .int l2), (3, .long l3), (5, .int (l5 + 1))]) ⟨rfl, rfl, rfl, rfl, rfl, trivial⟩ ?_
  exact hkc33 l1 l2 l3 (l5 + 1) S _ h
def sX10_account_84 (N : Nat) (kc33 : Int32 → Int32 → Int64 → Int32 → gh_St → Option (Int64 × gh_St)) (l1 : Int32) (l2 : Int32) (l5 : Int32) (t0 : Int64) (t1 : Int64) (S : gh_St) : Option (Int64 × gh_St) :=
  sX10_account_86 N kc33 l1 l2 (t1 + t0) l5 S
set_option maxRecDepth 100000 in
theorem kX10_account_84 (d N : Nat) (kc33 : Int32 → Int32 → Int64 → Int32 → gh_St → Option (Int64 × gh_St)) (hkc33 : ∀ (l1 : Int32) (l2 : Int32) (l3 : Int64) (l5 : Int32) (S : gh_St) (r : Int64 × gh_St), kc33 l1 l2 l3 l5 S = some r → gh_T (d + 1) fX10_account 0 0 none false false (33, [(0, .ref 56), (1, .int l1), (2, .int l2), (3, .long l3), (5, .int l5)], [], (gh_mo S, 0, 0)) (some (.long r.1), (gh_mo r.2, 0, 0))) (l1 : Int32) (l2 : Int32) (l5 : Int32) (t0 : Int64) (t1 : Int64) (S : gh_St) (r : Int64 × gh_St) (h : sX10_account_84 N kc33 l1 l2 l5 t0 t1 S = some r) : gh_T (d + 1) fX10_account 0 0 none false false (84, [(0, .ref 56), (1, .int l1), (2, .int l2), (5, .int l5)], [.long t0, .long t1], (gh_mo S, 0, 0)) (some (.long r.1), (gh_mo r.2, 0, 0)) := by
  unfold sX10_account_84 at h
  refine gh_T_steps 2 (τ := (86, [(3, .long (t1 + t0)), (0, .ref 56), (1, .int l1), (2, .int l2), (5, .int l5)], [], (gh_mo S, 0, 0))) (fun _ => rfl) ?_
  refine gh_T_weak (lv := [(0, .ref 56), (1, .int l1), (2, .int l2), (3, .long (t1 + t0)), (5, .int l5)]) ⟨rfl, rfl, rfl, rfl, rfl, trivial⟩ ?_
  exact kX10_account_86 d N kc33 hkc33 l1 l2 (t1 + t0) l5 S _ h
def sX10_account_33 (N : Nat) : Nat → Int32 → Int32 → Int64 → Int32 → gh_St → Option (Int64 × gh_St)
  | 0, _, _, _, _, _ => none
  | n + 1, l1, l2, l3, l5, S =>
    bif gh_cmp .ge l5 (S.1 56 4) then
      (some (l3, S))
    else
      ((gh_ra S 61 100 l5).bind fun x1 =>
      bif gh_cmp .ne x1 l1 then
        (sX10_account_86 N (sX10_account_33 N n) l1 l2 l3 l5 S)
      else
        (bif gh_cmp .ne l2 0 then
          (bif gh_cmp .ne l2 1 then
            (sX10_account_84 N (sX10_account_33 N n) l1 l2 l5 1 l3 S)
          else
            ((sX10_worthOf N l5 S).bind fun q2 =>
            sX10_account_84 N (sX10_account_33 N n) l1 l2 l5 ((q2.1 : Int32).toInt64) l3 q2.2))
        else
          ((gh_rj S 64 100 l5).bind fun x4 =>
          sX10_account_84 N (sX10_account_33 N n) l1 l2 l5 x4 l3 S)))
set_option maxRecDepth 100000 in
theorem kX10_account_33 (d N : Nat) : ∀ (n : Nat) (l1 : Int32) (l2 : Int32) (l3 : Int64) (l5 : Int32) (S : gh_St) (r : Int64 × gh_St), sX10_account_33 N n l1 l2 l3 l5 S = some r → gh_T (d + 1) fX10_account 0 0 none false false (33, [(0, .ref 56), (1, .int l1), (2, .int l2), (3, .long l3), (5, .int l5)], [], (gh_mo S, 0, 0)) (some (.long r.1), (gh_mo r.2, 0, 0)) := by
  intro n
  induction n with
  | zero =>
    intro l1 l2 l3 l5 S r h
    cases h
  | succ n ih =>
    intro l1 l2 l3 l5 S r h
    rw [sX10_account_33] at h
    refine gh_T_steps 3 (τ := (39, [(0, .ref 56), (1, .int l1), (2, .int l2), (3, .long l3), (5, .int l5)], [.int (S.1 56 4), .int l5], (gh_mo S, 0, 0))) (fun _ => rfl) ?_
    cases c7 : gh_cmp .ge l5 (S.1 56 4) with
    | true =>
      rw [c7, cond_true] at h
      refine gh_T_ic true rfl c7 ?_
      refine gh_T_steps 1 (τ := (93, [(0, .ref 56), (1, .int l1), (2, .int l2), (3, .long l3), (5, .int l5)], [.long l3], (gh_mo S, 0, 0))) (fun _ => rfl) ?_
      cases h
      exact gh_T_ret (fun _ => rfl)
    | false =>
      rw [c7, cond_false] at h
      refine gh_T_ic false rfl c7 ?_
      refine gh_T_steps 3 (τ := (48, [(0, .ref 56), (1, .int l1), (2, .int l2), (3, .long l3), (5, .int l5)], [.int l5, .ref 61], (gh_mo S, 0, 0))) (fun _ => rfl) ?_
      obtain ⟨x1, hx1, h⟩ := gh_bi h
      refine gh_T_ra rfl rfl hx1 ?_
      refine gh_T_steps 1 (τ := (50, [(0, .ref 56), (1, .int l1), (2, .int l2), (3, .long l3), (5, .int l5)], [.int l1, .int x1], (gh_mo S, 0, 0))) (fun _ => rfl) ?_
      cases c6 : gh_cmp .ne x1 l1 with
      | true =>
        rw [c6, cond_true] at h
        refine gh_T_ic true rfl c6 ?_
        exact kX10_account_86 d N (sX10_account_33 N n) ih l1 l2 l3 l5 S _ h
      | false =>
        rw [c6, cond_false] at h
        refine gh_T_ic false rfl c6 ?_
        refine gh_T_steps 2 (τ := (55, [(0, .ref 56), (1, .int l1), (2, .int l2), (3, .long l3), (5, .int l5)], [.int l2, .long l3], (gh_mo S, 0, 0))) (fun _ => rfl) ?_
        cases c5 : gh_cmp .ne l2 0 with
        | true =>
          rw [c5, cond_true] at h
          refine gh_T_if true rfl c5 ?_
          refine gh_T_steps 2 (τ := (70, [(0, .ref 56), (1, .int l1), (2, .int l2), (3, .long l3), (5, .int l5)], [.int 1, .int l2, .long l3], (gh_mo S, 0, 0))) (fun _ => rfl) ?_
          cases c3 : gh_cmp .ne l2 1 with
          | true =>
            rw [c3, cond_true] at h
            refine gh_T_ic true rfl c3 ?_
            refine gh_T_steps 1 (τ := (84, [(0, .ref 56), (1, .int l1), (2, .int l2), (3, .long l3), (5, .int l5)], [.long 1, .long l3], (gh_mo S, 0, 0))) (fun _ => rfl) ?_
            refine gh_T_weak (lv := [(0, .ref 56), (1, .int l1), (2, .int l2), (5, .int l5)]) ⟨rfl, rfl, rfl, rfl, trivial⟩ ?_
            exact kX10_account_84 d N (sX10_account_33 N n) ih l1 l2 l5 1 l3 S _ h
          | false =>
            rw [c3, cond_false] at h
            refine gh_T_ic false rfl c3 ?_
            refine gh_T_steps 2 (τ := (76, [(0, .ref 56), (1, .int l1), (2, .int l2), (3, .long l3), (5, .int l5)], [.int l5, .ref 56, .long l3], (gh_mo S, 0, 0))) (fun _ => rfl) ?_
            obtain ⟨q2, hq2, h⟩ := gh_bi h
            refine gh_T_iv (As := [.int l5]) (b := 56) (rest := [.long l3]) (y := some (.int q2.1)) (M' := gh_mo q2.2) rfl rfl rfl rfl rfl rfl rfl rfl rfl ⟨Nat.le_refl _, Nat.le_refl _⟩ (kX10_worthOf d N l5 S q2 hq2) ?_
            refine gh_T_steps 2 (τ := (84, [(0, .ref 56), (1, .int l1), (2, .int l2), (3, .long l3), (5, .int l5)], [.long ((q2.1 : Int32).toInt64), .long l3], (gh_mo q2.2, 0, 0))) (fun _ => rfl) ?_
            refine gh_T_weak (lv := [(0, .ref 56), (1, .int l1), (2, .int l2), (5, .int l5)]) ⟨rfl, rfl, rfl, rfl, trivial⟩ ?_
            exact kX10_account_84 d N (sX10_account_33 N n) ih l1 l2 l5 ((q2.1 : Int32).toInt64) l3 q2.2 _ h
        | false =>
          rw [c5, cond_false] at h
          refine gh_T_if false rfl c5 ?_
          refine gh_T_steps 3 (τ := (64, [(0, .ref 56), (1, .int l1), (2, .int l2), (3, .long l3), (5, .int l5)], [.int l5, .ref 64, .long l3], (gh_mo S, 0, 0))) (fun _ => rfl) ?_
          obtain ⟨x4, hx4, h⟩ := gh_bi h
          refine gh_T_rj rfl rfl hx4 ?_
          refine gh_T_steps 1 (τ := (84, [(0, .ref 56), (1, .int l1), (2, .int l2), (3, .long l3), (5, .int l5)], [.long x4, .long l3], (gh_mo S, 0, 0))) (fun _ => rfl) ?_
          refine gh_T_weak (lv := [(0, .ref 56), (1, .int l1), (2, .int l2), (5, .int l5)]) ⟨rfl, rfl, rfl, rfl, trivial⟩ ?_
          exact kX10_account_84 d N (sX10_account_33 N n) ih l1 l2 l5 x4 l3 S _ h
def sX10_account (N : Nat) (a1 : Int32) (a2 : Int32) (S : gh_St) : Option (Int64 × gh_St) :=
  (sX10_in N ((a1 : Int32).toInt64) 0 9 S).bind fun q1 =>
  bif gh_cmp .eq q1.1 0 then
    (some ((-1), q1.2))
  else
    ((sX10_in N ((a2 : Int32).toInt64) 0 2 q1.2).bind fun q2 =>
    bif gh_cmp .ne q2.1 0 then
      (sX10_account_33 N N a1 a2 0 0 q2.2)
    else
      (some ((-1), q2.2)))
set_option maxRecDepth 100000 in
theorem kX10_account_e (d N : Nat) (a1 : Int32) (a2 : Int32) (S : gh_St) (r : Int64 × gh_St) (h : sX10_account N a1 a2 S = some r) : gh_T (d + 1) fX10_account 0 0 none false false (0, [(0, .ref 56), (1, .int a1), (2, .int a2)], [], (gh_mo S, 0, 0)) (some (.long r.1), (gh_mo r.2, 0, 0)) := by
  unfold sX10_account at h
  refine gh_T_steps 4 (τ := (6, [(0, .ref 56), (1, .int a1), (2, .int a2)], [.long 9, .long 0, .long ((a1 : Int32).toInt64)], (gh_mo S, 0, 0))) (fun _ => rfl) ?_
  obtain ⟨q1, hq1, h⟩ := gh_bi h
  refine gh_T_is (As := [.long ((a1 : Int32).toInt64), .long 0, .long 9]) (rest := []) (y := some (.int q1.1)) (M' := gh_mo q1.2) rfl rfl rfl rfl rfl rfl rfl ⟨Nat.le_refl _, Nat.le_refl _⟩ (kX10_in d N ((a1 : Int32).toInt64) 0 9 S q1 hq1) ?_
  cases c4 : gh_cmp .eq q1.1 0 with
  | true =>
    rw [c4, cond_true] at h
    refine gh_T_if true rfl c4 ?_
    refine gh_T_steps 1 (τ := (27, [(0, .ref 56), (1, .int a1), (2, .int a2)], [.long ((-1))], (gh_mo q1.2, 0, 0))) (fun _ => rfl) ?_
    cases h
    exact gh_T_ret (fun _ => rfl)
  | false =>
    rw [c4, cond_false] at h
    refine gh_T_if false rfl c4 ?_
    refine gh_T_steps 4 (τ := (18, [(0, .ref 56), (1, .int a1), (2, .int a2)], [.long 2, .long 0, .long ((a2 : Int32).toInt64)], (gh_mo q1.2, 0, 0))) (fun _ => rfl) ?_
    obtain ⟨q2, hq2, h⟩ := gh_bi h
    refine gh_T_is (As := [.long ((a2 : Int32).toInt64), .long 0, .long 2]) (rest := []) (y := some (.int q2.1)) (M' := gh_mo q2.2) rfl rfl rfl rfl rfl rfl rfl ⟨Nat.le_refl _, Nat.le_refl _⟩ (kX10_in d N ((a2 : Int32).toInt64) 0 2 q1.2 q2 hq2) ?_
    cases c3 : gh_cmp .ne q2.1 0 with
    | true =>
      rw [c3, cond_true] at h
      refine gh_T_if true rfl c3 ?_
      refine gh_T_steps 4 (τ := (33, [(5, .int 0), (3, .long 0), (0, .ref 56), (1, .int a1), (2, .int a2)], [], (gh_mo q2.2, 0, 0))) (fun _ => rfl) ?_
      refine gh_T_weak (lv := [(0, .ref 56), (1, .int a1), (2, .int a2), (3, .long 0), (5, .int 0)]) ⟨rfl, rfl, rfl, rfl, rfl, trivial⟩ ?_
      exact kX10_account_33 d N N a1 a2 0 0 q2.2 _ h
    | false =>
      rw [c3, cond_false] at h
      refine gh_T_if false rfl c3 ?_
      refine gh_T_steps 1 (τ := (27, [(0, .ref 56), (1, .int a1), (2, .int a2)], [.long ((-1))], (gh_mo q2.2, 0, 0))) (fun _ => rfl) ?_
      cases h
      exact gh_T_ret (fun _ => rfl)
theorem kX10_account (d N : Nat) (a1 : Int32) (a2 : Int32) (S : gh_St) (r : Int64 × gh_St) (h : sX10_account N a1 a2 S = some r) : gh_Mx (d + 2) 173 [.ref 56, .int a1, .int a2] (gh_mo S) (some (.long r.1)) (gh_mo r.2) :=
  gh_Mx_of rfl rfl rfl rfl rfl rfl (kX10_account_e d N a1 a2 S r h)
def sX10_about_34 (N : Nat) : Nat → Int32 → Int64 → Int64 → Int32 → gh_St → Option (Int64 × gh_St)
  | 0, _, _, _, _, _ => none
  | n + 1, l1, l2, l4, l6, S =>
    bif gh_cmp .ge l6 (S.1 56 4) then
      (bif gh_cmp .eq l1 0 then
        (some ((S.1 56 4 : Int32).toInt64, S))
      else
        bif gh_cmp .eq l1 1 then
        (some ((S.1 56 9 : Int32).toInt64, S))
      else
        bif gh_cmp .eq l1 2 then
        (some ((S.1 56 19 : Int32).toInt64, S))
      else
        bif gh_cmp .eq l1 3 then
        (some ((S.1 56 15 : Int32).toInt64, S))
      else
        bif gh_cmp .eq l1 4 then
        (some (S.2.1 56 16, S))
      else
        bif gh_cmp .eq l1 5 then
        (some (S.2.1 56 17, S))
      else
        bif gh_cmp .eq l1 6 then
        (some (S.2.1 56 18, S))
      else
        bif gh_cmp .eq l1 7 then
        (some (l2, S))
      else
        bif gh_cmp .eq l1 8 then
        (some (l4, S))
      else
        bif gh_cmp .eq l1 9 then
        (some ((S.1 56 31 : Int32).toInt64, S))
      else
        bif gh_cmp .eq l1 10 then
        (some ((S.1 56 14 : Int32).toInt64, S))
      else
        bif gh_cmp .eq l1 11 then
        (some ((S.1 56 23 : Int32).toInt64, S))
      else
        bif gh_cmp .eq l1 12 then
        (some ((S.1 56 24 : Int32).toInt64, S))
      else
        bif gh_cmp .eq l1 13 then
        (some ((S.1 56 29 : Int32).toInt64, S))
      else
        (some ((-1), S)))
    else
      ((gh_rj S 64 100 l6).bind fun x15 =>
      (sX10_about_34 N n) l1 l2 (l4 + x15) (l6 + 1) S)
set_option maxRecDepth 100000 in
theorem kX10_about_34 (d N : Nat) : ∀ (n : Nat) (l1 : Int32) (l2 : Int64) (l4 : Int64) (l6 : Int32) (S : gh_St) (r : Int64 × gh_St), sX10_about_34 N n l1 l2 l4 l6 S = some r → gh_T d fX10_about 0 0 none false false (34, [(0, .ref 56), (1, .int l1), (2, .long l2), (4, .long l4), (6, .int l6)], [], (gh_mo S, 0, 0)) (some (.long r.1), (gh_mo r.2, 0, 0)) := by
  intro n
  induction n with
  | zero =>
    intro l1 l2 l4 l6 S r h
    cases h
  | succ n ih =>
    intro l1 l2 l4 l6 S r h
    rw [sX10_about_34] at h
    refine gh_T_steps 3 (τ := (40, [(0, .ref 56), (1, .int l1), (2, .long l2), (4, .long l4), (6, .int l6)], [.int (S.1 56 4), .int l6], (gh_mo S, 0, 0))) (fun _ => rfl) ?_
    cases c16 : gh_cmp .ge l6 (S.1 56 4) with
    | true =>
      rw [c16, cond_true] at h
      refine gh_T_ic true rfl c16 ?_
      refine gh_T_steps 1 (τ := (62, [(0, .ref 56), (1, .int l1), (2, .long l2), (4, .long l4), (6, .int l6)], [.int l1], (gh_mo S, 0, 0))) (fun _ => rfl) ?_
      cases c1 : gh_cmp .eq l1 0 with
      | true =>
        rw [c1, cond_true] at h
        refine gh_T_at 0 c1 (τ := (132, [(0, .ref 56), (1, .int l1), (2, .long l2), (4, .long l4), (6, .int l6)], [], (gh_mo S, 0, 0))) (fun _ => rfl) ?_
        refine gh_T_steps 3 (τ := (137, [(0, .ref 56), (1, .int l1), (2, .long l2), (4, .long l4), (6, .int l6)], [.long ((S.1 56 4 : Int32).toInt64)], (gh_mo S, 0, 0))) (fun _ => rfl) ?_
        cases h
        exact gh_T_ret (fun _ => rfl)
      | false =>
        rw [c1, cond_false] at h
        cases c2 : gh_cmp .eq l1 1 with
        | true =>
          rw [c2, cond_true] at h
          refine gh_T_at 1 c2 (τ := (138, [(0, .ref 56), (1, .int l1), (2, .long l2), (4, .long l4), (6, .int l6)], [], (gh_mo S, 0, 0))) (fun _ => rfl) ?_
          refine gh_T_steps 3 (τ := (143, [(0, .ref 56), (1, .int l1), (2, .long l2), (4, .long l4), (6, .int l6)], [.long ((S.1 56 9 : Int32).toInt64)], (gh_mo S, 0, 0))) (fun _ => rfl) ?_
          cases h
          exact gh_T_ret (fun _ => rfl)
        | false =>
          rw [c2, cond_false] at h
          cases c3 : gh_cmp .eq l1 2 with
          | true =>
            rw [c3, cond_true] at h
            refine gh_T_at 2 c3 (τ := (144, [(0, .ref 56), (1, .int l1), (2, .long l2), (4, .long l4), (6, .int l6)], [], (gh_mo S, 0, 0))) (fun _ => rfl) ?_
            refine gh_T_steps 3 (τ := (149, [(0, .ref 56), (1, .int l1), (2, .long l2), (4, .long l4), (6, .int l6)], [.long ((S.1 56 19 : Int32).toInt64)], (gh_mo S, 0, 0))) (fun _ => rfl) ?_
            cases h
            exact gh_T_ret (fun _ => rfl)
          | false =>
            rw [c3, cond_false] at h
            cases c4 : gh_cmp .eq l1 3 with
            | true =>
              rw [c4, cond_true] at h
              refine gh_T_at 3 c4 (τ := (150, [(0, .ref 56), (1, .int l1), (2, .long l2), (4, .long l4), (6, .int l6)], [], (gh_mo S, 0, 0))) (fun _ => rfl) ?_
              refine gh_T_steps 3 (τ := (155, [(0, .ref 56), (1, .int l1), (2, .long l2), (4, .long l4), (6, .int l6)], [.long ((S.1 56 15 : Int32).toInt64)], (gh_mo S, 0, 0))) (fun _ => rfl) ?_
              cases h
              exact gh_T_ret (fun _ => rfl)
            | false =>
              rw [c4, cond_false] at h
              cases c5 : gh_cmp .eq l1 4 with
              | true =>
                rw [c5, cond_true] at h
                refine gh_T_at 4 c5 (τ := (156, [(0, .ref 56), (1, .int l1), (2, .long l2), (4, .long l4), (6, .int l6)], [], (gh_mo S, 0, 0))) (fun _ => rfl) ?_
                refine gh_T_steps 2 (τ := (160, [(0, .ref 56), (1, .int l1), (2, .long l2), (4, .long l4), (6, .int l6)], [.long (S.2.1 56 16)], (gh_mo S, 0, 0))) (fun _ => rfl) ?_
                cases h
                exact gh_T_ret (fun _ => rfl)
              | false =>
                rw [c5, cond_false] at h
                cases c6 : gh_cmp .eq l1 5 with
                | true =>
                  rw [c6, cond_true] at h
                  refine gh_T_at 5 c6 (τ := (161, [(0, .ref 56), (1, .int l1), (2, .long l2), (4, .long l4), (6, .int l6)], [], (gh_mo S, 0, 0))) (fun _ => rfl) ?_
                  refine gh_T_steps 2 (τ := (165, [(0, .ref 56), (1, .int l1), (2, .long l2), (4, .long l4), (6, .int l6)], [.long (S.2.1 56 17)], (gh_mo S, 0, 0))) (fun _ => rfl) ?_
                  cases h
                  exact gh_T_ret (fun _ => rfl)
                | false =>
                  rw [c6, cond_false] at h
                  cases c7 : gh_cmp .eq l1 6 with
                  | true =>
                    rw [c7, cond_true] at h
                    refine gh_T_at 6 c7 (τ := (166, [(0, .ref 56), (1, .int l1), (2, .long l2), (4, .long l4), (6, .int l6)], [], (gh_mo S, 0, 0))) (fun _ => rfl) ?_
                    refine gh_T_steps 2 (τ := (170, [(0, .ref 56), (1, .int l1), (2, .long l2), (4, .long l4), (6, .int l6)], [.long (S.2.1 56 18)], (gh_mo S, 0, 0))) (fun _ => rfl) ?_
                    cases h
                    exact gh_T_ret (fun _ => rfl)
                  | false =>
                    rw [c7, cond_false] at h
                    cases c8 : gh_cmp .eq l1 7 with
                    | true =>
                      rw [c8, cond_true] at h
                      refine gh_T_at 7 c8 (τ := (171, [(0, .ref 56), (1, .int l1), (2, .long l2), (4, .long l4), (6, .int l6)], [], (gh_mo S, 0, 0))) (fun _ => rfl) ?_
                      refine gh_T_steps 1 (τ := (172, [(0, .ref 56), (1, .int l1), (2, .long l2), (4, .long l4), (6, .int l6)], [.long l2], (gh_mo S, 0, 0))) (fun _ => rfl) ?_
                      cases h
                      exact gh_T_ret (fun _ => rfl)
                    | false =>
                      rw [c8, cond_false] at h
                      cases c9 : gh_cmp .eq l1 8 with
                      | true =>
                        rw [c9, cond_true] at h
                        refine gh_T_at 8 c9 (τ := (173, [(0, .ref 56), (1, .int l1), (2, .long l2), (4, .long l4), (6, .int l6)], [], (gh_mo S, 0, 0))) (fun _ => rfl) ?_
                        refine gh_T_steps 1 (τ := (175, [(0, .ref 56), (1, .int l1), (2, .long l2), (4, .long l4), (6, .int l6)], [.long l4], (gh_mo S, 0, 0))) (fun _ => rfl) ?_
                        cases h
                        exact gh_T_ret (fun _ => rfl)
                      | false =>
                        rw [c9, cond_false] at h
                        cases c10 : gh_cmp .eq l1 9 with
                        | true =>
                          rw [c10, cond_true] at h
                          refine gh_T_at 9 c10 (τ := (176, [(0, .ref 56), (1, .int l1), (2, .long l2), (4, .long l4), (6, .int l6)], [], (gh_mo S, 0, 0))) (fun _ => rfl) ?_
                          refine gh_T_steps 3 (τ := (181, [(0, .ref 56), (1, .int l1), (2, .long l2), (4, .long l4), (6, .int l6)], [.long ((S.1 56 31 : Int32).toInt64)], (gh_mo S, 0, 0))) (fun _ => rfl) ?_
                          cases h
                          exact gh_T_ret (fun _ => rfl)
                        | false =>
                          rw [c10, cond_false] at h
                          cases c11 : gh_cmp .eq l1 10 with
                          | true =>
                            rw [c11, cond_true] at h
                            refine gh_T_at 10 c11 (τ := (182, [(0, .ref 56), (1, .int l1), (2, .long l2), (4, .long l4), (6, .int l6)], [], (gh_mo S, 0, 0))) (fun _ => rfl) ?_
                            refine gh_T_steps 3 (τ := (187, [(0, .ref 56), (1, .int l1), (2, .long l2), (4, .long l4), (6, .int l6)], [.long ((S.1 56 14 : Int32).toInt64)], (gh_mo S, 0, 0))) (fun _ => rfl) ?_
                            cases h
                            exact gh_T_ret (fun _ => rfl)
                          | false =>
                            rw [c11, cond_false] at h
                            cases c12 : gh_cmp .eq l1 11 with
                            | true =>
                              rw [c12, cond_true] at h
                              refine gh_T_at 11 c12 (τ := (188, [(0, .ref 56), (1, .int l1), (2, .long l2), (4, .long l4), (6, .int l6)], [], (gh_mo S, 0, 0))) (fun _ => rfl) ?_
                              refine gh_T_steps 3 (τ := (193, [(0, .ref 56), (1, .int l1), (2, .long l2), (4, .long l4), (6, .int l6)], [.long ((S.1 56 23 : Int32).toInt64)], (gh_mo S, 0, 0))) (fun _ => rfl) ?_
                              cases h
                              exact gh_T_ret (fun _ => rfl)
                            | false =>
                              rw [c12, cond_false] at h
                              cases c13 : gh_cmp .eq l1 12 with
                              | true =>
                                rw [c13, cond_true] at h
                                refine gh_T_at 12 c13 (τ := (194, [(0, .ref 56), (1, .int l1), (2, .long l2), (4, .long l4), (6, .int l6)], [], (gh_mo S, 0, 0))) (fun _ => rfl) ?_
                                refine gh_T_steps 3 (τ := (199, [(0, .ref 56), (1, .int l1), (2, .long l2), (4, .long l4), (6, .int l6)], [.long ((S.1 56 24 : Int32).toInt64)], (gh_mo S, 0, 0))) (fun _ => rfl) ?_
                                cases h
                                exact gh_T_ret (fun _ => rfl)
                              | false =>
                                rw [c13, cond_false] at h
                                cases c14 : gh_cmp .eq l1 13 with
                                | true =>
                                  rw [c14, cond_true] at h
                                  refine gh_T_at 13 c14 (τ := (200, [(0, .ref 56), (1, .int l1), (2, .long l2), (4, .long l4), (6, .int l6)], [], (gh_mo S, 0, 0))) (fun _ => rfl) ?_
                                  refine gh_T_steps 3 (τ := (205, [(0, .ref 56), (1, .int l1), (2, .long l2), (4, .long l4), (6, .int l6)], [.long ((S.1 56 29 : Int32).toInt64)], (gh_mo S, 0, 0))) (fun _ => rfl) ?_
                                  cases h
                                  exact gh_T_ret (fun _ => rfl)
                                | false =>
                                  rw [c14, cond_false] at h
                                  refine gh_T_td (tgt := 206) 14 rfl rfl (by decide) ⟨⟨⟨⟨⟨⟨⟨⟨⟨⟨⟨⟨⟨⟨trivial, c1⟩, c2⟩, c3⟩, c4⟩, c5⟩, c6⟩, c7⟩, c8⟩, c9⟩, c10⟩, c11⟩, c12⟩, c13⟩, c14⟩ (by decide) ?_
                                  refine gh_T_steps 1 (τ := (209, [(0, .ref 56), (1, .int l1), (2, .long l2), (4, .long l4), (6, .int l6)], [.long ((-1))], (gh_mo S, 0, 0))) (fun _ => rfl) ?_
                                  cases h
                                  exact gh_T_ret (fun _ => rfl)
    | false =>
      rw [c16, cond_false] at h
      refine gh_T_ic false rfl c16 ?_
      refine gh_T_steps 4 (τ := (51, [(0, .ref 56), (1, .int l1), (2, .long l2), (4, .long l4), (6, .int l6)], [.int l6, .ref 64, .long l4], (gh_mo S, 0, 0))) (fun _ => rfl) ?_
      obtain ⟨x15, hx15, h⟩ := gh_bi h
      refine gh_T_rj rfl rfl hx15 ?_
      refine gh_T_steps 4 (τ := (34, [(6, .int (l6 + 1)), (4, .long (l4 + x15)), (0, .ref 56), (1, .int l1), (2, .long l2)], [], (gh_mo S, 0, 0))) (fun _ => rfl) ?_
      refine gh_T_weak (lv := [(0, .ref 56), (1, .int l1), (2, .long l2), (4, .long (l4 + x15)), (6, .int (l6 + 1))]) ⟨rfl, rfl, rfl, rfl, rfl, trivial⟩ ?_
      exact ih l1 l2 (l4 + x15) (l6 + 1) S _ h
def sX10_about_8 (N : Nat) : Nat → Int32 → Int64 → Int64 → Int32 → gh_St → Option (Int64 × gh_St)
  | 0, _, _, _, _, _ => none
  | n + 1, l1, l2, l4, l6, S =>
    bif gh_cmp .ge l6 8 then
      (sX10_about_34 N N l1 l2 l4 0 S)
    else
      ((gh_rj S 60 8 l6).bind fun x1 =>
      (sX10_about_8 N n) l1 (l2 + x1) l4 (l6 + 1) S)
set_option maxRecDepth 100000 in
theorem kX10_about_8 (d N : Nat) : ∀ (n : Nat) (l1 : Int32) (l2 : Int64) (l4 : Int64) (l6 : Int32) (S : gh_St) (r : Int64 × gh_St), sX10_about_8 N n l1 l2 l4 l6 S = some r → gh_T d fX10_about 0 0 none false false (8, [(0, .ref 56), (1, .int l1), (2, .long l2), (4, .long l4), (6, .int l6)], [], (gh_mo S, 0, 0)) (some (.long r.1), (gh_mo r.2, 0, 0)) := by
  intro n
  induction n with
  | zero =>
    intro l1 l2 l4 l6 S r h
    cases h
  | succ n ih =>
    intro l1 l2 l4 l6 S r h
    rw [sX10_about_8] at h
    refine gh_T_steps 2 (τ := (12, [(0, .ref 56), (1, .int l1), (2, .long l2), (4, .long l4), (6, .int l6)], [.int 8, .int l6], (gh_mo S, 0, 0))) (fun _ => rfl) ?_
    cases c2 : gh_cmp .ge l6 8 with
    | true =>
      rw [c2, cond_true] at h
      refine gh_T_ic true rfl c2 ?_
      refine gh_T_steps 2 (τ := (34, [(6, .int 0), (0, .ref 56), (1, .int l1), (2, .long l2), (4, .long l4)], [], (gh_mo S, 0, 0))) (fun _ => rfl) ?_
      refine gh_T_weak (lv := [(0, .ref 56), (1, .int l1), (2, .long l2), (4, .long l4), (6, .int 0)]) ⟨rfl, rfl, rfl, rfl, rfl, trivial⟩ ?_
      exact kX10_about_34 d N N l1 l2 l4 0 S _ h
    | false =>
      rw [c2, cond_false] at h
      refine gh_T_ic false rfl c2 ?_
      refine gh_T_steps 4 (τ := (22, [(0, .ref 56), (1, .int l1), (2, .long l2), (4, .long l4), (6, .int l6)], [.int l6, .ref 60, .long l2], (gh_mo S, 0, 0))) (fun _ => rfl) ?_
      obtain ⟨x1, hx1, h⟩ := gh_bi h
      refine gh_T_rj rfl rfl hx1 ?_
      refine gh_T_steps 4 (τ := (8, [(6, .int (l6 + 1)), (2, .long (l2 + x1)), (0, .ref 56), (1, .int l1), (4, .long l4)], [], (gh_mo S, 0, 0))) (fun _ => rfl) ?_
      refine gh_T_weak (lv := [(0, .ref 56), (1, .int l1), (2, .long (l2 + x1)), (4, .long l4), (6, .int (l6 + 1))]) ⟨rfl, rfl, rfl, rfl, rfl, trivial⟩ ?_
      exact ih l1 (l2 + x1) l4 (l6 + 1) S _ h
def sX10_about (N : Nat) (a1 : Int32) (S : gh_St) : Option (Int64 × gh_St) :=
  sX10_about_8 N N a1 0 0 0 S
set_option maxRecDepth 100000 in
theorem kX10_about_e (d N : Nat) (a1 : Int32) (S : gh_St) (r : Int64 × gh_St) (h : sX10_about N a1 S = some r) : gh_T d fX10_about 0 0 none false false (0, [(0, .ref 56), (1, .int a1)], [], (gh_mo S, 0, 0)) (some (.long r.1), (gh_mo r.2, 0, 0)) := by
  unfold sX10_about at h
  refine gh_T_steps 6 (τ := (8, [(6, .int 0), (4, .long 0), (2, .long 0), (0, .ref 56), (1, .int a1)], [], (gh_mo S, 0, 0))) (fun _ => rfl) ?_
  refine gh_T_weak (lv := [(0, .ref 56), (1, .int a1), (2, .long 0), (4, .long 0), (6, .int 0)]) ⟨rfl, rfl, rfl, rfl, rfl, trivial⟩ ?_
  exact kX10_about_8 d N N a1 0 0 0 S _ h
theorem kX10_about (d N : Nat) (a1 : Int32) (S : gh_St) (r : Int64 × gh_St) (h : sX10_about N a1 S = some r) : gh_Mx (d + 1) 174 [.ref 56, .int a1] (gh_mo S) (some (.long r.1)) (gh_mo r.2) :=
  gh_Mx_of rfl rfl rfl rfl rfl rfl (kX10_about_e d N a1 S r h)
def sX0_canTake (N : Nat) (a1 : Int32) (a2 : Int32) (S : gh_St) : Option (Int32 × gh_St) :=
  (sX9_isBin N a1 S).bind fun q1 =>
  bif gh_cmp .eq q1.1 0 then
    (some (0, q1.2))
  else
    ((gh_ra q1.2 3 8 a1).bind fun x2 =>
    (sX9_within N a2 1 x2 q1.2).bind fun q3 =>
    bif gh_cmp .eq q3.1 0 then
      (some (0, q3.2))
    else
      (some (1, q3.2)))
set_option maxRecDepth 100000 in
theorem kX0_canTake_e (d N : Nat) (a1 : Int32) (a2 : Int32) (S : gh_St) (r : Int32 × gh_St) (h : sX0_canTake N a1 a2 S = some r) : gh_T (d + 2) fX0_canTake 0 0 none true false (0, [(0, .ref 1), (1, .int a1), (2, .int a2)], [], (gh_mo S, 0, 0)) (some (.int r.1), (gh_mo r.2, 0, 0)) := by
  unfold sX0_canTake at h
  refine gh_T_steps 1 (τ := (1, [(0, .ref 1), (1, .int a1), (2, .int a2)], [.int a1], (gh_mo S, 0, 0))) (fun _ => rfl) ?_
  obtain ⟨q1, hq1, h⟩ := gh_bi h
  refine gh_T_is (As := [.int a1]) (rest := []) (y := some (.int q1.1)) (M' := gh_mo q1.2) rfl rfl rfl rfl rfl rfl rfl ⟨Nat.le_refl _, Nat.le_refl _⟩ (kX9_isBin d N a1 S q1 hq1) ?_
  cases c5 : gh_cmp .eq q1.1 0 with
  | true =>
    rw [c5, cond_true] at h
    refine gh_T_if true rfl c5 ?_
    refine gh_T_steps 1 (τ := (26, [(0, .ref 1), (1, .int a1), (2, .int a2)], [.int 0], (gh_mo q1.2, 0, 0))) (fun _ => rfl) ?_
    cases h
    exact gh_T_ret (fun _ => rfl)
  | false =>
    rw [c5, cond_false] at h
    refine gh_T_if false rfl c5 ?_
    refine gh_T_steps 5 (τ := (14, [(0, .ref 1), (1, .int a1), (2, .int a2)], [.int a1, .ref 3, .int 1, .int a2], (gh_mo q1.2, 0, 0))) (fun _ => rfl) ?_
    obtain ⟨x2, hx2, h⟩ := gh_bi h
    refine gh_T_ra rfl rfl hx2 ?_
    obtain ⟨q3, hq3, h⟩ := gh_bi h
    refine gh_T_is (As := [.int a2, .int 1, .int x2]) (rest := []) (y := some (.int q3.1)) (M' := gh_mo q3.2) rfl rfl rfl rfl rfl rfl rfl ⟨Nat.le_refl _, Nat.le_refl _⟩ (kX9_within (d + 1) N a2 1 x2 q1.2 q3 hq3) ?_
    cases c4 : gh_cmp .eq q3.1 0 with
    | true =>
      rw [c4, cond_true] at h
      refine gh_T_if true rfl c4 ?_
      refine gh_T_steps 1 (τ := (26, [(0, .ref 1), (1, .int a1), (2, .int a2)], [.int 0], (gh_mo q3.2, 0, 0))) (fun _ => rfl) ?_
      cases h
      exact gh_T_ret (fun _ => rfl)
    | false =>
      rw [c4, cond_false] at h
      refine gh_T_if false rfl c4 ?_
      refine gh_T_steps 2 (τ := (26, [(0, .ref 1), (1, .int a1), (2, .int a2)], [.int 1], (gh_mo q3.2, 0, 0))) (fun _ => rfl) ?_
      cases h
      exact gh_T_ret (fun _ => rfl)
theorem kX0_canTake (d N : Nat) (a1 : Int32) (a2 : Int32) (S : gh_St) (r : Int32 × gh_St) (h : sX0_canTake N a1 a2 S = some r) : gh_Mx (d + 3) 2 [.ref 1, .int a1, .int a2] (gh_mo S) (some (.int r.1)) (gh_mo r.2) :=
  gh_Mx_of rfl rfl rfl rfl rfl rfl (kX0_canTake_e d N a1 a2 S r h)
def sX0_canPut_28 (N : Nat) (l1 : Int32) (l3 : Int32) (S : gh_St) : Option (Int32 × gh_St) :=
  (gh_ra S 4 8 l1).bind fun x1 =>
  (gh_ra S 3 8 l1).bind fun x2 =>
  bif gh_cmp .gt l3 (x1 - x2) then
    (some (0, S))
  else
    (some (1, S))
set_option maxRecDepth 100000 in
theorem kX0_canPut_28 (d N : Nat) (l1 : Int32) (l3 : Int32) (S : gh_St) (r : Int32 × gh_St) (h : sX0_canPut_28 N l1 l3 S = some r) : gh_T (d + 2) fX0_canPut 0 0 none true false (28, [(0, .ref 1), (1, .int l1), (3, .int l3)], [], (gh_mo S, 0, 0)) (some (.int r.1), (gh_mo r.2, 0, 0)) := by
  unfold sX0_canPut_28 at h
  refine gh_T_steps 4 (τ := (34, [(0, .ref 1), (1, .int l1), (3, .int l3)], [.int l1, .ref 4, .int l3], (gh_mo S, 0, 0))) (fun _ => rfl) ?_
  obtain ⟨x1, hx1, h⟩ := gh_bi h
  refine gh_T_ra rfl rfl hx1 ?_
  refine gh_T_steps 3 (τ := (40, [(0, .ref 1), (1, .int l1), (3, .int l3)], [.int l1, .ref 3, .int x1, .int l3], (gh_mo S, 0, 0))) (fun _ => rfl) ?_
  obtain ⟨x2, hx2, h⟩ := gh_bi h
  refine gh_T_ra rfl rfl hx2 ?_
  refine gh_T_steps 1 (τ := (42, [(0, .ref 1), (1, .int l1), (3, .int l3)], [.int (x1 - x2), .int l3], (gh_mo S, 0, 0))) (fun _ => rfl) ?_
  cases c3 : gh_cmp .gt l3 (x1 - x2) with
  | true =>
    rw [c3, cond_true] at h
    refine gh_T_ic true rfl c3 ?_
    refine gh_T_steps 1 (τ := (50, [(0, .ref 1), (1, .int l1), (3, .int l3)], [.int 0], (gh_mo S, 0, 0))) (fun _ => rfl) ?_
    cases h
    exact gh_T_ret (fun _ => rfl)
  | false =>
    rw [c3, cond_false] at h
    refine gh_T_ic false rfl c3 ?_
    refine gh_T_steps 2 (τ := (50, [(0, .ref 1), (1, .int l1), (3, .int l3)], [.int 1], (gh_mo S, 0, 0))) (fun _ => rfl) ?_
    cases h
    exact gh_T_ret (fun _ => rfl)
def sX0_canPut (N : Nat) (a1 : Int32) (a2 : Int32) (a3 : Int32) (S : gh_St) : Option (Int32 × gh_St) :=
  (sX9_isBin N a1 S).bind fun q1 =>
  bif gh_cmp .ne q1.1 0 then
    ((gh_ra q1.2 3 8 a1).bind fun x2 =>
    bif gh_cmp .eq x2 0 then
      (sX0_canPut_28 N a1 a3 q1.2)
    else
      ((gh_ra q1.2 2 8 a1).bind fun x3 =>
      bif gh_cmp .ne x3 a2 then
        (some (0, q1.2))
      else
        (sX0_canPut_28 N a1 a3 q1.2)))
  else
    (some (0, q1.2))
set_option maxRecDepth 100000 in
theorem kX0_canPut_e (d N : Nat) (a1 : Int32) (a2 : Int32) (a3 : Int32) (S : gh_St) (r : Int32 × gh_St) (h : sX0_canPut N a1 a2 a3 S = some r) : gh_T (d + 2) fX0_canPut 0 0 none true false (0, [(0, .ref 1), (1, .int a1), (2, .int a2), (3, .int a3)], [], (gh_mo S, 0, 0)) (some (.int r.1), (gh_mo r.2, 0, 0)) := by
  unfold sX0_canPut at h
  refine gh_T_steps 1 (τ := (1, [(0, .ref 1), (1, .int a1), (2, .int a2), (3, .int a3)], [.int a1], (gh_mo S, 0, 0))) (fun _ => rfl) ?_
  obtain ⟨q1, hq1, h⟩ := gh_bi h
  refine gh_T_is (As := [.int a1]) (rest := []) (y := some (.int q1.1)) (M' := gh_mo q1.2) rfl rfl rfl rfl rfl rfl rfl ⟨Nat.le_refl _, Nat.le_refl _⟩ (kX9_isBin d N a1 S q1 hq1) ?_
  cases c6 : gh_cmp .ne q1.1 0 with
  | true =>
    rw [c6, cond_true] at h
    refine gh_T_if true rfl c6 ?_
    refine gh_T_steps 3 (τ := (14, [(0, .ref 1), (1, .int a1), (2, .int a2), (3, .int a3)], [.int a1, .ref 3], (gh_mo q1.2, 0, 0))) (fun _ => rfl) ?_
    obtain ⟨x2, hx2, h⟩ := gh_bi h
    refine gh_T_ra rfl rfl hx2 ?_
    cases c5 : gh_cmp .eq x2 0 with
    | true =>
      rw [c5, cond_true] at h
      refine gh_T_if true rfl c5 ?_
      refine gh_T_weak (lv := [(0, .ref 1), (1, .int a1), (3, .int a3)]) ⟨rfl, rfl, rfl, trivial⟩ ?_
      exact kX0_canPut_28 d N a1 a3 q1.2 _ h
    | false =>
      rw [c5, cond_false] at h
      refine gh_T_if false rfl c5 ?_
      refine gh_T_steps 3 (τ := (23, [(0, .ref 1), (1, .int a1), (2, .int a2), (3, .int a3)], [.int a1, .ref 2], (gh_mo q1.2, 0, 0))) (fun _ => rfl) ?_
      obtain ⟨x3, hx3, h⟩ := gh_bi h
      refine gh_T_ra rfl rfl hx3 ?_
      refine gh_T_steps 1 (τ := (25, [(0, .ref 1), (1, .int a1), (2, .int a2), (3, .int a3)], [.int a2, .int x3], (gh_mo q1.2, 0, 0))) (fun _ => rfl) ?_
      cases c4 : gh_cmp .ne x3 a2 with
      | true =>
        rw [c4, cond_true] at h
        refine gh_T_ic true rfl c4 ?_
        refine gh_T_steps 1 (τ := (50, [(0, .ref 1), (1, .int a1), (2, .int a2), (3, .int a3)], [.int 0], (gh_mo q1.2, 0, 0))) (fun _ => rfl) ?_
        cases h
        exact gh_T_ret (fun _ => rfl)
      | false =>
        rw [c4, cond_false] at h
        refine gh_T_ic false rfl c4 ?_
        refine gh_T_weak (lv := [(0, .ref 1), (1, .int a1), (3, .int a3)]) ⟨rfl, rfl, rfl, trivial⟩ ?_
        exact kX0_canPut_28 d N a1 a3 q1.2 _ h
  | false =>
    rw [c6, cond_false] at h
    refine gh_T_if false rfl c6 ?_
    refine gh_T_steps 1 (τ := (8, [(0, .ref 1), (1, .int a1), (2, .int a2), (3, .int a3)], [.int 0], (gh_mo q1.2, 0, 0))) (fun _ => rfl) ?_
    cases h
    exact gh_T_ret (fun _ => rfl)
theorem kX0_canPut (d N : Nat) (a1 : Int32) (a2 : Int32) (a3 : Int32) (S : gh_St) (r : Int32 × gh_St) (h : sX0_canPut N a1 a2 a3 S = some r) : gh_Mx (d + 3) 3 [.ref 1, .int a1, .int a2, .int a3] (gh_mo S) (some (.int r.1)) (gh_mo r.2) :=
  gh_Mx_of rfl rfl rfl rfl rfl rfl (kX0_canPut_e d N a1 a2 a3 S r h)
def sX1_best_73 (N : Nat) : Nat → Int32 → gh_St → Option (Int64 × gh_St)
  | 0, _, _ => none
  | n + 1, l4, S =>
    bif gh_cmp .ge l4 (S.1 37 4) then
      (some ((gh_fI S 37 7 1).2.1 37 5, gh_fI S 37 7 1))
    else
      ((gh_ra S 38 4 l4).bind fun x1 =>
      (gh_ra S 41 4 l4).bind fun x2 =>
      (gh_wa S 42 8 x1 x2).bind fun S3 =>
      (sX1_best_73 N n) (l4 + 1) S3)
set_option maxRecDepth 100000 in
theorem kX1_best_73 (d N : Nat) : ∀ (n : Nat) (l4 : Int32) (S : gh_St) (r : Int64 × gh_St), sX1_best_73 N n l4 S = some r → gh_T (d + 2) fX1_best 0 0 none false false (73, [(0, .ref 37), (4, .int l4)], [], (gh_mo S, 0, 0)) (some (.long r.1), (gh_mo r.2, 0, 0)) := by
  intro n
  induction n with
  | zero =>
    intro l4 S r h
    cases h
  | succ n ih =>
    intro l4 S r h
    rw [sX1_best_73] at h
    refine gh_T_steps 3 (τ := (79, [(0, .ref 37), (4, .int l4)], [.int (S.1 37 4), .int l4], (gh_mo S, 0, 0))) (fun _ => rfl) ?_
    cases c4 : gh_cmp .ge l4 (S.1 37 4) with
    | true =>
      rw [c4, cond_true] at h
      refine gh_T_ic true rfl c4 ?_
      refine gh_T_steps 5 (τ := (116, [(0, .ref 37), (4, .int l4)], [.long ((gh_fI S 37 7 1).2.1 37 5)], (gh_mo (gh_fI S 37 7 1), 0, 0))) (fun _ => rfl) ?_
      cases h
      exact gh_T_ret (fun _ => rfl)
    | false =>
      rw [c4, cond_false] at h
      refine gh_T_ic false rfl c4 ?_
      refine gh_T_steps 5 (τ := (92, [(0, .ref 37), (4, .int l4)], [.int l4, .ref 38, .ref 42], (gh_mo S, 0, 0))) (fun _ => rfl) ?_
      obtain ⟨x1, hx1, h⟩ := gh_bi h
      refine gh_T_ra rfl rfl hx1 ?_
      refine gh_T_steps 3 (τ := (99, [(0, .ref 37), (4, .int l4)], [.int l4, .ref 41, .int x1, .ref 42], (gh_mo S, 0, 0))) (fun _ => rfl) ?_
      obtain ⟨x2, hx2, h⟩ := gh_bi h
      refine gh_T_ra rfl rfl hx2 ?_
      obtain ⟨S3, hS3, h⟩ := gh_bi h
      refine gh_T_wa rfl rfl hS3 ?_
      refine gh_T_steps 2 (τ := (73, [(4, .int (l4 + 1)), (0, .ref 37)], [], (gh_mo S3, 0, 0))) (fun _ => rfl) ?_
      refine gh_T_weak (lv := [(0, .ref 37), (4, .int (l4 + 1))]) ⟨rfl, rfl, trivial⟩ ?_
      exact ih (l4 + 1) S3 _ h
def sX1_best_49 (N : Nat) : Nat → Int32 → gh_St → Option (Int64 × gh_St)
  | 0, _, _ => none
  | n + 1, l4, S =>
    bif gh_cmp .ge l4 8 then
      (sX1_best_73 N N 0 S)
    else
      ((gh_wa S 42 8 l4 0).bind fun S1 =>
      (sX1_best_49 N n) (l4 + 1) S1)
set_option maxRecDepth 100000 in
theorem kX1_best_49 (d N : Nat) : ∀ (n : Nat) (l4 : Int32) (S : gh_St) (r : Int64 × gh_St), sX1_best_49 N n l4 S = some r → gh_T (d + 2) fX1_best 0 0 none false false (49, [(0, .ref 37), (4, .int l4)], [], (gh_mo S, 0, 0)) (some (.long r.1), (gh_mo r.2, 0, 0)) := by
  intro n
  induction n with
  | zero =>
    intro l4 S r h
    cases h
  | succ n ih =>
    intro l4 S r h
    rw [sX1_best_49] at h
    refine gh_T_steps 2 (τ := (53, [(0, .ref 37), (4, .int l4)], [.int 8, .int l4], (gh_mo S, 0, 0))) (fun _ => rfl) ?_
    cases c2 : gh_cmp .ge l4 8 with
    | true =>
      rw [c2, cond_true] at h
      refine gh_T_ic true rfl c2 ?_
      refine gh_T_steps 2 (τ := (73, [(4, .int 0), (0, .ref 37)], [], (gh_mo S, 0, 0))) (fun _ => rfl) ?_
      refine gh_T_weak (lv := [(0, .ref 37), (4, .int 0)]) ⟨rfl, rfl, trivial⟩ ?_
      exact kX1_best_73 d N N 0 S _ h
    | false =>
      rw [c2, cond_false] at h
      refine gh_T_ic false rfl c2 ?_
      refine gh_T_steps 4 (τ := (63, [(0, .ref 37), (4, .int l4)], [.int 0, .int l4, .ref 42], (gh_mo S, 0, 0))) (fun _ => rfl) ?_
      obtain ⟨S1, hS1, h⟩ := gh_bi h
      refine gh_T_wa rfl rfl hS1 ?_
      refine gh_T_steps 2 (τ := (49, [(4, .int (l4 + 1)), (0, .ref 37)], [], (gh_mo S1, 0, 0))) (fun _ => rfl) ?_
      refine gh_T_weak (lv := [(0, .ref 37), (4, .int (l4 + 1))]) ⟨rfl, rfl, trivial⟩ ?_
      exact ih (l4 + 1) S1 _ h
def sX1_best (N : Nat) (a2 : Int32) (a3 : Int32) (S : gh_St) : Option (Int64 × gh_St) :=
  (sX1_reckon N a2 S).bind fun q1 =>
  (sX1_tryAll N a2 ((((1000 : Int64) - ((a3 : Int32).toInt64)) * (1000 : Int64)) * ((a2 : Int32).toInt64)) (gh_fL q1 37 5 1000000000000)).bind fun q2 =>
  bif gh_cmp .ne (lg_cmp (q2.2.1 37 5) (1000000000000 : Int64)) 0 then
    (sX1_best_49 N N 0 q2)
  else
    (some ((-1), q2))
set_option maxRecDepth 100000 in
theorem kX1_best_e (d N : Nat) (a2 : Int32) (a3 : Int32) (S : gh_St) (r : Int64 × gh_St) (h : sX1_best N a2 a3 S = some r) : gh_T (d + 2) fX1_best 0 0 none false false (0, [(0, .ref 37), (1, .ref 1), (2, .int a2), (3, .int a3)], [], (gh_mo S, 0, 0)) (some (.long r.1), (gh_mo r.2, 0, 0)) := by
  unfold sX1_best at h
  refine gh_T_steps 3 (τ := (3, [(0, .ref 37), (1, .ref 1), (2, .int a2), (3, .int a3)], [.int a2, .ref 1, .ref 37], (gh_mo S, 0, 0))) (fun _ => rfl) ?_
  obtain ⟨q1, hq1, h⟩ := gh_bi h
  refine gh_T_iv (As := [.ref 1, .int a2]) (b := 37) (rest := []) (y := none) (M' := gh_mo q1) rfl rfl rfl rfl rfl rfl rfl rfl rfl ⟨Nat.le_refl _, Nat.le_refl _⟩ (kX1_reckon d N a2 S q1 hq1) ?_
  refine gh_T_steps 14 (τ := (28, [(0, .ref 37), (1, .ref 1), (2, .int a2), (3, .int a3)], [.long ((((1000 : Int64) - ((a3 : Int32).toInt64)) * (1000 : Int64)) * ((a2 : Int32).toInt64)), .int a2, .ref 37], (gh_mo (gh_fL q1 37 5 1000000000000), 0, 0))) (fun _ => rfl) ?_
  obtain ⟨q2, hq2, h⟩ := gh_bi h
  refine gh_T_iv (As := [.int a2, .long ((((1000 : Int64) - ((a3 : Int32).toInt64)) * (1000 : Int64)) * ((a2 : Int32).toInt64))]) (b := 37) (rest := []) (y := none) (M' := gh_mo q2) rfl rfl rfl rfl rfl rfl rfl rfl rfl ⟨Nat.le_refl _, Nat.le_refl _⟩ (kX1_tryAll (d + 1) N a2 ((((1000 : Int64) - ((a3 : Int32).toInt64)) * (1000 : Int64)) * ((a2 : Int32).toInt64)) (gh_fL q1 37 5 1000000000000) q2 hq2) ?_
  refine gh_T_steps 4 (τ := (39, [(0, .ref 37), (1, .ref 1), (2, .int a2), (3, .int a3)], [.int (lg_cmp (q2.2.1 37 5) (1000000000000 : Int64))], (gh_mo q2, 0, 0))) (fun _ => rfl) ?_
  cases c3 : gh_cmp .ne (lg_cmp (q2.2.1 37 5) (1000000000000 : Int64)) 0 with
  | true =>
    rw [c3, cond_true] at h
    refine gh_T_if true rfl c3 ?_
    refine gh_T_steps 2 (τ := (49, [(4, .int 0), (0, .ref 37), (1, .ref 1), (2, .int a2), (3, .int a3)], [], (gh_mo q2, 0, 0))) (fun _ => rfl) ?_
    refine gh_T_weak (lv := [(0, .ref 37), (4, .int 0)]) ⟨rfl, rfl, trivial⟩ ?_
    exact kX1_best_49 d N N 0 q2 _ h
  | false =>
    rw [c3, cond_false] at h
    refine gh_T_if false rfl c3 ?_
    refine gh_T_steps 1 (τ := (45, [(0, .ref 37), (1, .ref 1), (2, .int a2), (3, .int a3)], [.long ((-1))], (gh_mo q2, 0, 0))) (fun _ => rfl) ?_
    cases h
    exact gh_T_ret (fun _ => rfl)
theorem kX1_best (d N : Nat) (a2 : Int32) (a3 : Int32) (S : gh_St) (r : Int64 × gh_St) (h : sX1_best N a2 a3 S = some r) : gh_Mx (d + 3) 11 [.ref 37, .ref 1, .int a2, .int a3] (gh_mo S) (some (.long r.1)) (gh_mo r.2) :=
  gh_Mx_of rfl rfl rfl rfl rfl rfl (kX1_best_e d N a2 a3 S r h)
def sX2_setHour (N : Nat) (a1 : Int32) (a2 : Int32) (a3 : Int32) (S : gh_St) : Option (Int32 × gh_St) :=
  (sX9_within N a1 0 11 S).bind fun q1 =>
  bif gh_cmp .eq q1.1 0 then
    (some (0, q1.2))
  else
    ((sX9_within N a3 0 99 q1.2).bind fun q2 =>
    bif gh_cmp .ne q2.1 0 then
      ((gh_wa q2.2 27 12 a1 (vp_nar .boolean a2)).bind fun S3 =>
      (gh_wa S3 28 12 a1 a3).bind fun S4 =>
      some (1, gh_fI S4 26 14 0))
    else
      (some (0, q2.2)))
set_option maxRecDepth 100000 in
theorem kX2_setHour_e (d N : Nat) (a1 : Int32) (a2 : Int32) (a3 : Int32) (S : gh_St) (r : Int32 × gh_St) (h : sX2_setHour N a1 a2 a3 S = some r) : gh_T (d + 1) fX2_setHour 0 0 none true false (0, [(0, .ref 26), (1, .int a1), (2, .int a2), (3, .int a3)], [], (gh_mo S, 0, 0)) (some (.int r.1), (gh_mo r.2, 0, 0)) := by
  unfold sX2_setHour at h
  refine gh_T_steps 3 (τ := (4, [(0, .ref 26), (1, .int a1), (2, .int a2), (3, .int a3)], [.int 11, .int 0, .int a1], (gh_mo S, 0, 0))) (fun _ => rfl) ?_
  obtain ⟨q1, hq1, h⟩ := gh_bi h
  refine gh_T_is (As := [.int a1, .int 0, .int 11]) (rest := []) (y := some (.int q1.1)) (M' := gh_mo q1.2) rfl rfl rfl rfl rfl rfl rfl ⟨Nat.le_refl _, Nat.le_refl _⟩ (kX9_within d N a1 0 11 S q1 hq1) ?_
  cases c6 : gh_cmp .eq q1.1 0 with
  | true =>
    rw [c6, cond_true] at h
    refine gh_T_if true rfl c6 ?_
    refine gh_T_steps 1 (τ := (21, [(0, .ref 26), (1, .int a1), (2, .int a2), (3, .int a3)], [.int 0], (gh_mo q1.2, 0, 0))) (fun _ => rfl) ?_
    cases h
    exact gh_T_ret (fun _ => rfl)
  | false =>
    rw [c6, cond_false] at h
    refine gh_T_if false rfl c6 ?_
    refine gh_T_steps 3 (τ := (14, [(0, .ref 26), (1, .int a1), (2, .int a2), (3, .int a3)], [.int 99, .int 0, .int a3], (gh_mo q1.2, 0, 0))) (fun _ => rfl) ?_
    obtain ⟨q2, hq2, h⟩ := gh_bi h
    refine gh_T_is (As := [.int a3, .int 0, .int 99]) (rest := []) (y := some (.int q2.1)) (M' := gh_mo q2.2) rfl rfl rfl rfl rfl rfl rfl ⟨Nat.le_refl _, Nat.le_refl _⟩ (kX9_within d N a3 0 99 q1.2 q2 hq2) ?_
    cases c5 : gh_cmp .ne q2.1 0 with
    | true =>
      rw [c5, cond_true] at h
      refine gh_T_if true rfl c5 ?_
      refine gh_T_steps 4 (τ := (28, [(0, .ref 26), (1, .int a1), (2, .int a2), (3, .int a3)], [.int a2, .int a1, .ref 27], (gh_mo q2.2, 0, 0))) (fun _ => rfl) ?_
      obtain ⟨S3, hS3, h⟩ := gh_bi h
      refine gh_T_wz rfl rfl hS3 ?_
      refine gh_T_steps 4 (τ := (35, [(0, .ref 26), (1, .int a1), (2, .int a2), (3, .int a3)], [.int a3, .int a1, .ref 28], (gh_mo S3, 0, 0))) (fun _ => rfl) ?_
      obtain ⟨S4, hS4, h⟩ := gh_bi h
      refine gh_T_wa rfl rfl hS4 ?_
      refine gh_T_steps 4 (τ := (42, [(0, .ref 26), (1, .int a1), (2, .int a2), (3, .int a3)], [.int 1], (gh_mo (gh_fI S4 26 14 0), 0, 0))) (fun _ => rfl) ?_
      cases h
      exact gh_T_ret (fun _ => rfl)
    | false =>
      rw [c5, cond_false] at h
      refine gh_T_if false rfl c5 ?_
      refine gh_T_steps 1 (τ := (21, [(0, .ref 26), (1, .int a1), (2, .int a2), (3, .int a3)], [.int 0], (gh_mo q2.2, 0, 0))) (fun _ => rfl) ?_
      cases h
      exact gh_T_ret (fun _ => rfl)
theorem kX2_setHour (d N : Nat) (a1 : Int32) (a2 : Int32) (a3 : Int32) (S : gh_St) (r : Int32 × gh_St) (h : sX2_setHour N a1 a2 a3 S = some r) : gh_Mx (d + 2) 15 [.ref 26, .int a1, .int a2, .int a3] (gh_mo S) (some (.int r.1)) (gh_mo r.2) :=
  gh_Mx_of rfl rfl rfl rfl rfl rfl (kX2_setHour_e d N a1 a2 a3 S r h)
def sX2_setPower (N : Nat) (a1 : Int32) (S : gh_St) : Option (Int32 × gh_St) :=
  (sX9_within N a1 1 8 S).bind fun q1 =>
  bif gh_cmp .ne q1.1 0 then
    (some (1, gh_fI (gh_fI q1.2 26 10 a1) 26 14 0))
  else
    (some (0, q1.2))
set_option maxRecDepth 100000 in
theorem kX2_setPower_e (d N : Nat) (a1 : Int32) (S : gh_St) (r : Int32 × gh_St) (h : sX2_setPower N a1 S = some r) : gh_T (d + 1) fX2_setPower 0 0 none true false (0, [(0, .ref 26), (1, .int a1)], [], (gh_mo S, 0, 0)) (some (.int r.1), (gh_mo r.2, 0, 0)) := by
  unfold sX2_setPower at h
  refine gh_T_steps 3 (τ := (4, [(0, .ref 26), (1, .int a1)], [.int 8, .int 1, .int a1], (gh_mo S, 0, 0))) (fun _ => rfl) ?_
  obtain ⟨q1, hq1, h⟩ := gh_bi h
  refine gh_T_is (As := [.int a1, .int 1, .int 8]) (rest := []) (y := some (.int q1.1)) (M' := gh_mo q1.2) rfl rfl rfl rfl rfl rfl rfl ⟨Nat.le_refl _, Nat.le_refl _⟩ (kX9_within d N a1 1 8 S q1 hq1) ?_
  cases c2 : gh_cmp .ne q1.1 0 with
  | true =>
    rw [c2, cond_true] at h
    refine gh_T_if true rfl c2 ?_
    refine gh_T_steps 7 (τ := (23, [(0, .ref 26), (1, .int a1)], [.int 1], (gh_mo (gh_fI (gh_fI q1.2 26 10 a1) 26 14 0), 0, 0))) (fun _ => rfl) ?_
    cases h
    exact gh_T_ret (fun _ => rfl)
  | false =>
    rw [c2, cond_false] at h
    refine gh_T_if false rfl c2 ?_
    refine gh_T_steps 1 (τ := (11, [(0, .ref 26), (1, .int a1)], [.int 0], (gh_mo q1.2, 0, 0))) (fun _ => rfl) ?_
    cases h
    exact gh_T_ret (fun _ => rfl)
theorem kX2_setPower (d N : Nat) (a1 : Int32) (S : gh_St) (r : Int32 × gh_St) (h : sX2_setPower N a1 S = some r) : gh_Mx (d + 2) 16 [.ref 26, .int a1] (gh_mo S) (some (.int r.1)) (gh_mo r.2) :=
  gh_Mx_of rfl rfl rfl rfl rfl rfl (kX2_setPower_e d N a1 S r h)
def sX2_setNeed (N : Nat) (a1 : Int32) (a2 : Int32) (a3 : Int32) (S : gh_St) : Option (Int32 × gh_St) :=
  (sX9_isBin N a1 S).bind fun q1 =>
  bif gh_cmp .eq q1.1 0 then
    (some (0, q1.2))
  else
    ((sX9_within N a2 0 12 q1.2).bind fun q2 =>
    bif gh_cmp .eq q2.1 0 then
      (some (0, q2.2))
    else
      ((sX9_within N a3 0 12 q2.2).bind fun q3 =>
      bif gh_cmp .ne q3.1 0 then
        ((gh_wa q3.2 29 8 a1 a2).bind fun S4 =>
        (gh_wa S4 30 8 a1 a3).bind fun S5 =>
        some (1, gh_fI S5 26 14 0))
      else
        (some (0, q3.2))))
set_option maxRecDepth 100000 in
theorem kX2_setNeed_e (d N : Nat) (a1 : Int32) (a2 : Int32) (a3 : Int32) (S : gh_St) (r : Int32 × gh_St) (h : sX2_setNeed N a1 a2 a3 S = some r) : gh_T (d + 2) fX2_setNeed 0 0 none true false (0, [(0, .ref 26), (1, .int a1), (2, .int a2), (3, .int a3)], [], (gh_mo S, 0, 0)) (some (.int r.1), (gh_mo r.2, 0, 0)) := by
  unfold sX2_setNeed at h
  refine gh_T_steps 1 (τ := (1, [(0, .ref 26), (1, .int a1), (2, .int a2), (3, .int a3)], [.int a1], (gh_mo S, 0, 0))) (fun _ => rfl) ?_
  obtain ⟨q1, hq1, h⟩ := gh_bi h
  refine gh_T_is (As := [.int a1]) (rest := []) (y := some (.int q1.1)) (M' := gh_mo q1.2) rfl rfl rfl rfl rfl rfl rfl ⟨Nat.le_refl _, Nat.le_refl _⟩ (kX9_isBin d N a1 S q1 hq1) ?_
  cases c8 : gh_cmp .eq q1.1 0 with
  | true =>
    rw [c8, cond_true] at h
    refine gh_T_if true rfl c8 ?_
    refine gh_T_steps 1 (τ := (28, [(0, .ref 26), (1, .int a1), (2, .int a2), (3, .int a3)], [.int 0], (gh_mo q1.2, 0, 0))) (fun _ => rfl) ?_
    cases h
    exact gh_T_ret (fun _ => rfl)
  | false =>
    rw [c8, cond_false] at h
    refine gh_T_if false rfl c8 ?_
    refine gh_T_steps 3 (τ := (11, [(0, .ref 26), (1, .int a1), (2, .int a2), (3, .int a3)], [.int 12, .int 0, .int a2], (gh_mo q1.2, 0, 0))) (fun _ => rfl) ?_
    obtain ⟨q2, hq2, h⟩ := gh_bi h
    refine gh_T_is (As := [.int a2, .int 0, .int 12]) (rest := []) (y := some (.int q2.1)) (M' := gh_mo q2.2) rfl rfl rfl rfl rfl rfl rfl ⟨Nat.le_refl _, Nat.le_refl _⟩ (kX9_within (d + 1) N a2 0 12 q1.2 q2 hq2) ?_
    cases c7 : gh_cmp .eq q2.1 0 with
    | true =>
      rw [c7, cond_true] at h
      refine gh_T_if true rfl c7 ?_
      refine gh_T_steps 1 (τ := (28, [(0, .ref 26), (1, .int a1), (2, .int a2), (3, .int a3)], [.int 0], (gh_mo q2.2, 0, 0))) (fun _ => rfl) ?_
      cases h
      exact gh_T_ret (fun _ => rfl)
    | false =>
      rw [c7, cond_false] at h
      refine gh_T_if false rfl c7 ?_
      refine gh_T_steps 3 (τ := (21, [(0, .ref 26), (1, .int a1), (2, .int a2), (3, .int a3)], [.int 12, .int 0, .int a3], (gh_mo q2.2, 0, 0))) (fun _ => rfl) ?_
      obtain ⟨q3, hq3, h⟩ := gh_bi h
      refine gh_T_is (As := [.int a3, .int 0, .int 12]) (rest := []) (y := some (.int q3.1)) (M' := gh_mo q3.2) rfl rfl rfl rfl rfl rfl rfl ⟨Nat.le_refl _, Nat.le_refl _⟩ (kX9_within (d + 1) N a3 0 12 q2.2 q3 hq3) ?_
      cases c6 : gh_cmp .ne q3.1 0 with
      | true =>
        rw [c6, cond_true] at h
        refine gh_T_if true rfl c6 ?_
        refine gh_T_steps 4 (τ := (35, [(0, .ref 26), (1, .int a1), (2, .int a2), (3, .int a3)], [.int a2, .int a1, .ref 29], (gh_mo q3.2, 0, 0))) (fun _ => rfl) ?_
        obtain ⟨S4, hS4, h⟩ := gh_bi h
        refine gh_T_wa rfl rfl hS4 ?_
        refine gh_T_steps 4 (τ := (42, [(0, .ref 26), (1, .int a1), (2, .int a2), (3, .int a3)], [.int a3, .int a1, .ref 30], (gh_mo S4, 0, 0))) (fun _ => rfl) ?_
        obtain ⟨S5, hS5, h⟩ := gh_bi h
        refine gh_T_wa rfl rfl hS5 ?_
        refine gh_T_steps 4 (τ := (49, [(0, .ref 26), (1, .int a1), (2, .int a2), (3, .int a3)], [.int 1], (gh_mo (gh_fI S5 26 14 0), 0, 0))) (fun _ => rfl) ?_
        cases h
        exact gh_T_ret (fun _ => rfl)
      | false =>
        rw [c6, cond_false] at h
        refine gh_T_if false rfl c6 ?_
        refine gh_T_steps 1 (τ := (28, [(0, .ref 26), (1, .int a1), (2, .int a2), (3, .int a3)], [.int 0], (gh_mo q3.2, 0, 0))) (fun _ => rfl) ?_
        cases h
        exact gh_T_ret (fun _ => rfl)
theorem kX2_setNeed (d N : Nat) (a1 : Int32) (a2 : Int32) (a3 : Int32) (S : gh_St) (r : Int32 × gh_St) (h : sX2_setNeed N a1 a2 a3 S = some r) : gh_Mx (d + 3) 17 [.ref 26, .int a1, .int a2, .int a3] (gh_mo S) (some (.int r.1)) (gh_mo r.2) :=
  gh_Mx_of rfl rfl rfl rfl rfl rfl (kX2_setNeed_e d N a1 a2 a3 S r h)
def sX2_reachBy_57 (N : Nat) (kc26 : Int32 → Int32 → Int32 → Int32 → gh_St → Option (gh_St)) (l1 : Int32) (l2 : Int32) (l3 : Int32) (l4 : Int32) (S : gh_St) : Option (gh_St) :=
  kc26 l1 l2 l3 (l4 + 1) S
set_option maxRecDepth 100000 in
theorem kX2_reachBy_57 (d N : Nat) (kc26 : Int32 → Int32 → Int32 → Int32 → gh_St → Option (gh_St)) (hkc26 : ∀ (l1 : Int32) (l2 : Int32) (l3 : Int32) (l4 : Int32) (S : gh_St) (r : gh_St), kc26 l1 l2 l3 l4 S = some r → gh_T (d + 1) fX2_reachBy 0 0 none false false (26, [(0, .ref 26), (1, .int l1), (2, .int l2), (3, .int l3), (4, .int l4)], [], (gh_mo S, 0, 0)) (none, (gh_mo r, 0, 0))) (l1 : Int32) (l2 : Int32) (l3 : Int32) (l4 : Int32) (S : gh_St) (r : gh_St) (h : sX2_reachBy_57 N kc26 l1 l2 l3 l4 S = some r) : gh_T (d + 1) fX2_reachBy 0 0 none false false (57, [(0, .ref 26), (1, .int l1), (2, .int l2), (3, .int l3), (4, .int l4)], [], (gh_mo S, 0, 0)) (none, (gh_mo r, 0, 0)) := by
  unfold sX2_reachBy_57 at h
  refine gh_T_steps 2 (τ := (26, [(4, .int (l4 + 1)), (0, .ref 26), (1, .int l1), (2, .int l2), (3, .int l3)], [], (gh_mo S, 0, 0))) (fun _ => rfl) ?_
  refine gh_T_weak (lv := [(0, .ref 26), (1, .int l1), (2, .int l2), (3, .int l3), (4, .int (l4 + 1))]) ⟨rfl, rfl, rfl, rfl, rfl, trivial⟩ ?_
  exact hkc26 l1 l2 l3 (l4 + 1) S _ h
def sX2_reachBy_26 (N : Nat) : Nat → Int32 → Int32 → Int32 → Int32 → gh_St → Option (gh_St)
  | 0, _, _, _, _, _ => none
  | n + 1, l1, l2, l3, l4, S =>
    bif gh_cmp .ge l4 12 then
      (some S)
    else
      (bif gh_cmp .eq (l3 >>> (l4 &&& 31)) 0 then
        (some S)
      else
        (bif gh_cmp .eq ((l3 >>> (l4 &&& 31)) &&& (1 : Int32)) 0 then
          (sX2_reachBy_57 N (sX2_reachBy_26 N n) l1 l2 l3 l4 S)
        else
          ((sX2_reach N l4 l1 l2 S).bind fun q1 =>
          sX2_reachBy_57 N (sX2_reachBy_26 N n) l1 l2 l3 l4 q1)))
set_option maxRecDepth 100000 in
theorem kX2_reachBy_26 (d N : Nat) : ∀ (n : Nat) (l1 : Int32) (l2 : Int32) (l3 : Int32) (l4 : Int32) (S : gh_St) (r : gh_St), sX2_reachBy_26 N n l1 l2 l3 l4 S = some r → gh_T (d + 1) fX2_reachBy 0 0 none false false (26, [(0, .ref 26), (1, .int l1), (2, .int l2), (3, .int l3), (4, .int l4)], [], (gh_mo S, 0, 0)) (none, (gh_mo r, 0, 0)) := by
  intro n
  induction n with
  | zero =>
    intro l1 l2 l3 l4 S r h
    cases h
  | succ n ih =>
    intro l1 l2 l3 l4 S r h
    rw [sX2_reachBy_26] at h
    refine gh_T_steps 2 (τ := (30, [(0, .ref 26), (1, .int l1), (2, .int l2), (3, .int l3), (4, .int l4)], [.int 12, .int l4], (gh_mo S, 0, 0))) (fun _ => rfl) ?_
    cases c4 : gh_cmp .ge l4 12 with
    | true =>
      rw [c4, cond_true] at h
      refine gh_T_ic true rfl c4 ?_
      cases h
      exact gh_T_ret (fun _ => rfl)
    | false =>
      rw [c4, cond_false] at h
      refine gh_T_ic false rfl c4 ?_
      refine gh_T_steps 3 (τ := (37, [(0, .ref 26), (1, .int l1), (2, .int l2), (3, .int l3), (4, .int l4)], [.int (l3 >>> (l4 &&& 31))], (gh_mo S, 0, 0))) (fun _ => rfl) ?_
      cases c3 : gh_cmp .eq (l3 >>> (l4 &&& 31)) 0 with
      | true =>
        rw [c3, cond_true] at h
        refine gh_T_if true rfl c3 ?_
        cases h
        exact gh_T_ret (fun _ => rfl)
      | false =>
        rw [c3, cond_false] at h
        refine gh_T_if false rfl c3 ?_
        refine gh_T_steps 5 (τ := (46, [(0, .ref 26), (1, .int l1), (2, .int l2), (3, .int l3), (4, .int l4)], [.int ((l3 >>> (l4 &&& 31)) &&& (1 : Int32))], (gh_mo S, 0, 0))) (fun _ => rfl) ?_
        cases c2 : gh_cmp .eq ((l3 >>> (l4 &&& 31)) &&& (1 : Int32)) 0 with
        | true =>
          rw [c2, cond_true] at h
          refine gh_T_if true rfl c2 ?_
          exact kX2_reachBy_57 d N (sX2_reachBy_26 N n) ih l1 l2 l3 l4 S _ h
        | false =>
          rw [c2, cond_false] at h
          refine gh_T_if false rfl c2 ?_
          refine gh_T_steps 4 (τ := (54, [(0, .ref 26), (1, .int l1), (2, .int l2), (3, .int l3), (4, .int l4)], [.int l2, .int l1, .int l4, .ref 26], (gh_mo S, 0, 0))) (fun _ => rfl) ?_
          obtain ⟨q1, hq1, h⟩ := gh_bi h
          refine gh_T_iv (As := [.int l4, .int l1, .int l2]) (b := 26) (rest := []) (y := none) (M' := gh_mo q1) rfl rfl rfl rfl rfl rfl rfl rfl rfl ⟨Nat.le_refl _, Nat.le_refl _⟩ (kX2_reach d N l4 l1 l2 S q1 hq1) ?_
          exact kX2_reachBy_57 d N (sX2_reachBy_26 N n) ih l1 l2 l3 l4 q1 _ h
def sX2_reachBy (N : Nat) (a1 : Int32) (a2 : Int32) (S : gh_St) : Option (gh_St) :=
  (gh_ra S 31 8 a1).bind fun x1 =>
  (gh_ra S 36 8 a1).bind fun x2 =>
  sX2_reachBy_26 N N a1 a2 ((x1 &&& (x2 ^^^ (-1 : Int32))) &&& ((S.1 26 12) ^^^ (-1 : Int32))) 0 S
set_option maxRecDepth 100000 in
theorem kX2_reachBy_e (d N : Nat) (a1 : Int32) (a2 : Int32) (S : gh_St) (r : gh_St) (h : sX2_reachBy N a1 a2 S = some r) : gh_T (d + 1) fX2_reachBy 0 0 none false false (0, [(0, .ref 26), (1, .int a1), (2, .int a2)], [], (gh_mo S, 0, 0)) (none, (gh_mo r, 0, 0)) := by
  unfold sX2_reachBy at h
  refine gh_T_steps 3 (τ := (5, [(0, .ref 26), (1, .int a1), (2, .int a2)], [.int a1, .ref 31], (gh_mo S, 0, 0))) (fun _ => rfl) ?_
  obtain ⟨x1, hx1, h⟩ := gh_bi h
  refine gh_T_ra rfl rfl hx1 ?_
  refine gh_T_steps 3 (τ := (11, [(0, .ref 26), (1, .int a1), (2, .int a2)], [.int a1, .ref 36, .int x1], (gh_mo S, 0, 0))) (fun _ => rfl) ?_
  obtain ⟨x2, hx2, h⟩ := gh_bi h
  refine gh_T_ra rfl rfl hx2 ?_
  refine gh_T_steps 11 (τ := (26, [(4, .int 0), (3, .int ((x1 &&& (x2 ^^^ (-1 : Int32))) &&& ((S.1 26 12) ^^^ (-1 : Int32)))), (0, .ref 26), (1, .int a1), (2, .int a2)], [], (gh_mo S, 0, 0))) (fun _ => rfl) ?_
  refine gh_T_weak (lv := [(0, .ref 26), (1, .int a1), (2, .int a2), (3, .int ((x1 &&& (x2 ^^^ (-1 : Int32))) &&& ((S.1 26 12) ^^^ (-1 : Int32)))), (4, .int 0)]) ⟨rfl, rfl, rfl, rfl, rfl, trivial⟩ ?_
  exact kX2_reachBy_26 d N N a1 a2 ((x1 &&& (x2 ^^^ (-1 : Int32))) &&& ((S.1 26 12) ^^^ (-1 : Int32))) 0 S _ h
theorem kX2_reachBy (d N : Nat) (a1 : Int32) (a2 : Int32) (S : gh_St) (r : gh_St) (h : sX2_reachBy N a1 a2 S = some r) : gh_Mx (d + 2) 22 [.ref 26, .int a1, .int a2] (gh_mo S) none (gh_mo r) :=
  gh_Mx_of rfl rfl rfl rfl rfl rfl (kX2_reachBy_e d N a1 a2 S r h)

def sX10_truck (N : Nat) (a1 : Int32) (a2 : Int32) (a3 : Int32) (S : gh_St) : Option (Int32 × gh_St) :=
  (sX10_in N ((a1 : Int32).toInt64) 0 999 S).bind fun q1 =>
  bif gh_cmp .eq q1.1 0 then
    (some ((-1), q1.2))
  else
    ((sX10_isKind N a2 q1.2).bind fun q2 =>
    bif gh_cmp .eq q2.1 0 then
      (some ((-1), q2.2))
    else
      ((sX10_in N ((a3 : Int32).toInt64) 1 9 q2.2).bind fun q3 =>
      bif gh_cmp .eq q3.1 0 then
        (some ((-1), q3.2))
      else
        (bif gh_cmp .ne (q3.2.1 56 19) 7 then
          ((gh_wa q3.2 69 7 (q3.2.1 56 19) a1).bind fun S4 =>
          (gh_wa S4 70 7 (S4.1 56 19) a2).bind fun S5 =>
          (gh_wa S5 71 7 (S5.1 56 19) a3).bind fun S6 =>
          some (((gh_fI S6 56 19 ((S6.1 56 19) + (1 : Int32))).1 56 19) - (1 : Int32), gh_fI S6 56 19 ((S6.1 56 19) + (1 : Int32))))
        else
          (some ((-1), q3.2)))))
set_option maxRecDepth 100000 in
theorem kX10_truck_e (d N : Nat) (a1 : Int32) (a2 : Int32) (a3 : Int32) (S : gh_St) (r : Int32 × gh_St) (h : sX10_truck N a1 a2 a3 S = some r) : gh_T (d + 2) fX10_truck 0 0 none false false (0, [(0, .ref 56), (1, .int a1), (2, .int a2), (3, .int a3)], [], (gh_mo S, 0, 0)) (some (.int r.1), (gh_mo r.2, 0, 0)) := by
  unfold sX10_truck at h
  refine gh_T_steps 4 (τ := (6, [(0, .ref 56), (1, .int a1), (2, .int a2), (3, .int a3)], [.long 999, .long 0, .long ((a1 : Int32).toInt64)], (gh_mo S, 0, 0))) (fun _ => rfl) ?_
  obtain ⟨q1, hq1, h⟩ := gh_bi h
  refine gh_T_is (As := [.long ((a1 : Int32).toInt64), .long 0, .long 999]) (rest := []) (y := some (.int q1.1)) (M' := gh_mo q1.2) rfl rfl rfl rfl rfl rfl rfl ⟨Nat.le_refl _, Nat.le_refl _⟩ (kX10_in (d + 1) N ((a1 : Int32).toInt64) 0 999 S q1 hq1) ?_
  cases c10 : gh_cmp .eq q1.1 0 with
  | true =>
    rw [c10, cond_true] at h
    refine gh_T_if true rfl c10 ?_
    refine gh_T_steps 1 (τ := (41, [(0, .ref 56), (1, .int a1), (2, .int a2), (3, .int a3)], [.int ((-1))], (gh_mo q1.2, 0, 0))) (fun _ => rfl) ?_
    cases h
    exact gh_T_ret (fun _ => rfl)
  | false =>
    rw [c10, cond_false] at h
    refine gh_T_if false rfl c10 ?_
    refine gh_T_steps 1 (τ := (13, [(0, .ref 56), (1, .int a1), (2, .int a2), (3, .int a3)], [.int a2], (gh_mo q1.2, 0, 0))) (fun _ => rfl) ?_
    obtain ⟨q2, hq2, h⟩ := gh_bi h
    refine gh_T_is (As := [.int a2]) (rest := []) (y := some (.int q2.1)) (M' := gh_mo q2.2) rfl rfl rfl rfl rfl rfl rfl ⟨Nat.le_refl _, Nat.le_refl _⟩ (kX10_isKind d N a2 q1.2 q2 hq2) ?_
    cases c9 : gh_cmp .eq q2.1 0 with
    | true =>
      rw [c9, cond_true] at h
      refine gh_T_if true rfl c9 ?_
      refine gh_T_steps 1 (τ := (41, [(0, .ref 56), (1, .int a1), (2, .int a2), (3, .int a3)], [.int ((-1))], (gh_mo q2.2, 0, 0))) (fun _ => rfl) ?_
      cases h
      exact gh_T_ret (fun _ => rfl)
    | false =>
      rw [c9, cond_false] at h
      refine gh_T_if false rfl c9 ?_
      refine gh_T_steps 4 (τ := (25, [(0, .ref 56), (1, .int a1), (2, .int a2), (3, .int a3)], [.long 9, .long 1, .long ((a3 : Int32).toInt64)], (gh_mo q2.2, 0, 0))) (fun _ => rfl) ?_
      obtain ⟨q3, hq3, h⟩ := gh_bi h
      refine gh_T_is (As := [.long ((a3 : Int32).toInt64), .long 1, .long 9]) (rest := []) (y := some (.int q3.1)) (M' := gh_mo q3.2) rfl rfl rfl rfl rfl rfl rfl ⟨Nat.le_refl _, Nat.le_refl _⟩ (kX10_in (d + 1) N ((a3 : Int32).toInt64) 1 9 q2.2 q3 hq3) ?_
      cases c8 : gh_cmp .eq q3.1 0 with
      | true =>
        rw [c8, cond_true] at h
        refine gh_T_if true rfl c8 ?_
        refine gh_T_steps 1 (τ := (41, [(0, .ref 56), (1, .int a1), (2, .int a2), (3, .int a3)], [.int ((-1))], (gh_mo q3.2, 0, 0))) (fun _ => rfl) ?_
        cases h
        exact gh_T_ret (fun _ => rfl)
      | false =>
        rw [c8, cond_false] at h
        refine gh_T_if false rfl c8 ?_
        refine gh_T_steps 3 (τ := (37, [(0, .ref 56), (1, .int a1), (2, .int a2), (3, .int a3)], [.int 7, .int (q3.2.1 56 19)], (gh_mo q3.2, 0, 0))) (fun _ => rfl) ?_
        cases c7 : gh_cmp .ne (q3.2.1 56 19) 7 with
        | true =>
          rw [c7, cond_true] at h
          refine gh_T_ic true rfl c7 ?_
          refine gh_T_steps 5 (τ := (51, [(0, .ref 56), (1, .int a1), (2, .int a2), (3, .int a3)], [.int a1, .int (q3.2.1 56 19), .ref 69], (gh_mo q3.2, 0, 0))) (fun _ => rfl) ?_
          obtain ⟨S4, hS4, h⟩ := gh_bi h
          refine gh_T_wa rfl rfl hS4 ?_
          refine gh_T_steps 5 (τ := (61, [(0, .ref 56), (1, .int a1), (2, .int a2), (3, .int a3)], [.int a2, .int (S4.1 56 19), .ref 70], (gh_mo S4, 0, 0))) (fun _ => rfl) ?_
          obtain ⟨S5, hS5, h⟩ := gh_bi h
          refine gh_T_wa rfl rfl hS5 ?_
          refine gh_T_steps 5 (τ := (71, [(0, .ref 56), (1, .int a1), (2, .int a2), (3, .int a3)], [.int a3, .int (S5.1 56 19), .ref 71], (gh_mo S5, 0, 0))) (fun _ => rfl) ?_
          obtain ⟨S6, hS6, h⟩ := gh_bi h
          refine gh_T_wa rfl rfl hS6 ?_
          refine gh_T_steps 10 (τ := (88, [(0, .ref 56), (1, .int a1), (2, .int a2), (3, .int a3)], [.int (((gh_fI S6 56 19 ((S6.1 56 19) + (1 : Int32))).1 56 19) - (1 : Int32))], (gh_mo (gh_fI S6 56 19 ((S6.1 56 19) + (1 : Int32))), 0, 0))) (fun _ => rfl) ?_
          cases h
          exact gh_T_ret (fun _ => rfl)
        | false =>
          rw [c7, cond_false] at h
          refine gh_T_ic false rfl c7 ?_
          refine gh_T_steps 1 (τ := (41, [(0, .ref 56), (1, .int a1), (2, .int a2), (3, .int a3)], [.int ((-1))], (gh_mo q3.2, 0, 0))) (fun _ => rfl) ?_
          cases h
          exact gh_T_ret (fun _ => rfl)
theorem kX10_truck (d N : Nat) (a1 : Int32) (a2 : Int32) (a3 : Int32) (S : gh_St) (r : Int32 × gh_St) (h : sX10_truck N a1 a2 a3 S = some r) : gh_Mx (d + 3) 138 [.ref 56, .int a1, .int a2, .int a3] (gh_mo S) (some (.int r.1)) (gh_mo r.2) :=
  gh_Mx_of rfl rfl rfl rfl rfl rfl (kX10_truck_e d N a1 a2 a3 S r h)
def sX10_pit (N : Nat) (a1 : Int32) (a2 : Int32) (S : gh_St) : Option (Int32 × gh_St) :=
  (sX10_in N ((a1 : Int32).toInt64) 1 60 S).bind fun q1 =>
  bif gh_cmp .eq q1.1 0 then
    (some (0, q1.2))
  else
    ((sX10_in N ((a2 : Int32).toInt64) 0 60 q1.2).bind fun q2 =>
    bif gh_cmp .ne q2.1 0 then
      (some (1, gh_fI (gh_fI q2.2 56 23 a1) 56 24 a2))
    else
      (some (0, q2.2)))
set_option maxRecDepth 100000 in
theorem kX10_pit_e (d N : Nat) (a1 : Int32) (a2 : Int32) (S : gh_St) (r : Int32 × gh_St) (h : sX10_pit N a1 a2 S = some r) : gh_T (d + 1) fX10_pit 0 0 none true false (0, [(0, .ref 56), (1, .int a1), (2, .int a2)], [], (gh_mo S, 0, 0)) (some (.int r.1), (gh_mo r.2, 0, 0)) := by
  unfold sX10_pit at h
  refine gh_T_steps 4 (τ := (6, [(0, .ref 56), (1, .int a1), (2, .int a2)], [.long 60, .long 1, .long ((a1 : Int32).toInt64)], (gh_mo S, 0, 0))) (fun _ => rfl) ?_
  obtain ⟨q1, hq1, h⟩ := gh_bi h
  refine gh_T_is (As := [.long ((a1 : Int32).toInt64), .long 1, .long 60]) (rest := []) (y := some (.int q1.1)) (M' := gh_mo q1.2) rfl rfl rfl rfl rfl rfl rfl ⟨Nat.le_refl _, Nat.le_refl _⟩ (kX10_in d N ((a1 : Int32).toInt64) 1 60 S q1 hq1) ?_
  cases c4 : gh_cmp .eq q1.1 0 with
  | true =>
    rw [c4, cond_true] at h
    refine gh_T_if true rfl c4 ?_
    refine gh_T_steps 1 (τ := (25, [(0, .ref 56), (1, .int a1), (2, .int a2)], [.int 0], (gh_mo q1.2, 0, 0))) (fun _ => rfl) ?_
    cases h
    exact gh_T_ret (fun _ => rfl)
  | false =>
    rw [c4, cond_false] at h
    refine gh_T_if false rfl c4 ?_
    refine gh_T_steps 4 (τ := (18, [(0, .ref 56), (1, .int a1), (2, .int a2)], [.long 60, .long 0, .long ((a2 : Int32).toInt64)], (gh_mo q1.2, 0, 0))) (fun _ => rfl) ?_
    obtain ⟨q2, hq2, h⟩ := gh_bi h
    refine gh_T_is (As := [.long ((a2 : Int32).toInt64), .long 0, .long 60]) (rest := []) (y := some (.int q2.1)) (M' := gh_mo q2.2) rfl rfl rfl rfl rfl rfl rfl ⟨Nat.le_refl _, Nat.le_refl _⟩ (kX10_in d N ((a2 : Int32).toInt64) 0 60 q1.2 q2 hq2) ?_
    cases c3 : gh_cmp .ne q2.1 0 with
    | true =>
      rw [c3, cond_true] at h
      refine gh_T_if true rfl c3 ?_
      refine gh_T_steps 7 (τ := (37, [(0, .ref 56), (1, .int a1), (2, .int a2)], [.int 1], (gh_mo (gh_fI (gh_fI q2.2 56 23 a1) 56 24 a2), 0, 0))) (fun _ => rfl) ?_
      cases h
      exact gh_T_ret (fun _ => rfl)
    | false =>
      rw [c3, cond_false] at h
      refine gh_T_if false rfl c3 ?_
      refine gh_T_steps 1 (τ := (25, [(0, .ref 56), (1, .int a1), (2, .int a2)], [.int 0], (gh_mo q2.2, 0, 0))) (fun _ => rfl) ?_
      cases h
      exact gh_T_ret (fun _ => rfl)
theorem kX10_pit (d N : Nat) (a1 : Int32) (a2 : Int32) (S : gh_St) (r : Int32 × gh_St) (h : sX10_pit N a1 a2 S = some r) : gh_Mx (d + 2) 139 [.ref 56, .int a1, .int a2] (gh_mo S) (some (.int r.1)) (gh_mo r.2) :=
  gh_Mx_of rfl rfl rfl rfl rfl rfl (kX10_pit_e d N a1 a2 S r h)
def sX10_emptyAt_125 (N : Nat) (kc13 : Int32 → Int32 → Int32 → Int32 → Int32 → gh_St → Option (Int32 × gh_St)) (l1 : Int32) (l2 : Int32) (l5 : Int32) (l6 : Int32) (t0 : Int32) (t1 : Int32) (S : gh_St) : Option (Int32 × gh_St) :=
  (gh_ra S 70 7 l6).bind fun x1 =>
  kc13 l1 l2 (t1 + t0) x1 (l5 + 1) S
set_option maxRecDepth 100000 in
theorem kX10_emptyAt_125 (d N : Nat) (kc13 : Int32 → Int32 → Int32 → Int32 → Int32 → gh_St → Option (Int32 × gh_St)) (hkc13 : ∀ (l1 : Int32) (l2 : Int32) (l3 : Int32) (l4 : Int32) (l5 : Int32) (S : gh_St) (r : Int32 × gh_St), kc13 l1 l2 l3 l4 l5 S = some r → gh_T d fX10_emptyAt 0 0 none false false (13, [(0, .ref 56), (1, .int l1), (2, .int l2), (3, .int l3), (4, .int l4), (5, .int l5)], [], (gh_mo S, 0, 0)) (some (.int r.1), (gh_mo r.2, 0, 0))) (l1 : Int32) (l2 : Int32) (l5 : Int32) (l6 : Int32) (t0 : Int32) (t1 : Int32) (S : gh_St) (r : Int32 × gh_St) (h : sX10_emptyAt_125 N kc13 l1 l2 l5 l6 t0 t1 S = some r) : gh_T d fX10_emptyAt 0 0 none false false (125, [(0, .ref 56), (1, .int l1), (2, .int l2), (5, .int l5), (6, .int l6)], [.int t0, .int t1], (gh_mo S, 0, 0)) (some (.int r.1), (gh_mo r.2, 0, 0)) := by
  unfold sX10_emptyAt_125 at h
  refine gh_T_steps 5 (τ := (133, [(3, .int (t1 + t0)), (0, .ref 56), (1, .int l1), (2, .int l2), (5, .int l5), (6, .int l6)], [.int l6, .ref 70], (gh_mo S, 0, 0))) (fun _ => rfl) ?_
  obtain ⟨x1, hx1, h⟩ := gh_bi h
  refine gh_T_ra rfl rfl hx1 ?_
  refine gh_T_steps 3 (τ := (13, [(5, .int (l5 + 1)), (4, .int x1), (3, .int (t1 + t0)), (0, .ref 56), (1, .int l1), (2, .int l2), (6, .int l6)], [], (gh_mo S, 0, 0))) (fun _ => rfl) ?_
  refine gh_T_weak (lv := [(0, .ref 56), (1, .int l1), (2, .int l2), (3, .int (t1 + t0)), (4, .int x1), (5, .int (l5 + 1))]) ⟨rfl, rfl, rfl, rfl, rfl, rfl, trivial⟩ ?_
  exact hkc13 l1 l2 (t1 + t0) x1 (l5 + 1) S _ h
def sX10_emptyAt_124 (N : Nat) (kc13 : Int32 → Int32 → Int32 → Int32 → Int32 → gh_St → Option (Int32 × gh_St)) (l1 : Int32) (l2 : Int32) (l5 : Int32) (l6 : Int32) (t0 : Int32) (S : gh_St) : Option (Int32 × gh_St) :=
  sX10_emptyAt_125 N kc13 l1 l2 l5 l6 0 t0 S
set_option maxRecDepth 100000 in
theorem kX10_emptyAt_124 (d N : Nat) (kc13 : Int32 → Int32 → Int32 → Int32 → Int32 → gh_St → Option (Int32 × gh_St)) (hkc13 : ∀ (l1 : Int32) (l2 : Int32) (l3 : Int32) (l4 : Int32) (l5 : Int32) (S : gh_St) (r : Int32 × gh_St), kc13 l1 l2 l3 l4 l5 S = some r → gh_T d fX10_emptyAt 0 0 none false false (13, [(0, .ref 56), (1, .int l1), (2, .int l2), (3, .int l3), (4, .int l4), (5, .int l5)], [], (gh_mo S, 0, 0)) (some (.int r.1), (gh_mo r.2, 0, 0))) (l1 : Int32) (l2 : Int32) (l5 : Int32) (l6 : Int32) (t0 : Int32) (S : gh_St) (r : Int32 × gh_St) (h : sX10_emptyAt_124 N kc13 l1 l2 l5 l6 t0 S = some r) : gh_T d fX10_emptyAt 0 0 none false false (124, [(0, .ref 56), (1, .int l1), (2, .int l2), (5, .int l5), (6, .int l6)], [.int t0], (gh_mo S, 0, 0)) (some (.int r.1), (gh_mo r.2, 0, 0)) := by
  unfold sX10_emptyAt_124 at h
  refine gh_T_steps 1 (τ := (125, [(0, .ref 56), (1, .int l1), (2, .int l2), (5, .int l5), (6, .int l6)], [.int 0, .int t0], (gh_mo S, 0, 0))) (fun _ => rfl) ?_
  exact kX10_emptyAt_125 d N kc13 hkc13 l1 l2 l5 l6 0 t0 S _ h
def sX10_emptyAt_64 (N : Nat) (kc13 : Int32 → Int32 → Int32 → Int32 → Int32 → gh_St → Option (Int32 × gh_St)) (l1 : Int32) (l2 : Int32) (l4 : Int32) (l5 : Int32) (l6 : Int32) (t0 : Int32) (S : gh_St) : Option (Int32 × gh_St) :=
  (gh_ra S 69 7 l6).bind fun x1 =>
  (gh_ra S 71 7 l6).bind fun x2 =>
  bif gh_cmp .lt l4 0 then
    (sX10_emptyAt_124 N kc13 l1 l2 l5 l6 (t0 + ((gh_fI S 56 52 ((S.1 56 52) + ((t0 - x1) * x2))).1 56 23)) (gh_fI S 56 52 ((S.1 56 52) + ((t0 - x1) * x2))))
  else
    ((gh_ra (gh_fI S 56 52 ((S.1 56 52) + ((t0 - x1) * x2))) 70 7 l6).bind fun x3 =>
    bif gh_cmp .eq l4 x3 then
      (sX10_emptyAt_124 N kc13 l1 l2 l5 l6 (t0 + ((gh_fI S 56 52 ((S.1 56 52) + ((t0 - x1) * x2))).1 56 23)) (gh_fI S 56 52 ((S.1 56 52) + ((t0 - x1) * x2))))
    else
      (sX10_emptyAt_125 N kc13 l1 l2 l5 l6 ((gh_fI S 56 52 ((S.1 56 52) + ((t0 - x1) * x2))).1 56 24) (t0 + ((gh_fI S 56 52 ((S.1 56 52) + ((t0 - x1) * x2))).1 56 23)) (gh_fI S 56 52 ((S.1 56 52) + ((t0 - x1) * x2)))))
set_option maxRecDepth 100000 in
theorem kX10_emptyAt_64 (d N : Nat) (kc13 : Int32 → Int32 → Int32 → Int32 → Int32 → gh_St → Option (Int32 × gh_St)) (hkc13 : ∀ (l1 : Int32) (l2 : Int32) (l3 : Int32) (l4 : Int32) (l5 : Int32) (S : gh_St) (r : Int32 × gh_St), kc13 l1 l2 l3 l4 l5 S = some r → gh_T d fX10_emptyAt 0 0 none false false (13, [(0, .ref 56), (1, .int l1), (2, .int l2), (3, .int l3), (4, .int l4), (5, .int l5)], [], (gh_mo S, 0, 0)) (some (.int r.1), (gh_mo r.2, 0, 0))) (l1 : Int32) (l2 : Int32) (l4 : Int32) (l5 : Int32) (l6 : Int32) (t0 : Int32) (S : gh_St) (r : Int32 × gh_St) (h : sX10_emptyAt_64 N kc13 l1 l2 l4 l5 l6 t0 S = some r) : gh_T d fX10_emptyAt 0 0 none false false (64, [(0, .ref 56), (1, .int l1), (2, .int l2), (4, .int l4), (5, .int l5), (6, .int l6)], [.int t0], (gh_mo S, 0, 0)) (some (.int r.1), (gh_mo r.2, 0, 0)) := by
  unfold sX10_emptyAt_64 at h
  refine gh_T_steps 8 (τ := (79, [(7, .int t0), (0, .ref 56), (1, .int l1), (2, .int l2), (4, .int l4), (5, .int l5), (6, .int l6)], [.int l6, .ref 69, .int t0, .int (S.1 56 52), .ref 56], (gh_mo S, 0, 0))) (fun _ => rfl) ?_
  obtain ⟨x1, hx1, h⟩ := gh_bi h
  refine gh_T_ra rfl rfl hx1 ?_
  refine gh_T_steps 4 (τ := (87, [(7, .int t0), (0, .ref 56), (1, .int l1), (2, .int l2), (4, .int l4), (5, .int l5), (6, .int l6)], [.int l6, .ref 71, .int (t0 - x1), .int (S.1 56 52), .ref 56], (gh_mo S, 0, 0))) (fun _ => rfl) ?_
  obtain ⟨x2, hx2, h⟩ := gh_bi h
  refine gh_T_ra rfl rfl hx2 ?_
  refine gh_T_steps 8 (τ := (102, [(7, .int t0), (0, .ref 56), (1, .int l1), (2, .int l2), (4, .int l4), (5, .int l5), (6, .int l6)], [.int l4, .int (t0 + ((gh_fI S 56 52 ((S.1 56 52) + ((t0 - x1) * x2))).1 56 23))], (gh_mo (gh_fI S 56 52 ((S.1 56 52) + ((t0 - x1) * x2))), 0, 0))) (fun _ => rfl) ?_
  cases c5 : gh_cmp .lt l4 0 with
  | true =>
    rw [c5, cond_true] at h
    refine gh_T_if true rfl c5 ?_
    refine gh_T_weak (lv := [(0, .ref 56), (1, .int l1), (2, .int l2), (5, .int l5), (6, .int l6)]) ⟨rfl, rfl, rfl, rfl, rfl, trivial⟩ ?_
    exact kX10_emptyAt_124 d N kc13 hkc13 l1 l2 l5 l6 (t0 + ((gh_fI S 56 52 ((S.1 56 52) + ((t0 - x1) * x2))).1 56 23)) (gh_fI S 56 52 ((S.1 56 52) + ((t0 - x1) * x2))) _ h
  | false =>
    rw [c5, cond_false] at h
    refine gh_T_if false rfl c5 ?_
    refine gh_T_steps 4 (τ := (113, [(7, .int t0), (0, .ref 56), (1, .int l1), (2, .int l2), (4, .int l4), (5, .int l5), (6, .int l6)], [.int l6, .ref 70, .int l4, .int (t0 + ((gh_fI S 56 52 ((S.1 56 52) + ((t0 - x1) * x2))).1 56 23))], (gh_mo (gh_fI S 56 52 ((S.1 56 52) + ((t0 - x1) * x2))), 0, 0))) (fun _ => rfl) ?_
    obtain ⟨x3, hx3, h⟩ := gh_bi h
    refine gh_T_ra rfl rfl hx3 ?_
    cases c4 : gh_cmp .eq l4 x3 with
    | true =>
      rw [c4, cond_true] at h
      refine gh_T_ic true rfl c4 ?_
      refine gh_T_weak (lv := [(0, .ref 56), (1, .int l1), (2, .int l2), (5, .int l5), (6, .int l6)]) ⟨rfl, rfl, rfl, rfl, rfl, trivial⟩ ?_
      exact kX10_emptyAt_124 d N kc13 hkc13 l1 l2 l5 l6 (t0 + ((gh_fI S 56 52 ((S.1 56 52) + ((t0 - x1) * x2))).1 56 23)) (gh_fI S 56 52 ((S.1 56 52) + ((t0 - x1) * x2))) _ h
    | false =>
      rw [c4, cond_false] at h
      refine gh_T_ic false rfl c4 ?_
      refine gh_T_steps 3 (τ := (125, [(7, .int t0), (0, .ref 56), (1, .int l1), (2, .int l2), (4, .int l4), (5, .int l5), (6, .int l6)], [.int ((gh_fI S 56 52 ((S.1 56 52) + ((t0 - x1) * x2))).1 56 24), .int (t0 + ((gh_fI S 56 52 ((S.1 56 52) + ((t0 - x1) * x2))).1 56 23))], (gh_mo (gh_fI S 56 52 ((S.1 56 52) + ((t0 - x1) * x2))), 0, 0))) (fun _ => rfl) ?_
      refine gh_T_weak (lv := [(0, .ref 56), (1, .int l1), (2, .int l2), (5, .int l5), (6, .int l6)]) ⟨rfl, rfl, rfl, rfl, rfl, trivial⟩ ?_
      exact kX10_emptyAt_125 d N kc13 hkc13 l1 l2 l5 l6 ((gh_fI S 56 52 ((S.1 56 52) + ((t0 - x1) * x2))).1 56 24) (t0 + ((gh_fI S 56 52 ((S.1 56 52) + ((t0 - x1) * x2))).1 56 23)) (gh_fI S 56 52 ((S.1 56 52) + ((t0 - x1) * x2))) _ h
def sX10_emptyAt_40 (N : Nat) (kc13 : Int32 → Int32 → Int32 → Int32 → Int32 → gh_St → Option (Int32 × gh_St)) (l1 : Int32) (l2 : Int32) (l3 : Int32) (l4 : Int32) (l5 : Int32) (t0 : Int32) (S : gh_St) : Option (Int32 × gh_St) :=
  (gh_ra S 69 7 t0).bind fun x1 =>
  bif gh_cmp .le x1 l3 then
    (sX10_emptyAt_64 N kc13 l1 l2 l4 l5 t0 l3 S)
  else
    ((gh_ra S 69 7 t0).bind fun x2 =>
    sX10_emptyAt_64 N kc13 l1 l2 l4 l5 t0 x2 S)
set_option maxRecDepth 100000 in
theorem kX10_emptyAt_40 (d N : Nat) (kc13 : Int32 → Int32 → Int32 → Int32 → Int32 → gh_St → Option (Int32 × gh_St)) (hkc13 : ∀ (l1 : Int32) (l2 : Int32) (l3 : Int32) (l4 : Int32) (l5 : Int32) (S : gh_St) (r : Int32 × gh_St), kc13 l1 l2 l3 l4 l5 S = some r → gh_T d fX10_emptyAt 0 0 none false false (13, [(0, .ref 56), (1, .int l1), (2, .int l2), (3, .int l3), (4, .int l4), (5, .int l5)], [], (gh_mo S, 0, 0)) (some (.int r.1), (gh_mo r.2, 0, 0))) (l1 : Int32) (l2 : Int32) (l3 : Int32) (l4 : Int32) (l5 : Int32) (t0 : Int32) (S : gh_St) (r : Int32 × gh_St) (h : sX10_emptyAt_40 N kc13 l1 l2 l3 l4 l5 t0 S = some r) : gh_T d fX10_emptyAt 0 0 none false false (40, [(0, .ref 56), (1, .int l1), (2, .int l2), (3, .int l3), (4, .int l4), (5, .int l5)], [.int t0], (gh_mo S, 0, 0)) (some (.int r.1), (gh_mo r.2, 0, 0)) := by
  unfold sX10_emptyAt_40 at h
  refine gh_T_steps 4 (τ := (48, [(6, .int t0), (0, .ref 56), (1, .int l1), (2, .int l2), (3, .int l3), (4, .int l4), (5, .int l5)], [.int t0, .ref 69], (gh_mo S, 0, 0))) (fun _ => rfl) ?_
  obtain ⟨x1, hx1, h⟩ := gh_bi h
  refine gh_T_ra rfl rfl hx1 ?_
  refine gh_T_steps 1 (τ := (50, [(6, .int t0), (0, .ref 56), (1, .int l1), (2, .int l2), (3, .int l3), (4, .int l4), (5, .int l5)], [.int l3, .int x1], (gh_mo S, 0, 0))) (fun _ => rfl) ?_
  cases c3 : gh_cmp .le x1 l3 with
  | true =>
    rw [c3, cond_true] at h
    refine gh_T_ic true rfl c3 ?_
    refine gh_T_steps 1 (τ := (64, [(6, .int t0), (0, .ref 56), (1, .int l1), (2, .int l2), (3, .int l3), (4, .int l4), (5, .int l5)], [.int l3], (gh_mo S, 0, 0))) (fun _ => rfl) ?_
    refine gh_T_weak (lv := [(0, .ref 56), (1, .int l1), (2, .int l2), (4, .int l4), (5, .int l5), (6, .int t0)]) ⟨rfl, rfl, rfl, rfl, rfl, rfl, trivial⟩ ?_
    exact kX10_emptyAt_64 d N kc13 hkc13 l1 l2 l4 l5 t0 l3 S _ h
  | false =>
    rw [c3, cond_false] at h
    refine gh_T_ic false rfl c3 ?_
    refine gh_T_steps 3 (τ := (59, [(6, .int t0), (0, .ref 56), (1, .int l1), (2, .int l2), (3, .int l3), (4, .int l4), (5, .int l5)], [.int t0, .ref 69], (gh_mo S, 0, 0))) (fun _ => rfl) ?_
    obtain ⟨x2, hx2, h⟩ := gh_bi h
    refine gh_T_ra rfl rfl hx2 ?_
    refine gh_T_steps 1 (τ := (64, [(6, .int t0), (0, .ref 56), (1, .int l1), (2, .int l2), (3, .int l3), (4, .int l4), (5, .int l5)], [.int x2], (gh_mo S, 0, 0))) (fun _ => rfl) ?_
    refine gh_T_weak (lv := [(0, .ref 56), (1, .int l1), (2, .int l2), (4, .int l4), (5, .int l5), (6, .int t0)]) ⟨rfl, rfl, rfl, rfl, rfl, rfl, trivial⟩ ?_
    exact kX10_emptyAt_64 d N kc13 hkc13 l1 l2 l4 l5 t0 x2 S _ h
def sX10_emptyAt_13 (N : Nat) : Nat → Int32 → Int32 → Int32 → Int32 → Int32 → gh_St → Option (Int32 × gh_St)
  | 0, _, _, _, _, _, _ => none
  | n + 1, l1, l2, l3, l4, l5, S =>
    bif gh_cmp .gt l5 l1 then
      (some (l3, S))
    else
      (bif gh_cmp .eq l2 0 then
        ((gh_ra S 85 7 l5).bind fun x1 =>
        (gh_ra S 69 7 x1).bind fun x2 =>
        bif gh_cmp .le x2 l3 then
          (sX10_emptyAt_64 N (sX10_emptyAt_13 N n) l1 l2 l4 l5 x1 l3 S)
        else
          ((gh_ra S 69 7 x1).bind fun x3 =>
          sX10_emptyAt_64 N (sX10_emptyAt_13 N n) l1 l2 l4 l5 x1 x3 S))
      else
        ((gh_ra S 86 7 l5).bind fun x5 =>
        sX10_emptyAt_40 N (sX10_emptyAt_13 N n) l1 l2 l3 l4 l5 x5 S))
set_option maxRecDepth 100000 in
theorem kX10_emptyAt_13 (d N : Nat) : ∀ (n : Nat) (l1 : Int32) (l2 : Int32) (l3 : Int32) (l4 : Int32) (l5 : Int32) (S : gh_St) (r : Int32 × gh_St), sX10_emptyAt_13 N n l1 l2 l3 l4 l5 S = some r → gh_T d fX10_emptyAt 0 0 none false false (13, [(0, .ref 56), (1, .int l1), (2, .int l2), (3, .int l3), (4, .int l4), (5, .int l5)], [], (gh_mo S, 0, 0)) (some (.int r.1), (gh_mo r.2, 0, 0)) := by
  intro n
  induction n with
  | zero =>
    intro l1 l2 l3 l4 l5 S r h
    cases h
  | succ n ih =>
    intro l1 l2 l3 l4 l5 S r h
    rw [sX10_emptyAt_13] at h
    refine gh_T_steps 2 (τ := (16, [(0, .ref 56), (1, .int l1), (2, .int l2), (3, .int l3), (4, .int l4), (5, .int l5)], [.int l1, .int l5], (gh_mo S, 0, 0))) (fun _ => rfl) ?_
    cases c7 : gh_cmp .gt l5 l1 with
    | true =>
      rw [c7, cond_true] at h
      refine gh_T_ic true rfl c7 ?_
      refine gh_T_steps 1 (τ := (143, [(0, .ref 56), (1, .int l1), (2, .int l2), (3, .int l3), (4, .int l4), (5, .int l5)], [.int l3], (gh_mo S, 0, 0))) (fun _ => rfl) ?_
      cases h
      exact gh_T_ret (fun _ => rfl)
    | false =>
      rw [c7, cond_false] at h
      refine gh_T_ic false rfl c7 ?_
      refine gh_T_steps 1 (τ := (20, [(0, .ref 56), (1, .int l1), (2, .int l2), (3, .int l3), (4, .int l4), (5, .int l5)], [.int l2], (gh_mo S, 0, 0))) (fun _ => rfl) ?_
      cases c6 : gh_cmp .eq l2 0 with
      | true =>
        rw [c6, cond_true] at h
        refine gh_T_if true rfl c6 ?_
        refine gh_T_steps 3 (τ := (39, [(0, .ref 56), (1, .int l1), (2, .int l2), (3, .int l3), (4, .int l4), (5, .int l5)], [.int l5, .ref 85], (gh_mo S, 0, 0))) (fun _ => rfl) ?_
        obtain ⟨x1, hx1, h⟩ := gh_bi h
        refine gh_T_ra rfl rfl hx1 ?_
        refine gh_T_steps 4 (τ := (48, [(6, .int x1), (0, .ref 56), (1, .int l1), (2, .int l2), (3, .int l3), (4, .int l4), (5, .int l5)], [.int x1, .ref 69], (gh_mo S, 0, 0))) (fun _ => rfl) ?_
        obtain ⟨x2, hx2, h⟩ := gh_bi h
        refine gh_T_ra rfl rfl hx2 ?_
        refine gh_T_steps 1 (τ := (50, [(6, .int x1), (0, .ref 56), (1, .int l1), (2, .int l2), (3, .int l3), (4, .int l4), (5, .int l5)], [.int l3, .int x2], (gh_mo S, 0, 0))) (fun _ => rfl) ?_
        cases c4 : gh_cmp .le x2 l3 with
        | true =>
          rw [c4, cond_true] at h
          refine gh_T_ic true rfl c4 ?_
          refine gh_T_steps 1 (τ := (64, [(6, .int x1), (0, .ref 56), (1, .int l1), (2, .int l2), (3, .int l3), (4, .int l4), (5, .int l5)], [.int l3], (gh_mo S, 0, 0))) (fun _ => rfl) ?_
          refine gh_T_weak (lv := [(0, .ref 56), (1, .int l1), (2, .int l2), (4, .int l4), (5, .int l5), (6, .int x1)]) ⟨rfl, rfl, rfl, rfl, rfl, rfl, trivial⟩ ?_
          exact kX10_emptyAt_64 d N (sX10_emptyAt_13 N n) ih l1 l2 l4 l5 x1 l3 S _ h
        | false =>
          rw [c4, cond_false] at h
          refine gh_T_ic false rfl c4 ?_
          refine gh_T_steps 3 (τ := (59, [(6, .int x1), (0, .ref 56), (1, .int l1), (2, .int l2), (3, .int l3), (4, .int l4), (5, .int l5)], [.int x1, .ref 69], (gh_mo S, 0, 0))) (fun _ => rfl) ?_
          obtain ⟨x3, hx3, h⟩ := gh_bi h
          refine gh_T_ra rfl rfl hx3 ?_
          refine gh_T_steps 1 (τ := (64, [(6, .int x1), (0, .ref 56), (1, .int l1), (2, .int l2), (3, .int l3), (4, .int l4), (5, .int l5)], [.int x3], (gh_mo S, 0, 0))) (fun _ => rfl) ?_
          refine gh_T_weak (lv := [(0, .ref 56), (1, .int l1), (2, .int l2), (4, .int l4), (5, .int l5), (6, .int x1)]) ⟨rfl, rfl, rfl, rfl, rfl, rfl, trivial⟩ ?_
          exact kX10_emptyAt_64 d N (sX10_emptyAt_13 N n) ih l1 l2 l4 l5 x1 x3 S _ h
      | false =>
        rw [c6, cond_false] at h
        refine gh_T_if false rfl c6 ?_
        refine gh_T_steps 3 (τ := (29, [(0, .ref 56), (1, .int l1), (2, .int l2), (3, .int l3), (4, .int l4), (5, .int l5)], [.int l5, .ref 86], (gh_mo S, 0, 0))) (fun _ => rfl) ?_
        obtain ⟨x5, hx5, h⟩ := gh_bi h
        refine gh_T_ra rfl rfl hx5 ?_
        refine gh_T_steps 1 (τ := (40, [(0, .ref 56), (1, .int l1), (2, .int l2), (3, .int l3), (4, .int l4), (5, .int l5)], [.int x5], (gh_mo S, 0, 0))) (fun _ => rfl) ?_
        exact kX10_emptyAt_40 d N (sX10_emptyAt_13 N n) ih l1 l2 l3 l4 l5 x5 S _ h
def sX10_emptyAt (N : Nat) (a1 : Int32) (a2 : Int32) (S : gh_St) : Option (Int32 × gh_St) :=
  sX10_emptyAt_13 N N a1 a2 0 ((-1)) 0 (gh_fI S 56 52 0)
set_option maxRecDepth 100000 in
theorem kX10_emptyAt_e (d N : Nat) (a1 : Int32) (a2 : Int32) (S : gh_St) (r : Int32 × gh_St) (h : sX10_emptyAt N a1 a2 S = some r) : gh_T d fX10_emptyAt 0 0 none false false (0, [(0, .ref 56), (1, .int a1), (2, .int a2)], [], (gh_mo S, 0, 0)) (some (.int r.1), (gh_mo r.2, 0, 0)) := by
  unfold sX10_emptyAt at h
  refine gh_T_steps 9 (τ := (13, [(5, .int 0), (4, .int ((-1))), (3, .int 0), (0, .ref 56), (1, .int a1), (2, .int a2)], [], (gh_mo (gh_fI S 56 52 0), 0, 0))) (fun _ => rfl) ?_
  refine gh_T_weak (lv := [(0, .ref 56), (1, .int a1), (2, .int a2), (3, .int 0), (4, .int ((-1))), (5, .int 0)]) ⟨rfl, rfl, rfl, rfl, rfl, rfl, trivial⟩ ?_
  exact kX10_emptyAt_13 d N N a1 a2 0 ((-1)) 0 (gh_fI S 56 52 0) _ h
theorem kX10_emptyAt (d N : Nat) (a1 : Int32) (a2 : Int32) (S : gh_St) (r : Int32 × gh_St) (h : sX10_emptyAt N a1 a2 S = some r) : gh_Mx (d + 1) 140 [.ref 56, .int a1, .int a2] (gh_mo S) (some (.int r.1)) (gh_mo r.2) :=
  gh_Mx_of rfl rfl rfl rfl rfl rfl (kX10_emptyAt_e d N a1 a2 S r h)
def sX10_swaps (N : Nat) (a1 : Int32) (a2 : Int32) (S : gh_St) : Option (gh_St) :=
  (gh_ra S 85 7 a1).bind fun x1 =>
  (gh_ra S 85 7 a2).bind fun x2 =>
  (gh_wa S 85 7 a1 x2).bind fun S3 =>
  (gh_wa S3 85 7 a2 x1).bind fun S4 =>
  some S4
set_option maxRecDepth 100000 in
theorem kX10_swaps_e (d N : Nat) (a1 : Int32) (a2 : Int32) (S : gh_St) (r : gh_St) (h : sX10_swaps N a1 a2 S = some r) : gh_T d fX10_swaps 0 0 none false false (0, [(0, .ref 56), (1, .int a1), (2, .int a2)], [], (gh_mo S, 0, 0)) (none, (gh_mo r, 0, 0)) := by
  unfold sX10_swaps at h
  refine gh_T_steps 3 (τ := (5, [(0, .ref 56), (1, .int a1), (2, .int a2)], [.int a1, .ref 85], (gh_mo S, 0, 0))) (fun _ => rfl) ?_
  obtain ⟨x1, hx1, h⟩ := gh_bi h
  refine gh_T_ra rfl rfl hx1 ?_
  refine gh_T_steps 7 (τ := (17, [(3, .int x1), (0, .ref 56), (1, .int a1), (2, .int a2)], [.int a2, .ref 85, .int a1, .ref 85], (gh_mo S, 0, 0))) (fun _ => rfl) ?_
  obtain ⟨x2, hx2, h⟩ := gh_bi h
  refine gh_T_ra rfl rfl hx2 ?_
  obtain ⟨S3, hS3, h⟩ := gh_bi h
  refine gh_T_wa rfl rfl hS3 ?_
  refine gh_T_steps 4 (τ := (25, [(3, .int x1), (0, .ref 56), (1, .int a1), (2, .int a2)], [.int x1, .int a2, .ref 85], (gh_mo S3, 0, 0))) (fun _ => rfl) ?_
  obtain ⟨S4, hS4, h⟩ := gh_bi h
  refine gh_T_wa rfl rfl hS4 ?_
  cases h
  exact gh_T_ret (fun _ => rfl)
theorem kX10_swaps (d N : Nat) (a1 : Int32) (a2 : Int32) (S : gh_St) (r : gh_St) (h : sX10_swaps N a1 a2 S = some r) : gh_Mx (d + 1) 142 [.ref 56, .int a1, .int a2] (gh_mo S) none (gh_mo r) :=
  gh_Mx_of rfl rfl rfl rfl rfl rfl (kX10_swaps_e d N a1 a2 S r h)
def sX10_gone (N : Nat) (S : gh_St) : Option (Int32 × gh_St) :=
  some (S.1 56 19, gh_fI S 56 19 0)
set_option maxRecDepth 100000 in
theorem kX10_gone_e (d N : Nat) (S : gh_St) (r : Int32 × gh_St) (h : sX10_gone N S = some r) : gh_T d fX10_gone 0 0 none false false (0, [(0, .ref 56)], [], (gh_mo S, 0, 0)) (some (.int r.1), (gh_mo r.2, 0, 0)) := by
  unfold sX10_gone at h
  refine gh_T_steps 7 (τ := (11, [(1, .int (S.1 56 19)), (0, .ref 56)], [.int (S.1 56 19)], (gh_mo (gh_fI S 56 19 0), 0, 0))) (fun _ => rfl) ?_
  cases h
  exact gh_T_ret (fun _ => rfl)
theorem kX10_gone (d N : Nat) (S : gh_St) (r : Int32 × gh_St) (h : sX10_gone N S = some r) : gh_Mx (d + 1) 145 [.ref 56] (gh_mo S) (some (.int r.1)) (gh_mo r.2) :=
  gh_Mx_of rfl rfl rfl rfl rfl rfl (kX10_gone_e d N S r h)
def sX10_hour (N : Nat) (a1 : Int32) (a2 : Int32) (a3 : Int32) (S : gh_St) : Option (Int32 × gh_St) :=
  (sX10_in N ((a1 : Int32).toInt64) 0 11 S).bind fun q1 =>
  bif gh_cmp .eq q1.1 0 then
    (some (0, q1.2))
  else
    ((sX10_in N ((a3 : Int32).toInt64) 0 99 q1.2).bind fun q2 =>
    bif gh_cmp .ne q2.1 0 then
      ((gh_wa q2.2 72 12 a1 (vp_nar .boolean a2)).bind fun S3 =>
      (gh_wa S3 73 12 a1 a3).bind fun S4 =>
      some (1, S4))
    else
      (some (0, q2.2)))
set_option maxRecDepth 100000 in
theorem kX10_hour_e (d N : Nat) (a1 : Int32) (a2 : Int32) (a3 : Int32) (S : gh_St) (r : Int32 × gh_St) (h : sX10_hour N a1 a2 a3 S = some r) : gh_T (d + 1) fX10_hour 0 0 none true false (0, [(0, .ref 56), (1, .int a1), (2, .int a2), (3, .int a3)], [], (gh_mo S, 0, 0)) (some (.int r.1), (gh_mo r.2, 0, 0)) := by
  unfold sX10_hour at h
  refine gh_T_steps 4 (τ := (6, [(0, .ref 56), (1, .int a1), (2, .int a2), (3, .int a3)], [.long 11, .long 0, .long ((a1 : Int32).toInt64)], (gh_mo S, 0, 0))) (fun _ => rfl) ?_
  obtain ⟨q1, hq1, h⟩ := gh_bi h
  refine gh_T_is (As := [.long ((a1 : Int32).toInt64), .long 0, .long 11]) (rest := []) (y := some (.int q1.1)) (M' := gh_mo q1.2) rfl rfl rfl rfl rfl rfl rfl ⟨Nat.le_refl _, Nat.le_refl _⟩ (kX10_in d N ((a1 : Int32).toInt64) 0 11 S q1 hq1) ?_
  cases c6 : gh_cmp .eq q1.1 0 with
  | true =>
    rw [c6, cond_true] at h
    refine gh_T_if true rfl c6 ?_
    refine gh_T_steps 1 (τ := (25, [(0, .ref 56), (1, .int a1), (2, .int a2), (3, .int a3)], [.int 0], (gh_mo q1.2, 0, 0))) (fun _ => rfl) ?_
    cases h
    exact gh_T_ret (fun _ => rfl)
  | false =>
    rw [c6, cond_false] at h
    refine gh_T_if false rfl c6 ?_
    refine gh_T_steps 4 (τ := (18, [(0, .ref 56), (1, .int a1), (2, .int a2), (3, .int a3)], [.long 99, .long 0, .long ((a3 : Int32).toInt64)], (gh_mo q1.2, 0, 0))) (fun _ => rfl) ?_
    obtain ⟨q2, hq2, h⟩ := gh_bi h
    refine gh_T_is (As := [.long ((a3 : Int32).toInt64), .long 0, .long 99]) (rest := []) (y := some (.int q2.1)) (M' := gh_mo q2.2) rfl rfl rfl rfl rfl rfl rfl ⟨Nat.le_refl _, Nat.le_refl _⟩ (kX10_in d N ((a3 : Int32).toInt64) 0 99 q1.2 q2 hq2) ?_
    cases c5 : gh_cmp .ne q2.1 0 with
    | true =>
      rw [c5, cond_true] at h
      refine gh_T_if true rfl c5 ?_
      refine gh_T_steps 4 (τ := (32, [(0, .ref 56), (1, .int a1), (2, .int a2), (3, .int a3)], [.int a2, .int a1, .ref 72], (gh_mo q2.2, 0, 0))) (fun _ => rfl) ?_
      obtain ⟨S3, hS3, h⟩ := gh_bi h
      refine gh_T_wz rfl rfl hS3 ?_
      refine gh_T_steps 4 (τ := (39, [(0, .ref 56), (1, .int a1), (2, .int a2), (3, .int a3)], [.int a3, .int a1, .ref 73], (gh_mo S3, 0, 0))) (fun _ => rfl) ?_
      obtain ⟨S4, hS4, h⟩ := gh_bi h
      refine gh_T_wa rfl rfl hS4 ?_
      refine gh_T_steps 1 (τ := (41, [(0, .ref 56), (1, .int a1), (2, .int a2), (3, .int a3)], [.int 1], (gh_mo S4, 0, 0))) (fun _ => rfl) ?_
      cases h
      exact gh_T_ret (fun _ => rfl)
    | false =>
      rw [c5, cond_false] at h
      refine gh_T_if false rfl c5 ?_
      refine gh_T_steps 1 (τ := (25, [(0, .ref 56), (1, .int a1), (2, .int a2), (3, .int a3)], [.int 0], (gh_mo q2.2, 0, 0))) (fun _ => rfl) ?_
      cases h
      exact gh_T_ret (fun _ => rfl)
theorem kX10_hour (d N : Nat) (a1 : Int32) (a2 : Int32) (a3 : Int32) (S : gh_St) (r : Int32 × gh_St) (h : sX10_hour N a1 a2 a3 S = some r) : gh_Mx (d + 2) 146 [.ref 56, .int a1, .int a2, .int a3] (gh_mo S) (some (.int r.1)) (gh_mo r.2) :=
  gh_Mx_of rfl rfl rfl rfl rfl rfl (kX10_hour_e d N a1 a2 a3 S r h)
def sX10_needs_26 (N : Nat) (l2 : Int32) (t0 : Int32) (S : gh_St) : Option (Int32 × gh_St) :=
  (sX10_in N ((l2 : Int32).toInt64) 1 8 (gh_fI S 56 29 t0)).bind fun q1 =>
  (gh_gB q1.1).bind fun x2 => some (x2, q1.2)
set_option maxRecDepth 100000 in
theorem kX10_needs_26 (d N : Nat) (l2 : Int32) (t0 : Int32) (S : gh_St) (r : Int32 × gh_St) (h : sX10_needs_26 N l2 t0 S = some r) : gh_T (d + 2) fX10_needs 0 0 none true false (26, [(2, .int l2)], [.int t0, .ref 56], (gh_mo S, 0, 0)) (some (.int r.1), (gh_mo r.2, 0, 0)) := by
  unfold sX10_needs_26 at h
  refine gh_T_steps 5 (τ := (35, [(2, .int l2)], [.long 8, .long 1, .long ((l2 : Int32).toInt64)], (gh_mo (gh_fI S 56 29 t0), 0, 0))) (fun _ => rfl) ?_
  obtain ⟨q1, hq1, h⟩ := gh_bi h
  refine gh_T_is (As := [.long ((l2 : Int32).toInt64), .long 1, .long 8]) (rest := []) (y := some (.int q1.1)) (M' := gh_mo q1.2) rfl rfl rfl rfl rfl rfl rfl ⟨Nat.le_refl _, Nat.le_refl _⟩ (kX10_in (d + 1) N ((l2 : Int32).toInt64) 1 8 (gh_fI S 56 29 t0) q1 hq1) ?_
  obtain ⟨x2, hx2, h⟩ := gh_bi h
  obtain ⟨hz, rfl⟩ := gh_bs hx2
  cases h
  exact gh_T_rz rfl hz
def sX10_needs (N : Nat) (a1 : Int32) (a2 : Int32) (a3 : Int32) (S : gh_St) : Option (Int32 × gh_St) :=
  bif gh_cmp .ne a1 ((-1)) then
    ((sX10_isBin N a1 S).bind fun q1 =>
    bif gh_cmp .eq q1.1 0 then
      (some (0, q1.2))
    else
      ((sX10_in N ((a2 : Int32).toInt64) 0 12 q1.2).bind fun q2 =>
      bif gh_cmp .eq q2.1 0 then
        (some (0, q2.2))
      else
        ((sX10_in N ((a3 : Int32).toInt64) 0 12 q2.2).bind fun q3 =>
        bif gh_cmp .ne q3.1 0 then
          ((gh_wa q3.2 74 8 a1 a2).bind fun S4 =>
          (gh_wa S4 75 8 a1 a3).bind fun S5 =>
          some (1, S5))
        else
          (some (0, q3.2)))))
  else
    ((sX10_in N ((a2 : Int32).toInt64) 1 8 S).bind fun q9 =>
    bif gh_cmp .eq q9.1 0 then
      (sX10_needs_26 N a2 (q9.2.1 56 29) q9.2)
    else
      (sX10_needs_26 N a2 a2 q9.2))
set_option maxRecDepth 100000 in
theorem kX10_needs_e (d N : Nat) (a1 : Int32) (a2 : Int32) (a3 : Int32) (S : gh_St) (r : Int32 × gh_St) (h : sX10_needs N a1 a2 a3 S = some r) : gh_T (d + 2) fX10_needs 0 0 none true false (0, [(0, .ref 56), (1, .int a1), (2, .int a2), (3, .int a3)], [], (gh_mo S, 0, 0)) (some (.int r.1), (gh_mo r.2, 0, 0)) := by
  unfold sX10_needs at h
  refine gh_T_steps 2 (τ := (2, [(0, .ref 56), (1, .int a1), (2, .int a2), (3, .int a3)], [.int ((-1)), .int a1], (gh_mo S, 0, 0))) (fun _ => rfl) ?_
  cases c11 : gh_cmp .ne a1 ((-1)) with
  | true =>
    rw [c11, cond_true] at h
    refine gh_T_ic true rfl c11 ?_
    refine gh_T_steps 1 (τ := (40, [(0, .ref 56), (1, .int a1), (2, .int a2), (3, .int a3)], [.int a1], (gh_mo S, 0, 0))) (fun _ => rfl) ?_
    obtain ⟨q1, hq1, h⟩ := gh_bi h
    refine gh_T_is (As := [.int a1]) (rest := []) (y := some (.int q1.1)) (M' := gh_mo q1.2) rfl rfl rfl rfl rfl rfl rfl ⟨Nat.le_refl _, Nat.le_refl _⟩ (kX10_isBin d N a1 S q1 hq1) ?_
    cases c8 : gh_cmp .eq q1.1 0 with
    | true =>
      rw [c8, cond_true] at h
      refine gh_T_if true rfl c8 ?_
      refine gh_T_steps 1 (τ := (71, [(0, .ref 56), (1, .int a1), (2, .int a2), (3, .int a3)], [.int 0], (gh_mo q1.2, 0, 0))) (fun _ => rfl) ?_
      cases h
      exact gh_T_ret (fun _ => rfl)
    | false =>
      rw [c8, cond_false] at h
      refine gh_T_if false rfl c8 ?_
      refine gh_T_steps 4 (τ := (52, [(0, .ref 56), (1, .int a1), (2, .int a2), (3, .int a3)], [.long 12, .long 0, .long ((a2 : Int32).toInt64)], (gh_mo q1.2, 0, 0))) (fun _ => rfl) ?_
      obtain ⟨q2, hq2, h⟩ := gh_bi h
      refine gh_T_is (As := [.long ((a2 : Int32).toInt64), .long 0, .long 12]) (rest := []) (y := some (.int q2.1)) (M' := gh_mo q2.2) rfl rfl rfl rfl rfl rfl rfl ⟨Nat.le_refl _, Nat.le_refl _⟩ (kX10_in (d + 1) N ((a2 : Int32).toInt64) 0 12 q1.2 q2 hq2) ?_
      cases c7 : gh_cmp .eq q2.1 0 with
      | true =>
        rw [c7, cond_true] at h
        refine gh_T_if true rfl c7 ?_
        refine gh_T_steps 1 (τ := (71, [(0, .ref 56), (1, .int a1), (2, .int a2), (3, .int a3)], [.int 0], (gh_mo q2.2, 0, 0))) (fun _ => rfl) ?_
        cases h
        exact gh_T_ret (fun _ => rfl)
      | false =>
        rw [c7, cond_false] at h
        refine gh_T_if false rfl c7 ?_
        refine gh_T_steps 4 (τ := (64, [(0, .ref 56), (1, .int a1), (2, .int a2), (3, .int a3)], [.long 12, .long 0, .long ((a3 : Int32).toInt64)], (gh_mo q2.2, 0, 0))) (fun _ => rfl) ?_
        obtain ⟨q3, hq3, h⟩ := gh_bi h
        refine gh_T_is (As := [.long ((a3 : Int32).toInt64), .long 0, .long 12]) (rest := []) (y := some (.int q3.1)) (M' := gh_mo q3.2) rfl rfl rfl rfl rfl rfl rfl ⟨Nat.le_refl _, Nat.le_refl _⟩ (kX10_in (d + 1) N ((a3 : Int32).toInt64) 0 12 q2.2 q3 hq3) ?_
        cases c6 : gh_cmp .ne q3.1 0 with
        | true =>
          rw [c6, cond_true] at h
          refine gh_T_if true rfl c6 ?_
          refine gh_T_steps 4 (τ := (78, [(0, .ref 56), (1, .int a1), (2, .int a2), (3, .int a3)], [.int a2, .int a1, .ref 74], (gh_mo q3.2, 0, 0))) (fun _ => rfl) ?_
          obtain ⟨S4, hS4, h⟩ := gh_bi h
          refine gh_T_wa rfl rfl hS4 ?_
          refine gh_T_steps 4 (τ := (85, [(0, .ref 56), (1, .int a1), (2, .int a2), (3, .int a3)], [.int a3, .int a1, .ref 75], (gh_mo S4, 0, 0))) (fun _ => rfl) ?_
          obtain ⟨S5, hS5, h⟩ := gh_bi h
          refine gh_T_wa rfl rfl hS5 ?_
          refine gh_T_steps 1 (τ := (87, [(0, .ref 56), (1, .int a1), (2, .int a2), (3, .int a3)], [.int 1], (gh_mo S5, 0, 0))) (fun _ => rfl) ?_
          cases h
          exact gh_T_ret (fun _ => rfl)
        | false =>
          rw [c6, cond_false] at h
          refine gh_T_if false rfl c6 ?_
          refine gh_T_steps 1 (τ := (71, [(0, .ref 56), (1, .int a1), (2, .int a2), (3, .int a3)], [.int 0], (gh_mo q3.2, 0, 0))) (fun _ => rfl) ?_
          cases h
          exact gh_T_ret (fun _ => rfl)
  | false =>
    rw [c11, cond_false] at h
    refine gh_T_ic false rfl c11 ?_
    refine gh_T_steps 5 (τ := (12, [(0, .ref 56), (1, .int a1), (2, .int a2), (3, .int a3)], [.long 8, .long 1, .long ((a2 : Int32).toInt64), .ref 56], (gh_mo S, 0, 0))) (fun _ => rfl) ?_
    obtain ⟨q9, hq9, h⟩ := gh_bi h
    refine gh_T_is (As := [.long ((a2 : Int32).toInt64), .long 1, .long 8]) (rest := [.ref 56]) (y := some (.int q9.1)) (M' := gh_mo q9.2) rfl rfl rfl rfl rfl rfl rfl ⟨Nat.le_refl _, Nat.le_refl _⟩ (kX10_in (d + 1) N ((a2 : Int32).toInt64) 1 8 S q9 hq9) ?_
    cases c10 : gh_cmp .eq q9.1 0 with
    | true =>
      rw [c10, cond_true] at h
      refine gh_T_if true rfl c10 ?_
      refine gh_T_steps 2 (τ := (26, [(0, .ref 56), (1, .int a1), (2, .int a2), (3, .int a3)], [.int (q9.2.1 56 29), .ref 56], (gh_mo q9.2, 0, 0))) (fun _ => rfl) ?_
      refine gh_T_weak (lv := [(2, .int a2)]) ⟨rfl, trivial⟩ ?_
      exact kX10_needs_26 d N a2 (q9.2.1 56 29) q9.2 _ h
    | false =>
      rw [c10, cond_false] at h
      refine gh_T_if false rfl c10 ?_
      refine gh_T_steps 2 (τ := (26, [(0, .ref 56), (1, .int a1), (2, .int a2), (3, .int a3)], [.int a2, .ref 56], (gh_mo q9.2, 0, 0))) (fun _ => rfl) ?_
      refine gh_T_weak (lv := [(2, .int a2)]) ⟨rfl, trivial⟩ ?_
      exact kX10_needs_26 d N a2 a2 q9.2 _ h
theorem kX10_needs (d N : Nat) (a1 : Int32) (a2 : Int32) (a3 : Int32) (S : gh_St) (r : Int32 × gh_St) (h : sX10_needs N a1 a2 a3 S = some r) : gh_Mx (d + 3) 147 [.ref 56, .int a1, .int a2, .int a3] (gh_mo S) (some (.int r.1)) (gh_mo r.2) :=
  gh_Mx_of rfl rfl rfl rfl rfl rfl (kX10_needs_e d N a1 a2 a3 S r h)
def sX10_may (N : Nat) (a1 : Int32) (a2 : Int32) (S : gh_St) : Option (Int32 × gh_St) :=
  (gh_ra S 72 12 a2).bind fun x1 =>
  bif gh_cmp .eq x1 0 then
    (some (0, S))
  else
    ((gh_ra S 75 8 a1).bind fun x2 =>
    bif gh_cmp .ge a2 x2 then
      (some (0, S))
    else
      (some (1, S)))
set_option maxRecDepth 100000 in
theorem kX10_may_e (d N : Nat) (a1 : Int32) (a2 : Int32) (S : gh_St) (r : Int32 × gh_St) (h : sX10_may N a1 a2 S = some r) : gh_T d fX10_may 0 0 none true false (0, [(0, .ref 56), (1, .int a1), (2, .int a2)], [], (gh_mo S, 0, 0)) (some (.int r.1), (gh_mo r.2, 0, 0)) := by
  unfold sX10_may at h
  refine gh_T_steps 3 (τ := (5, [(0, .ref 56), (1, .int a1), (2, .int a2)], [.int a2, .ref 72], (gh_mo S, 0, 0))) (fun _ => rfl) ?_
  obtain ⟨x1, hx1, h⟩ := gh_bi h
  refine gh_T_rb rfl (Or.inr rfl) rfl hx1 ?_
  cases c4 : gh_cmp .eq x1 0 with
  | true =>
    rw [c4, cond_true] at h
    refine gh_T_if true rfl c4 ?_
    refine gh_T_steps 1 (τ := (24, [(0, .ref 56), (1, .int a1), (2, .int a2)], [.int 0], (gh_mo S, 0, 0))) (fun _ => rfl) ?_
    cases h
    exact gh_T_ret (fun _ => rfl)
  | false =>
    rw [c4, cond_false] at h
    refine gh_T_if false rfl c4 ?_
    refine gh_T_steps 4 (τ := (15, [(0, .ref 56), (1, .int a1), (2, .int a2)], [.int a1, .ref 75, .int a2], (gh_mo S, 0, 0))) (fun _ => rfl) ?_
    obtain ⟨x2, hx2, h⟩ := gh_bi h
    refine gh_T_ra rfl rfl hx2 ?_
    cases c3 : gh_cmp .ge a2 x2 with
    | true =>
      rw [c3, cond_true] at h
      refine gh_T_ic true rfl c3 ?_
      refine gh_T_steps 1 (τ := (24, [(0, .ref 56), (1, .int a1), (2, .int a2)], [.int 0], (gh_mo S, 0, 0))) (fun _ => rfl) ?_
      cases h
      exact gh_T_ret (fun _ => rfl)
    | false =>
      rw [c3, cond_false] at h
      refine gh_T_ic false rfl c3 ?_
      refine gh_T_steps 2 (τ := (24, [(0, .ref 56), (1, .int a1), (2, .int a2)], [.int 1], (gh_mo S, 0, 0))) (fun _ => rfl) ?_
      cases h
      exact gh_T_ret (fun _ => rfl)
theorem kX10_may (d N : Nat) (a1 : Int32) (a2 : Int32) (S : gh_St) (r : Int32 × gh_St) (h : sX10_may N a1 a2 S = some r) : gh_Mx (d + 1) 148 [.ref 56, .int a1, .int a2] (gh_mo S) (some (.int r.1)) (gh_mo r.2) :=
  gh_Mx_of rfl rfl rfl rfl rfl rfl (kX10_may_e d N a1 a2 S r h)
def sX10_reaches (N : Nat) (a1 : Int32) (a2 : Int32) (a3 : Int32) (S : gh_St) : Option (Int32 × gh_St) :=
  (gh_ra S 90 21 a1).bind fun x1 =>
  bif gh_cmp .ge x1 100000000 then
    (some (0, S))
  else
    ((gh_ra S 90 21 a1).bind fun x2 =>
    (gh_ra S 90 21 a2).bind fun x3 =>
    bif gh_cmp .lt (x2 + a3) x3 then
      ((gh_ra S 90 21 a1).bind fun x4 =>
      (gh_wa S 90 21 a2 (x4 + a3)).bind fun S5 =>
      (gh_wa S5 91 21 a2 a1).bind fun S6 =>
      some (1, S6))
    else
      (some (0, S)))
set_option maxRecDepth 100000 in
theorem kX10_reaches_e (d N : Nat) (a1 : Int32) (a2 : Int32) (a3 : Int32) (S : gh_St) (r : Int32 × gh_St) (h : sX10_reaches N a1 a2 a3 S = some r) : gh_T d fX10_reaches 0 0 none true false (0, [(0, .ref 56), (1, .int a1), (2, .int a2), (3, .int a3)], [], (gh_mo S, 0, 0)) (some (.int r.1), (gh_mo r.2, 0, 0)) := by
  unfold sX10_reaches at h
  refine gh_T_steps 3 (τ := (5, [(0, .ref 56), (1, .int a1), (2, .int a2), (3, .int a3)], [.int a1, .ref 90], (gh_mo S, 0, 0))) (fun _ => rfl) ?_
  obtain ⟨x1, hx1, h⟩ := gh_bi h
  refine gh_T_ra rfl rfl hx1 ?_
  refine gh_T_steps 1 (τ := (8, [(0, .ref 56), (1, .int a1), (2, .int a2), (3, .int a3)], [.int 100000000, .int x1], (gh_mo S, 0, 0))) (fun _ => rfl) ?_
  cases c8 : gh_cmp .ge x1 100000000 with
  | true =>
    rw [c8, cond_true] at h
    refine gh_T_ic true rfl c8 ?_
    refine gh_T_steps 1 (τ := (29, [(0, .ref 56), (1, .int a1), (2, .int a2), (3, .int a3)], [.int 0], (gh_mo S, 0, 0))) (fun _ => rfl) ?_
    cases h
    exact gh_T_ret (fun _ => rfl)
  | false =>
    rw [c8, cond_false] at h
    refine gh_T_ic false rfl c8 ?_
    refine gh_T_steps 3 (τ := (16, [(0, .ref 56), (1, .int a1), (2, .int a2), (3, .int a3)], [.int a1, .ref 90], (gh_mo S, 0, 0))) (fun _ => rfl) ?_
    obtain ⟨x2, hx2, h⟩ := gh_bi h
    refine gh_T_ra rfl rfl hx2 ?_
    refine gh_T_steps 5 (τ := (24, [(0, .ref 56), (1, .int a1), (2, .int a2), (3, .int a3)], [.int a2, .ref 90, .int (x2 + a3)], (gh_mo S, 0, 0))) (fun _ => rfl) ?_
    obtain ⟨x3, hx3, h⟩ := gh_bi h
    refine gh_T_ra rfl rfl hx3 ?_
    cases c7 : gh_cmp .lt (x2 + a3) x3 with
    | true =>
      rw [c7, cond_true] at h
      refine gh_T_ic true rfl c7 ?_
      refine gh_T_steps 6 (τ := (40, [(0, .ref 56), (1, .int a1), (2, .int a2), (3, .int a3)], [.int a1, .ref 90, .int a2, .ref 90], (gh_mo S, 0, 0))) (fun _ => rfl) ?_
      obtain ⟨x4, hx4, h⟩ := gh_bi h
      refine gh_T_ra rfl rfl hx4 ?_
      refine gh_T_steps 2 (τ := (43, [(0, .ref 56), (1, .int a1), (2, .int a2), (3, .int a3)], [.int (x4 + a3), .int a2, .ref 90], (gh_mo S, 0, 0))) (fun _ => rfl) ?_
      obtain ⟨S5, hS5, h⟩ := gh_bi h
      refine gh_T_wa rfl rfl hS5 ?_
      refine gh_T_steps 4 (τ := (50, [(0, .ref 56), (1, .int a1), (2, .int a2), (3, .int a3)], [.int a1, .int a2, .ref 91], (gh_mo S5, 0, 0))) (fun _ => rfl) ?_
      obtain ⟨S6, hS6, h⟩ := gh_bi h
      refine gh_T_wa rfl rfl hS6 ?_
      refine gh_T_steps 1 (τ := (52, [(0, .ref 56), (1, .int a1), (2, .int a2), (3, .int a3)], [.int 1], (gh_mo S6, 0, 0))) (fun _ => rfl) ?_
      cases h
      exact gh_T_ret (fun _ => rfl)
    | false =>
      rw [c7, cond_false] at h
      refine gh_T_ic false rfl c7 ?_
      refine gh_T_steps 1 (τ := (29, [(0, .ref 56), (1, .int a1), (2, .int a2), (3, .int a3)], [.int 0], (gh_mo S, 0, 0))) (fun _ => rfl) ?_
      cases h
      exact gh_T_ret (fun _ => rfl)
theorem kX10_reaches (d N : Nat) (a1 : Int32) (a2 : Int32) (a3 : Int32) (S : gh_St) (r : Int32 × gh_St) (h : sX10_reaches N a1 a2 a3 S = some r) : gh_Mx (d + 1) 149 [.ref 56, .int a1, .int a2, .int a3] (gh_mo S) (some (.int r.1)) (gh_mo r.2) :=
  gh_Mx_of rfl rfl rfl rfl rfl rfl (kX10_reaches_e d N a1 a2 a3 S r h)
def sX10_walks_24 (N : Nat) (kc2 : Int32 → Int32 → gh_St → Option (gh_St)) (l1 : Int32) (l2 : Int32) (t0 : Int32) (t1 : Int32) (S : gh_St) : Option (gh_St) :=
  (gh_wa S 90 21 t1 t0).bind fun S1 =>
  kc2 l1 (l2 + 1) S1
set_option maxRecDepth 100000 in
theorem kX10_walks_24 (d N : Nat) (kc2 : Int32 → Int32 → gh_St → Option (gh_St)) (hkc2 : ∀ (l1 : Int32) (l2 : Int32) (S : gh_St) (r : gh_St), kc2 l1 l2 S = some r → gh_T (d + 1) fX10_walks 0 0 none false false (2, [(0, .ref 56), (1, .int l1), (2, .int l2)], [], (gh_mo S, 0, 0)) (none, (gh_mo r, 0, 0))) (l1 : Int32) (l2 : Int32) (t0 : Int32) (t1 : Int32) (S : gh_St) (r : gh_St) (h : sX10_walks_24 N kc2 l1 l2 t0 t1 S = some r) : gh_T (d + 1) fX10_walks 0 0 none false false (24, [(0, .ref 56), (1, .int l1), (2, .int l2)], [.int t0, .int t1, .ref 90], (gh_mo S, 0, 0)) (none, (gh_mo r, 0, 0)) := by
  unfold sX10_walks_24 at h
  obtain ⟨S1, hS1, h⟩ := gh_bi h
  refine gh_T_wa rfl rfl hS1 ?_
  refine gh_T_steps 2 (τ := (2, [(2, .int (l2 + 1)), (0, .ref 56), (1, .int l1)], [], (gh_mo S1, 0, 0))) (fun _ => rfl) ?_
  refine gh_T_weak (lv := [(0, .ref 56), (1, .int l1), (2, .int (l2 + 1))]) ⟨rfl, rfl, rfl, trivial⟩ ?_
  exact hkc2 l1 (l2 + 1) S1 _ h
def sX10_walks_138 (N : Nat) (kc33 : Int32 → gh_St → Option (gh_St)) (kc41 : Int32 → Int32 → gh_St → Option (gh_St)) (kc50 : Int32 → Int32 → Int32 → gh_St → Option (gh_St)) (l2 : Int32) (l3 : Int32) (l4 : Int32) (S : gh_St) : Option (gh_St) :=
  kc50 l2 l3 (l4 + 1) S
set_option maxRecDepth 100000 in
theorem kX10_walks_138 (d N : Nat) (kc33 : Int32 → gh_St → Option (gh_St)) (hkc33 : ∀ (l2 : Int32) (S : gh_St) (r : gh_St), kc33 l2 S = some r → gh_T (d + 1) fX10_walks 0 0 none false false (33, [(0, .ref 56), (2, .int l2)], [], (gh_mo S, 0, 0)) (none, (gh_mo r, 0, 0))) (kc41 : Int32 → Int32 → gh_St → Option (gh_St)) (hkc41 : ∀ (l2 : Int32) (l3 : Int32) (S : gh_St) (r : gh_St), kc41 l2 l3 S = some r → gh_T (d + 1) fX10_walks 0 0 none false false (41, [(0, .ref 56), (2, .int l2), (3, .int l3)], [], (gh_mo S, 0, 0)) (none, (gh_mo r, 0, 0))) (kc50 : Int32 → Int32 → Int32 → gh_St → Option (gh_St)) (hkc50 : ∀ (l2 : Int32) (l3 : Int32) (l4 : Int32) (S : gh_St) (r : gh_St), kc50 l2 l3 l4 S = some r → gh_T (d + 1) fX10_walks 0 0 none false false (50, [(0, .ref 56), (2, .int l2), (3, .int l3), (4, .int l4)], [], (gh_mo S, 0, 0)) (none, (gh_mo r, 0, 0))) (l2 : Int32) (l3 : Int32) (l4 : Int32) (S : gh_St) (r : gh_St) (h : sX10_walks_138 N kc33 kc41 kc50 l2 l3 l4 S = some r) : gh_T (d + 1) fX10_walks 0 0 none false false (138, [(0, .ref 56), (2, .int l2), (3, .int l3), (4, .int l4)], [], (gh_mo S, 0, 0)) (none, (gh_mo r, 0, 0)) := by
  unfold sX10_walks_138 at h
  refine gh_T_steps 2 (τ := (50, [(4, .int (l4 + 1)), (0, .ref 56), (2, .int l2), (3, .int l3)], [], (gh_mo S, 0, 0))) (fun _ => rfl) ?_
  refine gh_T_weak (lv := [(0, .ref 56), (2, .int l2), (3, .int l3), (4, .int (l4 + 1))]) ⟨rfl, rfl, rfl, rfl, trivial⟩ ?_
  exact hkc50 l2 l3 (l4 + 1) S _ h
def sX10_walks_137 (N : Nat) (kc33 : Int32 → gh_St → Option (gh_St)) (kc41 : Int32 → Int32 → gh_St → Option (gh_St)) (kc50 : Int32 → Int32 → Int32 → gh_St → Option (gh_St)) (l3 : Int32) (l4 : Int32) (t0 : Int32) (S : gh_St) : Option (gh_St) :=
  sX10_walks_138 N kc33 kc41 kc50 t0 l3 l4 S
set_option maxRecDepth 100000 in
theorem kX10_walks_137 (d N : Nat) (kc33 : Int32 → gh_St → Option (gh_St)) (hkc33 : ∀ (l2 : Int32) (S : gh_St) (r : gh_St), kc33 l2 S = some r → gh_T (d + 1) fX10_walks 0 0 none false false (33, [(0, .ref 56), (2, .int l2)], [], (gh_mo S, 0, 0)) (none, (gh_mo r, 0, 0))) (kc41 : Int32 → Int32 → gh_St → Option (gh_St)) (hkc41 : ∀ (l2 : Int32) (l3 : Int32) (S : gh_St) (r : gh_St), kc41 l2 l3 S = some r → gh_T (d + 1) fX10_walks 0 0 none false false (41, [(0, .ref 56), (2, .int l2), (3, .int l3)], [], (gh_mo S, 0, 0)) (none, (gh_mo r, 0, 0))) (kc50 : Int32 → Int32 → Int32 → gh_St → Option (gh_St)) (hkc50 : ∀ (l2 : Int32) (l3 : Int32) (l4 : Int32) (S : gh_St) (r : gh_St), kc50 l2 l3 l4 S = some r → gh_T (d + 1) fX10_walks 0 0 none false false (50, [(0, .ref 56), (2, .int l2), (3, .int l3), (4, .int l4)], [], (gh_mo S, 0, 0)) (none, (gh_mo r, 0, 0))) (l3 : Int32) (l4 : Int32) (t0 : Int32) (S : gh_St) (r : gh_St) (h : sX10_walks_137 N kc33 kc41 kc50 l3 l4 t0 S = some r) : gh_T (d + 1) fX10_walks 0 0 none false false (137, [(0, .ref 56), (3, .int l3), (4, .int l4)], [.int t0], (gh_mo S, 0, 0)) (none, (gh_mo r, 0, 0)) := by
  unfold sX10_walks_137 at h
  refine gh_T_steps 1 (τ := (138, [(2, .int t0), (0, .ref 56), (3, .int l3), (4, .int l4)], [], (gh_mo S, 0, 0))) (fun _ => rfl) ?_
  refine gh_T_weak (lv := [(0, .ref 56), (2, .int t0), (3, .int l3), (4, .int l4)]) ⟨rfl, rfl, rfl, rfl, trivial⟩ ?_
  exact kX10_walks_138 d N kc33 hkc33 kc41 hkc41 kc50 hkc50 t0 l3 l4 S _ h
def sX10_walks_132 (N : Nat) (kc33 : Int32 → gh_St → Option (gh_St)) (kc41 : Int32 → Int32 → gh_St → Option (gh_St)) (kc50 : Int32 → Int32 → Int32 → gh_St → Option (gh_St)) (l3 : Int32) (l4 : Int32) (S : gh_St) : Option (gh_St) :=
  sX10_walks_137 N kc33 kc41 kc50 l3 l4 1 S
set_option maxRecDepth 100000 in
theorem kX10_walks_132 (d N : Nat) (kc33 : Int32 → gh_St → Option (gh_St)) (hkc33 : ∀ (l2 : Int32) (S : gh_St) (r : gh_St), kc33 l2 S = some r → gh_T (d + 1) fX10_walks 0 0 none false false (33, [(0, .ref 56), (2, .int l2)], [], (gh_mo S, 0, 0)) (none, (gh_mo r, 0, 0))) (kc41 : Int32 → Int32 → gh_St → Option (gh_St)) (hkc41 : ∀ (l2 : Int32) (l3 : Int32) (S : gh_St) (r : gh_St), kc41 l2 l3 S = some r → gh_T (d + 1) fX10_walks 0 0 none false false (41, [(0, .ref 56), (2, .int l2), (3, .int l3)], [], (gh_mo S, 0, 0)) (none, (gh_mo r, 0, 0))) (kc50 : Int32 → Int32 → Int32 → gh_St → Option (gh_St)) (hkc50 : ∀ (l2 : Int32) (l3 : Int32) (l4 : Int32) (S : gh_St) (r : gh_St), kc50 l2 l3 l4 S = some r → gh_T (d + 1) fX10_walks 0 0 none false false (50, [(0, .ref 56), (2, .int l2), (3, .int l3), (4, .int l4)], [], (gh_mo S, 0, 0)) (none, (gh_mo r, 0, 0))) (l3 : Int32) (l4 : Int32) (S : gh_St) (r : gh_St) (h : sX10_walks_132 N kc33 kc41 kc50 l3 l4 S = some r) : gh_T (d + 1) fX10_walks 0 0 none false false (132, [(0, .ref 56), (3, .int l3), (4, .int l4)], [], (gh_mo S, 0, 0)) (none, (gh_mo r, 0, 0)) := by
  unfold sX10_walks_132 at h
  refine gh_T_steps 2 (τ := (137, [(0, .ref 56), (3, .int l3), (4, .int l4)], [.int 1], (gh_mo S, 0, 0))) (fun _ => rfl) ?_
  exact kX10_walks_137 d N kc33 hkc33 kc41 hkc41 kc50 hkc50 l3 l4 1 S _ h
def sX10_walks_121 (N : Nat) (kc33 : Int32 → gh_St → Option (gh_St)) (kc41 : Int32 → Int32 → gh_St → Option (gh_St)) (kc50 : Int32 → Int32 → Int32 → gh_St → Option (gh_St)) (l2 : Int32) (l3 : Int32) (l4 : Int32) (t0 : Int32) (S : gh_St) : Option (gh_St) :=
  bif gh_cmp .ne l2 0 then
    (sX10_walks_132 N kc33 kc41 kc50 l3 l4 S)
  else
    (bif gh_cmp .eq t0 0 then
      (sX10_walks_137 N kc33 kc41 kc50 l3 l4 0 S)
    else
      (sX10_walks_132 N kc33 kc41 kc50 l3 l4 S))
set_option maxRecDepth 100000 in
theorem kX10_walks_121 (d N : Nat) (kc33 : Int32 → gh_St → Option (gh_St)) (hkc33 : ∀ (l2 : Int32) (S : gh_St) (r : gh_St), kc33 l2 S = some r → gh_T (d + 1) fX10_walks 0 0 none false false (33, [(0, .ref 56), (2, .int l2)], [], (gh_mo S, 0, 0)) (none, (gh_mo r, 0, 0))) (kc41 : Int32 → Int32 → gh_St → Option (gh_St)) (hkc41 : ∀ (l2 : Int32) (l3 : Int32) (S : gh_St) (r : gh_St), kc41 l2 l3 S = some r → gh_T (d + 1) fX10_walks 0 0 none false false (41, [(0, .ref 56), (2, .int l2), (3, .int l3)], [], (gh_mo S, 0, 0)) (none, (gh_mo r, 0, 0))) (kc50 : Int32 → Int32 → Int32 → gh_St → Option (gh_St)) (hkc50 : ∀ (l2 : Int32) (l3 : Int32) (l4 : Int32) (S : gh_St) (r : gh_St), kc50 l2 l3 l4 S = some r → gh_T (d + 1) fX10_walks 0 0 none false false (50, [(0, .ref 56), (2, .int l2), (3, .int l3), (4, .int l4)], [], (gh_mo S, 0, 0)) (none, (gh_mo r, 0, 0))) (l2 : Int32) (l3 : Int32) (l4 : Int32) (t0 : Int32) (S : gh_St) (r : gh_St) (h : sX10_walks_121 N kc33 kc41 kc50 l2 l3 l4 t0 S = some r) : gh_T (d + 1) fX10_walks 0 0 none false false (121, [(0, .ref 56), (2, .int l2), (3, .int l3), (4, .int l4)], [.int t0], (gh_mo S, 0, 0)) (none, (gh_mo r, 0, 0)) := by
  unfold sX10_walks_121 at h
  refine gh_T_steps 2 (τ := (124, [(6, .int t0), (0, .ref 56), (2, .int l2), (3, .int l3), (4, .int l4)], [.int l2], (gh_mo S, 0, 0))) (fun _ => rfl) ?_
  cases c2 : gh_cmp .ne l2 0 with
  | true =>
    rw [c2, cond_true] at h
    refine gh_T_if true rfl c2 ?_
    refine gh_T_weak (lv := [(0, .ref 56), (3, .int l3), (4, .int l4)]) ⟨rfl, rfl, rfl, trivial⟩ ?_
    exact kX10_walks_132 d N kc33 hkc33 kc41 hkc41 kc50 hkc50 l3 l4 S _ h
  | false =>
    rw [c2, cond_false] at h
    refine gh_T_if false rfl c2 ?_
    refine gh_T_steps 1 (τ := (129, [(6, .int t0), (0, .ref 56), (2, .int l2), (3, .int l3), (4, .int l4)], [.int t0], (gh_mo S, 0, 0))) (fun _ => rfl) ?_
    cases c1 : gh_cmp .eq t0 0 with
    | true =>
      rw [c1, cond_true] at h
      refine gh_T_if true rfl c1 ?_
      refine gh_T_steps 1 (τ := (137, [(6, .int t0), (0, .ref 56), (2, .int l2), (3, .int l3), (4, .int l4)], [.int 0], (gh_mo S, 0, 0))) (fun _ => rfl) ?_
      refine gh_T_weak (lv := [(0, .ref 56), (3, .int l3), (4, .int l4)]) ⟨rfl, rfl, rfl, trivial⟩ ?_
      exact kX10_walks_137 d N kc33 hkc33 kc41 hkc41 kc50 hkc50 l3 l4 0 S _ h
    | false =>
      rw [c1, cond_false] at h
      refine gh_T_if false rfl c1 ?_
      refine gh_T_weak (lv := [(0, .ref 56), (3, .int l3), (4, .int l4)]) ⟨rfl, rfl, rfl, trivial⟩ ?_
      exact kX10_walks_132 d N kc33 hkc33 kc41 hkc41 kc50 hkc50 l3 l4 S _ h
def sX10_walks_50 (N : Nat) (kc33 : Int32 → gh_St → Option (gh_St)) (kc41 : Int32 → Int32 → gh_St → Option (gh_St)) : Nat → Int32 → Int32 → Int32 → gh_St → Option (gh_St)
  | 0, _, _, _, _ => none
  | n + 1, l2, l3, l4, S =>
    bif gh_cmp .ge l4 12 then
      (kc41 l2 (l3 + 1) S)
    else
      ((sX10_may N l3 l4 S).bind fun q1 =>
      bif gh_cmp .eq q1.1 0 then
        (sX10_walks_138 N kc33 kc41 (sX10_walks_50 N kc33 kc41 n) l2 l3 l4 q1.2)
      else
        ((gh_ra q1.2 88 96 (((12 : Int32) * l3) + l4)).bind fun x2 =>
        bif gh_cmp .ne x2 0 then
          (sX10_walks_138 N kc33 kc41 (sX10_walks_50 N kc33 kc41 n) l2 l3 l4 q1.2)
        else
          ((gh_ra q1.2 87 96 (((12 : Int32) * l3) + l4)).bind fun x3 =>
          bif gh_cmp .eq x3 0 then
            ((sX10_reaches N l3 ((8 : Int32) + l4) 0 q1.2).bind fun q4 =>
            sX10_walks_121 N kc33 kc41 (sX10_walks_50 N kc33 kc41 n) l2 l3 l4 q4.1 q4.2)
          else
            ((sX10_reaches N ((8 : Int32) + l4) l3 0 q1.2).bind fun q5 =>
            sX10_walks_121 N kc33 kc41 (sX10_walks_50 N kc33 kc41 n) l2 l3 l4 q5.1 q5.2))))
set_option maxRecDepth 100000 in
theorem kX10_walks_50 (d N : Nat) (kc33 : Int32 → gh_St → Option (gh_St)) (hkc33 : ∀ (l2 : Int32) (S : gh_St) (r : gh_St), kc33 l2 S = some r → gh_T (d + 1) fX10_walks 0 0 none false false (33, [(0, .ref 56), (2, .int l2)], [], (gh_mo S, 0, 0)) (none, (gh_mo r, 0, 0))) (kc41 : Int32 → Int32 → gh_St → Option (gh_St)) (hkc41 : ∀ (l2 : Int32) (l3 : Int32) (S : gh_St) (r : gh_St), kc41 l2 l3 S = some r → gh_T (d + 1) fX10_walks 0 0 none false false (41, [(0, .ref 56), (2, .int l2), (3, .int l3)], [], (gh_mo S, 0, 0)) (none, (gh_mo r, 0, 0))) : ∀ (n : Nat) (l2 : Int32) (l3 : Int32) (l4 : Int32) (S : gh_St) (r : gh_St), sX10_walks_50 N kc33 kc41 n l2 l3 l4 S = some r → gh_T (d + 1) fX10_walks 0 0 none false false (50, [(0, .ref 56), (2, .int l2), (3, .int l3), (4, .int l4)], [], (gh_mo S, 0, 0)) (none, (gh_mo r, 0, 0)) := by
  intro n
  induction n with
  | zero =>
    intro l2 l3 l4 S r h
    cases h
  | succ n ih =>
    intro l2 l3 l4 S r h
    rw [sX10_walks_50] at h
    refine gh_T_steps 2 (τ := (54, [(0, .ref 56), (2, .int l2), (3, .int l3), (4, .int l4)], [.int 12, .int l4], (gh_mo S, 0, 0))) (fun _ => rfl) ?_
    cases c9 : gh_cmp .ge l4 12 with
    | true =>
      rw [c9, cond_true] at h
      refine gh_T_ic true rfl c9 ?_
      refine gh_T_steps 2 (τ := (41, [(3, .int (l3 + 1)), (0, .ref 56), (2, .int l2), (4, .int l4)], [], (gh_mo S, 0, 0))) (fun _ => rfl) ?_
      refine gh_T_weak (lv := [(0, .ref 56), (2, .int l2), (3, .int (l3 + 1))]) ⟨rfl, rfl, rfl, trivial⟩ ?_
      exact hkc41 l2 (l3 + 1) S _ h
    | false =>
      rw [c9, cond_false] at h
      refine gh_T_ic false rfl c9 ?_
      refine gh_T_steps 9 (τ := (70, [(5, .int (((12 : Int32) * l3) + l4)), (0, .ref 56), (2, .int l2), (3, .int l3), (4, .int l4)], [.int l4, .int l3, .ref 56], (gh_mo S, 0, 0))) (fun _ => rfl) ?_
      obtain ⟨q1, hq1, h⟩ := gh_bi h
      refine gh_T_iv (As := [.int l3, .int l4]) (b := 56) (rest := []) (y := some (.int q1.1)) (M' := gh_mo q1.2) rfl rfl rfl rfl rfl rfl rfl rfl rfl ⟨Nat.le_refl _, Nat.le_refl _⟩ (kX10_may d N l3 l4 S q1 hq1) ?_
      cases c8 : gh_cmp .eq q1.1 0 with
      | true =>
        rw [c8, cond_true] at h
        refine gh_T_if true rfl c8 ?_
        refine gh_T_weak (lv := [(0, .ref 56), (2, .int l2), (3, .int l3), (4, .int l4)]) ⟨rfl, rfl, rfl, rfl, trivial⟩ ?_
        exact kX10_walks_138 d N kc33 hkc33 kc41 hkc41 (sX10_walks_50 N kc33 kc41 n) ih l2 l3 l4 q1.2 _ h
      | false =>
        rw [c8, cond_false] at h
        refine gh_T_if false rfl c8 ?_
        refine gh_T_steps 3 (τ := (82, [(5, .int (((12 : Int32) * l3) + l4)), (0, .ref 56), (2, .int l2), (3, .int l3), (4, .int l4)], [.int (((12 : Int32) * l3) + l4), .ref 88], (gh_mo q1.2, 0, 0))) (fun _ => rfl) ?_
        obtain ⟨x2, hx2, h⟩ := gh_bi h
        refine gh_T_rb rfl (Or.inr rfl) rfl hx2 ?_
        cases c7 : gh_cmp .ne x2 0 with
        | true =>
          rw [c7, cond_true] at h
          refine gh_T_if true rfl c7 ?_
          refine gh_T_weak (lv := [(0, .ref 56), (2, .int l2), (3, .int l3), (4, .int l4)]) ⟨rfl, rfl, rfl, rfl, trivial⟩ ?_
          exact kX10_walks_138 d N kc33 hkc33 kc41 hkc41 (sX10_walks_50 N kc33 kc41 n) ih l2 l3 l4 q1.2 _ h
        | false =>
          rw [c7, cond_false] at h
          refine gh_T_if false rfl c7 ?_
          refine gh_T_steps 3 (τ := (92, [(5, .int (((12 : Int32) * l3) + l4)), (0, .ref 56), (2, .int l2), (3, .int l3), (4, .int l4)], [.int (((12 : Int32) * l3) + l4), .ref 87], (gh_mo q1.2, 0, 0))) (fun _ => rfl) ?_
          obtain ⟨x3, hx3, h⟩ := gh_bi h
          refine gh_T_rb rfl (Or.inr rfl) rfl hx3 ?_
          cases c6 : gh_cmp .eq x3 0 with
          | true =>
            rw [c6, cond_true] at h
            refine gh_T_if true rfl c6 ?_
            refine gh_T_steps 6 (τ := (118, [(5, .int (((12 : Int32) * l3) + l4)), (0, .ref 56), (2, .int l2), (3, .int l3), (4, .int l4)], [.int 0, .int ((8 : Int32) + l4), .int l3, .ref 56], (gh_mo q1.2, 0, 0))) (fun _ => rfl) ?_
            obtain ⟨q4, hq4, h⟩ := gh_bi h
            refine gh_T_iv (As := [.int l3, .int ((8 : Int32) + l4), .int 0]) (b := 56) (rest := []) (y := some (.int q4.1)) (M' := gh_mo q4.2) rfl rfl rfl rfl rfl rfl rfl rfl rfl ⟨Nat.le_refl _, Nat.le_refl _⟩ (kX10_reaches d N l3 ((8 : Int32) + l4) 0 q1.2 q4 hq4) ?_
            refine gh_T_weak (lv := [(0, .ref 56), (2, .int l2), (3, .int l3), (4, .int l4)]) ⟨rfl, rfl, rfl, rfl, trivial⟩ ?_
            exact kX10_walks_121 d N kc33 hkc33 kc41 hkc41 (sX10_walks_50 N kc33 kc41 n) ih l2 l3 l4 q4.1 q4.2 _ h
          | false =>
            rw [c6, cond_false] at h
            refine gh_T_if false rfl c6 ?_
            refine gh_T_steps 6 (τ := (104, [(5, .int (((12 : Int32) * l3) + l4)), (0, .ref 56), (2, .int l2), (3, .int l3), (4, .int l4)], [.int 0, .int l3, .int ((8 : Int32) + l4), .ref 56], (gh_mo q1.2, 0, 0))) (fun _ => rfl) ?_
            obtain ⟨q5, hq5, h⟩ := gh_bi h
            refine gh_T_iv (As := [.int ((8 : Int32) + l4), .int l3, .int 0]) (b := 56) (rest := []) (y := some (.int q5.1)) (M' := gh_mo q5.2) rfl rfl rfl rfl rfl rfl rfl rfl rfl ⟨Nat.le_refl _, Nat.le_refl _⟩ (kX10_reaches d N ((8 : Int32) + l4) l3 0 q1.2 q5 hq5) ?_
            refine gh_T_steps 1 (τ := (121, [(5, .int (((12 : Int32) * l3) + l4)), (0, .ref 56), (2, .int l2), (3, .int l3), (4, .int l4)], [.int q5.1], (gh_mo q5.2, 0, 0))) (fun _ => rfl) ?_
            refine gh_T_weak (lv := [(0, .ref 56), (2, .int l2), (3, .int l3), (4, .int l4)]) ⟨rfl, rfl, rfl, rfl, trivial⟩ ?_
            exact kX10_walks_121 d N kc33 hkc33 kc41 hkc41 (sX10_walks_50 N kc33 kc41 n) ih l2 l3 l4 q5.1 q5.2 _ h
def sX10_walks_252 (N : Nat) (kc33 : Int32 → gh_St → Option (gh_St)) (kc152 : Int32 → Int32 → gh_St → Option (gh_St)) (l3 : Int32) (t0 : Int32) (S : gh_St) : Option (gh_St) :=
  kc152 t0 (l3 + 1) S
set_option maxRecDepth 100000 in
theorem kX10_walks_252 (d N : Nat) (kc33 : Int32 → gh_St → Option (gh_St)) (hkc33 : ∀ (l2 : Int32) (S : gh_St) (r : gh_St), kc33 l2 S = some r → gh_T (d + 1) fX10_walks 0 0 none false false (33, [(0, .ref 56), (2, .int l2)], [], (gh_mo S, 0, 0)) (none, (gh_mo r, 0, 0))) (kc152 : Int32 → Int32 → gh_St → Option (gh_St)) (hkc152 : ∀ (l2 : Int32) (l3 : Int32) (S : gh_St) (r : gh_St), kc152 l2 l3 S = some r → gh_T (d + 1) fX10_walks 0 0 none false false (152, [(0, .ref 56), (2, .int l2), (3, .int l3)], [], (gh_mo S, 0, 0)) (none, (gh_mo r, 0, 0))) (l3 : Int32) (t0 : Int32) (S : gh_St) (r : gh_St) (h : sX10_walks_252 N kc33 kc152 l3 t0 S = some r) : gh_T (d + 1) fX10_walks 0 0 none false false (252, [(0, .ref 56), (3, .int l3)], [.int t0], (gh_mo S, 0, 0)) (none, (gh_mo r, 0, 0)) := by
  unfold sX10_walks_252 at h
  refine gh_T_steps 3 (τ := (152, [(3, .int (l3 + 1)), (2, .int t0), (0, .ref 56)], [], (gh_mo S, 0, 0))) (fun _ => rfl) ?_
  refine gh_T_weak (lv := [(0, .ref 56), (2, .int t0), (3, .int (l3 + 1))]) ⟨rfl, rfl, rfl, trivial⟩ ?_
  exact hkc152 t0 (l3 + 1) S _ h
def sX10_walks_247 (N : Nat) (kc33 : Int32 → gh_St → Option (gh_St)) (kc152 : Int32 → Int32 → gh_St → Option (gh_St)) (l3 : Int32) (S : gh_St) : Option (gh_St) :=
  sX10_walks_252 N kc33 kc152 l3 1 S
set_option maxRecDepth 100000 in
theorem kX10_walks_247 (d N : Nat) (kc33 : Int32 → gh_St → Option (gh_St)) (hkc33 : ∀ (l2 : Int32) (S : gh_St) (r : gh_St), kc33 l2 S = some r → gh_T (d + 1) fX10_walks 0 0 none false false (33, [(0, .ref 56), (2, .int l2)], [], (gh_mo S, 0, 0)) (none, (gh_mo r, 0, 0))) (kc152 : Int32 → Int32 → gh_St → Option (gh_St)) (hkc152 : ∀ (l2 : Int32) (l3 : Int32) (S : gh_St) (r : gh_St), kc152 l2 l3 S = some r → gh_T (d + 1) fX10_walks 0 0 none false false (152, [(0, .ref 56), (2, .int l2), (3, .int l3)], [], (gh_mo S, 0, 0)) (none, (gh_mo r, 0, 0))) (l3 : Int32) (S : gh_St) (r : gh_St) (h : sX10_walks_247 N kc33 kc152 l3 S = some r) : gh_T (d + 1) fX10_walks 0 0 none false false (247, [(0, .ref 56), (3, .int l3)], [], (gh_mo S, 0, 0)) (none, (gh_mo r, 0, 0)) := by
  unfold sX10_walks_247 at h
  refine gh_T_steps 2 (τ := (252, [(0, .ref 56), (3, .int l3)], [.int 1], (gh_mo S, 0, 0))) (fun _ => rfl) ?_
  exact kX10_walks_252 d N kc33 hkc33 kc152 hkc152 l3 1 S _ h
def sX10_walks_231 (N : Nat) (kc33 : Int32 → gh_St → Option (gh_St)) (kc152 : Int32 → Int32 → gh_St → Option (gh_St)) (l2 : Int32) (l3 : Int32) (l4 : Int32) (t0 : Int32) (S : gh_St) : Option (gh_St) :=
  bif gh_cmp .ne l2 0 then
    (sX10_walks_247 N kc33 kc152 l3 S)
  else
    (bif gh_cmp .ne l4 0 then
      (sX10_walks_247 N kc33 kc152 l3 S)
    else
      (bif gh_cmp .eq t0 0 then
        (sX10_walks_252 N kc33 kc152 l3 0 S)
      else
        (sX10_walks_247 N kc33 kc152 l3 S)))
set_option maxRecDepth 100000 in
theorem kX10_walks_231 (d N : Nat) (kc33 : Int32 → gh_St → Option (gh_St)) (hkc33 : ∀ (l2 : Int32) (S : gh_St) (r : gh_St), kc33 l2 S = some r → gh_T (d + 1) fX10_walks 0 0 none false false (33, [(0, .ref 56), (2, .int l2)], [], (gh_mo S, 0, 0)) (none, (gh_mo r, 0, 0))) (kc152 : Int32 → Int32 → gh_St → Option (gh_St)) (hkc152 : ∀ (l2 : Int32) (l3 : Int32) (S : gh_St) (r : gh_St), kc152 l2 l3 S = some r → gh_T (d + 1) fX10_walks 0 0 none false false (152, [(0, .ref 56), (2, .int l2), (3, .int l3)], [], (gh_mo S, 0, 0)) (none, (gh_mo r, 0, 0))) (l2 : Int32) (l3 : Int32) (l4 : Int32) (t0 : Int32) (S : gh_St) (r : gh_St) (h : sX10_walks_231 N kc33 kc152 l2 l3 l4 t0 S = some r) : gh_T (d + 1) fX10_walks 0 0 none false false (231, [(0, .ref 56), (2, .int l2), (3, .int l3), (4, .int l4)], [.int t0], (gh_mo S, 0, 0)) (none, (gh_mo r, 0, 0)) := by
  unfold sX10_walks_231 at h
  refine gh_T_steps 2 (τ := (234, [(5, .int t0), (0, .ref 56), (2, .int l2), (3, .int l3), (4, .int l4)], [.int l2], (gh_mo S, 0, 0))) (fun _ => rfl) ?_
  cases c3 : gh_cmp .ne l2 0 with
  | true =>
    rw [c3, cond_true] at h
    refine gh_T_if true rfl c3 ?_
    refine gh_T_weak (lv := [(0, .ref 56), (3, .int l3)]) ⟨rfl, rfl, trivial⟩ ?_
    exact kX10_walks_247 d N kc33 hkc33 kc152 hkc152 l3 S _ h
  | false =>
    rw [c3, cond_false] at h
    refine gh_T_if false rfl c3 ?_
    refine gh_T_steps 1 (τ := (239, [(5, .int t0), (0, .ref 56), (2, .int l2), (3, .int l3), (4, .int l4)], [.int l4], (gh_mo S, 0, 0))) (fun _ => rfl) ?_
    cases c2 : gh_cmp .ne l4 0 with
    | true =>
      rw [c2, cond_true] at h
      refine gh_T_if true rfl c2 ?_
      refine gh_T_weak (lv := [(0, .ref 56), (3, .int l3)]) ⟨rfl, rfl, trivial⟩ ?_
      exact kX10_walks_247 d N kc33 hkc33 kc152 hkc152 l3 S _ h
    | false =>
      rw [c2, cond_false] at h
      refine gh_T_if false rfl c2 ?_
      refine gh_T_steps 1 (τ := (244, [(5, .int t0), (0, .ref 56), (2, .int l2), (3, .int l3), (4, .int l4)], [.int t0], (gh_mo S, 0, 0))) (fun _ => rfl) ?_
      cases c1 : gh_cmp .eq t0 0 with
      | true =>
        rw [c1, cond_true] at h
        refine gh_T_if true rfl c1 ?_
        refine gh_T_steps 1 (τ := (252, [(5, .int t0), (0, .ref 56), (2, .int l2), (3, .int l3), (4, .int l4)], [.int 0], (gh_mo S, 0, 0))) (fun _ => rfl) ?_
        refine gh_T_weak (lv := [(0, .ref 56), (3, .int l3)]) ⟨rfl, rfl, trivial⟩ ?_
        exact kX10_walks_252 d N kc33 hkc33 kc152 hkc152 l3 0 S _ h
      | false =>
        rw [c1, cond_false] at h
        refine gh_T_if false rfl c1 ?_
        refine gh_T_weak (lv := [(0, .ref 56), (3, .int l3)]) ⟨rfl, rfl, trivial⟩ ?_
        exact kX10_walks_247 d N kc33 hkc33 kc152 hkc152 l3 S _ h
def sX10_walks_230 (N : Nat) (kc33 : Int32 → gh_St → Option (gh_St)) (kc152 : Int32 → Int32 → gh_St → Option (gh_St)) (l2 : Int32) (l3 : Int32) (l4 : Int32) (S : gh_St) : Option (gh_St) :=
  sX10_walks_231 N kc33 kc152 l2 l3 l4 0 S
set_option maxRecDepth 100000 in
theorem kX10_walks_230 (d N : Nat) (kc33 : Int32 → gh_St → Option (gh_St)) (hkc33 : ∀ (l2 : Int32) (S : gh_St) (r : gh_St), kc33 l2 S = some r → gh_T (d + 1) fX10_walks 0 0 none false false (33, [(0, .ref 56), (2, .int l2)], [], (gh_mo S, 0, 0)) (none, (gh_mo r, 0, 0))) (kc152 : Int32 → Int32 → gh_St → Option (gh_St)) (hkc152 : ∀ (l2 : Int32) (l3 : Int32) (S : gh_St) (r : gh_St), kc152 l2 l3 S = some r → gh_T (d + 1) fX10_walks 0 0 none false false (152, [(0, .ref 56), (2, .int l2), (3, .int l3)], [], (gh_mo S, 0, 0)) (none, (gh_mo r, 0, 0))) (l2 : Int32) (l3 : Int32) (l4 : Int32) (S : gh_St) (r : gh_St) (h : sX10_walks_230 N kc33 kc152 l2 l3 l4 S = some r) : gh_T (d + 1) fX10_walks 0 0 none false false (230, [(0, .ref 56), (2, .int l2), (3, .int l3), (4, .int l4)], [], (gh_mo S, 0, 0)) (none, (gh_mo r, 0, 0)) := by
  unfold sX10_walks_230 at h
  refine gh_T_steps 1 (τ := (231, [(0, .ref 56), (2, .int l2), (3, .int l3), (4, .int l4)], [.int 0], (gh_mo S, 0, 0))) (fun _ => rfl) ?_
  exact kX10_walks_231 d N kc33 hkc33 kc152 hkc152 l2 l3 l4 0 S _ h
def sX10_walks_195 (N : Nat) (kc33 : Int32 → gh_St → Option (gh_St)) (kc152 : Int32 → Int32 → gh_St → Option (gh_St)) (l2 : Int32) (l3 : Int32) (t0 : Int32) (S : gh_St) : Option (gh_St) :=
  (gh_ra S 89 12 l3).bind fun x1 =>
  bif gh_cmp .le x1 0 then
    (sX10_walks_230 N kc33 kc152 l2 l3 t0 S)
  else
    ((gh_ra S 73 12 l3).bind fun x2 =>
    (sX10_reaches N 20 ((8 : Int32) + l3) (-x2) S).bind fun q3 =>
    bif gh_cmp .eq q3.1 0 then
      (sX10_walks_230 N kc33 kc152 l2 l3 t0 q3.2)
    else
      (sX10_walks_231 N kc33 kc152 l2 l3 t0 1 q3.2))
set_option maxRecDepth 100000 in
theorem kX10_walks_195 (d N : Nat) (kc33 : Int32 → gh_St → Option (gh_St)) (hkc33 : ∀ (l2 : Int32) (S : gh_St) (r : gh_St), kc33 l2 S = some r → gh_T (d + 1) fX10_walks 0 0 none false false (33, [(0, .ref 56), (2, .int l2)], [], (gh_mo S, 0, 0)) (none, (gh_mo r, 0, 0))) (kc152 : Int32 → Int32 → gh_St → Option (gh_St)) (hkc152 : ∀ (l2 : Int32) (l3 : Int32) (S : gh_St) (r : gh_St), kc152 l2 l3 S = some r → gh_T (d + 1) fX10_walks 0 0 none false false (152, [(0, .ref 56), (2, .int l2), (3, .int l3)], [], (gh_mo S, 0, 0)) (none, (gh_mo r, 0, 0))) (l2 : Int32) (l3 : Int32) (t0 : Int32) (S : gh_St) (r : gh_St) (h : sX10_walks_195 N kc33 kc152 l2 l3 t0 S = some r) : gh_T (d + 1) fX10_walks 0 0 none false false (195, [(0, .ref 56), (2, .int l2), (3, .int l3)], [.int t0], (gh_mo S, 0, 0)) (none, (gh_mo r, 0, 0)) := by
  unfold sX10_walks_195 at h
  refine gh_T_steps 4 (τ := (202, [(4, .int t0), (0, .ref 56), (2, .int l2), (3, .int l3)], [.int l3, .ref 89], (gh_mo S, 0, 0))) (fun _ => rfl) ?_
  obtain ⟨x1, hx1, h⟩ := gh_bi h
  refine gh_T_ra rfl rfl hx1 ?_
  cases c5 : gh_cmp .le x1 0 with
  | true =>
    rw [c5, cond_true] at h
    refine gh_T_if true rfl c5 ?_
    refine gh_T_weak (lv := [(0, .ref 56), (2, .int l2), (3, .int l3), (4, .int t0)]) ⟨rfl, rfl, rfl, rfl, trivial⟩ ?_
    exact kX10_walks_230 d N kc33 hkc33 kc152 hkc152 l2 l3 t0 S _ h
  | false =>
    rw [c5, cond_false] at h
    refine gh_T_if false rfl c5 ?_
    refine gh_T_steps 8 (τ := (218, [(4, .int t0), (0, .ref 56), (2, .int l2), (3, .int l3)], [.int l3, .ref 73, .int ((8 : Int32) + l3), .int 20, .ref 56], (gh_mo S, 0, 0))) (fun _ => rfl) ?_
    obtain ⟨x2, hx2, h⟩ := gh_bi h
    refine gh_T_ra rfl rfl hx2 ?_
    refine gh_T_steps 1 (τ := (220, [(4, .int t0), (0, .ref 56), (2, .int l2), (3, .int l3)], [.int (-x2), .int ((8 : Int32) + l3), .int 20, .ref 56], (gh_mo S, 0, 0))) (fun _ => rfl) ?_
    obtain ⟨q3, hq3, h⟩ := gh_bi h
    refine gh_T_iv (As := [.int 20, .int ((8 : Int32) + l3), .int (-x2)]) (b := 56) (rest := []) (y := some (.int q3.1)) (M' := gh_mo q3.2) rfl rfl rfl rfl rfl rfl rfl rfl rfl ⟨Nat.le_refl _, Nat.le_refl _⟩ (kX10_reaches d N 20 ((8 : Int32) + l3) (-x2) S q3 hq3) ?_
    cases c4 : gh_cmp .eq q3.1 0 with
    | true =>
      rw [c4, cond_true] at h
      refine gh_T_if true rfl c4 ?_
      refine gh_T_weak (lv := [(0, .ref 56), (2, .int l2), (3, .int l3), (4, .int t0)]) ⟨rfl, rfl, rfl, rfl, trivial⟩ ?_
      exact kX10_walks_230 d N kc33 hkc33 kc152 hkc152 l2 l3 t0 q3.2 _ h
    | false =>
      rw [c4, cond_false] at h
      refine gh_T_if false rfl c4 ?_
      refine gh_T_steps 2 (τ := (231, [(4, .int t0), (0, .ref 56), (2, .int l2), (3, .int l3)], [.int 1], (gh_mo q3.2, 0, 0))) (fun _ => rfl) ?_
      refine gh_T_weak (lv := [(0, .ref 56), (2, .int l2), (3, .int l3), (4, .int t0)]) ⟨rfl, rfl, rfl, rfl, trivial⟩ ?_
      exact kX10_walks_231 d N kc33 hkc33 kc152 hkc152 l2 l3 t0 1 q3.2 _ h
def sX10_walks_194 (N : Nat) (kc33 : Int32 → gh_St → Option (gh_St)) (kc152 : Int32 → Int32 → gh_St → Option (gh_St)) (l2 : Int32) (l3 : Int32) (S : gh_St) : Option (gh_St) :=
  sX10_walks_195 N kc33 kc152 l2 l3 0 S
set_option maxRecDepth 100000 in
theorem kX10_walks_194 (d N : Nat) (kc33 : Int32 → gh_St → Option (gh_St)) (hkc33 : ∀ (l2 : Int32) (S : gh_St) (r : gh_St), kc33 l2 S = some r → gh_T (d + 1) fX10_walks 0 0 none false false (33, [(0, .ref 56), (2, .int l2)], [], (gh_mo S, 0, 0)) (none, (gh_mo r, 0, 0))) (kc152 : Int32 → Int32 → gh_St → Option (gh_St)) (hkc152 : ∀ (l2 : Int32) (l3 : Int32) (S : gh_St) (r : gh_St), kc152 l2 l3 S = some r → gh_T (d + 1) fX10_walks 0 0 none false false (152, [(0, .ref 56), (2, .int l2), (3, .int l3)], [], (gh_mo S, 0, 0)) (none, (gh_mo r, 0, 0))) (l2 : Int32) (l3 : Int32) (S : gh_St) (r : gh_St) (h : sX10_walks_194 N kc33 kc152 l2 l3 S = some r) : gh_T (d + 1) fX10_walks 0 0 none false false (194, [(0, .ref 56), (2, .int l2), (3, .int l3)], [], (gh_mo S, 0, 0)) (none, (gh_mo r, 0, 0)) := by
  unfold sX10_walks_194 at h
  refine gh_T_steps 1 (τ := (195, [(0, .ref 56), (2, .int l2), (3, .int l3)], [.int 0], (gh_mo S, 0, 0))) (fun _ => rfl) ?_
  exact kX10_walks_195 d N kc33 hkc33 kc152 hkc152 l2 l3 0 S _ h
def sX10_walks_152 (N : Nat) (kc33 : Int32 → gh_St → Option (gh_St)) : Nat → Int32 → Int32 → gh_St → Option (gh_St)
  | 0, _, _, _ => none
  | n + 1, l2, l3, S =>
    bif gh_cmp .ge l3 12 then
      (kc33 l2 S)
    else
      ((gh_ra S 89 12 l3).bind fun x1 =>
      bif gh_cmp .ge x1 (S.1 56 29) then
        (sX10_walks_194 N kc33 (sX10_walks_152 N kc33 n) l2 l3 S)
      else
        ((gh_ra S 73 12 l3).bind fun x2 =>
        (sX10_reaches N ((8 : Int32) + l3) 20 x2 S).bind fun q3 =>
        bif gh_cmp .eq q3.1 0 then
          (sX10_walks_194 N kc33 (sX10_walks_152 N kc33 n) l2 l3 q3.2)
        else
          (sX10_walks_195 N kc33 (sX10_walks_152 N kc33 n) l2 l3 1 q3.2)))
set_option maxRecDepth 100000 in
theorem kX10_walks_152 (d N : Nat) (kc33 : Int32 → gh_St → Option (gh_St)) (hkc33 : ∀ (l2 : Int32) (S : gh_St) (r : gh_St), kc33 l2 S = some r → gh_T (d + 1) fX10_walks 0 0 none false false (33, [(0, .ref 56), (2, .int l2)], [], (gh_mo S, 0, 0)) (none, (gh_mo r, 0, 0))) : ∀ (n : Nat) (l2 : Int32) (l3 : Int32) (S : gh_St) (r : gh_St), sX10_walks_152 N kc33 n l2 l3 S = some r → gh_T (d + 1) fX10_walks 0 0 none false false (152, [(0, .ref 56), (2, .int l2), (3, .int l3)], [], (gh_mo S, 0, 0)) (none, (gh_mo r, 0, 0)) := by
  intro n
  induction n with
  | zero =>
    intro l2 l3 S r h
    cases h
  | succ n ih =>
    intro l2 l3 S r h
    rw [sX10_walks_152] at h
    refine gh_T_steps 2 (τ := (155, [(0, .ref 56), (2, .int l2), (3, .int l3)], [.int 12, .int l3], (gh_mo S, 0, 0))) (fun _ => rfl) ?_
    cases c6 : gh_cmp .ge l3 12 with
    | true =>
      rw [c6, cond_true] at h
      refine gh_T_ic true rfl c6 ?_
      refine gh_T_steps 1 (τ := (33, [(0, .ref 56), (2, .int l2), (3, .int l3)], [], (gh_mo S, 0, 0))) (fun _ => rfl) ?_
      refine gh_T_weak (lv := [(0, .ref 56), (2, .int l2)]) ⟨rfl, rfl, trivial⟩ ?_
      exact hkc33 l2 S _ h
    | false =>
      rw [c6, cond_false] at h
      refine gh_T_ic false rfl c6 ?_
      refine gh_T_steps 3 (τ := (163, [(0, .ref 56), (2, .int l2), (3, .int l3)], [.int l3, .ref 89], (gh_mo S, 0, 0))) (fun _ => rfl) ?_
      obtain ⟨x1, hx1, h⟩ := gh_bi h
      refine gh_T_ra rfl rfl hx1 ?_
      refine gh_T_steps 2 (τ := (168, [(0, .ref 56), (2, .int l2), (3, .int l3)], [.int (S.1 56 29), .int x1], (gh_mo S, 0, 0))) (fun _ => rfl) ?_
      cases c5 : gh_cmp .ge x1 (S.1 56 29) with
      | true =>
        rw [c5, cond_true] at h
        refine gh_T_ic true rfl c5 ?_
        exact kX10_walks_194 d N kc33 hkc33 (sX10_walks_152 N kc33 n) ih l2 l3 S _ h
      | false =>
        rw [c5, cond_false] at h
        refine gh_T_ic false rfl c5 ?_
        refine gh_T_steps 8 (τ := (183, [(0, .ref 56), (2, .int l2), (3, .int l3)], [.int l3, .ref 73, .int 20, .int ((8 : Int32) + l3), .ref 56], (gh_mo S, 0, 0))) (fun _ => rfl) ?_
        obtain ⟨x2, hx2, h⟩ := gh_bi h
        refine gh_T_ra rfl rfl hx2 ?_
        obtain ⟨q3, hq3, h⟩ := gh_bi h
        refine gh_T_iv (As := [.int ((8 : Int32) + l3), .int 20, .int x2]) (b := 56) (rest := []) (y := some (.int q3.1)) (M' := gh_mo q3.2) rfl rfl rfl rfl rfl rfl rfl rfl rfl ⟨Nat.le_refl _, Nat.le_refl _⟩ (kX10_reaches d N ((8 : Int32) + l3) 20 x2 S q3 hq3) ?_
        cases c4 : gh_cmp .eq q3.1 0 with
        | true =>
          rw [c4, cond_true] at h
          refine gh_T_if true rfl c4 ?_
          exact kX10_walks_194 d N kc33 hkc33 (sX10_walks_152 N kc33 n) ih l2 l3 q3.2 _ h
        | false =>
          rw [c4, cond_false] at h
          refine gh_T_if false rfl c4 ?_
          refine gh_T_steps 2 (τ := (195, [(0, .ref 56), (2, .int l2), (3, .int l3)], [.int 1], (gh_mo q3.2, 0, 0))) (fun _ => rfl) ?_
          exact kX10_walks_195 d N kc33 hkc33 (sX10_walks_152 N kc33 n) ih l2 l3 1 q3.2 _ h
def sX10_walks_41 (N : Nat) (kc33 : Int32 → gh_St → Option (gh_St)) : Nat → Int32 → Int32 → gh_St → Option (gh_St)
  | 0, _, _, _ => none
  | n + 1, l2, l3, S =>
    bif gh_cmp .ge l3 8 then
      (sX10_walks_152 N kc33 N l2 0 S)
    else
      (sX10_walks_50 N kc33 (sX10_walks_41 N kc33 n) N l2 l3 0 S)
set_option maxRecDepth 100000 in
theorem kX10_walks_41 (d N : Nat) (kc33 : Int32 → gh_St → Option (gh_St)) (hkc33 : ∀ (l2 : Int32) (S : gh_St) (r : gh_St), kc33 l2 S = some r → gh_T (d + 1) fX10_walks 0 0 none false false (33, [(0, .ref 56), (2, .int l2)], [], (gh_mo S, 0, 0)) (none, (gh_mo r, 0, 0))) : ∀ (n : Nat) (l2 : Int32) (l3 : Int32) (S : gh_St) (r : gh_St), sX10_walks_41 N kc33 n l2 l3 S = some r → gh_T (d + 1) fX10_walks 0 0 none false false (41, [(0, .ref 56), (2, .int l2), (3, .int l3)], [], (gh_mo S, 0, 0)) (none, (gh_mo r, 0, 0)) := by
  intro n
  induction n with
  | zero =>
    intro l2 l3 S r h
    cases h
  | succ n ih =>
    intro l2 l3 S r h
    rw [sX10_walks_41] at h
    refine gh_T_steps 2 (τ := (44, [(0, .ref 56), (2, .int l2), (3, .int l3)], [.int 8, .int l3], (gh_mo S, 0, 0))) (fun _ => rfl) ?_
    cases c1 : gh_cmp .ge l3 8 with
    | true =>
      rw [c1, cond_true] at h
      refine gh_T_ic true rfl c1 ?_
      refine gh_T_steps 2 (τ := (152, [(3, .int 0), (0, .ref 56), (2, .int l2)], [], (gh_mo S, 0, 0))) (fun _ => rfl) ?_
      refine gh_T_weak (lv := [(0, .ref 56), (2, .int l2), (3, .int 0)]) ⟨rfl, rfl, rfl, trivial⟩ ?_
      exact kX10_walks_152 d N kc33 hkc33 N l2 0 S _ h
    | false =>
      rw [c1, cond_false] at h
      refine gh_T_ic false rfl c1 ?_
      refine gh_T_steps 2 (τ := (50, [(4, .int 0), (0, .ref 56), (2, .int l2), (3, .int l3)], [], (gh_mo S, 0, 0))) (fun _ => rfl) ?_
      refine gh_T_weak (lv := [(0, .ref 56), (2, .int l2), (3, .int l3), (4, .int 0)]) ⟨rfl, rfl, rfl, rfl, trivial⟩ ?_
      exact kX10_walks_50 d N kc33 hkc33 (sX10_walks_41 N kc33 n) ih N l2 l3 0 S _ h
def sX10_walks_33 (N : Nat) : Nat → Int32 → gh_St → Option (gh_St)
  | 0, _, _ => none
  | n + 1, l2, S =>
    bif gh_cmp .eq l2 0 then
      (some S)
    else
      (sX10_walks_41 N (sX10_walks_33 N n) N 0 0 S)
set_option maxRecDepth 100000 in
theorem kX10_walks_33 (d N : Nat) : ∀ (n : Nat) (l2 : Int32) (S : gh_St) (r : gh_St), sX10_walks_33 N n l2 S = some r → gh_T (d + 1) fX10_walks 0 0 none false false (33, [(0, .ref 56), (2, .int l2)], [], (gh_mo S, 0, 0)) (none, (gh_mo r, 0, 0)) := by
  intro n
  induction n with
  | zero =>
    intro l2 S r h
    cases h
  | succ n ih =>
    intro l2 S r h
    rw [sX10_walks_33] at h
    refine gh_T_steps 1 (τ := (34, [(0, .ref 56), (2, .int l2)], [.int l2], (gh_mo S, 0, 0))) (fun _ => rfl) ?_
    cases c1 : gh_cmp .eq l2 0 with
    | true =>
      rw [c1, cond_true] at h
      refine gh_T_if true rfl c1 ?_
      cases h
      exact gh_T_ret (fun _ => rfl)
    | false =>
      rw [c1, cond_false] at h
      refine gh_T_if false rfl c1 ?_
      refine gh_T_steps 4 (τ := (41, [(3, .int 0), (2, .int 0), (0, .ref 56)], [], (gh_mo S, 0, 0))) (fun _ => rfl) ?_
      refine gh_T_weak (lv := [(0, .ref 56), (2, .int 0), (3, .int 0)]) ⟨rfl, rfl, rfl, trivial⟩ ?_
      exact kX10_walks_41 d N (sX10_walks_33 N n) ih N 0 0 S _ h
def sX10_walks_2 (N : Nat) : Nat → Int32 → Int32 → gh_St → Option (gh_St)
  | 0, _, _, _ => none
  | n + 1, l1, l2, S =>
    bif gh_cmp .ge l2 21 then
      (sX10_walks_33 N N 1 S)
    else
      (bif gh_cmp .ne l2 l1 then
        (sX10_walks_24 N (sX10_walks_2 N n) l1 l2 100000000 l2 S)
      else
        (sX10_walks_24 N (sX10_walks_2 N n) l1 l2 0 l2 S))
set_option maxRecDepth 100000 in
theorem kX10_walks_2 (d N : Nat) : ∀ (n : Nat) (l1 : Int32) (l2 : Int32) (S : gh_St) (r : gh_St), sX10_walks_2 N n l1 l2 S = some r → gh_T (d + 1) fX10_walks 0 0 none false false (2, [(0, .ref 56), (1, .int l1), (2, .int l2)], [], (gh_mo S, 0, 0)) (none, (gh_mo r, 0, 0)) := by
  intro n
  induction n with
  | zero =>
    intro l1 l2 S r h
    cases h
  | succ n ih =>
    intro l1 l2 S r h
    rw [sX10_walks_2] at h
    refine gh_T_steps 2 (τ := (5, [(0, .ref 56), (1, .int l1), (2, .int l2)], [.int 21, .int l2], (gh_mo S, 0, 0))) (fun _ => rfl) ?_
    cases c2 : gh_cmp .ge l2 21 with
    | true =>
      rw [c2, cond_true] at h
      refine gh_T_ic true rfl c2 ?_
      refine gh_T_steps 2 (τ := (33, [(2, .int 1), (0, .ref 56), (1, .int l1)], [], (gh_mo S, 0, 0))) (fun _ => rfl) ?_
      refine gh_T_weak (lv := [(0, .ref 56), (2, .int 1)]) ⟨rfl, rfl, trivial⟩ ?_
      exact kX10_walks_33 d N N 1 S _ h
    | false =>
      rw [c2, cond_false] at h
      refine gh_T_ic false rfl c2 ?_
      refine gh_T_steps 5 (τ := (15, [(0, .ref 56), (1, .int l1), (2, .int l2)], [.int l1, .int l2, .int l2, .ref 90], (gh_mo S, 0, 0))) (fun _ => rfl) ?_
      cases c1 : gh_cmp .ne l2 l1 with
      | true =>
        rw [c1, cond_true] at h
        refine gh_T_ic true rfl c1 ?_
        refine gh_T_steps 1 (τ := (24, [(0, .ref 56), (1, .int l1), (2, .int l2)], [.int 100000000, .int l2, .ref 90], (gh_mo S, 0, 0))) (fun _ => rfl) ?_
        exact kX10_walks_24 d N (sX10_walks_2 N n) ih l1 l2 100000000 l2 S _ h
      | false =>
        rw [c1, cond_false] at h
        refine gh_T_ic false rfl c1 ?_
        refine gh_T_steps 2 (τ := (24, [(0, .ref 56), (1, .int l1), (2, .int l2)], [.int 0, .int l2, .ref 90], (gh_mo S, 0, 0))) (fun _ => rfl) ?_
        exact kX10_walks_24 d N (sX10_walks_2 N n) ih l1 l2 0 l2 S _ h
def sX10_walks (N : Nat) (a1 : Int32) (S : gh_St) : Option (gh_St) :=
  sX10_walks_2 N N a1 0 S
set_option maxRecDepth 100000 in
theorem kX10_walks_e (d N : Nat) (a1 : Int32) (S : gh_St) (r : gh_St) (h : sX10_walks N a1 S = some r) : gh_T (d + 1) fX10_walks 0 0 none false false (0, [(0, .ref 56), (1, .int a1)], [], (gh_mo S, 0, 0)) (none, (gh_mo r, 0, 0)) := by
  unfold sX10_walks at h
  refine gh_T_steps 2 (τ := (2, [(2, .int 0), (0, .ref 56), (1, .int a1)], [], (gh_mo S, 0, 0))) (fun _ => rfl) ?_
  refine gh_T_weak (lv := [(0, .ref 56), (1, .int a1), (2, .int 0)]) ⟨rfl, rfl, rfl, trivial⟩ ?_
  exact kX10_walks_2 d N N a1 0 S _ h
theorem kX10_walks (d N : Nat) (a1 : Int32) (S : gh_St) (r : gh_St) (h : sX10_walks N a1 S = some r) : gh_Mx (d + 2) 150 [.ref 56, .int a1] (gh_mo S) none (gh_mo r) :=
  gh_Mx_of rfl rfl rfl rfl rfl rfl (kX10_walks_e d N a1 S r h)
def sX10_turns_102 (N : Nat) (kc2 : Int32 → Int32 → gh_St → Option (gh_St)) (l1 : Int32) (l4 : Int32) (S : gh_St) : Option (gh_St) :=
  kc2 l1 l4 S
set_option maxRecDepth 100000 in
theorem kX10_turns_102 (d N : Nat) (kc2 : Int32 → Int32 → gh_St → Option (gh_St)) (hkc2 : ∀ (l1 : Int32) (l3 : Int32) (S : gh_St) (r : gh_St), kc2 l1 l3 S = some r → gh_T d fX10_turns 0 0 none false false (2, [(0, .ref 56), (1, .int l1), (3, .int l3)], [], (gh_mo S, 0, 0)) (none, (gh_mo r, 0, 0))) (l1 : Int32) (l4 : Int32) (S : gh_St) (r : gh_St) (h : sX10_turns_102 N kc2 l1 l4 S = some r) : gh_T d fX10_turns 0 0 none false false (102, [(0, .ref 56), (1, .int l1), (4, .int l4)], [], (gh_mo S, 0, 0)) (none, (gh_mo r, 0, 0)) := by
  unfold sX10_turns_102 at h
  refine gh_T_steps 3 (τ := (2, [(3, .int l4), (0, .ref 56), (1, .int l1), (4, .int l4)], [], (gh_mo S, 0, 0))) (fun _ => rfl) ?_
  refine gh_T_weak (lv := [(0, .ref 56), (1, .int l1), (3, .int l4)]) ⟨rfl, rfl, rfl, trivial⟩ ?_
  exact hkc2 l1 l4 S _ h
def sX10_turns_2 (N : Nat) : Nat → Int32 → Int32 → gh_St → Option (gh_St)
  | 0, _, _, _ => none
  | n + 1, l1, l3, S =>
    bif gh_cmp .eq l3 l1 then
      (some S)
    else
      ((gh_ra S 91 21 l3).bind fun x1 =>
      bif gh_cmp .ge x1 8 then
        (bif gh_cmp .ge l3 8 then
          (bif gh_cmp .ne l3 20 then
            ((gh_ra S 89 12 (l3 - (8 : Int32))).bind fun x2 =>
            (gh_wa S 89 12 (l3 - (8 : Int32)) (x2 - (1 : Int32))).bind fun S3 =>
            (sX10_turns_2 N n) l1 x1 S3)
          else
            ((gh_ra S 89 12 (x1 - (8 : Int32))).bind fun x4 =>
            (gh_wa S 89 12 (x1 - (8 : Int32)) (x4 + (1 : Int32))).bind fun S5 =>
            sX10_turns_102 N (sX10_turns_2 N n) l1 x1 S5))
        else
          ((gh_wa S 87 96 ((((12 : Int32) * l3) + x1) - (8 : Int32)) (vp_nar .boolean 0)).bind fun S7 =>
          sX10_turns_102 N (sX10_turns_2 N n) l1 x1 S7))
      else
        ((gh_wa S 87 96 ((((12 : Int32) * x1) + l3) - (8 : Int32)) (vp_nar .boolean 1)).bind fun S9 =>
        sX10_turns_102 N (sX10_turns_2 N n) l1 x1 S9))
set_option maxRecDepth 100000 in
theorem kX10_turns_2 (d N : Nat) : ∀ (n : Nat) (l1 : Int32) (l3 : Int32) (S : gh_St) (r : gh_St), sX10_turns_2 N n l1 l3 S = some r → gh_T d fX10_turns 0 0 none false false (2, [(0, .ref 56), (1, .int l1), (3, .int l3)], [], (gh_mo S, 0, 0)) (none, (gh_mo r, 0, 0)) := by
  intro n
  induction n with
  | zero =>
    intro l1 l3 S r h
    cases h
  | succ n ih =>
    intro l1 l3 S r h
    rw [sX10_turns_2] at h
    refine gh_T_steps 2 (τ := (4, [(0, .ref 56), (1, .int l1), (3, .int l3)], [.int l1, .int l3], (gh_mo S, 0, 0))) (fun _ => rfl) ?_
    cases c11 : gh_cmp .eq l3 l1 with
    | true =>
      rw [c11, cond_true] at h
      refine gh_T_ic true rfl c11 ?_
      cases h
      exact gh_T_ret (fun _ => rfl)
    | false =>
      rw [c11, cond_false] at h
      refine gh_T_ic false rfl c11 ?_
      refine gh_T_steps 3 (τ := (12, [(0, .ref 56), (1, .int l1), (3, .int l3)], [.int l3, .ref 91], (gh_mo S, 0, 0))) (fun _ => rfl) ?_
      obtain ⟨x1, hx1, h⟩ := gh_bi h
      refine gh_T_ra rfl rfl hx1 ?_
      refine gh_T_steps 3 (τ := (19, [(4, .int x1), (0, .ref 56), (1, .int l1), (3, .int l3)], [.int 8, .int x1], (gh_mo S, 0, 0))) (fun _ => rfl) ?_
      cases c10 : gh_cmp .ge x1 8 with
      | true =>
        rw [c10, cond_true] at h
        refine gh_T_ic true rfl c10 ?_
        refine gh_T_steps 2 (τ := (44, [(4, .int x1), (0, .ref 56), (1, .int l1), (3, .int l3)], [.int 8, .int l3], (gh_mo S, 0, 0))) (fun _ => rfl) ?_
        cases c8 : gh_cmp .ge l3 8 with
        | true =>
          rw [c8, cond_true] at h
          refine gh_T_ic true rfl c8 ?_
          refine gh_T_steps 2 (τ := (69, [(4, .int x1), (0, .ref 56), (1, .int l1), (3, .int l3)], [.int 20, .int l3], (gh_mo S, 0, 0))) (fun _ => rfl) ?_
          cases c6 : gh_cmp .ne l3 20 with
          | true =>
            rw [c6, cond_true] at h
            refine gh_T_ic true rfl c6 ?_
            refine gh_T_steps 6 (τ := (98, [(4, .int x1), (0, .ref 56), (1, .int l1), (3, .int l3)], [.int (l3 - (8 : Int32)), .ref 89, .int (l3 - (8 : Int32)), .ref 89], (gh_mo S, 0, 0))) (fun _ => rfl) ?_
            obtain ⟨x2, hx2, h⟩ := gh_bi h
            refine gh_T_ra rfl rfl hx2 ?_
            refine gh_T_steps 2 (τ := (101, [(4, .int x1), (0, .ref 56), (1, .int l1), (3, .int l3)], [.int (x2 - (1 : Int32)), .int (l3 - (8 : Int32)), .ref 89], (gh_mo S, 0, 0))) (fun _ => rfl) ?_
            obtain ⟨S3, hS3, h⟩ := gh_bi h
            refine gh_T_wa rfl rfl hS3 ?_
            refine gh_T_steps 3 (τ := (2, [(3, .int x1), (4, .int x1), (0, .ref 56), (1, .int l1)], [], (gh_mo S3, 0, 0))) (fun _ => rfl) ?_
            refine gh_T_weak (lv := [(0, .ref 56), (1, .int l1), (3, .int x1)]) ⟨rfl, rfl, rfl, trivial⟩ ?_
            exact ih l1 x1 S3 _ h
          | false =>
            rw [c6, cond_false] at h
            refine gh_T_ic false rfl c6 ?_
            refine gh_T_steps 6 (τ := (82, [(4, .int x1), (0, .ref 56), (1, .int l1), (3, .int l3)], [.int (x1 - (8 : Int32)), .ref 89, .int (x1 - (8 : Int32)), .ref 89], (gh_mo S, 0, 0))) (fun _ => rfl) ?_
            obtain ⟨x4, hx4, h⟩ := gh_bi h
            refine gh_T_ra rfl rfl hx4 ?_
            refine gh_T_steps 2 (τ := (85, [(4, .int x1), (0, .ref 56), (1, .int l1), (3, .int l3)], [.int (x4 + (1 : Int32)), .int (x1 - (8 : Int32)), .ref 89], (gh_mo S, 0, 0))) (fun _ => rfl) ?_
            obtain ⟨S5, hS5, h⟩ := gh_bi h
            refine gh_T_wa rfl rfl hS5 ?_
            refine gh_T_steps 1 (τ := (102, [(4, .int x1), (0, .ref 56), (1, .int l1), (3, .int l3)], [], (gh_mo S5, 0, 0))) (fun _ => rfl) ?_
            refine gh_T_weak (lv := [(0, .ref 56), (1, .int l1), (4, .int x1)]) ⟨rfl, rfl, rfl, trivial⟩ ?_
            exact kX10_turns_102 d N (sX10_turns_2 N n) ih l1 x1 S5 _ h
        | false =>
          rw [c8, cond_false] at h
          refine gh_T_ic false rfl c8 ?_
          refine gh_T_steps 10 (τ := (62, [(4, .int x1), (0, .ref 56), (1, .int l1), (3, .int l3)], [.int 0, .int ((((12 : Int32) * l3) + x1) - (8 : Int32)), .ref 87], (gh_mo S, 0, 0))) (fun _ => rfl) ?_
          obtain ⟨S7, hS7, h⟩ := gh_bi h
          refine gh_T_wz rfl rfl hS7 ?_
          refine gh_T_steps 1 (τ := (102, [(4, .int x1), (0, .ref 56), (1, .int l1), (3, .int l3)], [], (gh_mo S7, 0, 0))) (fun _ => rfl) ?_
          refine gh_T_weak (lv := [(0, .ref 56), (1, .int l1), (4, .int x1)]) ⟨rfl, rfl, rfl, trivial⟩ ?_
          exact kX10_turns_102 d N (sX10_turns_2 N n) ih l1 x1 S7 _ h
      | false =>
        rw [c10, cond_false] at h
        refine gh_T_ic false rfl c10 ?_
        refine gh_T_steps 10 (τ := (37, [(4, .int x1), (0, .ref 56), (1, .int l1), (3, .int l3)], [.int 1, .int ((((12 : Int32) * x1) + l3) - (8 : Int32)), .ref 87], (gh_mo S, 0, 0))) (fun _ => rfl) ?_
        obtain ⟨S9, hS9, h⟩ := gh_bi h
        refine gh_T_wz rfl rfl hS9 ?_
        refine gh_T_steps 1 (τ := (102, [(4, .int x1), (0, .ref 56), (1, .int l1), (3, .int l3)], [], (gh_mo S9, 0, 0))) (fun _ => rfl) ?_
        refine gh_T_weak (lv := [(0, .ref 56), (1, .int l1), (4, .int x1)]) ⟨rfl, rfl, rfl, trivial⟩ ?_
        exact kX10_turns_102 d N (sX10_turns_2 N n) ih l1 x1 S9 _ h
def sX10_turns (N : Nat) (a1 : Int32) (a2 : Int32) (S : gh_St) : Option (gh_St) :=
  sX10_turns_2 N N a1 a2 S
set_option maxRecDepth 100000 in
theorem kX10_turns_e (d N : Nat) (a1 : Int32) (a2 : Int32) (S : gh_St) (r : gh_St) (h : sX10_turns N a1 a2 S = some r) : gh_T d fX10_turns 0 0 none false false (0, [(0, .ref 56), (1, .int a1), (2, .int a2)], [], (gh_mo S, 0, 0)) (none, (gh_mo r, 0, 0)) := by
  unfold sX10_turns at h
  refine gh_T_steps 2 (τ := (2, [(3, .int a2), (0, .ref 56), (1, .int a1), (2, .int a2)], [], (gh_mo S, 0, 0))) (fun _ => rfl) ?_
  refine gh_T_weak (lv := [(0, .ref 56), (1, .int a1), (3, .int a2)]) ⟨rfl, rfl, rfl, trivial⟩ ?_
  exact kX10_turns_2 d N N a1 a2 S _ h
theorem kX10_turns (d N : Nat) (a1 : Int32) (a2 : Int32) (S : gh_St) (r : gh_St) (h : sX10_turns N a1 a2 S = some r) : gh_Mx (d + 1) 151 [.ref 56, .int a1, .int a2] (gh_mo S) none (gh_mo r) :=
  gh_Mx_of rfl rfl rfl rfl rfl rfl (kX10_turns_e d N a1 a2 S r h)
def sX10_plans_61 (N : Nat) (kc53 : Int32 → Int32 → gh_St → Option (Int32 × gh_St)) : Nat → Int32 → Int32 → Int32 → gh_St → Option (Int32 × gh_St)
  | 0, _, _, _, _ => none
  | n + 1, l1, l2, l3, S =>
    (gh_ra S 74 8 l2).bind fun x1 =>
    bif gh_cmp .ge l3 x1 then
      (kc53 l1 (l2 + 1) S)
    else
      ((sX10_walks N l2 S).bind fun q2 =>
      (gh_ra q2 90 21 20).bind fun x3 =>
      bif gh_cmp .lt x3 100000000 then
        ((gh_ra q2 90 21 20).bind fun x4 =>
        (sX10_turns N l2 20 q2).bind fun q5 =>
        (sX10_plans_61 N kc53 n) (l1 + x4) l2 (l3 + 1) q5)
      else
        (some ((-1), q2)))
set_option maxRecDepth 100000 in
theorem kX10_plans_61 (d N : Nat) (kc53 : Int32 → Int32 → gh_St → Option (Int32 × gh_St)) (hkc53 : ∀ (l1 : Int32) (l2 : Int32) (S : gh_St) (r : Int32 × gh_St), kc53 l1 l2 S = some r → gh_T (d + 2) fX10_plans 0 0 none false false (53, [(0, .ref 56), (1, .int l1), (2, .int l2)], [], (gh_mo S, 0, 0)) (some (.int r.1), (gh_mo r.2, 0, 0))) : ∀ (n : Nat) (l1 : Int32) (l2 : Int32) (l3 : Int32) (S : gh_St) (r : Int32 × gh_St), sX10_plans_61 N kc53 n l1 l2 l3 S = some r → gh_T (d + 2) fX10_plans 0 0 none false false (61, [(0, .ref 56), (1, .int l1), (2, .int l2), (3, .int l3)], [], (gh_mo S, 0, 0)) (some (.int r.1), (gh_mo r.2, 0, 0)) := by
  intro n
  induction n with
  | zero =>
    intro l1 l2 l3 S r h
    cases h
  | succ n ih =>
    intro l1 l2 l3 S r h
    rw [sX10_plans_61] at h
    refine gh_T_steps 4 (τ := (67, [(0, .ref 56), (1, .int l1), (2, .int l2), (3, .int l3)], [.int l2, .ref 74, .int l3], (gh_mo S, 0, 0))) (fun _ => rfl) ?_
    obtain ⟨x1, hx1, h⟩ := gh_bi h
    refine gh_T_ra rfl rfl hx1 ?_
    cases c7 : gh_cmp .ge l3 x1 with
    | true =>
      rw [c7, cond_true] at h
      refine gh_T_ic true rfl c7 ?_
      refine gh_T_steps 2 (τ := (53, [(2, .int (l2 + 1)), (0, .ref 56), (1, .int l1), (3, .int l3)], [], (gh_mo S, 0, 0))) (fun _ => rfl) ?_
      refine gh_T_weak (lv := [(0, .ref 56), (1, .int l1), (2, .int (l2 + 1))]) ⟨rfl, rfl, rfl, trivial⟩ ?_
      exact hkc53 l1 (l2 + 1) S _ h
    | false =>
      rw [c7, cond_false] at h
      refine gh_T_ic false rfl c7 ?_
      refine gh_T_steps 2 (τ := (73, [(0, .ref 56), (1, .int l1), (2, .int l2), (3, .int l3)], [.int l2, .ref 56], (gh_mo S, 0, 0))) (fun _ => rfl) ?_
      obtain ⟨q2, hq2, h⟩ := gh_bi h
      refine gh_T_iv (As := [.int l2]) (b := 56) (rest := []) (y := none) (M' := gh_mo q2) rfl rfl rfl rfl rfl rfl rfl rfl rfl ⟨Nat.le_refl _, Nat.le_refl _⟩ (kX10_walks d N l2 S q2 hq2) ?_
      refine gh_T_steps 3 (τ := (82, [(0, .ref 56), (1, .int l1), (2, .int l2), (3, .int l3)], [.int 20, .ref 90], (gh_mo q2, 0, 0))) (fun _ => rfl) ?_
      obtain ⟨x3, hx3, h⟩ := gh_bi h
      refine gh_T_ra rfl rfl hx3 ?_
      refine gh_T_steps 1 (τ := (85, [(0, .ref 56), (1, .int l1), (2, .int l2), (3, .int l3)], [.int 100000000, .int x3], (gh_mo q2, 0, 0))) (fun _ => rfl) ?_
      cases c6 : gh_cmp .lt x3 100000000 with
      | true =>
        rw [c6, cond_true] at h
        refine gh_T_ic true rfl c6 ?_
        refine gh_T_steps 4 (τ := (97, [(0, .ref 56), (1, .int l1), (2, .int l2), (3, .int l3)], [.int 20, .ref 90, .int l1], (gh_mo q2, 0, 0))) (fun _ => rfl) ?_
        obtain ⟨x4, hx4, h⟩ := gh_bi h
        refine gh_T_ra rfl rfl hx4 ?_
        refine gh_T_steps 5 (τ := (104, [(1, .int (l1 + x4)), (0, .ref 56), (2, .int l2), (3, .int l3)], [.int 20, .int l2, .ref 56], (gh_mo q2, 0, 0))) (fun _ => rfl) ?_
        obtain ⟨q5, hq5, h⟩ := gh_bi h
        refine gh_T_iv (As := [.int l2, .int 20]) (b := 56) (rest := []) (y := none) (M' := gh_mo q5) rfl rfl rfl rfl rfl rfl rfl rfl rfl ⟨Nat.le_refl _, Nat.le_refl _⟩ (kX10_turns (d + 1) N l2 20 q2 q5 hq5) ?_
        refine gh_T_steps 2 (τ := (61, [(3, .int (l3 + 1)), (1, .int (l1 + x4)), (0, .ref 56), (2, .int l2)], [], (gh_mo q5, 0, 0))) (fun _ => rfl) ?_
        refine gh_T_weak (lv := [(0, .ref 56), (1, .int (l1 + x4)), (2, .int l2), (3, .int (l3 + 1))]) ⟨rfl, rfl, rfl, rfl, trivial⟩ ?_
        exact ih (l1 + x4) l2 (l3 + 1) q5 _ h
      | false =>
        rw [c6, cond_false] at h
        refine gh_T_ic false rfl c6 ?_
        refine gh_T_steps 1 (τ := (89, [(0, .ref 56), (1, .int l1), (2, .int l2), (3, .int l3)], [.int ((-1))], (gh_mo q2, 0, 0))) (fun _ => rfl) ?_
        cases h
        exact gh_T_ret (fun _ => rfl)
def sX10_plans_208 (N : Nat) (kc121 : Int32 → Int32 → gh_St → Option (Int32 × gh_St)) (l1 : Int32) (l2 : Int32) (S : gh_St) : Option (Int32 × gh_St) :=
  (gh_wa S 88 96 l2 (vp_nar .boolean 1)).bind fun S1 =>
  kc121 l1 (l2 + 1) S1
set_option maxRecDepth 100000 in
theorem kX10_plans_208 (d N : Nat) (kc121 : Int32 → Int32 → gh_St → Option (Int32 × gh_St)) (hkc121 : ∀ (l1 : Int32) (l2 : Int32) (S : gh_St) (r : Int32 × gh_St), kc121 l1 l2 S = some r → gh_T (d + 2) fX10_plans 0 0 none false false (121, [(0, .ref 56), (1, .int l1), (2, .int l2)], [], (gh_mo S, 0, 0)) (some (.int r.1), (gh_mo r.2, 0, 0))) (l1 : Int32) (l2 : Int32) (S : gh_St) (r : Int32 × gh_St) (h : sX10_plans_208 N kc121 l1 l2 S = some r) : gh_T (d + 2) fX10_plans 0 0 none false false (208, [(0, .ref 56), (1, .int l1), (2, .int l2)], [], (gh_mo S, 0, 0)) (some (.int r.1), (gh_mo r.2, 0, 0)) := by
  unfold sX10_plans_208 at h
  refine gh_T_steps 4 (τ := (214, [(0, .ref 56), (1, .int l1), (2, .int l2)], [.int 1, .int l2, .ref 88], (gh_mo S, 0, 0))) (fun _ => rfl) ?_
  obtain ⟨S1, hS1, h⟩ := gh_bi h
  refine gh_T_wz rfl rfl hS1 ?_
  refine gh_T_steps 2 (τ := (121, [(2, .int (l2 + 1)), (0, .ref 56), (1, .int l1)], [], (gh_mo S1, 0, 0))) (fun _ => rfl) ?_
  refine gh_T_weak (lv := [(0, .ref 56), (1, .int l1), (2, .int (l2 + 1))]) ⟨rfl, rfl, rfl, trivial⟩ ?_
  exact hkc121 l1 (l2 + 1) S1 _ h
def sX10_plans_121 (N : Nat) : Nat → Int32 → Int32 → gh_St → Option (Int32 × gh_St)
  | 0, _, _, _ => none
  | n + 1, l1, l2, S =>
    bif gh_cmp .ge l2 96 then
      (some (l1, S))
    else
      ((gh_di l2 12).bind fun x1 =>
      (gh_re l2 12).bind fun x2 =>
      (gh_ra S 87 96 l2).bind fun x3 =>
      bif gh_cmp .ne x3 0 then
        (sX10_plans_208 N (sX10_plans_121 N n) l1 l2 S)
      else
        ((sX10_may N x1 x2 S).bind fun q4 =>
        bif gh_cmp .eq q4.1 0 then
          (sX10_plans_208 N (sX10_plans_121 N n) l1 l2 q4.2)
        else
          ((gh_ra q4.2 74 8 x1).bind fun x5 =>
          bif gh_cmp .le x5 0 then
            (sX10_plans_208 N (sX10_plans_121 N n) l1 l2 q4.2)
          else
            ((gh_wa q4.2 88 96 l2 (vp_nar .boolean 1)).bind fun S6 =>
            (sX10_walks N ((8 : Int32) + x2) S6).bind fun q7 =>
            (gh_ra q7 90 21 x1).bind fun x8 =>
            bif gh_cmp .ne x8 0 then
              (sX10_plans_208 N (sX10_plans_121 N n) l1 l2 q7)
            else
              ((sX10_turns N ((8 : Int32) + x2) x1 q7).bind fun q9 =>
              (gh_wa q9 87 96 l2 (vp_nar .boolean 1)).bind fun S10 =>
              (gh_wa S10 88 96 l2 (vp_nar .boolean 1)).bind fun S11 =>
              (sX10_plans_121 N n) l1 (l2 + 1) S11)))))
set_option maxRecDepth 100000 in
theorem kX10_plans_121 (d N : Nat) : ∀ (n : Nat) (l1 : Int32) (l2 : Int32) (S : gh_St) (r : Int32 × gh_St), sX10_plans_121 N n l1 l2 S = some r → gh_T (d + 2) fX10_plans 0 0 none false false (121, [(0, .ref 56), (1, .int l1), (2, .int l2)], [], (gh_mo S, 0, 0)) (some (.int r.1), (gh_mo r.2, 0, 0)) := by
  intro n
  induction n with
  | zero =>
    intro l1 l2 S r h
    cases h
  | succ n ih =>
    intro l1 l2 S r h
    rw [sX10_plans_121] at h
    refine gh_T_steps 2 (τ := (124, [(0, .ref 56), (1, .int l1), (2, .int l2)], [.int 96, .int l2], (gh_mo S, 0, 0))) (fun _ => rfl) ?_
    cases c16 : gh_cmp .ge l2 96 with
    | true =>
      rw [c16, cond_true] at h
      refine gh_T_ic true rfl c16 ?_
      refine gh_T_steps 1 (τ := (222, [(0, .ref 56), (1, .int l1), (2, .int l2)], [.int l1], (gh_mo S, 0, 0))) (fun _ => rfl) ?_
      cases h
      exact gh_T_ret (fun _ => rfl)
    | false =>
      rw [c16, cond_false] at h
      refine gh_T_ic false rfl c16 ?_
      refine gh_T_steps 2 (τ := (130, [(0, .ref 56), (1, .int l1), (2, .int l2)], [.int 12, .int l2], (gh_mo S, 0, 0))) (fun _ => rfl) ?_
      obtain ⟨x1, hx1, h⟩ := gh_bi h
      refine gh_T_di rfl hx1 ?_
      refine gh_T_steps 3 (τ := (135, [(3, .int x1), (0, .ref 56), (1, .int l1), (2, .int l2)], [.int 12, .int l2], (gh_mo S, 0, 0))) (fun _ => rfl) ?_
      obtain ⟨x2, hx2, h⟩ := gh_bi h
      refine gh_T_re rfl hx2 ?_
      refine gh_T_steps 4 (τ := (143, [(4, .int x2), (3, .int x1), (0, .ref 56), (1, .int l1), (2, .int l2)], [.int l2, .ref 87], (gh_mo S, 0, 0))) (fun _ => rfl) ?_
      obtain ⟨x3, hx3, h⟩ := gh_bi h
      refine gh_T_rb rfl (Or.inr rfl) rfl hx3 ?_
      cases c15 : gh_cmp .ne x3 0 with
      | true =>
        rw [c15, cond_true] at h
        refine gh_T_if true rfl c15 ?_
        refine gh_T_weak (lv := [(0, .ref 56), (1, .int l1), (2, .int l2)]) ⟨rfl, rfl, rfl, trivial⟩ ?_
        exact kX10_plans_208 d N (sX10_plans_121 N n) ih l1 l2 S _ h
      | false =>
        rw [c15, cond_false] at h
        refine gh_T_if false rfl c15 ?_
        refine gh_T_steps 3 (τ := (151, [(4, .int x2), (3, .int x1), (0, .ref 56), (1, .int l1), (2, .int l2)], [.int x2, .int x1, .ref 56], (gh_mo S, 0, 0))) (fun _ => rfl) ?_
        obtain ⟨q4, hq4, h⟩ := gh_bi h
        refine gh_T_iv (As := [.int x1, .int x2]) (b := 56) (rest := []) (y := some (.int q4.1)) (M' := gh_mo q4.2) rfl rfl rfl rfl rfl rfl rfl rfl rfl ⟨Nat.le_refl _, Nat.le_refl _⟩ (kX10_may (d + 1) N x1 x2 S q4 hq4) ?_
        cases c14 : gh_cmp .eq q4.1 0 with
        | true =>
          rw [c14, cond_true] at h
          refine gh_T_if true rfl c14 ?_
          refine gh_T_weak (lv := [(0, .ref 56), (1, .int l1), (2, .int l2)]) ⟨rfl, rfl, rfl, trivial⟩ ?_
          exact kX10_plans_208 d N (sX10_plans_121 N n) ih l1 l2 q4.2 _ h
        | false =>
          rw [c14, cond_false] at h
          refine gh_T_if false rfl c14 ?_
          refine gh_T_steps 3 (τ := (162, [(4, .int x2), (3, .int x1), (0, .ref 56), (1, .int l1), (2, .int l2)], [.int x1, .ref 74], (gh_mo q4.2, 0, 0))) (fun _ => rfl) ?_
          obtain ⟨x5, hx5, h⟩ := gh_bi h
          refine gh_T_ra rfl rfl hx5 ?_
          cases c13 : gh_cmp .le x5 0 with
          | true =>
            rw [c13, cond_true] at h
            refine gh_T_if true rfl c13 ?_
            refine gh_T_weak (lv := [(0, .ref 56), (1, .int l1), (2, .int l2)]) ⟨rfl, rfl, rfl, trivial⟩ ?_
            exact kX10_plans_208 d N (sX10_plans_121 N n) ih l1 l2 q4.2 _ h
          | false =>
            rw [c13, cond_false] at h
            refine gh_T_if false rfl c13 ?_
            refine gh_T_steps 4 (τ := (172, [(4, .int x2), (3, .int x1), (0, .ref 56), (1, .int l1), (2, .int l2)], [.int 1, .int l2, .ref 88], (gh_mo q4.2, 0, 0))) (fun _ => rfl) ?_
            obtain ⟨S6, hS6, h⟩ := gh_bi h
            refine gh_T_wz rfl rfl hS6 ?_
            refine gh_T_steps 4 (τ := (179, [(4, .int x2), (3, .int x1), (0, .ref 56), (1, .int l1), (2, .int l2)], [.int ((8 : Int32) + x2), .ref 56], (gh_mo S6, 0, 0))) (fun _ => rfl) ?_
            obtain ⟨q7, hq7, h⟩ := gh_bi h
            refine gh_T_iv (As := [.int ((8 : Int32) + x2)]) (b := 56) (rest := []) (y := none) (M' := gh_mo q7) rfl rfl rfl rfl rfl rfl rfl rfl rfl ⟨Nat.le_refl _, Nat.le_refl _⟩ (kX10_walks d N ((8 : Int32) + x2) S6 q7 hq7) ?_
            refine gh_T_steps 3 (τ := (187, [(4, .int x2), (3, .int x1), (0, .ref 56), (1, .int l1), (2, .int l2)], [.int x1, .ref 90], (gh_mo q7, 0, 0))) (fun _ => rfl) ?_
            obtain ⟨x8, hx8, h⟩ := gh_bi h
            refine gh_T_ra rfl rfl hx8 ?_
            cases c12 : gh_cmp .ne x8 0 with
            | true =>
              rw [c12, cond_true] at h
              refine gh_T_if true rfl c12 ?_
              refine gh_T_weak (lv := [(0, .ref 56), (1, .int l1), (2, .int l2)]) ⟨rfl, rfl, rfl, trivial⟩ ?_
              exact kX10_plans_208 d N (sX10_plans_121 N n) ih l1 l2 q7 _ h
            | false =>
              rw [c12, cond_false] at h
              refine gh_T_if false rfl c12 ?_
              refine gh_T_steps 5 (τ := (198, [(4, .int x2), (3, .int x1), (0, .ref 56), (1, .int l1), (2, .int l2)], [.int x1, .int ((8 : Int32) + x2), .ref 56], (gh_mo q7, 0, 0))) (fun _ => rfl) ?_
              obtain ⟨q9, hq9, h⟩ := gh_bi h
              refine gh_T_iv (As := [.int ((8 : Int32) + x2), .int x1]) (b := 56) (rest := []) (y := none) (M' := gh_mo q9) rfl rfl rfl rfl rfl rfl rfl rfl rfl ⟨Nat.le_refl _, Nat.le_refl _⟩ (kX10_turns (d + 1) N ((8 : Int32) + x2) x1 q7 q9 hq9) ?_
              refine gh_T_steps 4 (τ := (207, [(4, .int x2), (3, .int x1), (0, .ref 56), (1, .int l1), (2, .int l2)], [.int 1, .int l2, .ref 87], (gh_mo q9, 0, 0))) (fun _ => rfl) ?_
              obtain ⟨S10, hS10, h⟩ := gh_bi h
              refine gh_T_wz rfl rfl hS10 ?_
              refine gh_T_steps 4 (τ := (214, [(4, .int x2), (3, .int x1), (0, .ref 56), (1, .int l1), (2, .int l2)], [.int 1, .int l2, .ref 88], (gh_mo S10, 0, 0))) (fun _ => rfl) ?_
              obtain ⟨S11, hS11, h⟩ := gh_bi h
              refine gh_T_wz rfl rfl hS11 ?_
              refine gh_T_steps 2 (τ := (121, [(2, .int (l2 + 1)), (4, .int x2), (3, .int x1), (0, .ref 56), (1, .int l1)], [], (gh_mo S11, 0, 0))) (fun _ => rfl) ?_
              refine gh_T_weak (lv := [(0, .ref 56), (1, .int l1), (2, .int (l2 + 1))]) ⟨rfl, rfl, rfl, trivial⟩ ?_
              exact ih l1 (l2 + 1) S11 _ h
def sX10_plans_53 (N : Nat) : Nat → Int32 → Int32 → gh_St → Option (Int32 × gh_St)
  | 0, _, _, _ => none
  | n + 1, l1, l2, S =>
    bif gh_cmp .ge l2 8 then
      (sX10_plans_121 N N l1 0 S)
    else
      (sX10_plans_61 N (sX10_plans_53 N n) N l1 l2 0 S)
set_option maxRecDepth 100000 in
theorem kX10_plans_53 (d N : Nat) : ∀ (n : Nat) (l1 : Int32) (l2 : Int32) (S : gh_St) (r : Int32 × gh_St), sX10_plans_53 N n l1 l2 S = some r → gh_T (d + 2) fX10_plans 0 0 none false false (53, [(0, .ref 56), (1, .int l1), (2, .int l2)], [], (gh_mo S, 0, 0)) (some (.int r.1), (gh_mo r.2, 0, 0)) := by
  intro n
  induction n with
  | zero =>
    intro l1 l2 S r h
    cases h
  | succ n ih =>
    intro l1 l2 S r h
    rw [sX10_plans_53] at h
    refine gh_T_steps 2 (τ := (56, [(0, .ref 56), (1, .int l1), (2, .int l2)], [.int 8, .int l2], (gh_mo S, 0, 0))) (fun _ => rfl) ?_
    cases c1 : gh_cmp .ge l2 8 with
    | true =>
      rw [c1, cond_true] at h
      refine gh_T_ic true rfl c1 ?_
      refine gh_T_steps 2 (τ := (121, [(2, .int 0), (0, .ref 56), (1, .int l1)], [], (gh_mo S, 0, 0))) (fun _ => rfl) ?_
      refine gh_T_weak (lv := [(0, .ref 56), (1, .int l1), (2, .int 0)]) ⟨rfl, rfl, rfl, trivial⟩ ?_
      exact kX10_plans_121 d N N l1 0 S _ h
    | false =>
      rw [c1, cond_false] at h
      refine gh_T_ic false rfl c1 ?_
      refine gh_T_steps 2 (τ := (61, [(3, .int 0), (0, .ref 56), (1, .int l1), (2, .int l2)], [], (gh_mo S, 0, 0))) (fun _ => rfl) ?_
      refine gh_T_weak (lv := [(0, .ref 56), (1, .int l1), (2, .int l2), (3, .int 0)]) ⟨rfl, rfl, rfl, rfl, trivial⟩ ?_
      exact kX10_plans_61 d N (sX10_plans_53 N n) ih N l1 l2 0 S _ h
def sX10_plans_30 (N : Nat) : Nat → Int32 → gh_St → Option (Int32 × gh_St)
  | 0, _, _ => none
  | n + 1, l1, S =>
    bif gh_cmp .ge l1 12 then
      (sX10_plans_53 N N 0 0 S)
    else
      ((gh_wa S 89 12 l1 0).bind fun S1 =>
      (sX10_plans_30 N n) (l1 + 1) S1)
set_option maxRecDepth 100000 in
theorem kX10_plans_30 (d N : Nat) : ∀ (n : Nat) (l1 : Int32) (S : gh_St) (r : Int32 × gh_St), sX10_plans_30 N n l1 S = some r → gh_T (d + 2) fX10_plans 0 0 none false false (30, [(0, .ref 56), (1, .int l1)], [], (gh_mo S, 0, 0)) (some (.int r.1), (gh_mo r.2, 0, 0)) := by
  intro n
  induction n with
  | zero =>
    intro l1 S r h
    cases h
  | succ n ih =>
    intro l1 S r h
    rw [sX10_plans_30] at h
    refine gh_T_steps 2 (τ := (33, [(0, .ref 56), (1, .int l1)], [.int 12, .int l1], (gh_mo S, 0, 0))) (fun _ => rfl) ?_
    cases c2 : gh_cmp .ge l1 12 with
    | true =>
      rw [c2, cond_true] at h
      refine gh_T_ic true rfl c2 ?_
      refine gh_T_steps 4 (τ := (53, [(2, .int 0), (1, .int 0), (0, .ref 56)], [], (gh_mo S, 0, 0))) (fun _ => rfl) ?_
      refine gh_T_weak (lv := [(0, .ref 56), (1, .int 0), (2, .int 0)]) ⟨rfl, rfl, rfl, trivial⟩ ?_
      exact kX10_plans_53 d N N 0 0 S _ h
    | false =>
      rw [c2, cond_false] at h
      refine gh_T_ic false rfl c2 ?_
      refine gh_T_steps 4 (τ := (42, [(0, .ref 56), (1, .int l1)], [.int 0, .int l1, .ref 89], (gh_mo S, 0, 0))) (fun _ => rfl) ?_
      obtain ⟨S1, hS1, h⟩ := gh_bi h
      refine gh_T_wa rfl rfl hS1 ?_
      refine gh_T_steps 2 (τ := (30, [(1, .int (l1 + 1)), (0, .ref 56)], [], (gh_mo S1, 0, 0))) (fun _ => rfl) ?_
      refine gh_T_weak (lv := [(0, .ref 56), (1, .int (l1 + 1))]) ⟨rfl, rfl, trivial⟩ ?_
      exact ih (l1 + 1) S1 _ h
def sX10_plans_2 (N : Nat) : Nat → Int32 → gh_St → Option (Int32 × gh_St)
  | 0, _, _ => none
  | n + 1, l1, S =>
    bif gh_cmp .ge l1 96 then
      (sX10_plans_30 N N 0 S)
    else
      ((gh_wa S 87 96 l1 (vp_nar .boolean 0)).bind fun S1 =>
      (gh_wa S1 88 96 l1 (vp_nar .boolean 0)).bind fun S2 =>
      (sX10_plans_2 N n) (l1 + 1) S2)
set_option maxRecDepth 100000 in
theorem kX10_plans_2 (d N : Nat) : ∀ (n : Nat) (l1 : Int32) (S : gh_St) (r : Int32 × gh_St), sX10_plans_2 N n l1 S = some r → gh_T (d + 2) fX10_plans 0 0 none false false (2, [(0, .ref 56), (1, .int l1)], [], (gh_mo S, 0, 0)) (some (.int r.1), (gh_mo r.2, 0, 0)) := by
  intro n
  induction n with
  | zero =>
    intro l1 S r h
    cases h
  | succ n ih =>
    intro l1 S r h
    rw [sX10_plans_2] at h
    refine gh_T_steps 2 (τ := (5, [(0, .ref 56), (1, .int l1)], [.int 96, .int l1], (gh_mo S, 0, 0))) (fun _ => rfl) ?_
    cases c3 : gh_cmp .ge l1 96 with
    | true =>
      rw [c3, cond_true] at h
      refine gh_T_ic true rfl c3 ?_
      refine gh_T_steps 2 (τ := (30, [(1, .int 0), (0, .ref 56)], [], (gh_mo S, 0, 0))) (fun _ => rfl) ?_
      refine gh_T_weak (lv := [(0, .ref 56), (1, .int 0)]) ⟨rfl, rfl, trivial⟩ ?_
      exact kX10_plans_30 d N N 0 S _ h
    | false =>
      rw [c3, cond_false] at h
      refine gh_T_ic false rfl c3 ?_
      refine gh_T_steps 4 (τ := (14, [(0, .ref 56), (1, .int l1)], [.int 0, .int l1, .ref 87], (gh_mo S, 0, 0))) (fun _ => rfl) ?_
      obtain ⟨S1, hS1, h⟩ := gh_bi h
      refine gh_T_wz rfl rfl hS1 ?_
      refine gh_T_steps 4 (τ := (21, [(0, .ref 56), (1, .int l1)], [.int 0, .int l1, .ref 88], (gh_mo S1, 0, 0))) (fun _ => rfl) ?_
      obtain ⟨S2, hS2, h⟩ := gh_bi h
      refine gh_T_wz rfl rfl hS2 ?_
      refine gh_T_steps 2 (τ := (2, [(1, .int (l1 + 1)), (0, .ref 56)], [], (gh_mo S2, 0, 0))) (fun _ => rfl) ?_
      refine gh_T_weak (lv := [(0, .ref 56), (1, .int (l1 + 1))]) ⟨rfl, rfl, trivial⟩ ?_
      exact ih (l1 + 1) S2 _ h
def sX10_plans (N : Nat) (S : gh_St) : Option (Int32 × gh_St) :=
  sX10_plans_2 N N 0 S
set_option maxRecDepth 100000 in
theorem kX10_plans_e (d N : Nat) (S : gh_St) (r : Int32 × gh_St) (h : sX10_plans N S = some r) : gh_T (d + 2) fX10_plans 0 0 none false false (0, [(0, .ref 56)], [], (gh_mo S, 0, 0)) (some (.int r.1), (gh_mo r.2, 0, 0)) := by
  unfold sX10_plans at h
  refine gh_T_steps 2 (τ := (2, [(1, .int 0), (0, .ref 56)], [], (gh_mo S, 0, 0))) (fun _ => rfl) ?_
  refine gh_T_weak (lv := [(0, .ref 56), (1, .int 0)]) ⟨rfl, rfl, trivial⟩ ?_
  exact kX10_plans_2 d N N 0 S _ h
theorem kX10_plans (d N : Nat) (S : gh_St) (r : Int32 × gh_St) (h : sX10_plans N S = some r) : gh_Mx (d + 3) 152 [.ref 56] (gh_mo S) (some (.int r.1)) (gh_mo r.2) :=
  gh_Mx_of rfl rfl rfl rfl rfl rfl (kX10_plans_e d N S r h)
def sX10_fans (N : Nat) (S : gh_St) : Option (Int32 × gh_St) :=
  (sX10_plans N S).bind fun q1 =>
  some (q1.1, q1.2)
set_option maxRecDepth 100000 in
theorem kX10_fans_e (d N : Nat) (S : gh_St) (r : Int32 × gh_St) (h : sX10_fans N S = some r) : gh_T (d + 3) fX10_fans 0 0 none false false (0, [(0, .ref 56)], [], (gh_mo S, 0, 0)) (some (.int r.1), (gh_mo r.2, 0, 0)) := by
  unfold sX10_fans at h
  refine gh_T_steps 1 (τ := (1, [(0, .ref 56)], [.ref 56], (gh_mo S, 0, 0))) (fun _ => rfl) ?_
  obtain ⟨q1, hq1, h⟩ := gh_bi h
  refine gh_T_iv (As := []) (b := 56) (rest := []) (y := some (.int q1.1)) (M' := gh_mo q1.2) rfl rfl rfl rfl rfl rfl rfl rfl rfl ⟨Nat.le_refl _, Nat.le_refl _⟩ (kX10_plans d N S q1 hq1) ?_
  cases h
  exact gh_T_ret (fun _ => rfl)
theorem kX10_fans (d N : Nat) (S : gh_St) (r : Int32 × gh_St) (h : sX10_fans N S = some r) : gh_Mx (d + 4) 153 [.ref 56] (gh_mo S) (some (.int r.1)) (gh_mo r.2) :=
  gh_Mx_of rfl rfl rfl rfl rfl rfl (kX10_fans_e d N S r h)
def sX10_fansOf_48 (N : Nat) (kc20 : Int32 → Int32 → Int32 → gh_St → Option (Int32 × gh_St)) (l1 : Int32) (l3 : Int32) (t0 : Int32) (t1 : Int32) (S : gh_St) : Option (Int32 × gh_St) :=
  kc20 l1 (t1 ||| t0) (l3 + 1) S
set_option maxRecDepth 100000 in
theorem kX10_fansOf_48 (d N : Nat) (kc20 : Int32 → Int32 → Int32 → gh_St → Option (Int32 × gh_St)) (hkc20 : ∀ (l1 : Int32) (l2 : Int32) (l3 : Int32) (S : gh_St) (r : Int32 × gh_St), kc20 l1 l2 l3 S = some r → gh_T (d + 3) fX10_fansOf 0 0 none false false (20, [(0, .ref 56), (1, .int l1), (2, .int l2), (3, .int l3)], [], (gh_mo S, 0, 0)) (some (.int r.1), (gh_mo r.2, 0, 0))) (l1 : Int32) (l3 : Int32) (t0 : Int32) (t1 : Int32) (S : gh_St) (r : Int32 × gh_St) (h : sX10_fansOf_48 N kc20 l1 l3 t0 t1 S = some r) : gh_T (d + 3) fX10_fansOf 0 0 none false false (48, [(0, .ref 56), (1, .int l1), (3, .int l3)], [.int t0, .int t1], (gh_mo S, 0, 0)) (some (.int r.1), (gh_mo r.2, 0, 0)) := by
  unfold sX10_fansOf_48 at h
  refine gh_T_steps 4 (τ := (20, [(3, .int (l3 + 1)), (2, .int (t1 ||| t0)), (0, .ref 56), (1, .int l1)], [], (gh_mo S, 0, 0))) (fun _ => rfl) ?_
  refine gh_T_weak (lv := [(0, .ref 56), (1, .int l1), (2, .int (t1 ||| t0)), (3, .int (l3 + 1))]) ⟨rfl, rfl, rfl, rfl, trivial⟩ ?_
  exact hkc20 l1 (t1 ||| t0) (l3 + 1) S _ h
def sX10_fansOf_20 (N : Nat) : Nat → Int32 → Int32 → Int32 → gh_St → Option (Int32 × gh_St)
  | 0, _, _, _, _ => none
  | n + 1, l1, l2, l3, S =>
    bif gh_cmp .ge l3 12 then
      (some (l2, S))
    else
      ((gh_ra S 87 96 (((12 : Int32) * l1) + l3)).bind fun x1 =>
      bif gh_cmp .eq x1 0 then
        (sX10_fansOf_48 N (sX10_fansOf_20 N n) l1 l3 0 l2 S)
      else
        (sX10_fansOf_48 N (sX10_fansOf_20 N n) l1 l3 ((1 : Int32) <<< (l3 &&& 31)) l2 S))
set_option maxRecDepth 100000 in
theorem kX10_fansOf_20 (d N : Nat) : ∀ (n : Nat) (l1 : Int32) (l2 : Int32) (l3 : Int32) (S : gh_St) (r : Int32 × gh_St), sX10_fansOf_20 N n l1 l2 l3 S = some r → gh_T (d + 3) fX10_fansOf 0 0 none false false (20, [(0, .ref 56), (1, .int l1), (2, .int l2), (3, .int l3)], [], (gh_mo S, 0, 0)) (some (.int r.1), (gh_mo r.2, 0, 0)) := by
  intro n
  induction n with
  | zero =>
    intro l1 l2 l3 S r h
    cases h
  | succ n ih =>
    intro l1 l2 l3 S r h
    rw [sX10_fansOf_20] at h
    refine gh_T_steps 2 (τ := (23, [(0, .ref 56), (1, .int l1), (2, .int l2), (3, .int l3)], [.int 12, .int l3], (gh_mo S, 0, 0))) (fun _ => rfl) ?_
    cases c3 : gh_cmp .ge l3 12 with
    | true =>
      rw [c3, cond_true] at h
      refine gh_T_ic true rfl c3 ?_
      refine gh_T_steps 1 (τ := (57, [(0, .ref 56), (1, .int l1), (2, .int l2), (3, .int l3)], [.int l2], (gh_mo S, 0, 0))) (fun _ => rfl) ?_
      cases h
      exact gh_T_ret (fun _ => rfl)
    | false =>
      rw [c3, cond_false] at h
      refine gh_T_ic false rfl c3 ?_
      refine gh_T_steps 8 (τ := (37, [(0, .ref 56), (1, .int l1), (2, .int l2), (3, .int l3)], [.int (((12 : Int32) * l1) + l3), .ref 87, .int l2], (gh_mo S, 0, 0))) (fun _ => rfl) ?_
      obtain ⟨x1, hx1, h⟩ := gh_bi h
      refine gh_T_rb rfl (Or.inr rfl) rfl hx1 ?_
      cases c2 : gh_cmp .eq x1 0 with
      | true =>
        rw [c2, cond_true] at h
        refine gh_T_if true rfl c2 ?_
        refine gh_T_steps 1 (τ := (48, [(0, .ref 56), (1, .int l1), (2, .int l2), (3, .int l3)], [.int 0, .int l2], (gh_mo S, 0, 0))) (fun _ => rfl) ?_
        refine gh_T_weak (lv := [(0, .ref 56), (1, .int l1), (3, .int l3)]) ⟨rfl, rfl, rfl, trivial⟩ ?_
        exact kX10_fansOf_48 d N (sX10_fansOf_20 N n) ih l1 l3 0 l2 S _ h
      | false =>
        rw [c2, cond_false] at h
        refine gh_T_if false rfl c2 ?_
        refine gh_T_steps 4 (τ := (48, [(0, .ref 56), (1, .int l1), (2, .int l2), (3, .int l3)], [.int ((1 : Int32) <<< (l3 &&& 31)), .int l2], (gh_mo S, 0, 0))) (fun _ => rfl) ?_
        refine gh_T_weak (lv := [(0, .ref 56), (1, .int l1), (3, .int l3)]) ⟨rfl, rfl, rfl, trivial⟩ ?_
        exact kX10_fansOf_48 d N (sX10_fansOf_20 N n) ih l1 l3 ((1 : Int32) <<< (l3 &&& 31)) l2 S _ h
def sX10_fansOf (N : Nat) (a1 : Int32) (S : gh_St) : Option (Int32 × gh_St) :=
  (sX10_isBin N a1 S).bind fun q1 =>
  bif gh_cmp .eq q1.1 0 then
    (some ((-1), q1.2))
  else
    ((sX10_plans N q1.2).bind fun q2 =>
    bif gh_cmp .ge q2.1 0 then
      (sX10_fansOf_20 N N a1 0 0 q2.2)
    else
      (some ((-1), q2.2)))
set_option maxRecDepth 100000 in
theorem kX10_fansOf_e (d N : Nat) (a1 : Int32) (S : gh_St) (r : Int32 × gh_St) (h : sX10_fansOf N a1 S = some r) : gh_T (d + 3) fX10_fansOf 0 0 none false false (0, [(0, .ref 56), (1, .int a1)], [], (gh_mo S, 0, 0)) (some (.int r.1), (gh_mo r.2, 0, 0)) := by
  unfold sX10_fansOf at h
  refine gh_T_steps 1 (τ := (1, [(0, .ref 56), (1, .int a1)], [.int a1], (gh_mo S, 0, 0))) (fun _ => rfl) ?_
  obtain ⟨q1, hq1, h⟩ := gh_bi h
  refine gh_T_is (As := [.int a1]) (rest := []) (y := some (.int q1.1)) (M' := gh_mo q1.2) rfl rfl rfl rfl rfl rfl rfl ⟨Nat.le_refl _, Nat.le_refl _⟩ (kX10_isBin (d + 1) N a1 S q1 hq1) ?_
  cases c4 : gh_cmp .eq q1.1 0 with
  | true =>
    rw [c4, cond_true] at h
    refine gh_T_if true rfl c4 ?_
    refine gh_T_steps 1 (τ := (15, [(0, .ref 56), (1, .int a1)], [.int ((-1))], (gh_mo q1.2, 0, 0))) (fun _ => rfl) ?_
    cases h
    exact gh_T_ret (fun _ => rfl)
  | false =>
    rw [c4, cond_false] at h
    refine gh_T_if false rfl c4 ?_
    refine gh_T_steps 1 (τ := (8, [(0, .ref 56), (1, .int a1)], [.ref 56], (gh_mo q1.2, 0, 0))) (fun _ => rfl) ?_
    obtain ⟨q2, hq2, h⟩ := gh_bi h
    refine gh_T_iv (As := []) (b := 56) (rest := []) (y := some (.int q2.1)) (M' := gh_mo q2.2) rfl rfl rfl rfl rfl rfl rfl rfl rfl ⟨Nat.le_refl _, Nat.le_refl _⟩ (kX10_plans d N q1.2 q2 hq2) ?_
    cases c3 : gh_cmp .ge q2.1 0 with
    | true =>
      rw [c3, cond_true] at h
      refine gh_T_if true rfl c3 ?_
      refine gh_T_steps 4 (τ := (20, [(3, .int 0), (2, .int 0), (0, .ref 56), (1, .int a1)], [], (gh_mo q2.2, 0, 0))) (fun _ => rfl) ?_
      refine gh_T_weak (lv := [(0, .ref 56), (1, .int a1), (2, .int 0), (3, .int 0)]) ⟨rfl, rfl, rfl, rfl, trivial⟩ ?_
      exact kX10_fansOf_20 d N N a1 0 0 q2.2 _ h
    | false =>
      rw [c3, cond_false] at h
      refine gh_T_if false rfl c3 ?_
      refine gh_T_steps 1 (τ := (15, [(0, .ref 56), (1, .int a1)], [.int ((-1))], (gh_mo q2.2, 0, 0))) (fun _ => rfl) ?_
      cases h
      exact gh_T_ret (fun _ => rfl)
theorem kX10_fansOf (d N : Nat) (a1 : Int32) (S : gh_St) (r : Int32 × gh_St) (h : sX10_fansOf N a1 S = some r) : gh_Mx (d + 4) 154 [.ref 56, .int a1] (gh_mo S) (some (.int r.1)) (gh_mo r.2) :=
  gh_Mx_of rfl rfl rfl rfl rfl rfl (kX10_fansOf_e d N a1 S r h)

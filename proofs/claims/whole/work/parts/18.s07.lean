def sX9_load (N : Nat) (a1 : Int32) (a2 : Int32) (a3 : Int32) (a4 : Int32) (a5 : Int32) (S : gh_St) : Option (Int32 × gh_St) :=
  (sX9_isFarmer N a1 S).bind fun q1 =>
  bif gh_cmp .eq q1.1 0 then
    (some ((-1), q1.2))
  else
    ((sX9_isKind N a2 q1.2).bind fun q2 =>
    bif gh_cmp .eq q2.1 0 then
      (some ((-1), q2.2))
    else
      ((sX9_within N a3 1 40000 q2.2).bind fun q3 =>
      bif gh_cmp .ne q3.1 0 then
        ((sX9_within N a4 0 400 q3.2).bind fun q4 =>
        bif gh_cmp .eq q4.1 0 then
          (some ((-1), q4.2))
        else
          ((sX3_isFull N q4.2).bind fun q5 =>
          bif gh_cmp .ne q5.1 0 then
            (some ((-1), q5.2))
          else
            ((sX0_canPut N a5 a2 a3 q5.2).bind fun q6 =>
            bif gh_cmp .ne q6.1 0 then
              ((sX0_put N a5 a2 a3 (((a3 : Int32).toInt64) * (((1000 : Int32) - a4 : Int32).toInt64)) q6.2).bind fun q7 =>
              (sX3_add N a1 a2 a4 (((a3 : Int32).toInt64) * (((1000 : Int32) - a4 : Int32).toInt64)) q7).bind fun q8 =>
              some (q8.1, q8.2))
            else
              (some ((-1), q6.2)))))
      else
        (some ((-1), q3.2))))
set_option maxRecDepth 100000 in
theorem kX9_load_e (d N : Nat) (a1 : Int32) (a2 : Int32) (a3 : Int32) (a4 : Int32) (a5 : Int32) (S : gh_St) (r : Int32 × gh_St) (h : sX9_load N a1 a2 a3 a4 a5 S = some r) : gh_T (d + 3) fX9_load 0 0 none false false (0, [(0, .ref 0), (1, .int a1), (2, .int a2), (3, .int a3), (4, .int a4), (5, .int a5)], [], (gh_mo S, 0, 0)) (some (.int r.1), (gh_mo r.2, 0, 0)) := by
  unfold sX9_load at h
  refine gh_T_steps 1 (τ := (1, [(0, .ref 0), (1, .int a1), (2, .int a2), (3, .int a3), (4, .int a4), (5, .int a5)], [.int a1], (gh_mo S, 0, 0))) (fun _ => rfl) ?_
  obtain ⟨q1, hq1, h⟩ := gh_bi h
  refine gh_T_is (As := [.int a1]) (rest := []) (y := some (.int q1.1)) (M' := gh_mo q1.2) rfl rfl rfl rfl rfl rfl rfl ⟨Nat.le_refl _, Nat.le_refl _⟩ (kX9_isFarmer (d + 1) N a1 S q1 hq1) ?_
  cases c14 : gh_cmp .eq q1.1 0 with
  | true =>
    rw [c14, cond_true] at h
    refine gh_T_if true rfl c14 ?_
    refine gh_T_steps 1 (τ := (25, [(0, .ref 0), (1, .int a1), (2, .int a2), (3, .int a3), (4, .int a4), (5, .int a5)], [.int ((-1))], (gh_mo q1.2, 0, 0))) (fun _ => rfl) ?_
    cases h
    exact gh_T_ret (fun _ => rfl)
  | false =>
    rw [c14, cond_false] at h
    refine gh_T_if false rfl c14 ?_
    refine gh_T_steps 1 (τ := (8, [(0, .ref 0), (1, .int a1), (2, .int a2), (3, .int a3), (4, .int a4), (5, .int a5)], [.int a2], (gh_mo q1.2, 0, 0))) (fun _ => rfl) ?_
    obtain ⟨q2, hq2, h⟩ := gh_bi h
    refine gh_T_is (As := [.int a2]) (rest := []) (y := some (.int q2.1)) (M' := gh_mo q2.2) rfl rfl rfl rfl rfl rfl rfl ⟨Nat.le_refl _, Nat.le_refl _⟩ (kX9_isKind (d + 1) N a2 q1.2 q2 hq2) ?_
    cases c13 : gh_cmp .eq q2.1 0 with
    | true =>
      rw [c13, cond_true] at h
      refine gh_T_if true rfl c13 ?_
      refine gh_T_steps 1 (τ := (25, [(0, .ref 0), (1, .int a1), (2, .int a2), (3, .int a3), (4, .int a4), (5, .int a5)], [.int ((-1))], (gh_mo q2.2, 0, 0))) (fun _ => rfl) ?_
      cases h
      exact gh_T_ret (fun _ => rfl)
    | false =>
      rw [c13, cond_false] at h
      refine gh_T_if false rfl c13 ?_
      refine gh_T_steps 3 (τ := (18, [(0, .ref 0), (1, .int a1), (2, .int a2), (3, .int a3), (4, .int a4), (5, .int a5)], [.int 40000, .int 1, .int a3], (gh_mo q2.2, 0, 0))) (fun _ => rfl) ?_
      obtain ⟨q3, hq3, h⟩ := gh_bi h
      refine gh_T_is (As := [.int a3, .int 1, .int 40000]) (rest := []) (y := some (.int q3.1)) (M' := gh_mo q3.2) rfl rfl rfl rfl rfl rfl rfl ⟨Nat.le_refl _, Nat.le_refl _⟩ (kX9_within (d + 2) N a3 1 40000 q2.2 q3 hq3) ?_
      cases c12 : gh_cmp .ne q3.1 0 with
      | true =>
        rw [c12, cond_true] at h
        refine gh_T_if true rfl c12 ?_
        refine gh_T_steps 3 (τ := (32, [(0, .ref 0), (1, .int a1), (2, .int a2), (3, .int a3), (4, .int a4), (5, .int a5)], [.int 400, .int 0, .int a4], (gh_mo q3.2, 0, 0))) (fun _ => rfl) ?_
        obtain ⟨q4, hq4, h⟩ := gh_bi h
        refine gh_T_is (As := [.int a4, .int 0, .int 400]) (rest := []) (y := some (.int q4.1)) (M' := gh_mo q4.2) rfl rfl rfl rfl rfl rfl rfl ⟨Nat.le_refl _, Nat.le_refl _⟩ (kX9_within (d + 2) N a4 0 400 q3.2 q4 hq4) ?_
        cases c11 : gh_cmp .eq q4.1 0 with
        | true =>
          rw [c11, cond_true] at h
          refine gh_T_if true rfl c11 ?_
          refine gh_T_steps 1 (τ := (63, [(0, .ref 0), (1, .int a1), (2, .int a2), (3, .int a3), (4, .int a4), (5, .int a5)], [.int ((-1))], (gh_mo q4.2, 0, 0))) (fun _ => rfl) ?_
          cases h
          exact gh_T_ret (fun _ => rfl)
        | false =>
          rw [c11, cond_false] at h
          refine gh_T_if false rfl c11 ?_
          refine gh_T_steps 2 (τ := (42, [(0, .ref 0), (1, .int a1), (2, .int a2), (3, .int a3), (4, .int a4), (5, .int a5)], [.ref 6], (gh_mo q4.2, 0, 0))) (fun _ => rfl) ?_
          obtain ⟨q5, hq5, h⟩ := gh_bi h
          refine gh_T_iv (As := []) (b := 6) (rest := []) (y := some (.int q5.1)) (M' := gh_mo q5.2) rfl rfl rfl rfl rfl rfl rfl rfl rfl ⟨Nat.le_refl _, Nat.le_refl _⟩ (kX3_isFull (d + 2) N q4.2 q5 hq5) ?_
          cases c10 : gh_cmp .ne q5.1 0 with
          | true =>
            rw [c10, cond_true] at h
            refine gh_T_if true rfl c10 ?_
            refine gh_T_steps 1 (τ := (63, [(0, .ref 0), (1, .int a1), (2, .int a2), (3, .int a3), (4, .int a4), (5, .int a5)], [.int ((-1))], (gh_mo q5.2, 0, 0))) (fun _ => rfl) ?_
            cases h
            exact gh_T_ret (fun _ => rfl)
          | false =>
            rw [c10, cond_false] at h
            refine gh_T_if false rfl c10 ?_
            refine gh_T_steps 5 (τ := (56, [(0, .ref 0), (1, .int a1), (2, .int a2), (3, .int a3), (4, .int a4), (5, .int a5)], [.int a3, .int a2, .int a5, .ref 1], (gh_mo q5.2, 0, 0))) (fun _ => rfl) ?_
            obtain ⟨q6, hq6, h⟩ := gh_bi h
            refine gh_T_iv (As := [.int a5, .int a2, .int a3]) (b := 1) (rest := []) (y := some (.int q6.1)) (M' := gh_mo q6.2) rfl rfl rfl rfl rfl rfl rfl rfl rfl ⟨Nat.le_refl _, Nat.le_refl _⟩ (kX0_canPut d N a5 a2 a3 q5.2 q6 hq6) ?_
            cases c9 : gh_cmp .ne q6.1 0 with
            | true =>
              rw [c9, cond_true] at h
              refine gh_T_if true rfl c9 ?_
              refine gh_T_steps 14 (τ := (86, [(6, .long (((a3 : Int32).toInt64) * (((1000 : Int32) - a4 : Int32).toInt64))), (0, .ref 0), (1, .int a1), (2, .int a2), (3, .int a3), (4, .int a4), (5, .int a5)], [.long (((a3 : Int32).toInt64) * (((1000 : Int32) - a4 : Int32).toInt64)), .int a3, .int a2, .int a5, .ref 1], (gh_mo q6.2, 0, 0))) (fun _ => rfl) ?_
              obtain ⟨q7, hq7, h⟩ := gh_bi h
              refine gh_T_iv (As := [.int a5, .int a2, .int a3, .long (((a3 : Int32).toInt64) * (((1000 : Int32) - a4 : Int32).toInt64))]) (b := 1) (rest := []) (y := none) (M' := gh_mo q7) rfl rfl rfl rfl rfl rfl rfl rfl rfl ⟨Nat.le_refl _, Nat.le_refl _⟩ (kX0_put (d + 2) N a5 a2 a3 (((a3 : Int32).toInt64) * (((1000 : Int32) - a4 : Int32).toInt64)) q6.2 q7 hq7) ?_
              refine gh_T_steps 6 (τ := (99, [(6, .long (((a3 : Int32).toInt64) * (((1000 : Int32) - a4 : Int32).toInt64))), (0, .ref 0), (1, .int a1), (2, .int a2), (3, .int a3), (4, .int a4), (5, .int a5)], [.long (((a3 : Int32).toInt64) * (((1000 : Int32) - a4 : Int32).toInt64)), .int a4, .int a2, .int a1, .ref 6], (gh_mo q7, 0, 0))) (fun _ => rfl) ?_
              obtain ⟨q8, hq8, h⟩ := gh_bi h
              refine gh_T_iv (As := [.int a1, .int a2, .int a4, .long (((a3 : Int32).toInt64) * (((1000 : Int32) - a4 : Int32).toInt64))]) (b := 6) (rest := []) (y := some (.int q8.1)) (M' := gh_mo q8.2) rfl rfl rfl rfl rfl rfl rfl rfl rfl ⟨Nat.le_refl _, Nat.le_refl _⟩ (kX3_add (d + 1) N a1 a2 a4 (((a3 : Int32).toInt64) * (((1000 : Int32) - a4 : Int32).toInt64)) q7 q8 hq8) ?_
              cases h
              exact gh_T_ret (fun _ => rfl)
            | false =>
              rw [c9, cond_false] at h
              refine gh_T_if false rfl c9 ?_
              refine gh_T_steps 1 (τ := (63, [(0, .ref 0), (1, .int a1), (2, .int a2), (3, .int a3), (4, .int a4), (5, .int a5)], [.int ((-1))], (gh_mo q6.2, 0, 0))) (fun _ => rfl) ?_
              cases h
              exact gh_T_ret (fun _ => rfl)
      | false =>
        rw [c12, cond_false] at h
        refine gh_T_if false rfl c12 ?_
        refine gh_T_steps 1 (τ := (25, [(0, .ref 0), (1, .int a1), (2, .int a2), (3, .int a3), (4, .int a4), (5, .int a5)], [.int ((-1))], (gh_mo q3.2, 0, 0))) (fun _ => rfl) ?_
        cases h
        exact gh_T_ret (fun _ => rfl)
theorem kX9_load (d N : Nat) (a1 : Int32) (a2 : Int32) (a3 : Int32) (a4 : Int32) (a5 : Int32) (S : gh_St) (r : Int32 × gh_St) (h : sX9_load N a1 a2 a3 a4 a5 S = some r) : gh_Mx (d + 4) 80 [.ref 0, .int a1, .int a2, .int a3, .int a4, .int a5] (gh_mo S) (some (.int r.1)) (gh_mo r.2) :=
  gh_Mx_of rfl rfl rfl rfl rfl rfl (kX9_load_e d N a1 a2 a3 a4 a5 S r h)
def sX9_leg (N : Nat) (a1 : Int32) (a2 : Int32) (a3 : Int32) (S : gh_St) : Option (Int32 × gh_St) :=
  (sX4_add N a1 a2 a3 S).bind fun q1 =>
  some (q1.1, q1.2)
set_option maxRecDepth 100000 in
theorem kX9_leg_e (d N : Nat) (a1 : Int32) (a2 : Int32) (a3 : Int32) (S : gh_St) (r : Int32 × gh_St) (h : sX9_leg N a1 a2 a3 S = some r) : gh_T (d + 2) fX9_leg 0 0 none false false (0, [(0, .ref 0), (1, .int a1), (2, .int a2), (3, .int a3)], [], (gh_mo S, 0, 0)) (some (.int r.1), (gh_mo r.2, 0, 0)) := by
  unfold sX9_leg at h
  refine gh_T_steps 5 (τ := (7, [(0, .ref 0), (1, .int a1), (2, .int a2), (3, .int a3)], [.int a3, .int a2, .int a1, .ref 11], (gh_mo S, 0, 0))) (fun _ => rfl) ?_
  obtain ⟨q1, hq1, h⟩ := gh_bi h
  refine gh_T_iv (As := [.int a1, .int a2, .int a3]) (b := 11) (rest := []) (y := some (.int q1.1)) (M' := gh_mo q1.2) rfl rfl rfl rfl rfl rfl rfl rfl rfl ⟨Nat.le_refl _, Nat.le_refl _⟩ (kX4_add d N a1 a2 a3 S q1 hq1) ?_
  cases h
  exact gh_T_ret (fun _ => rfl)
theorem kX9_leg (d N : Nat) (a1 : Int32) (a2 : Int32) (a3 : Int32) (S : gh_St) (r : Int32 × gh_St) (h : sX9_leg N a1 a2 a3 S = some r) : gh_Mx (d + 3) 81 [.ref 0, .int a1, .int a2, .int a3] (gh_mo S) (some (.int r.1)) (gh_mo r.2) :=
  gh_Mx_of rfl rfl rfl rfl rfl rfl (kX9_leg_e d N a1 a2 a3 S r h)
def sX9_cleaning (N : Nat) (a1 : Int32) (S : gh_St) : Option (Int32 × gh_St) :=
  (sX9_within N a1 0 99 S).bind fun q1 =>
  bif gh_cmp .ne q1.1 0 then
    (some (1, gh_fI q1.2 11 8 a1))
  else
    (some (0, q1.2))
set_option maxRecDepth 100000 in
theorem kX9_cleaning_e (d N : Nat) (a1 : Int32) (S : gh_St) (r : Int32 × gh_St) (h : sX9_cleaning N a1 S = some r) : gh_T (d + 1) fX9_cleaning 0 0 none true false (0, [(0, .ref 0), (1, .int a1)], [], (gh_mo S, 0, 0)) (some (.int r.1), (gh_mo r.2, 0, 0)) := by
  unfold sX9_cleaning at h
  refine gh_T_steps 3 (τ := (4, [(0, .ref 0), (1, .int a1)], [.int 99, .int 0, .int a1], (gh_mo S, 0, 0))) (fun _ => rfl) ?_
  obtain ⟨q1, hq1, h⟩ := gh_bi h
  refine gh_T_is (As := [.int a1, .int 0, .int 99]) (rest := []) (y := some (.int q1.1)) (M' := gh_mo q1.2) rfl rfl rfl rfl rfl rfl rfl ⟨Nat.le_refl _, Nat.le_refl _⟩ (kX9_within d N a1 0 99 S q1 hq1) ?_
  cases c2 : gh_cmp .ne q1.1 0 with
  | true =>
    rw [c2, cond_true] at h
    refine gh_T_if true rfl c2 ?_
    refine gh_T_steps 5 (τ := (21, [(0, .ref 0), (1, .int a1)], [.int 1], (gh_mo (gh_fI q1.2 11 8 a1), 0, 0))) (fun _ => rfl) ?_
    cases h
    exact gh_T_ret (fun _ => rfl)
  | false =>
    rw [c2, cond_false] at h
    refine gh_T_if false rfl c2 ?_
    refine gh_T_steps 1 (τ := (11, [(0, .ref 0), (1, .int a1)], [.int 0], (gh_mo q1.2, 0, 0))) (fun _ => rfl) ?_
    cases h
    exact gh_T_ret (fun _ => rfl)
theorem kX9_cleaning (d N : Nat) (a1 : Int32) (S : gh_St) (r : Int32 × gh_St) (h : sX9_cleaning N a1 S = some r) : gh_Mx (d + 2) 82 [.ref 0, .int a1] (gh_mo S) (some (.int r.1)) (gh_mo r.2) :=
  gh_Mx_of rfl rfl rfl rfl rfl rfl (kX9_cleaning_e d N a1 S r h)
def sX9_ship (N : Nat) (a1 : Int32) (a2 : Int32) (S : gh_St) : Option (Int64 × gh_St) :=
  (sX0_canTake N a1 a2 S).bind fun q1 =>
  bif gh_cmp .ne q1.1 0 then
    ((sX0_take N a1 a2 q1.2).bind fun q2 =>
    some (q2.1, gh_fL (gh_fL q2.2 0 11 ((q2.2.2.1 0 11) + ((a2 : Int32).toInt64))) 0 12 (((gh_fL q2.2 0 11 ((q2.2.2.1 0 11) + ((a2 : Int32).toInt64))).2.1 0 12) + q2.1)))
  else
    (some ((-1), q1.2))
set_option maxRecDepth 100000 in
theorem kX9_ship_e (d N : Nat) (a1 : Int32) (a2 : Int32) (S : gh_St) (r : Int64 × gh_St) (h : sX9_ship N a1 a2 S = some r) : gh_T (d + 3) fX9_ship 0 0 none false false (0, [(0, .ref 0), (1, .int a1), (2, .int a2)], [], (gh_mo S, 0, 0)) (some (.long r.1), (gh_mo r.2, 0, 0)) := by
  unfold sX9_ship at h
  refine gh_T_steps 4 (τ := (6, [(0, .ref 0), (1, .int a1), (2, .int a2)], [.int a2, .int a1, .ref 1], (gh_mo S, 0, 0))) (fun _ => rfl) ?_
  obtain ⟨q1, hq1, h⟩ := gh_bi h
  refine gh_T_iv (As := [.int a1, .int a2]) (b := 1) (rest := []) (y := some (.int q1.1)) (M' := gh_mo q1.2) rfl rfl rfl rfl rfl rfl rfl rfl rfl ⟨Nat.le_refl _, Nat.le_refl _⟩ (kX0_canTake d N a1 a2 S q1 hq1) ?_
  cases c3 : gh_cmp .ne q1.1 0 with
  | true =>
    rw [c3, cond_true] at h
    refine gh_T_if true rfl c3 ?_
    refine gh_T_steps 4 (τ := (22, [(0, .ref 0), (1, .int a1), (2, .int a2)], [.int a2, .int a1, .ref 1], (gh_mo q1.2, 0, 0))) (fun _ => rfl) ?_
    obtain ⟨q2, hq2, h⟩ := gh_bi h
    refine gh_T_iv (As := [.int a1, .int a2]) (b := 1) (rest := []) (y := some (.long q2.1)) (M' := gh_mo q2.2) rfl rfl rfl rfl rfl rfl rfl rfl rfl ⟨Nat.le_refl _, Nat.le_refl _⟩ (kX0_take (d + 1) N a1 a2 q1.2 q2 hq2) ?_
    refine gh_T_steps 15 (τ := (48, [(3, .long q2.1), (0, .ref 0), (1, .int a1), (2, .int a2)], [.long q2.1], (gh_mo (gh_fL (gh_fL q2.2 0 11 ((q2.2.2.1 0 11) + ((a2 : Int32).toInt64))) 0 12 (((gh_fL q2.2 0 11 ((q2.2.2.1 0 11) + ((a2 : Int32).toInt64))).2.1 0 12) + q2.1)), 0, 0))) (fun _ => rfl) ?_
    cases h
    exact gh_T_ret (fun _ => rfl)
  | false =>
    rw [c3, cond_false] at h
    refine gh_T_if false rfl c3 ?_
    refine gh_T_steps 1 (τ := (15, [(0, .ref 0), (1, .int a1), (2, .int a2)], [.long ((-1))], (gh_mo q1.2, 0, 0))) (fun _ => rfl) ?_
    cases h
    exact gh_T_ret (fun _ => rfl)
theorem kX9_ship (d N : Nat) (a1 : Int32) (a2 : Int32) (S : gh_St) (r : Int64 × gh_St) (h : sX9_ship N a1 a2 S = some r) : gh_Mx (d + 4) 87 [.ref 0, .int a1, .int a2] (gh_mo S) (some (.long r.1)) (gh_mo r.2) :=
  gh_Mx_of rfl rfl rfl rfl rfl rfl (kX9_ship_e d N a1 a2 S r h)
def sX9_binOf (N : Nat) (a1 : Int32) (a2 : Int32) (S : gh_St) : Option (Int32 × gh_St) :=
  (sX9_isBin N a1 S).bind fun q1 =>
  bif gh_cmp .ne q1.1 0 then
    (bif gh_cmp .eq a2 0 then
      ((gh_ra q1.2 3 8 a1).bind fun x3 =>
      bif gh_cmp .ne x3 0 then
        ((gh_ra q1.2 2 8 a1).bind fun x4 =>
        some (x4, q1.2))
      else
        (some ((-1), q1.2)))
    else
      bif gh_cmp .eq a2 1 then
      ((gh_ra q1.2 3 8 a1).bind fun x7 =>
        some (x7, q1.2))
    else
      bif gh_cmp .eq a2 2 then
      ((sX0_moist N a1 q1.2).bind fun q9 =>
          some (q9.1, q9.2))
    else
      bif gh_cmp .eq a2 3 then
      ((gh_ra q1.2 4 8 a1).bind fun x11 =>
            some (x11, q1.2))
    else
      (some ((-1), q1.2)))
  else
    (some ((-1), q1.2))
set_option maxRecDepth 100000 in
theorem kX9_binOf_e (d N : Nat) (a1 : Int32) (a2 : Int32) (S : gh_St) (r : Int32 × gh_St) (h : sX9_binOf N a1 a2 S = some r) : gh_T (d + 2) fX9_binOf 0 0 none false false (0, [(0, .ref 0), (1, .int a1), (2, .int a2)], [], (gh_mo S, 0, 0)) (some (.int r.1), (gh_mo r.2, 0, 0)) := by
  unfold sX9_binOf at h
  refine gh_T_steps 1 (τ := (1, [(0, .ref 0), (1, .int a1), (2, .int a2)], [.int a1], (gh_mo S, 0, 0))) (fun _ => rfl) ?_
  obtain ⟨q1, hq1, h⟩ := gh_bi h
  refine gh_T_is (As := [.int a1]) (rest := []) (y := some (.int q1.1)) (M' := gh_mo q1.2) rfl rfl rfl rfl rfl rfl rfl ⟨Nat.le_refl _, Nat.le_refl _⟩ (kX9_isBin d N a1 S q1 hq1) ?_
  cases c12 : gh_cmp .ne q1.1 0 with
  | true =>
    rw [c12, cond_true] at h
    refine gh_T_if true rfl c12 ?_
    refine gh_T_steps 1 (τ := (10, [(0, .ref 0), (1, .int a1), (2, .int a2)], [.int a2], (gh_mo q1.2, 0, 0))) (fun _ => rfl) ?_
    cases c2 : gh_cmp .eq a2 0 with
    | true =>
      rw [c2, cond_true] at h
      refine gh_T_at 0 c2 (τ := (40, [(0, .ref 0), (1, .int a1), (2, .int a2)], [], (gh_mo q1.2, 0, 0))) (fun _ => rfl) ?_
      refine gh_T_steps 4 (τ := (48, [(0, .ref 0), (1, .int a1), (2, .int a2)], [.int a1, .ref 3], (gh_mo q1.2, 0, 0))) (fun _ => rfl) ?_
      obtain ⟨x3, hx3, h⟩ := gh_bi h
      refine gh_T_ra rfl rfl hx3 ?_
      cases c5 : gh_cmp .ne x3 0 with
      | true =>
        rw [c5, cond_true] at h
        refine gh_T_if true rfl c5 ?_
        refine gh_T_steps 4 (τ := (64, [(0, .ref 0), (1, .int a1), (2, .int a2)], [.int a1, .ref 2], (gh_mo q1.2, 0, 0))) (fun _ => rfl) ?_
        obtain ⟨x4, hx4, h⟩ := gh_bi h
        refine gh_T_ra rfl rfl hx4 ?_
        cases h
        exact gh_T_ret (fun _ => rfl)
      | false =>
        rw [c5, cond_false] at h
        refine gh_T_if false rfl c5 ?_
        refine gh_T_steps 2 (τ := (65, [(0, .ref 0), (1, .int a1), (2, .int a2)], [.int ((-1))], (gh_mo q1.2, 0, 0))) (fun _ => rfl) ?_
        cases h
        exact gh_T_ret (fun _ => rfl)
    | false =>
      rw [c2, cond_false] at h
      cases c6 : gh_cmp .eq a2 1 with
      | true =>
        rw [c6, cond_true] at h
        refine gh_T_at 1 c6 (τ := (66, [(0, .ref 0), (1, .int a1), (2, .int a2)], [], (gh_mo q1.2, 0, 0))) (fun _ => rfl) ?_
        refine gh_T_steps 4 (τ := (74, [(0, .ref 0), (1, .int a1), (2, .int a2)], [.int a1, .ref 3], (gh_mo q1.2, 0, 0))) (fun _ => rfl) ?_
        obtain ⟨x7, hx7, h⟩ := gh_bi h
        refine gh_T_ra rfl rfl hx7 ?_
        cases h
        exact gh_T_ret (fun _ => rfl)
      | false =>
        rw [c6, cond_false] at h
        cases c8 : gh_cmp .eq a2 2 with
        | true =>
          rw [c8, cond_true] at h
          refine gh_T_at 2 c8 (τ := (76, [(0, .ref 0), (1, .int a1), (2, .int a2)], [], (gh_mo q1.2, 0, 0))) (fun _ => rfl) ?_
          refine gh_T_steps 3 (τ := (81, [(0, .ref 0), (1, .int a1), (2, .int a2)], [.int a1, .ref 1], (gh_mo q1.2, 0, 0))) (fun _ => rfl) ?_
          obtain ⟨q9, hq9, h⟩ := gh_bi h
          refine gh_T_iv (As := [.int a1]) (b := 1) (rest := []) (y := some (.int q9.1)) (M' := gh_mo q9.2) rfl rfl rfl rfl rfl rfl rfl rfl rfl ⟨Nat.le_refl _, Nat.le_refl _⟩ (kX0_moist (d + 1) N a1 q1.2 q9 hq9) ?_
          cases h
          exact gh_T_ret (fun _ => rfl)
        | false =>
          rw [c8, cond_false] at h
          cases c10 : gh_cmp .eq a2 3 with
          | true =>
            rw [c10, cond_true] at h
            refine gh_T_at 3 c10 (τ := (85, [(0, .ref 0), (1, .int a1), (2, .int a2)], [], (gh_mo q1.2, 0, 0))) (fun _ => rfl) ?_
            refine gh_T_steps 4 (τ := (93, [(0, .ref 0), (1, .int a1), (2, .int a2)], [.int a1, .ref 4], (gh_mo q1.2, 0, 0))) (fun _ => rfl) ?_
            obtain ⟨x11, hx11, h⟩ := gh_bi h
            refine gh_T_ra rfl rfl hx11 ?_
            cases h
            exact gh_T_ret (fun _ => rfl)
          | false =>
            rw [c10, cond_false] at h
            refine gh_T_td (tgt := 95) 4 rfl rfl (by decide) ⟨⟨⟨⟨trivial, c2⟩, c6⟩, c8⟩, c10⟩ (by decide) ?_
            refine gh_T_steps 1 (τ := (96, [(0, .ref 0), (1, .int a1), (2, .int a2)], [.int ((-1))], (gh_mo q1.2, 0, 0))) (fun _ => rfl) ?_
            cases h
            exact gh_T_ret (fun _ => rfl)
  | false =>
    rw [c12, cond_false] at h
    refine gh_T_if false rfl c12 ?_
    refine gh_T_steps 1 (τ := (8, [(0, .ref 0), (1, .int a1), (2, .int a2)], [.int ((-1))], (gh_mo q1.2, 0, 0))) (fun _ => rfl) ?_
    cases h
    exact gh_T_ret (fun _ => rfl)
theorem kX9_binOf (d N : Nat) (a1 : Int32) (a2 : Int32) (S : gh_St) (r : Int32 × gh_St) (h : sX9_binOf N a1 a2 S = some r) : gh_Mx (d + 3) 88 [.ref 0, .int a1, .int a2] (gh_mo S) (some (.int r.1)) (gh_mo r.2) :=
  gh_Mx_of rfl rfl rfl rfl rfl rfl (kX9_binOf_e d N a1 a2 S r h)
def sX9_dryIn (N : Nat) (a1 : Int32) (S : gh_St) : Option (Int64 × gh_St) :=
  (sX9_isBin N a1 S).bind fun q1 =>
  bif gh_cmp .eq q1.1 0 then
    (some ((-1), q1.2))
  else
    ((gh_rj q1.2 5 8 a1).bind fun x2 =>
    some (x2, q1.2))
set_option maxRecDepth 100000 in
theorem kX9_dryIn_e (d N : Nat) (a1 : Int32) (S : gh_St) (r : Int64 × gh_St) (h : sX9_dryIn N a1 S = some r) : gh_T (d + 2) fX9_dryIn 0 0 none false false (0, [(0, .ref 0), (1, .int a1)], [], (gh_mo S, 0, 0)) (some (.long r.1), (gh_mo r.2, 0, 0)) := by
  unfold sX9_dryIn at h
  refine gh_T_steps 1 (τ := (1, [(0, .ref 0), (1, .int a1)], [.int a1], (gh_mo S, 0, 0))) (fun _ => rfl) ?_
  obtain ⟨q1, hq1, h⟩ := gh_bi h
  refine gh_T_is (As := [.int a1]) (rest := []) (y := some (.int q1.1)) (M' := gh_mo q1.2) rfl rfl rfl rfl rfl rfl rfl ⟨Nat.le_refl _, Nat.le_refl _⟩ (kX9_isBin d N a1 S q1 hq1) ?_
  cases c3 : gh_cmp .eq q1.1 0 with
  | true =>
    rw [c3, cond_true] at h
    refine gh_T_if true rfl c3 ?_
    refine gh_T_steps 1 (τ := (22, [(0, .ref 0), (1, .int a1)], [.long ((-1))], (gh_mo q1.2, 0, 0))) (fun _ => rfl) ?_
    cases h
    exact gh_T_ret (fun _ => rfl)
  | false =>
    rw [c3, cond_false] at h
    refine gh_T_if false rfl c3 ?_
    refine gh_T_steps 4 (τ := (15, [(0, .ref 0), (1, .int a1)], [.int a1, .ref 5], (gh_mo q1.2, 0, 0))) (fun _ => rfl) ?_
    obtain ⟨x2, hx2, h⟩ := gh_bi h
    refine gh_T_rj rfl rfl hx2 ?_
    refine gh_T_steps 1 (τ := (22, [(0, .ref 0), (1, .int a1)], [.long x2], (gh_mo q1.2, 0, 0))) (fun _ => rfl) ?_
    cases h
    exact gh_T_ret (fun _ => rfl)
theorem kX9_dryIn (d N : Nat) (a1 : Int32) (S : gh_St) (r : Int64 × gh_St) (h : sX9_dryIn N a1 S = some r) : gh_Mx (d + 3) 89 [.ref 0, .int a1] (gh_mo S) (some (.long r.1)) (gh_mo r.2) :=
  gh_Mx_of rfl rfl rfl rfl rfl rfl (kX9_dryIn_e d N a1 S r h)
def sX9_truck (N : Nat) (a1 : Int32) (a2 : Int32) (a3 : Int32) (S : gh_St) : Option (Int32 × gh_St) :=
  (sX7_add N a1 a2 a3 S).bind fun q1 =>
  some (q1.1, q1.2)
set_option maxRecDepth 100000 in
theorem kX9_truck_e (d N : Nat) (a1 : Int32) (a2 : Int32) (a3 : Int32) (S : gh_St) (r : Int32 × gh_St) (h : sX9_truck N a1 a2 a3 S = some r) : gh_T (d + 3) fX9_truck 0 0 none false false (0, [(0, .ref 0), (1, .int a1), (2, .int a2), (3, .int a3)], [], (gh_mo S, 0, 0)) (some (.int r.1), (gh_mo r.2, 0, 0)) := by
  unfold sX9_truck at h
  refine gh_T_steps 5 (τ := (7, [(0, .ref 0), (1, .int a1), (2, .int a2), (3, .int a3)], [.int a3, .int a2, .int a1, .ref 18], (gh_mo S, 0, 0))) (fun _ => rfl) ?_
  obtain ⟨q1, hq1, h⟩ := gh_bi h
  refine gh_T_iv (As := [.int a1, .int a2, .int a3]) (b := 18) (rest := []) (y := some (.int q1.1)) (M' := gh_mo q1.2) rfl rfl rfl rfl rfl rfl rfl rfl rfl ⟨Nat.le_refl _, Nat.le_refl _⟩ (kX7_add d N a1 a2 a3 S q1 hq1) ?_
  cases h
  exact gh_T_ret (fun _ => rfl)
theorem kX9_truck (d N : Nat) (a1 : Int32) (a2 : Int32) (a3 : Int32) (S : gh_St) (r : Int32 × gh_St) (h : sX9_truck N a1 a2 a3 S = some r) : gh_Mx (d + 4) 90 [.ref 0, .int a1, .int a2, .int a3] (gh_mo S) (some (.int r.1)) (gh_mo r.2) :=
  gh_Mx_of rfl rfl rfl rfl rfl rfl (kX9_truck_e d N a1 a2 a3 S r h)
def sX9_pit (N : Nat) (a1 : Int32) (a2 : Int32) (S : gh_St) : Option (Int32 × gh_St) :=
  (sX9_within N a1 1 60 S).bind fun q1 =>
  bif gh_cmp .eq q1.1 0 then
    (some (0, q1.2))
  else
    ((sX9_within N a2 0 60 q1.2).bind fun q2 =>
    bif gh_cmp .ne q2.1 0 then
      ((sX7_setPit N a1 a2 q2.2).bind fun q3 =>
      some (1, q3))
    else
      (some (0, q2.2)))
set_option maxRecDepth 100000 in
theorem kX9_pit_e (d N : Nat) (a1 : Int32) (a2 : Int32) (S : gh_St) (r : Int32 × gh_St) (h : sX9_pit N a1 a2 S = some r) : gh_T (d + 1) fX9_pit 0 0 none true false (0, [(0, .ref 0), (1, .int a1), (2, .int a2)], [], (gh_mo S, 0, 0)) (some (.int r.1), (gh_mo r.2, 0, 0)) := by
  unfold sX9_pit at h
  refine gh_T_steps 3 (τ := (4, [(0, .ref 0), (1, .int a1), (2, .int a2)], [.int 60, .int 1, .int a1], (gh_mo S, 0, 0))) (fun _ => rfl) ?_
  obtain ⟨q1, hq1, h⟩ := gh_bi h
  refine gh_T_is (As := [.int a1, .int 1, .int 60]) (rest := []) (y := some (.int q1.1)) (M' := gh_mo q1.2) rfl rfl rfl rfl rfl rfl rfl ⟨Nat.le_refl _, Nat.le_refl _⟩ (kX9_within d N a1 1 60 S q1 hq1) ?_
  cases c5 : gh_cmp .eq q1.1 0 with
  | true =>
    rw [c5, cond_true] at h
    refine gh_T_if true rfl c5 ?_
    refine gh_T_steps 1 (τ := (21, [(0, .ref 0), (1, .int a1), (2, .int a2)], [.int 0], (gh_mo q1.2, 0, 0))) (fun _ => rfl) ?_
    cases h
    exact gh_T_ret (fun _ => rfl)
  | false =>
    rw [c5, cond_false] at h
    refine gh_T_if false rfl c5 ?_
    refine gh_T_steps 3 (τ := (14, [(0, .ref 0), (1, .int a1), (2, .int a2)], [.int 60, .int 0, .int a2], (gh_mo q1.2, 0, 0))) (fun _ => rfl) ?_
    obtain ⟨q2, hq2, h⟩ := gh_bi h
    refine gh_T_is (As := [.int a2, .int 0, .int 60]) (rest := []) (y := some (.int q2.1)) (M' := gh_mo q2.2) rfl rfl rfl rfl rfl rfl rfl ⟨Nat.le_refl _, Nat.le_refl _⟩ (kX9_within d N a2 0 60 q1.2 q2 hq2) ?_
    cases c4 : gh_cmp .ne q2.1 0 with
    | true =>
      rw [c4, cond_true] at h
      refine gh_T_if true rfl c4 ?_
      refine gh_T_steps 4 (τ := (28, [(0, .ref 0), (1, .int a1), (2, .int a2)], [.int a2, .int a1, .ref 18], (gh_mo q2.2, 0, 0))) (fun _ => rfl) ?_
      obtain ⟨q3, hq3, h⟩ := gh_bi h
      refine gh_T_iv (As := [.int a1, .int a2]) (b := 18) (rest := []) (y := none) (M' := gh_mo q3) rfl rfl rfl rfl rfl rfl rfl rfl rfl ⟨Nat.le_refl _, Nat.le_refl _⟩ (kX7_setPit d N a1 a2 q2.2 q3 hq3) ?_
      refine gh_T_steps 1 (τ := (32, [(0, .ref 0), (1, .int a1), (2, .int a2)], [.int 1], (gh_mo q3, 0, 0))) (fun _ => rfl) ?_
      cases h
      exact gh_T_ret (fun _ => rfl)
    | false =>
      rw [c4, cond_false] at h
      refine gh_T_if false rfl c4 ?_
      refine gh_T_steps 1 (τ := (21, [(0, .ref 0), (1, .int a1), (2, .int a2)], [.int 0], (gh_mo q2.2, 0, 0))) (fun _ => rfl) ?_
      cases h
      exact gh_T_ret (fun _ => rfl)
theorem kX9_pit (d N : Nat) (a1 : Int32) (a2 : Int32) (S : gh_St) (r : Int32 × gh_St) (h : sX9_pit N a1 a2 S = some r) : gh_Mx (d + 2) 91 [.ref 0, .int a1, .int a2] (gh_mo S) (some (.int r.1)) (gh_mo r.2) :=
  gh_Mx_of rfl rfl rfl rfl rfl rfl (kX9_pit_e d N a1 a2 S r h)
def sX9_hour (N : Nat) (a1 : Int32) (a2 : Int32) (a3 : Int32) (S : gh_St) : Option (Int32 × gh_St) :=
  (sX2_setHour N a1 a2 a3 S).bind fun q1 =>
  (gh_gB q1.1).bind fun x2 => some (x2, q1.2)
set_option maxRecDepth 100000 in
theorem kX9_hour_e (d N : Nat) (a1 : Int32) (a2 : Int32) (a3 : Int32) (S : gh_St) (r : Int32 × gh_St) (h : sX9_hour N a1 a2 a3 S = some r) : gh_T (d + 2) fX9_hour 0 0 none true false (0, [(0, .ref 0), (1, .int a1), (2, .int a2), (3, .int a3)], [], (gh_mo S, 0, 0)) (some (.int r.1), (gh_mo r.2, 0, 0)) := by
  unfold sX9_hour at h
  refine gh_T_steps 5 (τ := (7, [(0, .ref 0), (1, .int a1), (2, .int a2), (3, .int a3)], [.int a3, .int a2, .int a1, .ref 26], (gh_mo S, 0, 0))) (fun _ => rfl) ?_
  obtain ⟨q1, hq1, h⟩ := gh_bi h
  refine gh_T_iv (As := [.int a1, .int a2, .int a3]) (b := 26) (rest := []) (y := some (.int q1.1)) (M' := gh_mo q1.2) rfl rfl rfl rfl rfl rfl rfl rfl rfl ⟨Nat.le_refl _, Nat.le_refl _⟩ (kX2_setHour d N a1 a2 a3 S q1 hq1) ?_
  obtain ⟨x2, hx2, h⟩ := gh_bi h
  obtain ⟨hz, rfl⟩ := gh_bs hx2
  cases h
  exact gh_T_rz rfl hz
theorem kX9_hour (d N : Nat) (a1 : Int32) (a2 : Int32) (a3 : Int32) (S : gh_St) (r : Int32 × gh_St) (h : sX9_hour N a1 a2 a3 S = some r) : gh_Mx (d + 3) 95 [.ref 0, .int a1, .int a2, .int a3] (gh_mo S) (some (.int r.1)) (gh_mo r.2) :=
  gh_Mx_of rfl rfl rfl rfl rfl rfl (kX9_hour_e d N a1 a2 a3 S r h)
def sX9_needs (N : Nat) (a1 : Int32) (a2 : Int32) (a3 : Int32) (S : gh_St) : Option (Int32 × gh_St) :=
  bif gh_cmp .ne a1 ((-1)) then
    ((sX2_setNeed N a1 a2 a3 S).bind fun q1 =>
    (gh_gB q1.1).bind fun x2 => some (x2, q1.2))
  else
    ((sX2_setPower N a2 S).bind fun q3 =>
    (gh_gB q3.1).bind fun x4 => some (x4, q3.2))
set_option maxRecDepth 100000 in
theorem kX9_needs_e (d N : Nat) (a1 : Int32) (a2 : Int32) (a3 : Int32) (S : gh_St) (r : Int32 × gh_St) (h : sX9_needs N a1 a2 a3 S = some r) : gh_T (d + 3) fX9_needs 0 0 none true false (0, [(0, .ref 0), (1, .int a1), (2, .int a2), (3, .int a3)], [], (gh_mo S, 0, 0)) (some (.int r.1), (gh_mo r.2, 0, 0)) := by
  unfold sX9_needs at h
  refine gh_T_steps 2 (τ := (2, [(0, .ref 0), (1, .int a1), (2, .int a2), (3, .int a3)], [.int ((-1)), .int a1], (gh_mo S, 0, 0))) (fun _ => rfl) ?_
  cases c5 : gh_cmp .ne a1 ((-1)) with
  | true =>
    rw [c5, cond_true] at h
    refine gh_T_ic true rfl c5 ?_
    refine gh_T_steps 5 (τ := (23, [(0, .ref 0), (1, .int a1), (2, .int a2), (3, .int a3)], [.int a3, .int a2, .int a1, .ref 26], (gh_mo S, 0, 0))) (fun _ => rfl) ?_
    obtain ⟨q1, hq1, h⟩ := gh_bi h
    refine gh_T_iv (As := [.int a1, .int a2, .int a3]) (b := 26) (rest := []) (y := some (.int q1.1)) (M' := gh_mo q1.2) rfl rfl rfl rfl rfl rfl rfl rfl rfl ⟨Nat.le_refl _, Nat.le_refl _⟩ (kX2_setNeed d N a1 a2 a3 S q1 hq1) ?_
    obtain ⟨x2, hx2, h⟩ := gh_bi h
    obtain ⟨hz, rfl⟩ := gh_bs hx2
    cases h
    exact gh_T_rz rfl hz
  | false =>
    rw [c5, cond_false] at h
    refine gh_T_ic false rfl c5 ?_
    refine gh_T_steps 3 (τ := (10, [(0, .ref 0), (1, .int a1), (2, .int a2), (3, .int a3)], [.int a2, .ref 26], (gh_mo S, 0, 0))) (fun _ => rfl) ?_
    obtain ⟨q3, hq3, h⟩ := gh_bi h
    refine gh_T_iv (As := [.int a2]) (b := 26) (rest := []) (y := some (.int q3.1)) (M' := gh_mo q3.2) rfl rfl rfl rfl rfl rfl rfl rfl rfl ⟨Nat.le_refl _, Nat.le_refl _⟩ (kX2_setPower (d + 1) N a2 S q3 hq3) ?_
    refine gh_T_steps 1 (τ := (26, [(0, .ref 0), (1, .int a1), (2, .int a2), (3, .int a3)], [.int q3.1], (gh_mo q3.2, 0, 0))) (fun _ => rfl) ?_
    obtain ⟨x4, hx4, h⟩ := gh_bi h
    obtain ⟨hz, rfl⟩ := gh_bs hx4
    cases h
    exact gh_T_rz rfl hz
theorem kX9_needs (d N : Nat) (a1 : Int32) (a2 : Int32) (a3 : Int32) (S : gh_St) (r : Int32 × gh_St) (h : sX9_needs N a1 a2 a3 S = some r) : gh_Mx (d + 4) 96 [.ref 0, .int a1, .int a2, .int a3] (gh_mo S) (some (.int r.1)) (gh_mo r.2) :=
  gh_Mx_of rfl rfl rfl rfl rfl rfl (kX9_needs_e d N a1 a2 a3 S r h)
def sX9_blend (N : Nat) (a1 : Int32) (a2 : Int32) (a3 : Int32) (a4 : Int32) (S : gh_St) : Option (Int64 × gh_St) :=
  (sX9_isKind N a1 S).bind fun q1 =>
  bif gh_cmp .eq q1.1 0 then
    (some ((-1), q1.2))
  else
    ((sX9_within N a2 0 255 q1.2).bind fun q2 =>
    bif gh_cmp .eq q2.1 0 then
      (some ((-1), q2.2))
    else
      ((sX9_within N a3 1 20 q2.2).bind fun q3 =>
      bif gh_cmp .eq q3.1 0 then
        (some ((-1), q3.2))
      else
        ((sX9_within N a4 0 1000 q3.2).bind fun q4 =>
        bif gh_cmp .ne q4.1 0 then
          ((sX1_choose N a1 a2 q4.2).bind fun q5 =>
          bif gh_cmp .ne q5.1 0 then
            ((sX1_best N a3 a4 q5.2).bind fun q6 =>
            some (q6.1, q6.2))
          else
            (some ((-1), q5.2)))
        else
          (some ((-1), q4.2)))))
set_option maxRecDepth 100000 in
theorem kX9_blend_e (d N : Nat) (a1 : Int32) (a2 : Int32) (a3 : Int32) (a4 : Int32) (S : gh_St) (r : Int64 × gh_St) (h : sX9_blend N a1 a2 a3 a4 S = some r) : gh_T (d + 3) fX9_blend 0 0 none false false (0, [(0, .ref 0), (1, .int a1), (2, .int a2), (3, .int a3), (4, .int a4)], [], (gh_mo S, 0, 0)) (some (.long r.1), (gh_mo r.2, 0, 0)) := by
  unfold sX9_blend at h
  refine gh_T_steps 1 (τ := (1, [(0, .ref 0), (1, .int a1), (2, .int a2), (3, .int a3), (4, .int a4)], [.int a1], (gh_mo S, 0, 0))) (fun _ => rfl) ?_
  obtain ⟨q1, hq1, h⟩ := gh_bi h
  refine gh_T_is (As := [.int a1]) (rest := []) (y := some (.int q1.1)) (M' := gh_mo q1.2) rfl rfl rfl rfl rfl rfl rfl ⟨Nat.le_refl _, Nat.le_refl _⟩ (kX9_isKind (d + 1) N a1 S q1 hq1) ?_
  cases c11 : gh_cmp .eq q1.1 0 with
  | true =>
    rw [c11, cond_true] at h
    refine gh_T_if true rfl c11 ?_
    refine gh_T_steps 1 (τ := (43, [(0, .ref 0), (1, .int a1), (2, .int a2), (3, .int a3), (4, .int a4)], [.long ((-1))], (gh_mo q1.2, 0, 0))) (fun _ => rfl) ?_
    cases h
    exact gh_T_ret (fun _ => rfl)
  | false =>
    rw [c11, cond_false] at h
    refine gh_T_if false rfl c11 ?_
    refine gh_T_steps 3 (τ := (12, [(0, .ref 0), (1, .int a1), (2, .int a2), (3, .int a3), (4, .int a4)], [.int 255, .int 0, .int a2], (gh_mo q1.2, 0, 0))) (fun _ => rfl) ?_
    obtain ⟨q2, hq2, h⟩ := gh_bi h
    refine gh_T_is (As := [.int a2, .int 0, .int 255]) (rest := []) (y := some (.int q2.1)) (M' := gh_mo q2.2) rfl rfl rfl rfl rfl rfl rfl ⟨Nat.le_refl _, Nat.le_refl _⟩ (kX9_within (d + 2) N a2 0 255 q1.2 q2 hq2) ?_
    cases c10 : gh_cmp .eq q2.1 0 with
    | true =>
      rw [c10, cond_true] at h
      refine gh_T_if true rfl c10 ?_
      refine gh_T_steps 1 (τ := (43, [(0, .ref 0), (1, .int a1), (2, .int a2), (3, .int a3), (4, .int a4)], [.long ((-1))], (gh_mo q2.2, 0, 0))) (fun _ => rfl) ?_
      cases h
      exact gh_T_ret (fun _ => rfl)
    | false =>
      rw [c10, cond_false] at h
      refine gh_T_if false rfl c10 ?_
      refine gh_T_steps 3 (τ := (22, [(0, .ref 0), (1, .int a1), (2, .int a2), (3, .int a3), (4, .int a4)], [.int 20, .int 1, .int a3], (gh_mo q2.2, 0, 0))) (fun _ => rfl) ?_
      obtain ⟨q3, hq3, h⟩ := gh_bi h
      refine gh_T_is (As := [.int a3, .int 1, .int 20]) (rest := []) (y := some (.int q3.1)) (M' := gh_mo q3.2) rfl rfl rfl rfl rfl rfl rfl ⟨Nat.le_refl _, Nat.le_refl _⟩ (kX9_within (d + 2) N a3 1 20 q2.2 q3 hq3) ?_
      cases c9 : gh_cmp .eq q3.1 0 with
      | true =>
        rw [c9, cond_true] at h
        refine gh_T_if true rfl c9 ?_
        refine gh_T_steps 1 (τ := (43, [(0, .ref 0), (1, .int a1), (2, .int a2), (3, .int a3), (4, .int a4)], [.long ((-1))], (gh_mo q3.2, 0, 0))) (fun _ => rfl) ?_
        cases h
        exact gh_T_ret (fun _ => rfl)
      | false =>
        rw [c9, cond_false] at h
        refine gh_T_if false rfl c9 ?_
        refine gh_T_steps 3 (τ := (34, [(0, .ref 0), (1, .int a1), (2, .int a2), (3, .int a3), (4, .int a4)], [.int 1000, .int 0, .int a4], (gh_mo q3.2, 0, 0))) (fun _ => rfl) ?_
        obtain ⟨q4, hq4, h⟩ := gh_bi h
        refine gh_T_is (As := [.int a4, .int 0, .int 1000]) (rest := []) (y := some (.int q4.1)) (M' := gh_mo q4.2) rfl rfl rfl rfl rfl rfl rfl ⟨Nat.le_refl _, Nat.le_refl _⟩ (kX9_within (d + 2) N a4 0 1000 q3.2 q4 hq4) ?_
        cases c8 : gh_cmp .ne q4.1 0 with
        | true =>
          rw [c8, cond_true] at h
          refine gh_T_if true rfl c8 ?_
          refine gh_T_steps 6 (τ := (54, [(0, .ref 0), (1, .int a1), (2, .int a2), (3, .int a3), (4, .int a4)], [.int a2, .int a1, .ref 1, .ref 37], (gh_mo q4.2, 0, 0))) (fun _ => rfl) ?_
          obtain ⟨q5, hq5, h⟩ := gh_bi h
          refine gh_T_iv (As := [.ref 1, .int a1, .int a2]) (b := 37) (rest := []) (y := some (.int q5.1)) (M' := gh_mo q5.2) rfl rfl rfl rfl rfl rfl rfl rfl rfl ⟨Nat.le_refl _, Nat.le_refl _⟩ (kX1_choose (d + 1) N a1 a2 q4.2 q5 hq5) ?_
          cases c7 : gh_cmp .ne q5.1 0 with
          | true =>
            rw [c7, cond_true] at h
            refine gh_T_if true rfl c7 ?_
            refine gh_T_steps 6 (τ := (75, [(0, .ref 0), (1, .int a1), (2, .int a2), (3, .int a3), (4, .int a4)], [.int a4, .int a3, .ref 1, .ref 37], (gh_mo q5.2, 0, 0))) (fun _ => rfl) ?_
            obtain ⟨q6, hq6, h⟩ := gh_bi h
            refine gh_T_iv (As := [.ref 1, .int a3, .int a4]) (b := 37) (rest := []) (y := some (.long q6.1)) (M' := gh_mo q6.2) rfl rfl rfl rfl rfl rfl rfl rfl rfl ⟨Nat.le_refl _, Nat.le_refl _⟩ (kX1_best d N a3 a4 q5.2 q6 hq6) ?_
            cases h
            exact gh_T_ret (fun _ => rfl)
          | false =>
            rw [c7, cond_false] at h
            refine gh_T_if false rfl c7 ?_
            refine gh_T_steps 1 (τ := (63, [(0, .ref 0), (1, .int a1), (2, .int a2), (3, .int a3), (4, .int a4)], [.long ((-1))], (gh_mo q5.2, 0, 0))) (fun _ => rfl) ?_
            cases h
            exact gh_T_ret (fun _ => rfl)
        | false =>
          rw [c8, cond_false] at h
          refine gh_T_if false rfl c8 ?_
          refine gh_T_steps 1 (τ := (43, [(0, .ref 0), (1, .int a1), (2, .int a2), (3, .int a3), (4, .int a4)], [.long ((-1))], (gh_mo q4.2, 0, 0))) (fun _ => rfl) ?_
          cases h
          exact gh_T_ret (fun _ => rfl)
theorem kX9_blend (d N : Nat) (a1 : Int32) (a2 : Int32) (a3 : Int32) (a4 : Int32) (S : gh_St) (r : Int64 × gh_St) (h : sX9_blend N a1 a2 a3 a4 S = some r) : gh_Mx (d + 4) 99 [.ref 0, .int a1, .int a2, .int a3, .int a4] (gh_mo S) (some (.long r.1)) (gh_mo r.2) :=
  gh_Mx_of rfl rfl rfl rfl rfl rfl (kX9_blend_e d N a1 a2 a3 a4 S r h)
def sX9_blended (N : Nat) (a1 : Int32) (S : gh_St) : Option (Int32 × gh_St) :=
  (sX9_isBin N a1 S).bind fun q1 =>
  bif gh_cmp .eq q1.1 0 then
    (some ((-1), q1.2))
  else
    (bif gh_cmp .eq (q1.2.1 37 7) 0 then
      (some ((-1), q1.2))
    else
      ((gh_ra q1.2 42 8 a1).bind fun x2 =>
      some (x2, q1.2)))
set_option maxRecDepth 100000 in
theorem kX9_blended_e (d N : Nat) (a1 : Int32) (S : gh_St) (r : Int32 × gh_St) (h : sX9_blended N a1 S = some r) : gh_T (d + 2) fX9_blended 0 0 none false false (0, [(0, .ref 0), (1, .int a1)], [], (gh_mo S, 0, 0)) (some (.int r.1), (gh_mo r.2, 0, 0)) := by
  unfold sX9_blended at h
  refine gh_T_steps 1 (τ := (1, [(0, .ref 0), (1, .int a1)], [.int a1], (gh_mo S, 0, 0))) (fun _ => rfl) ?_
  obtain ⟨q1, hq1, h⟩ := gh_bi h
  refine gh_T_is (As := [.int a1]) (rest := []) (y := some (.int q1.1)) (M' := gh_mo q1.2) rfl rfl rfl rfl rfl rfl rfl ⟨Nat.le_refl _, Nat.le_refl _⟩ (kX9_isBin d N a1 S q1 hq1) ?_
  cases c4 : gh_cmp .eq q1.1 0 with
  | true =>
    rw [c4, cond_true] at h
    refine gh_T_if true rfl c4 ?_
    refine gh_T_steps 1 (τ := (30, [(0, .ref 0), (1, .int a1)], [.int ((-1))], (gh_mo q1.2, 0, 0))) (fun _ => rfl) ?_
    cases h
    exact gh_T_ret (fun _ => rfl)
  | false =>
    rw [c4, cond_false] at h
    refine gh_T_if false rfl c4 ?_
    refine gh_T_steps 3 (τ := (14, [(0, .ref 0), (1, .int a1)], [.int (q1.2.1 37 7)], (gh_mo q1.2, 0, 0))) (fun _ => rfl) ?_
    cases c3 : gh_cmp .eq (q1.2.1 37 7) 0 with
    | true =>
      rw [c3, cond_true] at h
      refine gh_T_if true rfl c3 ?_
      refine gh_T_steps 1 (τ := (30, [(0, .ref 0), (1, .int a1)], [.int ((-1))], (gh_mo q1.2, 0, 0))) (fun _ => rfl) ?_
      cases h
      exact gh_T_ret (fun _ => rfl)
    | false =>
      rw [c3, cond_false] at h
      refine gh_T_if false rfl c3 ?_
      refine gh_T_steps 4 (τ := (25, [(0, .ref 0), (1, .int a1)], [.int a1, .ref 42], (gh_mo q1.2, 0, 0))) (fun _ => rfl) ?_
      obtain ⟨x2, hx2, h⟩ := gh_bi h
      refine gh_T_ra rfl rfl hx2 ?_
      refine gh_T_steps 1 (τ := (30, [(0, .ref 0), (1, .int a1)], [.int x2], (gh_mo q1.2, 0, 0))) (fun _ => rfl) ?_
      cases h
      exact gh_T_ret (fun _ => rfl)
theorem kX9_blended (d N : Nat) (a1 : Int32) (S : gh_St) (r : Int32 × gh_St) (h : sX9_blended N a1 S = some r) : gh_Mx (d + 3) 100 [.ref 0, .int a1] (gh_mo S) (some (.int r.1)) (gh_mo r.2) :=
  gh_Mx_of rfl rfl rfl rfl rfl rfl (kX9_blended_e d N a1 S r h)
def sX9_end (N : Nat) (a1 : Int32) (S : gh_St) : Option (Int32 × gh_St) :=
  (sX9_within N a1 0 (S.1 43 1) S).bind fun q1 =>
  bif gh_cmp .ne q1.1 0 then
    (some (a1, gh_fI q1.2 43 1 a1))
  else
    (some ((-1), q1.2))
set_option maxRecDepth 100000 in
theorem kX9_end_e (d N : Nat) (a1 : Int32) (S : gh_St) (r : Int32 × gh_St) (h : sX9_end N a1 S = some r) : gh_T (d + 1) fX9_end 0 0 none false false (0, [(0, .ref 0), (1, .int a1)], [], (gh_mo S, 0, 0)) (some (.int r.1), (gh_mo r.2, 0, 0)) := by
  unfold sX9_end at h
  refine gh_T_steps 5 (τ := (9, [(0, .ref 0), (1, .int a1)], [.int (S.1 43 1), .int 0, .int a1], (gh_mo S, 0, 0))) (fun _ => rfl) ?_
  obtain ⟨q1, hq1, h⟩ := gh_bi h
  refine gh_T_is (As := [.int a1, .int 0, .int (S.1 43 1)]) (rest := []) (y := some (.int q1.1)) (M' := gh_mo q1.2) rfl rfl rfl rfl rfl rfl rfl ⟨Nat.le_refl _, Nat.le_refl _⟩ (kX9_within d N a1 0 (S.1 43 1) S q1 hq1) ?_
  cases c2 : gh_cmp .ne q1.1 0 with
  | true =>
    rw [c2, cond_true] at h
    refine gh_T_if true rfl c2 ?_
    refine gh_T_steps 5 (τ := (26, [(0, .ref 0), (1, .int a1)], [.int a1], (gh_mo (gh_fI q1.2 43 1 a1), 0, 0))) (fun _ => rfl) ?_
    cases h
    exact gh_T_ret (fun _ => rfl)
  | false =>
    rw [c2, cond_false] at h
    refine gh_T_if false rfl c2 ?_
    refine gh_T_steps 1 (τ := (16, [(0, .ref 0), (1, .int a1)], [.int ((-1))], (gh_mo q1.2, 0, 0))) (fun _ => rfl) ?_
    cases h
    exact gh_T_ret (fun _ => rfl)
theorem kX9_end (d N : Nat) (a1 : Int32) (S : gh_St) (r : Int32 × gh_St) (h : sX9_end N a1 S = some r) : gh_Mx (d + 2) 102 [.ref 0, .int a1] (gh_mo S) (some (.int r.1)) (gh_mo r.2) :=
  gh_Mx_of rfl rfl rfl rfl rfl rfl (kX9_end_e d N a1 S r h)
def sX9_worth (N : Nat) (a1 : Int32) (S : gh_St) : Option (Int32 × gh_St) :=
  (sX9_within N a1 0 ((S.1 6 4) - (1 : Int32)) S).bind fun q1 =>
  bif gh_cmp .eq q1.1 0 then
    (some ((-1), q1.2))
  else
    ((sX3_value N (q1.2).2.2 a1 q1.2).bind fun q2 =>
    some (q2.1, q2.2))
set_option maxRecDepth 100000 in
theorem kX9_worth_e (d N : Nat) (a1 : Int32) (S : gh_St) (r : Int32 × gh_St) (h : sX9_worth N a1 S = some r) : gh_T (d + 2) fX9_worth 0 0 none false false (0, [(0, .ref 0), (1, .int a1)], [], (gh_mo S, 0, 0)) (some (.int r.1), (gh_mo r.2, 0, 0)) := by
  unfold sX9_worth at h
  refine gh_T_steps 7 (τ := (11, [(0, .ref 0), (1, .int a1)], [.int ((S.1 6 4) - (1 : Int32)), .int 0, .int a1], (gh_mo S, 0, 0))) (fun _ => rfl) ?_
  obtain ⟨q1, hq1, h⟩ := gh_bi h
  refine gh_T_is (As := [.int a1, .int 0, .int ((S.1 6 4) - (1 : Int32))]) (rest := []) (y := some (.int q1.1)) (M' := gh_mo q1.2) rfl rfl rfl rfl rfl rfl rfl ⟨Nat.le_refl _, Nat.le_refl _⟩ (kX9_within (d + 1) N a1 0 ((S.1 6 4) - (1 : Int32)) S q1 hq1) ?_
  cases c3 : gh_cmp .eq q1.1 0 with
  | true =>
    rw [c3, cond_true] at h
    refine gh_T_if true rfl c3 ?_
    refine gh_T_steps 1 (τ := (33, [(0, .ref 0), (1, .int a1)], [.int ((-1))], (gh_mo q1.2, 0, 0))) (fun _ => rfl) ?_
    cases h
    exact gh_T_ret (fun _ => rfl)
  | false =>
    rw [c3, cond_false] at h
    refine gh_T_if false rfl c3 ?_
    refine gh_T_steps 5 (τ := (26, [(0, .ref 0), (1, .int a1)], [.ref (gh_pl (q1.2).2.2), .int a1, .ref 6], (gh_mo q1.2, 0, 0))) (fun _ => rfl) ?_
    obtain ⟨q2, hq2, h⟩ := gh_bi h
    refine gh_T_iv (As := [.int a1, .ref (gh_pl (q1.2).2.2)]) (b := 6) (rest := []) (y := some (.int q2.1)) (M' := gh_mo q2.2) rfl rfl rfl rfl rfl rfl rfl rfl rfl ⟨Nat.le_refl _, Nat.le_refl _⟩ (kX3_value d N (q1.2).2.2 a1 q1.2 q2 hq2) ?_
    refine gh_T_steps 1 (τ := (33, [(0, .ref 0), (1, .int a1)], [.int q2.1], (gh_mo q2.2, 0, 0))) (fun _ => rfl) ?_
    cases h
    exact gh_T_ret (fun _ => rfl)
theorem kX9_worth (d N : Nat) (a1 : Int32) (S : gh_St) (r : Int32 × gh_St) (h : sX9_worth N a1 S = some r) : gh_Mx (d + 3) 105 [.ref 0, .int a1] (gh_mo S) (some (.int r.1)) (gh_mo r.2) :=
  gh_Mx_of rfl rfl rfl rfl rfl rfl (kX9_worth_e d N a1 S r h)
def sX9_account (N : Nat) (a1 : Int32) (a2 : Int32) (S : gh_St) : Option (Int64 × gh_St) :=
  (sX9_isFarmer N a1 S).bind fun q1 =>
  bif gh_cmp .ne q1.1 0 then
    (bif gh_cmp .eq a2 0 then
      ((sX3_gramsOf N a1 q1.2).bind fun q3 =>
      some (q3.1, q3.2))
    else
      bif gh_cmp .eq a2 1 then
      ((sX3_valueOf N (q1.2).2.2 a1 q1.2).bind fun q5 =>
        some (q5.1, q5.2))
    else
      bif gh_cmp .eq a2 2 then
      ((sX3_countOf N a1 q1.2).bind fun q7 =>
          some ((q7.1 : Int32).toInt64, q7.2))
    else
      (some ((-1), q1.2)))
  else
    (some ((-1), q1.2))
set_option maxRecDepth 100000 in
theorem kX9_account_e (d N : Nat) (a1 : Int32) (a2 : Int32) (S : gh_St) (r : Int64 × gh_St) (h : sX9_account N a1 a2 S = some r) : gh_T (d + 3) fX9_account 0 0 none false false (0, [(0, .ref 0), (1, .int a1), (2, .int a2)], [], (gh_mo S, 0, 0)) (some (.long r.1), (gh_mo r.2, 0, 0)) := by
  unfold sX9_account at h
  refine gh_T_steps 1 (τ := (1, [(0, .ref 0), (1, .int a1), (2, .int a2)], [.int a1], (gh_mo S, 0, 0))) (fun _ => rfl) ?_
  obtain ⟨q1, hq1, h⟩ := gh_bi h
  refine gh_T_is (As := [.int a1]) (rest := []) (y := some (.int q1.1)) (M' := gh_mo q1.2) rfl rfl rfl rfl rfl rfl rfl ⟨Nat.le_refl _, Nat.le_refl _⟩ (kX9_isFarmer (d + 1) N a1 S q1 hq1) ?_
  cases c8 : gh_cmp .ne q1.1 0 with
  | true =>
    rw [c8, cond_true] at h
    refine gh_T_if true rfl c8 ?_
    refine gh_T_steps 1 (τ := (12, [(0, .ref 0), (1, .int a1), (2, .int a2)], [.int a2], (gh_mo q1.2, 0, 0))) (fun _ => rfl) ?_
    cases c2 : gh_cmp .eq a2 0 with
    | true =>
      rw [c2, cond_true] at h
      refine gh_T_at 0 c2 (τ := (40, [(0, .ref 0), (1, .int a1), (2, .int a2)], [], (gh_mo q1.2, 0, 0))) (fun _ => rfl) ?_
      refine gh_T_steps 3 (τ := (45, [(0, .ref 0), (1, .int a1), (2, .int a2)], [.int a1, .ref 6], (gh_mo q1.2, 0, 0))) (fun _ => rfl) ?_
      obtain ⟨q3, hq3, h⟩ := gh_bi h
      refine gh_T_iv (As := [.int a1]) (b := 6) (rest := []) (y := some (.long q3.1)) (M' := gh_mo q3.2) rfl rfl rfl rfl rfl rfl rfl rfl rfl ⟨Nat.le_refl _, Nat.le_refl _⟩ (kX3_gramsOf (d + 2) N a1 q1.2 q3 hq3) ?_
      cases h
      exact gh_T_ret (fun _ => rfl)
    | false =>
      rw [c2, cond_false] at h
      cases c4 : gh_cmp .eq a2 1 with
      | true =>
        rw [c4, cond_true] at h
        refine gh_T_at 1 c4 (τ := (49, [(0, .ref 0), (1, .int a1), (2, .int a2)], [], (gh_mo q1.2, 0, 0))) (fun _ => rfl) ?_
        refine gh_T_steps 5 (τ := (58, [(0, .ref 0), (1, .int a1), (2, .int a2)], [.ref (gh_pl (q1.2).2.2), .int a1, .ref 6], (gh_mo q1.2, 0, 0))) (fun _ => rfl) ?_
        obtain ⟨q5, hq5, h⟩ := gh_bi h
        refine gh_T_iv (As := [.int a1, .ref (gh_pl (q1.2).2.2)]) (b := 6) (rest := []) (y := some (.long q5.1)) (M' := gh_mo q5.2) rfl rfl rfl rfl rfl rfl rfl rfl rfl ⟨Nat.le_refl _, Nat.le_refl _⟩ (kX3_valueOf d N (q1.2).2.2 a1 q1.2 q5 hq5) ?_
        cases h
        exact gh_T_ret (fun _ => rfl)
      | false =>
        rw [c4, cond_false] at h
        cases c6 : gh_cmp .eq a2 2 with
        | true =>
          rw [c6, cond_true] at h
          refine gh_T_at 2 c6 (τ := (62, [(0, .ref 0), (1, .int a1), (2, .int a2)], [], (gh_mo q1.2, 0, 0))) (fun _ => rfl) ?_
          refine gh_T_steps 3 (τ := (67, [(0, .ref 0), (1, .int a1), (2, .int a2)], [.int a1, .ref 6], (gh_mo q1.2, 0, 0))) (fun _ => rfl) ?_
          obtain ⟨q7, hq7, h⟩ := gh_bi h
          refine gh_T_iv (As := [.int a1]) (b := 6) (rest := []) (y := some (.int q7.1)) (M' := gh_mo q7.2) rfl rfl rfl rfl rfl rfl rfl rfl rfl ⟨Nat.le_refl _, Nat.le_refl _⟩ (kX3_countOf (d + 2) N a1 q1.2 q7 hq7) ?_
          refine gh_T_steps 1 (τ := (71, [(0, .ref 0), (1, .int a1), (2, .int a2)], [.long ((q7.1 : Int32).toInt64)], (gh_mo q7.2, 0, 0))) (fun _ => rfl) ?_
          cases h
          exact gh_T_ret (fun _ => rfl)
        | false =>
          rw [c6, cond_false] at h
          refine gh_T_td (tgt := 72) 3 rfl rfl (by decide) ⟨⟨⟨trivial, c2⟩, c4⟩, c6⟩ (by decide) ?_
          refine gh_T_steps 1 (τ := (75, [(0, .ref 0), (1, .int a1), (2, .int a2)], [.long ((-1))], (gh_mo q1.2, 0, 0))) (fun _ => rfl) ?_
          cases h
          exact gh_T_ret (fun _ => rfl)
  | false =>
    rw [c8, cond_false] at h
    refine gh_T_if false rfl c8 ?_
    refine gh_T_steps 1 (τ := (10, [(0, .ref 0), (1, .int a1), (2, .int a2)], [.long ((-1))], (gh_mo q1.2, 0, 0))) (fun _ => rfl) ?_
    cases h
    exact gh_T_ret (fun _ => rfl)
theorem kX9_account (d N : Nat) (a1 : Int32) (a2 : Int32) (S : gh_St) (r : Int64 × gh_St) (h : sX9_account N a1 a2 S = some r) : gh_Mx (d + 4) 106 [.ref 0, .int a1, .int a2] (gh_mo S) (some (.long r.1)) (gh_mo r.2) :=
  gh_Mx_of rfl rfl rfl rfl rfl rfl (kX9_account_e d N a1 a2 S r h)
def sX10_goes_24 (N : Nat) (kc2 : Int32 → Int32 → Int32 → gh_St → Option (gh_St)) (l1 : Int32) (l2 : Int32) (l3 : Int32) (t0 : Int32) (t1 : Int32) (S : gh_St) : Option (gh_St) :=
  (gh_wa S 83 12 t1 t0).bind fun S1 =>
  kc2 l1 l2 (l3 + 1) S1
set_option maxRecDepth 100000 in
theorem kX10_goes_24 (d N : Nat) (kc2 : Int32 → Int32 → Int32 → gh_St → Option (gh_St)) (hkc2 : ∀ (l1 : Int32) (l2 : Int32) (l3 : Int32) (S : gh_St) (r : gh_St), kc2 l1 l2 l3 S = some r → gh_T (d + 2) fX10_goes 0 0 none false false (2, [(0, .ref 56), (1, .int l1), (2, .int l2), (3, .int l3)], [], (gh_mo S, 0, 0)) (none, (gh_mo r, 0, 0))) (l1 : Int32) (l2 : Int32) (l3 : Int32) (t0 : Int32) (t1 : Int32) (S : gh_St) (r : gh_St) (h : sX10_goes_24 N kc2 l1 l2 l3 t0 t1 S = some r) : gh_T (d + 2) fX10_goes 0 0 none false false (24, [(0, .ref 56), (1, .int l1), (2, .int l2), (3, .int l3)], [.int t0, .int t1, .ref 83], (gh_mo S, 0, 0)) (none, (gh_mo r, 0, 0)) := by
  unfold sX10_goes_24 at h
  obtain ⟨S1, hS1, h⟩ := gh_bi h
  refine gh_T_wa rfl rfl hS1 ?_
  refine gh_T_steps 2 (τ := (2, [(3, .int (l3 + 1)), (0, .ref 56), (1, .int l1), (2, .int l2)], [], (gh_mo S1, 0, 0))) (fun _ => rfl) ?_
  refine gh_T_weak (lv := [(0, .ref 56), (1, .int l1), (2, .int l2), (3, .int (l3 + 1))]) ⟨rfl, rfl, rfl, rfl, trivial⟩ ?_
  exact hkc2 l1 l2 (l3 + 1) S1 _ h
def sX10_goes_118 (N : Nat) (kc33 : Int32 → Int32 → Int32 → gh_St → Option (gh_St)) (kc42 : Int32 → Int32 → Int32 → Int32 → gh_St → Option (gh_St)) (l1 : Int32) (l2 : Int32) (l4 : Int32) (t0 : Int32) (S : gh_St) : Option (gh_St) :=
  kc42 l1 l2 t0 (l4 + 1) S
set_option maxRecDepth 100000 in
theorem kX10_goes_118 (d N : Nat) (kc33 : Int32 → Int32 → Int32 → gh_St → Option (gh_St)) (hkc33 : ∀ (l1 : Int32) (l2 : Int32) (l3 : Int32) (S : gh_St) (r : gh_St), kc33 l1 l2 l3 S = some r → gh_T (d + 2) fX10_goes 0 0 none false false (33, [(0, .ref 56), (1, .int l1), (2, .int l2), (3, .int l3)], [], (gh_mo S, 0, 0)) (none, (gh_mo r, 0, 0))) (kc42 : Int32 → Int32 → Int32 → Int32 → gh_St → Option (gh_St)) (hkc42 : ∀ (l1 : Int32) (l2 : Int32) (l3 : Int32) (l4 : Int32) (S : gh_St) (r : gh_St), kc42 l1 l2 l3 l4 S = some r → gh_T (d + 2) fX10_goes 0 0 none false false (42, [(0, .ref 56), (1, .int l1), (2, .int l2), (3, .int l3), (4, .int l4)], [], (gh_mo S, 0, 0)) (none, (gh_mo r, 0, 0))) (l1 : Int32) (l2 : Int32) (l4 : Int32) (t0 : Int32) (S : gh_St) (r : gh_St) (h : sX10_goes_118 N kc33 kc42 l1 l2 l4 t0 S = some r) : gh_T (d + 2) fX10_goes 0 0 none false false (118, [(0, .ref 56), (1, .int l1), (2, .int l2), (4, .int l4)], [.int t0], (gh_mo S, 0, 0)) (none, (gh_mo r, 0, 0)) := by
  unfold sX10_goes_118 at h
  refine gh_T_steps 3 (τ := (42, [(4, .int (l4 + 1)), (3, .int t0), (0, .ref 56), (1, .int l1), (2, .int l2)], [], (gh_mo S, 0, 0))) (fun _ => rfl) ?_
  refine gh_T_weak (lv := [(0, .ref 56), (1, .int l1), (2, .int l2), (3, .int t0), (4, .int (l4 + 1))]) ⟨rfl, rfl, rfl, rfl, rfl, trivial⟩ ?_
  exact hkc42 l1 l2 t0 (l4 + 1) S _ h
def sX10_goes_113 (N : Nat) (kc33 : Int32 → Int32 → Int32 → gh_St → Option (gh_St)) (kc42 : Int32 → Int32 → Int32 → Int32 → gh_St → Option (gh_St)) (l1 : Int32) (l2 : Int32) (l4 : Int32) (S : gh_St) : Option (gh_St) :=
  sX10_goes_118 N kc33 kc42 l1 l2 l4 1 S
set_option maxRecDepth 100000 in
theorem kX10_goes_113 (d N : Nat) (kc33 : Int32 → Int32 → Int32 → gh_St → Option (gh_St)) (hkc33 : ∀ (l1 : Int32) (l2 : Int32) (l3 : Int32) (S : gh_St) (r : gh_St), kc33 l1 l2 l3 S = some r → gh_T (d + 2) fX10_goes 0 0 none false false (33, [(0, .ref 56), (1, .int l1), (2, .int l2), (3, .int l3)], [], (gh_mo S, 0, 0)) (none, (gh_mo r, 0, 0))) (kc42 : Int32 → Int32 → Int32 → Int32 → gh_St → Option (gh_St)) (hkc42 : ∀ (l1 : Int32) (l2 : Int32) (l3 : Int32) (l4 : Int32) (S : gh_St) (r : gh_St), kc42 l1 l2 l3 l4 S = some r → gh_T (d + 2) fX10_goes 0 0 none false false (42, [(0, .ref 56), (1, .int l1), (2, .int l2), (3, .int l3), (4, .int l4)], [], (gh_mo S, 0, 0)) (none, (gh_mo r, 0, 0))) (l1 : Int32) (l2 : Int32) (l4 : Int32) (S : gh_St) (r : gh_St) (h : sX10_goes_113 N kc33 kc42 l1 l2 l4 S = some r) : gh_T (d + 2) fX10_goes 0 0 none false false (113, [(0, .ref 56), (1, .int l1), (2, .int l2), (4, .int l4)], [], (gh_mo S, 0, 0)) (none, (gh_mo r, 0, 0)) := by
  unfold sX10_goes_113 at h
  refine gh_T_steps 2 (τ := (118, [(0, .ref 56), (1, .int l1), (2, .int l2), (4, .int l4)], [.int 1], (gh_mo S, 0, 0))) (fun _ => rfl) ?_
  exact kX10_goes_118 d N kc33 hkc33 kc42 hkc42 l1 l2 l4 1 S _ h
def sX10_goes_42 (N : Nat) (kc33 : Int32 → Int32 → Int32 → gh_St → Option (gh_St)) : Nat → Int32 → Int32 → Int32 → Int32 → gh_St → Option (gh_St)
  | 0, _, _, _, _, _ => none
  | n + 1, l1, l2, l3, l4, S =>
    bif gh_cmp .ge l4 (S.1 56 9) then
      (kc33 l1 l2 l3 S)
    else
      ((gh_ra S 65 20 l4).bind fun x1 =>
      (gh_ra S 66 20 l4).bind fun x2 =>
      (sX10_lessens N x1 x2 l4 l1 l2 S).bind fun q3 =>
      (gh_ra q3.2 66 20 l4).bind fun x4 =>
      (gh_ra q3.2 65 20 l4).bind fun x5 =>
      (sX10_lessens N x4 x5 l4 l1 l2 q3.2).bind fun q6 =>
      bif gh_cmp .ne l3 0 then
        (sX10_goes_113 N kc33 (sX10_goes_42 N kc33 n) l1 l2 l4 q6.2)
      else
        (bif gh_cmp .ne q3.1 0 then
          (sX10_goes_113 N kc33 (sX10_goes_42 N kc33 n) l1 l2 l4 q6.2)
        else
          (bif gh_cmp .eq q6.1 0 then
            (sX10_goes_118 N kc33 (sX10_goes_42 N kc33 n) l1 l2 l4 0 q6.2)
          else
            (sX10_goes_113 N kc33 (sX10_goes_42 N kc33 n) l1 l2 l4 q6.2))))
set_option maxRecDepth 100000 in
theorem kX10_goes_42 (d N : Nat) (kc33 : Int32 → Int32 → Int32 → gh_St → Option (gh_St)) (hkc33 : ∀ (l1 : Int32) (l2 : Int32) (l3 : Int32) (S : gh_St) (r : gh_St), kc33 l1 l2 l3 S = some r → gh_T (d + 2) fX10_goes 0 0 none false false (33, [(0, .ref 56), (1, .int l1), (2, .int l2), (3, .int l3)], [], (gh_mo S, 0, 0)) (none, (gh_mo r, 0, 0))) : ∀ (n : Nat) (l1 : Int32) (l2 : Int32) (l3 : Int32) (l4 : Int32) (S : gh_St) (r : gh_St), sX10_goes_42 N kc33 n l1 l2 l3 l4 S = some r → gh_T (d + 2) fX10_goes 0 0 none false false (42, [(0, .ref 56), (1, .int l1), (2, .int l2), (3, .int l3), (4, .int l4)], [], (gh_mo S, 0, 0)) (none, (gh_mo r, 0, 0)) := by
  intro n
  induction n with
  | zero =>
    intro l1 l2 l3 l4 S r h
    cases h
  | succ n ih =>
    intro l1 l2 l3 l4 S r h
    rw [sX10_goes_42] at h
    refine gh_T_steps 3 (τ := (48, [(0, .ref 56), (1, .int l1), (2, .int l2), (3, .int l3), (4, .int l4)], [.int (S.1 56 9), .int l4], (gh_mo S, 0, 0))) (fun _ => rfl) ?_
    cases c10 : gh_cmp .ge l4 (S.1 56 9) with
    | true =>
      rw [c10, cond_true] at h
      refine gh_T_ic true rfl c10 ?_
      refine gh_T_steps 1 (τ := (33, [(0, .ref 56), (1, .int l1), (2, .int l2), (3, .int l3), (4, .int l4)], [], (gh_mo S, 0, 0))) (fun _ => rfl) ?_
      refine gh_T_weak (lv := [(0, .ref 56), (1, .int l1), (2, .int l2), (3, .int l3)]) ⟨rfl, rfl, rfl, rfl, trivial⟩ ?_
      exact hkc33 l1 l2 l3 S _ h
    | false =>
      rw [c10, cond_false] at h
      refine gh_T_ic false rfl c10 ?_
      refine gh_T_steps 4 (τ := (58, [(0, .ref 56), (1, .int l1), (2, .int l2), (3, .int l3), (4, .int l4)], [.int l4, .ref 65, .ref 56], (gh_mo S, 0, 0))) (fun _ => rfl) ?_
      obtain ⟨x1, hx1, h⟩ := gh_bi h
      refine gh_T_ra rfl rfl hx1 ?_
      refine gh_T_steps 3 (τ := (65, [(0, .ref 56), (1, .int l1), (2, .int l2), (3, .int l3), (4, .int l4)], [.int l4, .ref 66, .int x1, .ref 56], (gh_mo S, 0, 0))) (fun _ => rfl) ?_
      obtain ⟨x2, hx2, h⟩ := gh_bi h
      refine gh_T_ra rfl rfl hx2 ?_
      refine gh_T_steps 3 (τ := (70, [(0, .ref 56), (1, .int l1), (2, .int l2), (3, .int l3), (4, .int l4)], [.int l2, .int l1, .int l4, .int x2, .int x1, .ref 56], (gh_mo S, 0, 0))) (fun _ => rfl) ?_
      obtain ⟨q3, hq3, h⟩ := gh_bi h
      refine gh_T_iv (As := [.int x1, .int x2, .int l4, .int l1, .int l2]) (b := 56) (rest := []) (y := some (.int q3.1)) (M' := gh_mo q3.2) rfl rfl rfl rfl rfl rfl rfl rfl rfl ⟨Nat.le_refl _, Nat.le_refl _⟩ (kX10_lessens d N x1 x2 l4 l1 l2 S q3 hq3) ?_
      refine gh_T_steps 5 (τ := (82, [(5, .int q3.1), (0, .ref 56), (1, .int l1), (2, .int l2), (3, .int l3), (4, .int l4)], [.int l4, .ref 66, .ref 56], (gh_mo q3.2, 0, 0))) (fun _ => rfl) ?_
      obtain ⟨x4, hx4, h⟩ := gh_bi h
      refine gh_T_ra rfl rfl hx4 ?_
      refine gh_T_steps 3 (τ := (89, [(5, .int q3.1), (0, .ref 56), (1, .int l1), (2, .int l2), (3, .int l3), (4, .int l4)], [.int l4, .ref 65, .int x4, .ref 56], (gh_mo q3.2, 0, 0))) (fun _ => rfl) ?_
      obtain ⟨x5, hx5, h⟩ := gh_bi h
      refine gh_T_ra rfl rfl hx5 ?_
      refine gh_T_steps 3 (τ := (94, [(5, .int q3.1), (0, .ref 56), (1, .int l1), (2, .int l2), (3, .int l3), (4, .int l4)], [.int l2, .int l1, .int l4, .int x5, .int x4, .ref 56], (gh_mo q3.2, 0, 0))) (fun _ => rfl) ?_
      obtain ⟨q6, hq6, h⟩ := gh_bi h
      refine gh_T_iv (As := [.int x4, .int x5, .int l4, .int l1, .int l2]) (b := 56) (rest := []) (y := some (.int q6.1)) (M' := gh_mo q6.2) rfl rfl rfl rfl rfl rfl rfl rfl rfl ⟨Nat.le_refl _, Nat.le_refl _⟩ (kX10_lessens d N x4 x5 l4 l1 l2 q3.2 q6 hq6) ?_
      refine gh_T_steps 2 (τ := (100, [(6, .int q6.1), (5, .int q3.1), (0, .ref 56), (1, .int l1), (2, .int l2), (3, .int l3), (4, .int l4)], [.int l3], (gh_mo q6.2, 0, 0))) (fun _ => rfl) ?_
      cases c9 : gh_cmp .ne l3 0 with
      | true =>
        rw [c9, cond_true] at h
        refine gh_T_if true rfl c9 ?_
        refine gh_T_weak (lv := [(0, .ref 56), (1, .int l1), (2, .int l2), (4, .int l4)]) ⟨rfl, rfl, rfl, rfl, trivial⟩ ?_
        exact kX10_goes_113 d N kc33 hkc33 (sX10_goes_42 N kc33 n) ih l1 l2 l4 q6.2 _ h
      | false =>
        rw [c9, cond_false] at h
        refine gh_T_if false rfl c9 ?_
        refine gh_T_steps 1 (τ := (105, [(6, .int q6.1), (5, .int q3.1), (0, .ref 56), (1, .int l1), (2, .int l2), (3, .int l3), (4, .int l4)], [.int q3.1], (gh_mo q6.2, 0, 0))) (fun _ => rfl) ?_
        cases c8 : gh_cmp .ne q3.1 0 with
        | true =>
          rw [c8, cond_true] at h
          refine gh_T_if true rfl c8 ?_
          refine gh_T_weak (lv := [(0, .ref 56), (1, .int l1), (2, .int l2), (4, .int l4)]) ⟨rfl, rfl, rfl, rfl, trivial⟩ ?_
          exact kX10_goes_113 d N kc33 hkc33 (sX10_goes_42 N kc33 n) ih l1 l2 l4 q6.2 _ h
        | false =>
          rw [c8, cond_false] at h
          refine gh_T_if false rfl c8 ?_
          refine gh_T_steps 1 (τ := (110, [(6, .int q6.1), (5, .int q3.1), (0, .ref 56), (1, .int l1), (2, .int l2), (3, .int l3), (4, .int l4)], [.int q6.1], (gh_mo q6.2, 0, 0))) (fun _ => rfl) ?_
          cases c7 : gh_cmp .eq q6.1 0 with
          | true =>
            rw [c7, cond_true] at h
            refine gh_T_if true rfl c7 ?_
            refine gh_T_steps 1 (τ := (118, [(6, .int q6.1), (5, .int q3.1), (0, .ref 56), (1, .int l1), (2, .int l2), (3, .int l3), (4, .int l4)], [.int 0], (gh_mo q6.2, 0, 0))) (fun _ => rfl) ?_
            refine gh_T_weak (lv := [(0, .ref 56), (1, .int l1), (2, .int l2), (4, .int l4)]) ⟨rfl, rfl, rfl, rfl, trivial⟩ ?_
            exact kX10_goes_118 d N kc33 hkc33 (sX10_goes_42 N kc33 n) ih l1 l2 l4 0 q6.2 _ h
          | false =>
            rw [c7, cond_false] at h
            refine gh_T_if false rfl c7 ?_
            refine gh_T_weak (lv := [(0, .ref 56), (1, .int l1), (2, .int l2), (4, .int l4)]) ⟨rfl, rfl, rfl, rfl, trivial⟩ ?_
            exact kX10_goes_113 d N kc33 hkc33 (sX10_goes_42 N kc33 n) ih l1 l2 l4 q6.2 _ h
def sX10_goes_33 (N : Nat) : Nat → Int32 → Int32 → Int32 → gh_St → Option (gh_St)
  | 0, _, _, _, _ => none
  | n + 1, l1, l2, l3, S =>
    bif gh_cmp .eq l3 0 then
      (some S)
    else
      (sX10_goes_42 N (sX10_goes_33 N n) N l1 l2 0 0 S)
set_option maxRecDepth 100000 in
theorem kX10_goes_33 (d N : Nat) : ∀ (n : Nat) (l1 : Int32) (l2 : Int32) (l3 : Int32) (S : gh_St) (r : gh_St), sX10_goes_33 N n l1 l2 l3 S = some r → gh_T (d + 2) fX10_goes 0 0 none false false (33, [(0, .ref 56), (1, .int l1), (2, .int l2), (3, .int l3)], [], (gh_mo S, 0, 0)) (none, (gh_mo r, 0, 0)) := by
  intro n
  induction n with
  | zero =>
    intro l1 l2 l3 S r h
    cases h
  | succ n ih =>
    intro l1 l2 l3 S r h
    rw [sX10_goes_33] at h
    refine gh_T_steps 1 (τ := (34, [(0, .ref 56), (1, .int l1), (2, .int l2), (3, .int l3)], [.int l3], (gh_mo S, 0, 0))) (fun _ => rfl) ?_
    cases c1 : gh_cmp .eq l3 0 with
    | true =>
      rw [c1, cond_true] at h
      refine gh_T_if true rfl c1 ?_
      cases h
      exact gh_T_ret (fun _ => rfl)
    | false =>
      rw [c1, cond_false] at h
      refine gh_T_if false rfl c1 ?_
      refine gh_T_steps 4 (τ := (42, [(4, .int 0), (3, .int 0), (0, .ref 56), (1, .int l1), (2, .int l2)], [], (gh_mo S, 0, 0))) (fun _ => rfl) ?_
      refine gh_T_weak (lv := [(0, .ref 56), (1, .int l1), (2, .int l2), (3, .int 0), (4, .int 0)]) ⟨rfl, rfl, rfl, rfl, rfl, trivial⟩ ?_
      exact kX10_goes_42 d N (sX10_goes_33 N n) ih N l1 l2 0 0 S _ h
def sX10_goes_2 (N : Nat) : Nat → Int32 → Int32 → Int32 → gh_St → Option (gh_St)
  | 0, _, _, _, _ => none
  | n + 1, l1, l2, l3, S =>
    bif gh_cmp .ge l3 12 then
      (sX10_goes_33 N N l1 l2 1 S)
    else
      (bif gh_cmp .ne l3 l2 then
        (sX10_goes_24 N (sX10_goes_2 N n) l1 l2 l3 100000000 l3 S)
      else
        (sX10_goes_24 N (sX10_goes_2 N n) l1 l2 l3 0 l3 S))
set_option maxRecDepth 100000 in
theorem kX10_goes_2 (d N : Nat) : ∀ (n : Nat) (l1 : Int32) (l2 : Int32) (l3 : Int32) (S : gh_St) (r : gh_St), sX10_goes_2 N n l1 l2 l3 S = some r → gh_T (d + 2) fX10_goes 0 0 none false false (2, [(0, .ref 56), (1, .int l1), (2, .int l2), (3, .int l3)], [], (gh_mo S, 0, 0)) (none, (gh_mo r, 0, 0)) := by
  intro n
  induction n with
  | zero =>
    intro l1 l2 l3 S r h
    cases h
  | succ n ih =>
    intro l1 l2 l3 S r h
    rw [sX10_goes_2] at h
    refine gh_T_steps 2 (τ := (5, [(0, .ref 56), (1, .int l1), (2, .int l2), (3, .int l3)], [.int 12, .int l3], (gh_mo S, 0, 0))) (fun _ => rfl) ?_
    cases c2 : gh_cmp .ge l3 12 with
    | true =>
      rw [c2, cond_true] at h
      refine gh_T_ic true rfl c2 ?_
      refine gh_T_steps 2 (τ := (33, [(3, .int 1), (0, .ref 56), (1, .int l1), (2, .int l2)], [], (gh_mo S, 0, 0))) (fun _ => rfl) ?_
      refine gh_T_weak (lv := [(0, .ref 56), (1, .int l1), (2, .int l2), (3, .int 1)]) ⟨rfl, rfl, rfl, rfl, trivial⟩ ?_
      exact kX10_goes_33 d N N l1 l2 1 S _ h
    | false =>
      rw [c2, cond_false] at h
      refine gh_T_ic false rfl c2 ?_
      refine gh_T_steps 5 (τ := (15, [(0, .ref 56), (1, .int l1), (2, .int l2), (3, .int l3)], [.int l2, .int l3, .int l3, .ref 83], (gh_mo S, 0, 0))) (fun _ => rfl) ?_
      cases c1 : gh_cmp .ne l3 l2 with
      | true =>
        rw [c1, cond_true] at h
        refine gh_T_ic true rfl c1 ?_
        refine gh_T_steps 1 (τ := (24, [(0, .ref 56), (1, .int l1), (2, .int l2), (3, .int l3)], [.int 100000000, .int l3, .ref 83], (gh_mo S, 0, 0))) (fun _ => rfl) ?_
        exact kX10_goes_24 d N (sX10_goes_2 N n) ih l1 l2 l3 100000000 l3 S _ h
      | false =>
        rw [c1, cond_false] at h
        refine gh_T_ic false rfl c1 ?_
        refine gh_T_steps 2 (τ := (24, [(0, .ref 56), (1, .int l1), (2, .int l2), (3, .int l3)], [.int 0, .int l3, .ref 83], (gh_mo S, 0, 0))) (fun _ => rfl) ?_
        exact kX10_goes_24 d N (sX10_goes_2 N n) ih l1 l2 l3 0 l3 S _ h
def sX10_goes (N : Nat) (a1 : Int32) (a2 : Int32) (S : gh_St) : Option (gh_St) :=
  sX10_goes_2 N N a1 a2 0 S
set_option maxRecDepth 100000 in
theorem kX10_goes_e (d N : Nat) (a1 : Int32) (a2 : Int32) (S : gh_St) (r : gh_St) (h : sX10_goes N a1 a2 S = some r) : gh_T (d + 2) fX10_goes 0 0 none false false (0, [(0, .ref 56), (1, .int a1), (2, .int a2)], [], (gh_mo S, 0, 0)) (none, (gh_mo r, 0, 0)) := by
  unfold sX10_goes at h
  refine gh_T_steps 2 (τ := (2, [(3, .int 0), (0, .ref 56), (1, .int a1), (2, .int a2)], [], (gh_mo S, 0, 0))) (fun _ => rfl) ?_
  refine gh_T_weak (lv := [(0, .ref 56), (1, .int a1), (2, .int a2), (3, .int 0)]) ⟨rfl, rfl, rfl, rfl, trivial⟩ ?_
  exact kX10_goes_2 d N N a1 a2 0 S _ h
theorem kX10_goes (d N : Nat) (a1 : Int32) (a2 : Int32) (S : gh_St) (r : gh_St) (h : sX10_goes N a1 a2 S = some r) : gh_Mx (d + 3) 125 [.ref 56, .int a1, .int a2] (gh_mo S) none (gh_mo r) :=
  gh_Mx_of rfl rfl rfl rfl rfl rfl (kX10_goes_e d N a1 a2 S r h)
def sX10_isWay (N : Nat) (a1 : Int32) (a2 : Int32) (a3 : Int32) (S : gh_St) : Option (Int32 × gh_St) :=
  (sX10_isKind N a1 S).bind fun q1 =>
  bif gh_cmp .eq q1.1 0 then
    (some (0, q1.2))
  else
    ((sX10_isBin N a2 q1.2).bind fun q2 =>
    bif gh_cmp .eq q2.1 0 then
      (some (0, q2.2))
    else
      ((sX10_isBin N a3 q2.2).bind fun q3 =>
      bif gh_cmp .eq q3.1 0 then
        (some (0, q3.2))
      else
        (bif gh_cmp .ne a2 a3 then
          ((sX10_goes N a1 a3 q3.2).bind fun q4 =>
          (gh_ra q4 83 12 a2).bind fun x5 =>
          bif gh_cmp .ge x5 100000000 then
            (some (0, q4))
          else
            (some (1, q4)))
        else
          (some (0, q3.2)))))
set_option maxRecDepth 100000 in
theorem kX10_isWay_e (d N : Nat) (a1 : Int32) (a2 : Int32) (a3 : Int32) (S : gh_St) (r : Int32 × gh_St) (h : sX10_isWay N a1 a2 a3 S = some r) : gh_T (d + 3) fX10_isWay 0 0 none true false (0, [(0, .ref 56), (1, .int a1), (2, .int a2), (3, .int a3)], [], (gh_mo S, 0, 0)) (some (.int r.1), (gh_mo r.2, 0, 0)) := by
  unfold sX10_isWay at h
  refine gh_T_steps 1 (τ := (1, [(0, .ref 56), (1, .int a1), (2, .int a2), (3, .int a3)], [.int a1], (gh_mo S, 0, 0))) (fun _ => rfl) ?_
  obtain ⟨q1, hq1, h⟩ := gh_bi h
  refine gh_T_is (As := [.int a1]) (rest := []) (y := some (.int q1.1)) (M' := gh_mo q1.2) rfl rfl rfl rfl rfl rfl rfl ⟨Nat.le_refl _, Nat.le_refl _⟩ (kX10_isKind (d + 1) N a1 S q1 hq1) ?_
  cases c10 : gh_cmp .eq q1.1 0 with
  | true =>
    rw [c10, cond_true] at h
    refine gh_T_if true rfl c10 ?_
    refine gh_T_steps 1 (τ := (27, [(0, .ref 56), (1, .int a1), (2, .int a2), (3, .int a3)], [.int 0], (gh_mo q1.2, 0, 0))) (fun _ => rfl) ?_
    cases h
    exact gh_T_ret (fun _ => rfl)
  | false =>
    rw [c10, cond_false] at h
    refine gh_T_if false rfl c10 ?_
    refine gh_T_steps 1 (τ := (8, [(0, .ref 56), (1, .int a1), (2, .int a2), (3, .int a3)], [.int a2], (gh_mo q1.2, 0, 0))) (fun _ => rfl) ?_
    obtain ⟨q2, hq2, h⟩ := gh_bi h
    refine gh_T_is (As := [.int a2]) (rest := []) (y := some (.int q2.1)) (M' := gh_mo q2.2) rfl rfl rfl rfl rfl rfl rfl ⟨Nat.le_refl _, Nat.le_refl _⟩ (kX10_isBin (d + 1) N a2 q1.2 q2 hq2) ?_
    cases c9 : gh_cmp .eq q2.1 0 with
    | true =>
      rw [c9, cond_true] at h
      refine gh_T_if true rfl c9 ?_
      refine gh_T_steps 1 (τ := (27, [(0, .ref 56), (1, .int a1), (2, .int a2), (3, .int a3)], [.int 0], (gh_mo q2.2, 0, 0))) (fun _ => rfl) ?_
      cases h
      exact gh_T_ret (fun _ => rfl)
    | false =>
      rw [c9, cond_false] at h
      refine gh_T_if false rfl c9 ?_
      refine gh_T_steps 1 (τ := (15, [(0, .ref 56), (1, .int a1), (2, .int a2), (3, .int a3)], [.int a3], (gh_mo q2.2, 0, 0))) (fun _ => rfl) ?_
      obtain ⟨q3, hq3, h⟩ := gh_bi h
      refine gh_T_is (As := [.int a3]) (rest := []) (y := some (.int q3.1)) (M' := gh_mo q3.2) rfl rfl rfl rfl rfl rfl rfl ⟨Nat.le_refl _, Nat.le_refl _⟩ (kX10_isBin (d + 1) N a3 q2.2 q3 hq3) ?_
      cases c8 : gh_cmp .eq q3.1 0 with
      | true =>
        rw [c8, cond_true] at h
        refine gh_T_if true rfl c8 ?_
        refine gh_T_steps 1 (τ := (27, [(0, .ref 56), (1, .int a1), (2, .int a2), (3, .int a3)], [.int 0], (gh_mo q3.2, 0, 0))) (fun _ => rfl) ?_
        cases h
        exact gh_T_ret (fun _ => rfl)
      | false =>
        rw [c8, cond_false] at h
        refine gh_T_if false rfl c8 ?_
        refine gh_T_steps 2 (τ := (23, [(0, .ref 56), (1, .int a1), (2, .int a2), (3, .int a3)], [.int a3, .int a2], (gh_mo q3.2, 0, 0))) (fun _ => rfl) ?_
        cases c7 : gh_cmp .ne a2 a3 with
        | true =>
          rw [c7, cond_true] at h
          refine gh_T_ic true rfl c7 ?_
          refine gh_T_steps 3 (τ := (31, [(0, .ref 56), (1, .int a1), (2, .int a2), (3, .int a3)], [.int a3, .int a1, .ref 56], (gh_mo q3.2, 0, 0))) (fun _ => rfl) ?_
          obtain ⟨q4, hq4, h⟩ := gh_bi h
          refine gh_T_iv (As := [.int a1, .int a3]) (b := 56) (rest := []) (y := none) (M' := gh_mo q4) rfl rfl rfl rfl rfl rfl rfl rfl rfl ⟨Nat.le_refl _, Nat.le_refl _⟩ (kX10_goes d N a1 a3 q3.2 q4 hq4) ?_
          refine gh_T_steps 3 (τ := (39, [(0, .ref 56), (1, .int a1), (2, .int a2), (3, .int a3)], [.int a2, .ref 83], (gh_mo q4, 0, 0))) (fun _ => rfl) ?_
          obtain ⟨x5, hx5, h⟩ := gh_bi h
          refine gh_T_ra rfl rfl hx5 ?_
          refine gh_T_steps 1 (τ := (42, [(0, .ref 56), (1, .int a1), (2, .int a2), (3, .int a3)], [.int 100000000, .int x5], (gh_mo q4, 0, 0))) (fun _ => rfl) ?_
          cases c6 : gh_cmp .ge x5 100000000 with
          | true =>
            rw [c6, cond_true] at h
            refine gh_T_ic true rfl c6 ?_
            refine gh_T_steps 1 (τ := (50, [(0, .ref 56), (1, .int a1), (2, .int a2), (3, .int a3)], [.int 0], (gh_mo q4, 0, 0))) (fun _ => rfl) ?_
            cases h
            exact gh_T_ret (fun _ => rfl)
          | false =>
            rw [c6, cond_false] at h
            refine gh_T_ic false rfl c6 ?_
            refine gh_T_steps 2 (τ := (50, [(0, .ref 56), (1, .int a1), (2, .int a2), (3, .int a3)], [.int 1], (gh_mo q4, 0, 0))) (fun _ => rfl) ?_
            cases h
            exact gh_T_ret (fun _ => rfl)
        | false =>
          rw [c7, cond_false] at h
          refine gh_T_ic false rfl c7 ?_
          refine gh_T_steps 1 (τ := (27, [(0, .ref 56), (1, .int a1), (2, .int a2), (3, .int a3)], [.int 0], (gh_mo q3.2, 0, 0))) (fun _ => rfl) ?_
          cases h
          exact gh_T_ret (fun _ => rfl)
theorem kX10_isWay (d N : Nat) (a1 : Int32) (a2 : Int32) (a3 : Int32) (S : gh_St) (r : Int32 × gh_St) (h : sX10_isWay N a1 a2 a3 S = some r) : gh_Mx (d + 4) 127 [.ref 56, .int a1, .int a2, .int a3] (gh_mo S) (some (.int r.1)) (gh_mo r.2) :=
  gh_Mx_of rfl rfl rfl rfl rfl rfl (kX10_isWay_e d N a1 a2 a3 S r h)
def sX10_way (N : Nat) (a1 : Int32) (a2 : Int32) (a3 : Int32) (S : gh_St) : Option (Int32 × gh_St) :=
  (sX10_isWay N a1 a2 a3 S).bind fun q1 =>
  bif gh_cmp .eq q1.1 0 then
    (some ((-1), q1.2))
  else
    ((gh_ra q1.2 83 12 a2).bind fun x2 =>
    (gh_di x2 100).bind fun x3 =>
    some (x3, q1.2))
set_option maxRecDepth 100000 in
theorem kX10_way_e (d N : Nat) (a1 : Int32) (a2 : Int32) (a3 : Int32) (S : gh_St) (r : Int32 × gh_St) (h : sX10_way N a1 a2 a3 S = some r) : gh_T (d + 4) fX10_way 0 0 none false false (0, [(0, .ref 56), (1, .int a1), (2, .int a2), (3, .int a3)], [], (gh_mo S, 0, 0)) (some (.int r.1), (gh_mo r.2, 0, 0)) := by
  unfold sX10_way at h
  refine gh_T_steps 4 (τ := (4, [(0, .ref 56), (1, .int a1), (2, .int a2), (3, .int a3)], [.int a3, .int a2, .int a1, .ref 56], (gh_mo S, 0, 0))) (fun _ => rfl) ?_
  obtain ⟨q1, hq1, h⟩ := gh_bi h
  refine gh_T_iv (As := [.int a1, .int a2, .int a3]) (b := 56) (rest := []) (y := some (.int q1.1)) (M' := gh_mo q1.2) rfl rfl rfl rfl rfl rfl rfl rfl rfl ⟨Nat.le_refl _, Nat.le_refl _⟩ (kX10_isWay d N a1 a2 a3 S q1 hq1) ?_
  cases c4 : gh_cmp .eq q1.1 0 with
  | true =>
    rw [c4, cond_true] at h
    refine gh_T_if true rfl c4 ?_
    refine gh_T_steps 1 (τ := (23, [(0, .ref 56), (1, .int a1), (2, .int a2), (3, .int a3)], [.int ((-1))], (gh_mo q1.2, 0, 0))) (fun _ => rfl) ?_
    cases h
    exact gh_T_ret (fun _ => rfl)
  | false =>
    rw [c4, cond_false] at h
    refine gh_T_if false rfl c4 ?_
    refine gh_T_steps 3 (τ := (15, [(0, .ref 56), (1, .int a1), (2, .int a2), (3, .int a3)], [.int a2, .ref 83], (gh_mo q1.2, 0, 0))) (fun _ => rfl) ?_
    obtain ⟨x2, hx2, h⟩ := gh_bi h
    refine gh_T_ra rfl rfl hx2 ?_
    refine gh_T_steps 1 (τ := (18, [(0, .ref 56), (1, .int a1), (2, .int a2), (3, .int a3)], [.int 100, .int x2], (gh_mo q1.2, 0, 0))) (fun _ => rfl) ?_
    obtain ⟨x3, hx3, h⟩ := gh_bi h
    refine gh_T_di rfl hx3 ?_
    refine gh_T_steps 1 (τ := (23, [(0, .ref 56), (1, .int a1), (2, .int a2), (3, .int a3)], [.int x3], (gh_mo q1.2, 0, 0))) (fun _ => rfl) ?_
    cases h
    exact gh_T_ret (fun _ => rfl)
theorem kX10_way (d N : Nat) (a1 : Int32) (a2 : Int32) (a3 : Int32) (S : gh_St) (r : Int32 × gh_St) (h : sX10_way N a1 a2 a3 S = some r) : gh_Mx (d + 5) 128 [.ref 56, .int a1, .int a2, .int a3] (gh_mo S) (some (.int r.1)) (gh_mo r.2) :=
  gh_Mx_of rfl rfl rfl rfl rfl rfl (kX10_way_e d N a1 a2 a3 S r h)
def sX10_wayLeg_78 (N : Nat) (kc23 : Int32 → Int32 → Int32 → Int32 → Int32 → gh_St → Option (Int32 × gh_St)) (l1 : Int32) (l3 : Int32) (l4 : Int32) (l6 : Int32) (t0 : Int32) (S : gh_St) : Option (Int32 × gh_St) :=
  kc23 l1 l3 l4 t0 (l6 + 1) S
set_option maxRecDepth 100000 in
theorem kX10_wayLeg_78 (d N : Nat) (kc23 : Int32 → Int32 → Int32 → Int32 → Int32 → gh_St → Option (Int32 × gh_St)) (hkc23 : ∀ (l1 : Int32) (l3 : Int32) (l4 : Int32) (l5 : Int32) (l6 : Int32) (S : gh_St) (r : Int32 × gh_St), kc23 l1 l3 l4 l5 l6 S = some r → gh_T (d + 4) fX10_wayLeg 0 0 none false false (23, [(0, .ref 56), (1, .int l1), (3, .int l3), (4, .int l4), (5, .int l5), (6, .int l6)], [], (gh_mo S, 0, 0)) (some (.int r.1), (gh_mo r.2, 0, 0))) (l1 : Int32) (l3 : Int32) (l4 : Int32) (l6 : Int32) (t0 : Int32) (S : gh_St) (r : Int32 × gh_St) (h : sX10_wayLeg_78 N kc23 l1 l3 l4 l6 t0 S = some r) : gh_T (d + 4) fX10_wayLeg 0 0 none false false (78, [(0, .ref 56), (1, .int l1), (3, .int l3), (4, .int l4), (6, .int l6)], [.int t0], (gh_mo S, 0, 0)) (some (.int r.1), (gh_mo r.2, 0, 0)) := by
  unfold sX10_wayLeg_78 at h
  refine gh_T_steps 3 (τ := (23, [(6, .int (l6 + 1)), (5, .int t0), (0, .ref 56), (1, .int l1), (3, .int l3), (4, .int l4)], [], (gh_mo S, 0, 0))) (fun _ => rfl) ?_
  refine gh_T_weak (lv := [(0, .ref 56), (1, .int l1), (3, .int l3), (4, .int l4), (5, .int t0), (6, .int (l6 + 1))]) ⟨rfl, rfl, rfl, rfl, rfl, rfl, trivial⟩ ?_
  exact hkc23 l1 l3 l4 t0 (l6 + 1) S _ h
def sX10_wayLeg_23 (N : Nat) : Nat → Int32 → Int32 → Int32 → Int32 → Int32 → gh_St → Option (Int32 × gh_St)
  | 0, _, _, _, _, _, _ => none
  | n + 1, l1, l3, l4, l5, l6, S =>
    bif gh_cmp .eq l5 l3 then
      (some ((-1), S))
    else
      ((sX10_nextLeg N l5 l1 l3 S).bind fun q1 =>
      bif gh_cmp .ne l6 l4 then
        ((gh_ra q1.2 65 20 q1.1).bind fun x2 =>
        bif gh_cmp .ne x2 l5 then
          ((gh_ra q1.2 65 20 q1.1).bind fun x3 =>
          (sX10_wayLeg_23 N n) l1 l3 l4 x3 (l6 + 1) q1.2)
        else
          ((gh_ra q1.2 66 20 q1.1).bind fun x4 =>
          sX10_wayLeg_78 N (sX10_wayLeg_23 N n) l1 l3 l4 l6 x4 q1.2))
      else
        (some (q1.1, q1.2)))
set_option maxRecDepth 100000 in
theorem kX10_wayLeg_23 (d N : Nat) : ∀ (n : Nat) (l1 : Int32) (l3 : Int32) (l4 : Int32) (l5 : Int32) (l6 : Int32) (S : gh_St) (r : Int32 × gh_St), sX10_wayLeg_23 N n l1 l3 l4 l5 l6 S = some r → gh_T (d + 4) fX10_wayLeg 0 0 none false false (23, [(0, .ref 56), (1, .int l1), (3, .int l3), (4, .int l4), (5, .int l5), (6, .int l6)], [], (gh_mo S, 0, 0)) (some (.int r.1), (gh_mo r.2, 0, 0)) := by
  intro n
  induction n with
  | zero =>
    intro l1 l3 l4 l5 l6 S r h
    cases h
  | succ n ih =>
    intro l1 l3 l4 l5 l6 S r h
    rw [sX10_wayLeg_23] at h
    refine gh_T_steps 2 (τ := (26, [(0, .ref 56), (1, .int l1), (3, .int l3), (4, .int l4), (5, .int l5), (6, .int l6)], [.int l3, .int l5], (gh_mo S, 0, 0))) (fun _ => rfl) ?_
    cases c7 : gh_cmp .eq l5 l3 with
    | true =>
      rw [c7, cond_true] at h
      refine gh_T_ic true rfl c7 ?_
      refine gh_T_steps 1 (τ := (87, [(0, .ref 56), (1, .int l1), (3, .int l3), (4, .int l4), (5, .int l5), (6, .int l6)], [.int ((-1))], (gh_mo S, 0, 0))) (fun _ => rfl) ?_
      cases h
      exact gh_T_ret (fun _ => rfl)
    | false =>
      rw [c7, cond_false] at h
      refine gh_T_ic false rfl c7 ?_
      refine gh_T_steps 4 (τ := (34, [(0, .ref 56), (1, .int l1), (3, .int l3), (4, .int l4), (5, .int l5), (6, .int l6)], [.int l3, .int l1, .int l5, .ref 56], (gh_mo S, 0, 0))) (fun _ => rfl) ?_
      obtain ⟨q1, hq1, h⟩ := gh_bi h
      refine gh_T_iv (As := [.int l5, .int l1, .int l3]) (b := 56) (rest := []) (y := some (.int q1.1)) (M' := gh_mo q1.2) rfl rfl rfl rfl rfl rfl rfl rfl rfl ⟨Nat.le_refl _, Nat.le_refl _⟩ (kX10_nextLeg (d + 2) N l5 l1 l3 S q1 hq1) ?_
      refine gh_T_steps 3 (τ := (43, [(7, .int q1.1), (0, .ref 56), (1, .int l1), (3, .int l3), (4, .int l4), (5, .int l5), (6, .int l6)], [.int l4, .int l6], (gh_mo q1.2, 0, 0))) (fun _ => rfl) ?_
      cases c6 : gh_cmp .ne l6 l4 with
      | true =>
        rw [c6, cond_true] at h
        refine gh_T_ic true rfl c6 ?_
        refine gh_T_steps 3 (τ := (55, [(7, .int q1.1), (0, .ref 56), (1, .int l1), (3, .int l3), (4, .int l4), (5, .int l5), (6, .int l6)], [.int q1.1, .ref 65], (gh_mo q1.2, 0, 0))) (fun _ => rfl) ?_
        obtain ⟨x2, hx2, h⟩ := gh_bi h
        refine gh_T_ra rfl rfl hx2 ?_
        refine gh_T_steps 1 (τ := (58, [(7, .int q1.1), (0, .ref 56), (1, .int l1), (3, .int l3), (4, .int l4), (5, .int l5), (6, .int l6)], [.int l5, .int x2], (gh_mo q1.2, 0, 0))) (fun _ => rfl) ?_
        cases c5 : gh_cmp .ne x2 l5 with
        | true =>
          rw [c5, cond_true] at h
          refine gh_T_ic true rfl c5 ?_
          refine gh_T_steps 3 (τ := (77, [(7, .int q1.1), (0, .ref 56), (1, .int l1), (3, .int l3), (4, .int l4), (5, .int l5), (6, .int l6)], [.int q1.1, .ref 65], (gh_mo q1.2, 0, 0))) (fun _ => rfl) ?_
          obtain ⟨x3, hx3, h⟩ := gh_bi h
          refine gh_T_ra rfl rfl hx3 ?_
          refine gh_T_steps 3 (τ := (23, [(6, .int (l6 + 1)), (5, .int x3), (7, .int q1.1), (0, .ref 56), (1, .int l1), (3, .int l3), (4, .int l4)], [], (gh_mo q1.2, 0, 0))) (fun _ => rfl) ?_
          refine gh_T_weak (lv := [(0, .ref 56), (1, .int l1), (3, .int l3), (4, .int l4), (5, .int x3), (6, .int (l6 + 1))]) ⟨rfl, rfl, rfl, rfl, rfl, rfl, trivial⟩ ?_
          exact ih l1 l3 l4 x3 (l6 + 1) q1.2 _ h
        | false =>
          rw [c5, cond_false] at h
          refine gh_T_ic false rfl c5 ?_
          refine gh_T_steps 3 (τ := (67, [(7, .int q1.1), (0, .ref 56), (1, .int l1), (3, .int l3), (4, .int l4), (5, .int l5), (6, .int l6)], [.int q1.1, .ref 66], (gh_mo q1.2, 0, 0))) (fun _ => rfl) ?_
          obtain ⟨x4, hx4, h⟩ := gh_bi h
          refine gh_T_ra rfl rfl hx4 ?_
          refine gh_T_steps 1 (τ := (78, [(7, .int q1.1), (0, .ref 56), (1, .int l1), (3, .int l3), (4, .int l4), (5, .int l5), (6, .int l6)], [.int x4], (gh_mo q1.2, 0, 0))) (fun _ => rfl) ?_
          refine gh_T_weak (lv := [(0, .ref 56), (1, .int l1), (3, .int l3), (4, .int l4), (6, .int l6)]) ⟨rfl, rfl, rfl, rfl, rfl, trivial⟩ ?_
          exact kX10_wayLeg_78 d N (sX10_wayLeg_23 N n) ih l1 l3 l4 l6 x4 q1.2 _ h
      | false =>
        rw [c6, cond_false] at h
        refine gh_T_ic false rfl c6 ?_
        refine gh_T_steps 1 (τ := (48, [(7, .int q1.1), (0, .ref 56), (1, .int l1), (3, .int l3), (4, .int l4), (5, .int l5), (6, .int l6)], [.int q1.1], (gh_mo q1.2, 0, 0))) (fun _ => rfl) ?_
        cases h
        exact gh_T_ret (fun _ => rfl)
def sX10_wayLeg (N : Nat) (a1 : Int32) (a2 : Int32) (a3 : Int32) (a4 : Int32) (S : gh_St) : Option (Int32 × gh_St) :=
  (sX10_isWay N a1 a2 a3 S).bind fun q1 =>
  bif gh_cmp .eq q1.1 0 then
    (some ((-1), q1.2))
  else
    (bif gh_cmp .ge a4 0 then
      (sX10_wayLeg_23 N N a1 a3 a4 a2 0 q1.2)
    else
      (some ((-1), q1.2)))
set_option maxRecDepth 100000 in
theorem kX10_wayLeg_e (d N : Nat) (a1 : Int32) (a2 : Int32) (a3 : Int32) (a4 : Int32) (S : gh_St) (r : Int32 × gh_St) (h : sX10_wayLeg N a1 a2 a3 a4 S = some r) : gh_T (d + 4) fX10_wayLeg 0 0 none false false (0, [(0, .ref 56), (1, .int a1), (2, .int a2), (3, .int a3), (4, .int a4)], [], (gh_mo S, 0, 0)) (some (.int r.1), (gh_mo r.2, 0, 0)) := by
  unfold sX10_wayLeg at h
  refine gh_T_steps 4 (τ := (4, [(0, .ref 56), (1, .int a1), (2, .int a2), (3, .int a3), (4, .int a4)], [.int a3, .int a2, .int a1, .ref 56], (gh_mo S, 0, 0))) (fun _ => rfl) ?_
  obtain ⟨q1, hq1, h⟩ := gh_bi h
  refine gh_T_iv (As := [.int a1, .int a2, .int a3]) (b := 56) (rest := []) (y := some (.int q1.1)) (M' := gh_mo q1.2) rfl rfl rfl rfl rfl rfl rfl rfl rfl ⟨Nat.le_refl _, Nat.le_refl _⟩ (kX10_isWay d N a1 a2 a3 S q1 hq1) ?_
  cases c3 : gh_cmp .eq q1.1 0 with
  | true =>
    rw [c3, cond_true] at h
    refine gh_T_if true rfl c3 ?_
    refine gh_T_steps 1 (τ := (16, [(0, .ref 56), (1, .int a1), (2, .int a2), (3, .int a3), (4, .int a4)], [.int ((-1))], (gh_mo q1.2, 0, 0))) (fun _ => rfl) ?_
    cases h
    exact gh_T_ret (fun _ => rfl)
  | false =>
    rw [c3, cond_false] at h
    refine gh_T_if false rfl c3 ?_
    refine gh_T_steps 1 (τ := (12, [(0, .ref 56), (1, .int a1), (2, .int a2), (3, .int a3), (4, .int a4)], [.int a4], (gh_mo q1.2, 0, 0))) (fun _ => rfl) ?_
    cases c2 : gh_cmp .ge a4 0 with
    | true =>
      rw [c2, cond_true] at h
      refine gh_T_if true rfl c2 ?_
      refine gh_T_steps 4 (τ := (23, [(6, .int 0), (5, .int a2), (0, .ref 56), (1, .int a1), (2, .int a2), (3, .int a3), (4, .int a4)], [], (gh_mo q1.2, 0, 0))) (fun _ => rfl) ?_
      refine gh_T_weak (lv := [(0, .ref 56), (1, .int a1), (3, .int a3), (4, .int a4), (5, .int a2), (6, .int 0)]) ⟨rfl, rfl, rfl, rfl, rfl, rfl, trivial⟩ ?_
      exact kX10_wayLeg_23 d N N a1 a3 a4 a2 0 q1.2 _ h
    | false =>
      rw [c2, cond_false] at h
      refine gh_T_if false rfl c2 ?_
      refine gh_T_steps 1 (τ := (16, [(0, .ref 56), (1, .int a1), (2, .int a2), (3, .int a3), (4, .int a4)], [.int ((-1))], (gh_mo q1.2, 0, 0))) (fun _ => rfl) ?_
      cases h
      exact gh_T_ret (fun _ => rfl)
theorem kX10_wayLeg (d N : Nat) (a1 : Int32) (a2 : Int32) (a3 : Int32) (a4 : Int32) (S : gh_St) (r : Int32 × gh_St) (h : sX10_wayLeg N a1 a2 a3 a4 S = some r) : gh_Mx (d + 5) 130 [.ref 56, .int a1, .int a2, .int a3, .int a4] (gh_mo S) (some (.int r.1)) (gh_mo r.2) :=
  gh_Mx_of rfl rfl rfl rfl rfl rfl (kX10_wayLeg_e d N a1 a2 a3 a4 S r h)
def sX10_move (N : Nat) (a1 : Int32) (a2 : Int32) (a3 : Int32) (S : gh_St) : Option (Int32 × gh_St) :=
  (sX10_isBin N a1 S).bind fun q1 =>
  bif gh_cmp .eq q1.1 0 then
    (some ((-1), q1.2))
  else
    ((gh_ra q1.2 59 8 a1).bind fun x2 =>
    (sX10_in N ((a3 : Int32).toInt64) 1 ((x2 : Int32).toInt64) q1.2).bind fun q3 =>
    bif gh_cmp .eq q3.1 0 then
      (some ((-1), q3.2))
    else
      ((gh_ra q3.2 58 8 a1).bind fun x4 =>
      (sX10_isWay N x4 a1 a2 q3.2).bind fun q5 =>
      bif gh_cmp .eq q5.1 0 then
        (some ((-1), q5.2))
      else
        ((gh_ra q5.2 58 8 a1).bind fun x6 =>
        (sX10_canPut N a2 x6 a3 q5.2).bind fun q7 =>
        bif gh_cmp .ne q7.1 0 then
          ((sX10_dryOf N a1 a3 q7.2).bind fun q8 =>
          (gh_ra q8.2 58 8 a1).bind fun x9 =>
          (sX10_goesBy N x9 a1 a2 q8.2).bind fun q10 =>
          (sX10_takes N a1 a3 q10.2).bind fun q11 =>
          (gh_ra q11 58 8 a1).bind fun x12 =>
          (sX10_puts N a2 x12 a3 q8.1 q11).bind fun q13 =>
          some (q10.1, q13))
        else
          (some ((-1), q7.2)))))
set_option maxRecDepth 100000 in
theorem kX10_move_e (d N : Nat) (a1 : Int32) (a2 : Int32) (a3 : Int32) (S : gh_St) (r : Int32 × gh_St) (h : sX10_move N a1 a2 a3 S = some r) : gh_T (d + 4) fX10_move 0 0 none false false (0, [(0, .ref 56), (1, .int a1), (2, .int a2), (3, .int a3)], [], (gh_mo S, 0, 0)) (some (.int r.1), (gh_mo r.2, 0, 0)) := by
  unfold sX10_move at h
  refine gh_T_steps 1 (τ := (1, [(0, .ref 56), (1, .int a1), (2, .int a2), (3, .int a3)], [.int a1], (gh_mo S, 0, 0))) (fun _ => rfl) ?_
  obtain ⟨q1, hq1, h⟩ := gh_bi h
  refine gh_T_is (As := [.int a1]) (rest := []) (y := some (.int q1.1)) (M' := gh_mo q1.2) rfl rfl rfl rfl rfl rfl rfl ⟨Nat.le_refl _, Nat.le_refl _⟩ (kX10_isBin (d + 2) N a1 S q1 hq1) ?_
  cases c17 : gh_cmp .eq q1.1 0 with
  | true =>
    rw [c17, cond_true] at h
    refine gh_T_if true rfl c17 ?_
    refine gh_T_steps 1 (τ := (54, [(0, .ref 56), (1, .int a1), (2, .int a2), (3, .int a3)], [.int ((-1))], (gh_mo q1.2, 0, 0))) (fun _ => rfl) ?_
    cases h
    exact gh_T_ret (fun _ => rfl)
  | false =>
    rw [c17, cond_false] at h
    refine gh_T_if false rfl c17 ?_
    refine gh_T_steps 6 (τ := (15, [(0, .ref 56), (1, .int a1), (2, .int a2), (3, .int a3)], [.int a1, .ref 59, .long 1, .long ((a3 : Int32).toInt64)], (gh_mo q1.2, 0, 0))) (fun _ => rfl) ?_
    obtain ⟨x2, hx2, h⟩ := gh_bi h
    refine gh_T_ra rfl rfl hx2 ?_
    refine gh_T_steps 1 (τ := (17, [(0, .ref 56), (1, .int a1), (2, .int a2), (3, .int a3)], [.long ((x2 : Int32).toInt64), .long 1, .long ((a3 : Int32).toInt64)], (gh_mo q1.2, 0, 0))) (fun _ => rfl) ?_
    obtain ⟨q3, hq3, h⟩ := gh_bi h
    refine gh_T_is (As := [.long ((a3 : Int32).toInt64), .long 1, .long ((x2 : Int32).toInt64)]) (rest := []) (y := some (.int q3.1)) (M' := gh_mo q3.2) rfl rfl rfl rfl rfl rfl rfl ⟨Nat.le_refl _, Nat.le_refl _⟩ (kX10_in (d + 3) N ((a3 : Int32).toInt64) 1 ((x2 : Int32).toInt64) q1.2 q3 hq3) ?_
    cases c16 : gh_cmp .eq q3.1 0 with
    | true =>
      rw [c16, cond_true] at h
      refine gh_T_if true rfl c16 ?_
      refine gh_T_steps 1 (τ := (54, [(0, .ref 56), (1, .int a1), (2, .int a2), (3, .int a3)], [.int ((-1))], (gh_mo q3.2, 0, 0))) (fun _ => rfl) ?_
      cases h
      exact gh_T_ret (fun _ => rfl)
    | false =>
      rw [c16, cond_false] at h
      refine gh_T_if false rfl c16 ?_
      refine gh_T_steps 4 (τ := (29, [(0, .ref 56), (1, .int a1), (2, .int a2), (3, .int a3)], [.int a1, .ref 58, .ref 56], (gh_mo q3.2, 0, 0))) (fun _ => rfl) ?_
      obtain ⟨x4, hx4, h⟩ := gh_bi h
      refine gh_T_ra rfl rfl hx4 ?_
      refine gh_T_steps 2 (τ := (32, [(0, .ref 56), (1, .int a1), (2, .int a2), (3, .int a3)], [.int a2, .int a1, .int x4, .ref 56], (gh_mo q3.2, 0, 0))) (fun _ => rfl) ?_
      obtain ⟨q5, hq5, h⟩ := gh_bi h
      refine gh_T_iv (As := [.int x4, .int a1, .int a2]) (b := 56) (rest := []) (y := some (.int q5.1)) (M' := gh_mo q5.2) rfl rfl rfl rfl rfl rfl rfl rfl rfl ⟨Nat.le_refl _, Nat.le_refl _⟩ (kX10_isWay d N x4 a1 a2 q3.2 q5 hq5) ?_
      cases c15 : gh_cmp .eq q5.1 0 with
      | true =>
        rw [c15, cond_true] at h
        refine gh_T_if true rfl c15 ?_
        refine gh_T_steps 1 (τ := (54, [(0, .ref 56), (1, .int a1), (2, .int a2), (3, .int a3)], [.int ((-1))], (gh_mo q5.2, 0, 0))) (fun _ => rfl) ?_
        cases h
        exact gh_T_ret (fun _ => rfl)
      | false =>
        rw [c15, cond_false] at h
        refine gh_T_if false rfl c15 ?_
        refine gh_T_steps 5 (τ := (45, [(0, .ref 56), (1, .int a1), (2, .int a2), (3, .int a3)], [.int a1, .ref 58, .int a2, .ref 56], (gh_mo q5.2, 0, 0))) (fun _ => rfl) ?_
        obtain ⟨x6, hx6, h⟩ := gh_bi h
        refine gh_T_ra rfl rfl hx6 ?_
        refine gh_T_steps 1 (τ := (47, [(0, .ref 56), (1, .int a1), (2, .int a2), (3, .int a3)], [.int a3, .int x6, .int a2, .ref 56], (gh_mo q5.2, 0, 0))) (fun _ => rfl) ?_
        obtain ⟨q7, hq7, h⟩ := gh_bi h
        refine gh_T_iv (As := [.int a2, .int x6, .int a3]) (b := 56) (rest := []) (y := some (.int q7.1)) (M' := gh_mo q7.2) rfl rfl rfl rfl rfl rfl rfl rfl rfl ⟨Nat.le_refl _, Nat.le_refl _⟩ (kX10_canPut (d + 3) N a2 x6 a3 q5.2 q7 hq7) ?_
        cases c14 : gh_cmp .ne q7.1 0 with
        | true =>
          rw [c14, cond_true] at h
          refine gh_T_if true rfl c14 ?_
          refine gh_T_steps 3 (τ := (58, [(0, .ref 56), (1, .int a1), (2, .int a2), (3, .int a3)], [.int a3, .int a1, .ref 56], (gh_mo q7.2, 0, 0))) (fun _ => rfl) ?_
          obtain ⟨q8, hq8, h⟩ := gh_bi h
          refine gh_T_iv (As := [.int a1, .int a3]) (b := 56) (rest := []) (y := some (.long q8.1)) (M' := gh_mo q8.2) rfl rfl rfl rfl rfl rfl rfl rfl rfl ⟨Nat.le_refl _, Nat.le_refl _⟩ (kX10_dryOf (d + 3) N a1 a3 q7.2 q8 hq8) ?_
          refine gh_T_steps 5 (τ := (69, [(4, .long q8.1), (0, .ref 56), (1, .int a1), (2, .int a2), (3, .int a3)], [.int a1, .ref 58, .ref 56], (gh_mo q8.2, 0, 0))) (fun _ => rfl) ?_
          obtain ⟨x9, hx9, h⟩ := gh_bi h
          refine gh_T_ra rfl rfl hx9 ?_
          refine gh_T_steps 2 (τ := (72, [(4, .long q8.1), (0, .ref 56), (1, .int a1), (2, .int a2), (3, .int a3)], [.int a2, .int a1, .int x9, .ref 56], (gh_mo q8.2, 0, 0))) (fun _ => rfl) ?_
          obtain ⟨q10, hq10, h⟩ := gh_bi h
          refine gh_T_iv (As := [.int x9, .int a1, .int a2]) (b := 56) (rest := []) (y := some (.int q10.1)) (M' := gh_mo q10.2) rfl rfl rfl rfl rfl rfl rfl rfl rfl ⟨Nat.le_refl _, Nat.le_refl _⟩ (kX10_goesBy (d + 1) N x9 a1 a2 q8.2 q10 hq10) ?_
          refine gh_T_steps 4 (τ := (80, [(6, .int q10.1), (4, .long q8.1), (0, .ref 56), (1, .int a1), (2, .int a2), (3, .int a3)], [.int a3, .int a1, .ref 56], (gh_mo q10.2, 0, 0))) (fun _ => rfl) ?_
          obtain ⟨q11, hq11, h⟩ := gh_bi h
          refine gh_T_iv (As := [.int a1, .int a3]) (b := 56) (rest := []) (y := none) (M' := gh_mo q11) rfl rfl rfl rfl rfl rfl rfl rfl rfl ⟨Nat.le_refl _, Nat.le_refl _⟩ (kX10_takes (d + 2) N a1 a3 q10.2 q11 hq11) ?_
          refine gh_T_steps 5 (τ := (90, [(6, .int q10.1), (4, .long q8.1), (0, .ref 56), (1, .int a1), (2, .int a2), (3, .int a3)], [.int a1, .ref 58, .int a2, .ref 56], (gh_mo q11, 0, 0))) (fun _ => rfl) ?_
          obtain ⟨x12, hx12, h⟩ := gh_bi h
          refine gh_T_ra rfl rfl hx12 ?_
          refine gh_T_steps 2 (τ := (94, [(6, .int q10.1), (4, .long q8.1), (0, .ref 56), (1, .int a1), (2, .int a2), (3, .int a3)], [.long q8.1, .int a3, .int x12, .int a2, .ref 56], (gh_mo q11, 0, 0))) (fun _ => rfl) ?_
          obtain ⟨q13, hq13, h⟩ := gh_bi h
          refine gh_T_iv (As := [.int a2, .int x12, .int a3, .long q8.1]) (b := 56) (rest := []) (y := none) (M' := gh_mo q13) rfl rfl rfl rfl rfl rfl rfl rfl rfl ⟨Nat.le_refl _, Nat.le_refl _⟩ (kX10_puts (d + 3) N a2 x12 a3 q8.1 q11 q13 hq13) ?_
          refine gh_T_steps 1 (τ := (99, [(6, .int q10.1), (4, .long q8.1), (0, .ref 56), (1, .int a1), (2, .int a2), (3, .int a3)], [.int q10.1], (gh_mo q13, 0, 0))) (fun _ => rfl) ?_
          cases h
          exact gh_T_ret (fun _ => rfl)
        | false =>
          rw [c14, cond_false] at h
          refine gh_T_if false rfl c14 ?_
          refine gh_T_steps 1 (τ := (54, [(0, .ref 56), (1, .int a1), (2, .int a2), (3, .int a3)], [.int ((-1))], (gh_mo q7.2, 0, 0))) (fun _ => rfl) ?_
          cases h
          exact gh_T_ret (fun _ => rfl)
theorem kX10_move (d N : Nat) (a1 : Int32) (a2 : Int32) (a3 : Int32) (S : gh_St) (r : Int32 × gh_St) (h : sX10_move N a1 a2 a3 S = some r) : gh_Mx (d + 5) 133 [.ref 56, .int a1, .int a2, .int a3] (gh_mo S) (some (.int r.1)) (gh_mo r.2) :=
  gh_Mx_of rfl rfl rfl rfl rfl rfl (kX10_move_e d N a1 a2 a3 S r h)
def sX10_dry (N : Nat) (a1 : Int32) (a2 : Int32) (a3 : Int32) (a4 : Int32) (S : gh_St) : Option (Int32 × gh_St) :=
  (sX10_isBin N a1 S).bind fun q1 =>
  bif gh_cmp .eq q1.1 0 then
    (some ((-1), q1.2))
  else
    ((gh_ra q1.2 59 8 a1).bind fun x2 =>
    (sX10_in N ((a3 : Int32).toInt64) 1 ((x2 : Int32).toInt64) q1.2).bind fun q3 =>
    bif gh_cmp .eq q3.1 0 then
      (some ((-1), q3.2))
    else
      ((sX10_in N ((a4 : Int32).toInt64) 0 300 q3.2).bind fun q4 =>
      bif gh_cmp .eq q4.1 0 then
        (some ((-1), q4.2))
      else
        ((gh_rj q4.2 60 8 a1).bind fun x5 =>
        (gh_ra q4.2 59 8 a1).bind fun x6 =>
        (sX10_moistOf N x5 ((x6 : Int32).toInt64) q4.2).bind fun q7 =>
        bif gh_cmp .ge a4 q7.1 then
          (some ((-1), q7.2))
        else
          ((gh_ra q7.2 58 8 a1).bind fun x8 =>
          (sX10_isWay N x8 a1 a2 q7.2).bind fun q9 =>
          bif gh_cmp .ne q9.1 0 then
            ((sX10_dryOf N a1 a3 q9.2).bind fun q10 =>
            (gh_dj q10.1 (((1000 : Int32) - a4 : Int32).toInt64)).bind fun x11 =>
            bif gh_cmp .eq ((x11 : Int64).toInt32) 0 then
              (some ((-1), q10.2))
            else
              ((gh_ra q10.2 58 8 a1).bind fun x12 =>
              (sX10_canPut N a2 x12 ((x11 : Int64).toInt32) q10.2).bind fun q13 =>
              bif gh_cmp .ne q13.1 0 then
                ((gh_ra q13.2 58 8 a1).bind fun x14 =>
                (sX10_goesBy N x14 a1 a2 q13.2).bind fun q15 =>
                (sX10_takes N a1 a3 q15.2).bind fun q16 =>
                (gh_ra q16 58 8 a1).bind fun x17 =>
                (sX10_puts N a2 x17 ((x11 : Int64).toInt32) q10.1 q16).bind fun q18 =>
                some ((x11 : Int64).toInt32, gh_fL q18 56 16 ((q18.2.1 56 16) + ((a3 - ((x11 : Int64).toInt32) : Int32).toInt64))))
              else
                (some ((-1), q13.2))))
          else
            (some ((-1), q9.2))))))
set_option maxRecDepth 100000 in
theorem kX10_dry_e (d N : Nat) (a1 : Int32) (a2 : Int32) (a3 : Int32) (a4 : Int32) (S : gh_St) (r : Int32 × gh_St) (h : sX10_dry N a1 a2 a3 a4 S = some r) : gh_T (d + 4) fX10_dry 0 0 none false false (0, [(0, .ref 56), (1, .int a1), (2, .int a2), (3, .int a3), (4, .int a4)], [], (gh_mo S, 0, 0)) (some (.int r.1), (gh_mo r.2, 0, 0)) := by
  unfold sX10_dry at h
  refine gh_T_steps 1 (τ := (1, [(0, .ref 56), (1, .int a1), (2, .int a2), (3, .int a3), (4, .int a4)], [.int a1], (gh_mo S, 0, 0))) (fun _ => rfl) ?_
  obtain ⟨q1, hq1, h⟩ := gh_bi h
  refine gh_T_is (As := [.int a1]) (rest := []) (y := some (.int q1.1)) (M' := gh_mo q1.2) rfl rfl rfl rfl rfl rfl rfl ⟨Nat.le_refl _, Nat.le_refl _⟩ (kX10_isBin (d + 2) N a1 S q1 hq1) ?_
  cases c25 : gh_cmp .eq q1.1 0 with
  | true =>
    rw [c25, cond_true] at h
    refine gh_T_if true rfl c25 ?_
    refine gh_T_steps 1 (τ := (73, [(0, .ref 56), (1, .int a1), (2, .int a2), (3, .int a3), (4, .int a4)], [.int ((-1))], (gh_mo q1.2, 0, 0))) (fun _ => rfl) ?_
    cases h
    exact gh_T_ret (fun _ => rfl)
  | false =>
    rw [c25, cond_false] at h
    refine gh_T_if false rfl c25 ?_
    refine gh_T_steps 6 (τ := (15, [(0, .ref 56), (1, .int a1), (2, .int a2), (3, .int a3), (4, .int a4)], [.int a1, .ref 59, .long 1, .long ((a3 : Int32).toInt64)], (gh_mo q1.2, 0, 0))) (fun _ => rfl) ?_
    obtain ⟨x2, hx2, h⟩ := gh_bi h
    refine gh_T_ra rfl rfl hx2 ?_
    refine gh_T_steps 1 (τ := (17, [(0, .ref 56), (1, .int a1), (2, .int a2), (3, .int a3), (4, .int a4)], [.long ((x2 : Int32).toInt64), .long 1, .long ((a3 : Int32).toInt64)], (gh_mo q1.2, 0, 0))) (fun _ => rfl) ?_
    obtain ⟨q3, hq3, h⟩ := gh_bi h
    refine gh_T_is (As := [.long ((a3 : Int32).toInt64), .long 1, .long ((x2 : Int32).toInt64)]) (rest := []) (y := some (.int q3.1)) (M' := gh_mo q3.2) rfl rfl rfl rfl rfl rfl rfl ⟨Nat.le_refl _, Nat.le_refl _⟩ (kX10_in (d + 3) N ((a3 : Int32).toInt64) 1 ((x2 : Int32).toInt64) q1.2 q3 hq3) ?_
    cases c24 : gh_cmp .eq q3.1 0 with
    | true =>
      rw [c24, cond_true] at h
      refine gh_T_if true rfl c24 ?_
      refine gh_T_steps 1 (τ := (73, [(0, .ref 56), (1, .int a1), (2, .int a2), (3, .int a3), (4, .int a4)], [.int ((-1))], (gh_mo q3.2, 0, 0))) (fun _ => rfl) ?_
      cases h
      exact gh_T_ret (fun _ => rfl)
    | false =>
      rw [c24, cond_false] at h
      refine gh_T_if false rfl c24 ?_
      refine gh_T_steps 4 (τ := (30, [(0, .ref 56), (1, .int a1), (2, .int a2), (3, .int a3), (4, .int a4)], [.long 300, .long 0, .long ((a4 : Int32).toInt64)], (gh_mo q3.2, 0, 0))) (fun _ => rfl) ?_
      obtain ⟨q4, hq4, h⟩ := gh_bi h
      refine gh_T_is (As := [.long ((a4 : Int32).toInt64), .long 0, .long 300]) (rest := []) (y := some (.int q4.1)) (M' := gh_mo q4.2) rfl rfl rfl rfl rfl rfl rfl ⟨Nat.le_refl _, Nat.le_refl _⟩ (kX10_in (d + 3) N ((a4 : Int32).toInt64) 0 300 q3.2 q4 hq4) ?_
      cases c23 : gh_cmp .eq q4.1 0 with
      | true =>
        rw [c23, cond_true] at h
        refine gh_T_if true rfl c23 ?_
        refine gh_T_steps 1 (τ := (73, [(0, .ref 56), (1, .int a1), (2, .int a2), (3, .int a3), (4, .int a4)], [.int ((-1))], (gh_mo q4.2, 0, 0))) (fun _ => rfl) ?_
        cases h
        exact gh_T_ret (fun _ => rfl)
      | false =>
        rw [c23, cond_false] at h
        refine gh_T_if false rfl c23 ?_
        refine gh_T_steps 4 (τ := (43, [(0, .ref 56), (1, .int a1), (2, .int a2), (3, .int a3), (4, .int a4)], [.int a1, .ref 60, .int a4], (gh_mo q4.2, 0, 0))) (fun _ => rfl) ?_
        obtain ⟨x5, hx5, h⟩ := gh_bi h
        refine gh_T_rj rfl rfl hx5 ?_
        refine gh_T_steps 3 (τ := (49, [(0, .ref 56), (1, .int a1), (2, .int a2), (3, .int a3), (4, .int a4)], [.int a1, .ref 59, .long x5, .int a4], (gh_mo q4.2, 0, 0))) (fun _ => rfl) ?_
        obtain ⟨x6, hx6, h⟩ := gh_bi h
        refine gh_T_ra rfl rfl hx6 ?_
        refine gh_T_steps 1 (τ := (51, [(0, .ref 56), (1, .int a1), (2, .int a2), (3, .int a3), (4, .int a4)], [.long ((x6 : Int32).toInt64), .long x5, .int a4], (gh_mo q4.2, 0, 0))) (fun _ => rfl) ?_
        obtain ⟨q7, hq7, h⟩ := gh_bi h
        refine gh_T_is (As := [.long x5, .long ((x6 : Int32).toInt64)]) (rest := [.int a4]) (y := some (.int q7.1)) (M' := gh_mo q7.2) rfl rfl rfl rfl rfl rfl rfl ⟨Nat.le_refl _, Nat.le_refl _⟩ (kX10_moistOf (d + 3) N x5 ((x6 : Int32).toInt64) q4.2 q7 hq7) ?_
        cases c22 : gh_cmp .ge a4 q7.1 with
        | true =>
          rw [c22, cond_true] at h
          refine gh_T_ic true rfl c22 ?_
          refine gh_T_steps 1 (τ := (73, [(0, .ref 56), (1, .int a1), (2, .int a2), (3, .int a3), (4, .int a4)], [.int ((-1))], (gh_mo q7.2, 0, 0))) (fun _ => rfl) ?_
          cases h
          exact gh_T_ret (fun _ => rfl)
        | false =>
          rw [c22, cond_false] at h
          refine gh_T_ic false rfl c22 ?_
          refine gh_T_steps 4 (τ := (63, [(0, .ref 56), (1, .int a1), (2, .int a2), (3, .int a3), (4, .int a4)], [.int a1, .ref 58, .ref 56], (gh_mo q7.2, 0, 0))) (fun _ => rfl) ?_
          obtain ⟨x8, hx8, h⟩ := gh_bi h
          refine gh_T_ra rfl rfl hx8 ?_
          refine gh_T_steps 2 (τ := (66, [(0, .ref 56), (1, .int a1), (2, .int a2), (3, .int a3), (4, .int a4)], [.int a2, .int a1, .int x8, .ref 56], (gh_mo q7.2, 0, 0))) (fun _ => rfl) ?_
          obtain ⟨q9, hq9, h⟩ := gh_bi h
          refine gh_T_iv (As := [.int x8, .int a1, .int a2]) (b := 56) (rest := []) (y := some (.int q9.1)) (M' := gh_mo q9.2) rfl rfl rfl rfl rfl rfl rfl rfl rfl ⟨Nat.le_refl _, Nat.le_refl _⟩ (kX10_isWay d N x8 a1 a2 q7.2 q9 hq9) ?_
          cases c21 : gh_cmp .ne q9.1 0 with
          | true =>
            rw [c21, cond_true] at h
            refine gh_T_if true rfl c21 ?_
            refine gh_T_steps 3 (τ := (77, [(0, .ref 56), (1, .int a1), (2, .int a2), (3, .int a3), (4, .int a4)], [.int a3, .int a1, .ref 56], (gh_mo q9.2, 0, 0))) (fun _ => rfl) ?_
            obtain ⟨q10, hq10, h⟩ := gh_bi h
            refine gh_T_iv (As := [.int a1, .int a3]) (b := 56) (rest := []) (y := some (.long q10.1)) (M' := gh_mo q10.2) rfl rfl rfl rfl rfl rfl rfl rfl rfl ⟨Nat.le_refl _, Nat.le_refl _⟩ (kX10_dryOf (d + 3) N a1 a3 q9.2 q10 hq10) ?_
            refine gh_T_steps 6 (τ := (91, [(5, .long q10.1), (0, .ref 56), (1, .int a1), (2, .int a2), (3, .int a3), (4, .int a4)], [.long (((1000 : Int32) - a4 : Int32).toInt64), .long q10.1], (gh_mo q10.2, 0, 0))) (fun _ => rfl) ?_
            obtain ⟨x11, hx11, h⟩ := gh_bi h
            refine gh_T_dj rfl hx11 ?_
            refine gh_T_steps 3 (τ := (97, [(7, .int ((x11 : Int64).toInt32)), (5, .long q10.1), (0, .ref 56), (1, .int a1), (2, .int a2), (3, .int a3), (4, .int a4)], [.int ((x11 : Int64).toInt32)], (gh_mo q10.2, 0, 0))) (fun _ => rfl) ?_
            cases c20 : gh_cmp .eq ((x11 : Int64).toInt32) 0 with
            | true =>
              rw [c20, cond_true] at h
              refine gh_T_if true rfl c20 ?_
              refine gh_T_steps 1 (τ := (117, [(7, .int ((x11 : Int64).toInt32)), (5, .long q10.1), (0, .ref 56), (1, .int a1), (2, .int a2), (3, .int a3), (4, .int a4)], [.int ((-1))], (gh_mo q10.2, 0, 0))) (fun _ => rfl) ?_
              cases h
              exact gh_T_ret (fun _ => rfl)
            | false =>
              rw [c20, cond_false] at h
              refine gh_T_if false rfl c20 ?_
              refine gh_T_steps 5 (τ := (107, [(7, .int ((x11 : Int64).toInt32)), (5, .long q10.1), (0, .ref 56), (1, .int a1), (2, .int a2), (3, .int a3), (4, .int a4)], [.int a1, .ref 58, .int a2, .ref 56], (gh_mo q10.2, 0, 0))) (fun _ => rfl) ?_
              obtain ⟨x12, hx12, h⟩ := gh_bi h
              refine gh_T_ra rfl rfl hx12 ?_
              refine gh_T_steps 1 (τ := (110, [(7, .int ((x11 : Int64).toInt32)), (5, .long q10.1), (0, .ref 56), (1, .int a1), (2, .int a2), (3, .int a3), (4, .int a4)], [.int ((x11 : Int64).toInt32), .int x12, .int a2, .ref 56], (gh_mo q10.2, 0, 0))) (fun _ => rfl) ?_
              obtain ⟨q13, hq13, h⟩ := gh_bi h
              refine gh_T_iv (As := [.int a2, .int x12, .int ((x11 : Int64).toInt32)]) (b := 56) (rest := []) (y := some (.int q13.1)) (M' := gh_mo q13.2) rfl rfl rfl rfl rfl rfl rfl rfl rfl ⟨Nat.le_refl _, Nat.le_refl _⟩ (kX10_canPut (d + 3) N a2 x12 ((x11 : Int64).toInt32) q10.2 q13 hq13) ?_
              cases c19 : gh_cmp .ne q13.1 0 with
              | true =>
                rw [c19, cond_true] at h
                refine gh_T_if true rfl c19 ?_
                refine gh_T_steps 4 (τ := (124, [(7, .int ((x11 : Int64).toInt32)), (5, .long q10.1), (0, .ref 56), (1, .int a1), (2, .int a2), (3, .int a3), (4, .int a4)], [.int a1, .ref 58, .ref 56], (gh_mo q13.2, 0, 0))) (fun _ => rfl) ?_
                obtain ⟨x14, hx14, h⟩ := gh_bi h
                refine gh_T_ra rfl rfl hx14 ?_
                refine gh_T_steps 2 (τ := (127, [(7, .int ((x11 : Int64).toInt32)), (5, .long q10.1), (0, .ref 56), (1, .int a1), (2, .int a2), (3, .int a3), (4, .int a4)], [.int a2, .int a1, .int x14, .ref 56], (gh_mo q13.2, 0, 0))) (fun _ => rfl) ?_
                obtain ⟨q15, hq15, h⟩ := gh_bi h
                refine gh_T_iv (As := [.int x14, .int a1, .int a2]) (b := 56) (rest := []) (y := some (.int q15.1)) (M' := gh_mo q15.2) rfl rfl rfl rfl rfl rfl rfl rfl rfl ⟨Nat.le_refl _, Nat.le_refl _⟩ (kX10_goesBy (d + 1) N x14 a1 a2 q13.2 q15 hq15) ?_
                refine gh_T_steps 4 (τ := (135, [(8, .int q15.1), (7, .int ((x11 : Int64).toInt32)), (5, .long q10.1), (0, .ref 56), (1, .int a1), (2, .int a2), (3, .int a3), (4, .int a4)], [.int a3, .int a1, .ref 56], (gh_mo q15.2, 0, 0))) (fun _ => rfl) ?_
                obtain ⟨q16, hq16, h⟩ := gh_bi h
                refine gh_T_iv (As := [.int a1, .int a3]) (b := 56) (rest := []) (y := none) (M' := gh_mo q16) rfl rfl rfl rfl rfl rfl rfl rfl rfl ⟨Nat.le_refl _, Nat.le_refl _⟩ (kX10_takes (d + 2) N a1 a3 q15.2 q16 hq16) ?_
                refine gh_T_steps 5 (τ := (145, [(8, .int q15.1), (7, .int ((x11 : Int64).toInt32)), (5, .long q10.1), (0, .ref 56), (1, .int a1), (2, .int a2), (3, .int a3), (4, .int a4)], [.int a1, .ref 58, .int a2, .ref 56], (gh_mo q16, 0, 0))) (fun _ => rfl) ?_
                obtain ⟨x17, hx17, h⟩ := gh_bi h
                refine gh_T_ra rfl rfl hx17 ?_
                refine gh_T_steps 2 (τ := (150, [(8, .int q15.1), (7, .int ((x11 : Int64).toInt32)), (5, .long q10.1), (0, .ref 56), (1, .int a1), (2, .int a2), (3, .int a3), (4, .int a4)], [.long q10.1, .int ((x11 : Int64).toInt32), .int x17, .int a2, .ref 56], (gh_mo q16, 0, 0))) (fun _ => rfl) ?_
                obtain ⟨q18, hq18, h⟩ := gh_bi h
                refine gh_T_iv (As := [.int a2, .int x17, .int ((x11 : Int64).toInt32), .long q10.1]) (b := 56) (rest := []) (y := none) (M' := gh_mo q18) rfl rfl rfl rfl rfl rfl rfl rfl rfl ⟨Nat.le_refl _, Nat.le_refl _⟩ (kX10_puts (d + 3) N a2 x17 ((x11 : Int64).toInt32) q10.1 q16 q18 hq18) ?_
                refine gh_T_steps 10 (τ := (169, [(8, .int q15.1), (7, .int ((x11 : Int64).toInt32)), (5, .long q10.1), (0, .ref 56), (1, .int a1), (2, .int a2), (3, .int a3), (4, .int a4)], [.int ((x11 : Int64).toInt32)], (gh_mo (gh_fL q18 56 16 ((q18.2.1 56 16) + ((a3 - ((x11 : Int64).toInt32) : Int32).toInt64))), 0, 0))) (fun _ => rfl) ?_
                cases h
                exact gh_T_ret (fun _ => rfl)
              | false =>
                rw [c19, cond_false] at h
                refine gh_T_if false rfl c19 ?_
                refine gh_T_steps 1 (τ := (117, [(7, .int ((x11 : Int64).toInt32)), (5, .long q10.1), (0, .ref 56), (1, .int a1), (2, .int a2), (3, .int a3), (4, .int a4)], [.int ((-1))], (gh_mo q13.2, 0, 0))) (fun _ => rfl) ?_
                cases h
                exact gh_T_ret (fun _ => rfl)
          | false =>
            rw [c21, cond_false] at h
            refine gh_T_if false rfl c21 ?_
            refine gh_T_steps 1 (τ := (73, [(0, .ref 56), (1, .int a1), (2, .int a2), (3, .int a3), (4, .int a4)], [.int ((-1))], (gh_mo q9.2, 0, 0))) (fun _ => rfl) ?_
            cases h
            exact gh_T_ret (fun _ => rfl)
theorem kX10_dry (d N : Nat) (a1 : Int32) (a2 : Int32) (a3 : Int32) (a4 : Int32) (S : gh_St) (r : Int32 × gh_St) (h : sX10_dry N a1 a2 a3 a4 S = some r) : gh_Mx (d + 5) 134 [.ref 56, .int a1, .int a2, .int a3, .int a4] (gh_mo S) (some (.int r.1)) (gh_mo r.2) :=
  gh_Mx_of rfl rfl rfl rfl rfl rfl (kX10_dry_e d N a1 a2 a3 a4 S r h)

def sX9_about (N : Nat) (a1 : Int32) (S : gh_St) : Option (Int64 × gh_St) :=
  bif gh_cmp .eq a1 0 then
    (some ((S.1 6 4 : Int32).toInt64, S))
  else
    bif gh_cmp .eq a1 1 then
    (some ((S.1 11 7 : Int32).toInt64, S))
  else
    bif gh_cmp .eq a1 2 then
    (some ((S.1 18 7 : Int32).toInt64, S))
  else
    bif gh_cmp .eq a1 3 then
    (some (S.2.1 11 9, S))
  else
    bif gh_cmp .eq a1 4 then
    (some (S.2.1 0 10, S))
  else
    bif gh_cmp .eq a1 5 then
    (some (S.2.1 0 11, S))
  else
    bif gh_cmp .eq a1 6 then
    (some (S.2.1 0 12, S))
  else
    bif gh_cmp .eq a1 7 then
    ((sX0_allGrams N S).bind fun q9 =>
                  some (q9.1, q9.2))
  else
    bif gh_cmp .eq a1 8 then
    ((sX3_allGrams N S).bind fun q11 =>
                    some (q11.1, q11.2))
  else
    bif gh_cmp .eq a1 9 then
    (some ((S.1 43 1 : Int32).toInt64, S))
  else
    bif gh_cmp .eq a1 10 then
    (some ((S.1 11 8 : Int32).toInt64, S))
  else
    bif gh_cmp .eq a1 11 then
    (some ((S.1 18 8 : Int32).toInt64, S))
  else
    bif gh_cmp .eq a1 12 then
    (some ((S.1 18 9 : Int32).toInt64, S))
  else
    bif gh_cmp .eq a1 13 then
    (some ((S.1 26 10 : Int32).toInt64, S))
  else
    (some ((-1), S))
set_option maxRecDepth 100000 in
theorem kX9_about_e (d N : Nat) (a1 : Int32) (S : gh_St) (r : Int64 × gh_St) (h : sX9_about N a1 S = some r) : gh_T (d + 1) fX9_about 0 0 none false false (0, [(0, .ref 0), (1, .int a1)], [], (gh_mo S, 0, 0)) (some (.long r.1), (gh_mo r.2, 0, 0)) := by
  unfold sX9_about at h
  refine gh_T_steps 1 (τ := (1, [(0, .ref 0), (1, .int a1)], [.int a1], (gh_mo S, 0, 0))) (fun _ => rfl) ?_
  cases c1 : gh_cmp .eq a1 0 with
  | true =>
    rw [c1, cond_true] at h
    refine gh_T_at 0 c1 (τ := (72, [(0, .ref 0), (1, .int a1)], [], (gh_mo S, 0, 0))) (fun _ => rfl) ?_
    refine gh_T_steps 4 (τ := (80, [(0, .ref 0), (1, .int a1)], [.long ((S.1 6 4 : Int32).toInt64)], (gh_mo S, 0, 0))) (fun _ => rfl) ?_
    cases h
    exact gh_T_ret (fun _ => rfl)
  | false =>
    rw [c1, cond_false] at h
    cases c2 : gh_cmp .eq a1 1 with
    | true =>
      rw [c2, cond_true] at h
      refine gh_T_at 1 c2 (τ := (81, [(0, .ref 0), (1, .int a1)], [], (gh_mo S, 0, 0))) (fun _ => rfl) ?_
      refine gh_T_steps 4 (τ := (89, [(0, .ref 0), (1, .int a1)], [.long ((S.1 11 7 : Int32).toInt64)], (gh_mo S, 0, 0))) (fun _ => rfl) ?_
      cases h
      exact gh_T_ret (fun _ => rfl)
    | false =>
      rw [c2, cond_false] at h
      cases c3 : gh_cmp .eq a1 2 with
      | true =>
        rw [c3, cond_true] at h
        refine gh_T_at 2 c3 (τ := (90, [(0, .ref 0), (1, .int a1)], [], (gh_mo S, 0, 0))) (fun _ => rfl) ?_
        refine gh_T_steps 4 (τ := (98, [(0, .ref 0), (1, .int a1)], [.long ((S.1 18 7 : Int32).toInt64)], (gh_mo S, 0, 0))) (fun _ => rfl) ?_
        cases h
        exact gh_T_ret (fun _ => rfl)
      | false =>
        rw [c3, cond_false] at h
        cases c4 : gh_cmp .eq a1 3 with
        | true =>
          rw [c4, cond_true] at h
          refine gh_T_at 3 c4 (τ := (99, [(0, .ref 0), (1, .int a1)], [], (gh_mo S, 0, 0))) (fun _ => rfl) ?_
          refine gh_T_steps 3 (τ := (106, [(0, .ref 0), (1, .int a1)], [.long (S.2.1 11 9)], (gh_mo S, 0, 0))) (fun _ => rfl) ?_
          cases h
          exact gh_T_ret (fun _ => rfl)
        | false =>
          rw [c4, cond_false] at h
          cases c5 : gh_cmp .eq a1 4 with
          | true =>
            rw [c5, cond_true] at h
            refine gh_T_at 4 c5 (τ := (107, [(0, .ref 0), (1, .int a1)], [], (gh_mo S, 0, 0))) (fun _ => rfl) ?_
            refine gh_T_steps 2 (τ := (111, [(0, .ref 0), (1, .int a1)], [.long (S.2.1 0 10)], (gh_mo S, 0, 0))) (fun _ => rfl) ?_
            cases h
            exact gh_T_ret (fun _ => rfl)
          | false =>
            rw [c5, cond_false] at h
            cases c6 : gh_cmp .eq a1 5 with
            | true =>
              rw [c6, cond_true] at h
              refine gh_T_at 5 c6 (τ := (112, [(0, .ref 0), (1, .int a1)], [], (gh_mo S, 0, 0))) (fun _ => rfl) ?_
              refine gh_T_steps 2 (τ := (116, [(0, .ref 0), (1, .int a1)], [.long (S.2.1 0 11)], (gh_mo S, 0, 0))) (fun _ => rfl) ?_
              cases h
              exact gh_T_ret (fun _ => rfl)
            | false =>
              rw [c6, cond_false] at h
              cases c7 : gh_cmp .eq a1 6 with
              | true =>
                rw [c7, cond_true] at h
                refine gh_T_at 6 c7 (τ := (117, [(0, .ref 0), (1, .int a1)], [], (gh_mo S, 0, 0))) (fun _ => rfl) ?_
                refine gh_T_steps 2 (τ := (121, [(0, .ref 0), (1, .int a1)], [.long (S.2.1 0 12)], (gh_mo S, 0, 0))) (fun _ => rfl) ?_
                cases h
                exact gh_T_ret (fun _ => rfl)
              | false =>
                rw [c7, cond_false] at h
                cases c8 : gh_cmp .eq a1 7 with
                | true =>
                  rw [c8, cond_true] at h
                  refine gh_T_at 7 c8 (τ := (122, [(0, .ref 0), (1, .int a1)], [], (gh_mo S, 0, 0))) (fun _ => rfl) ?_
                  refine gh_T_steps 2 (τ := (126, [(0, .ref 0), (1, .int a1)], [.ref 1], (gh_mo S, 0, 0))) (fun _ => rfl) ?_
                  obtain ⟨q9, hq9, h⟩ := gh_bi h
                  refine gh_T_iv (As := []) (b := 1) (rest := []) (y := some (.long q9.1)) (M' := gh_mo q9.2) rfl rfl rfl rfl rfl rfl rfl rfl rfl ⟨Nat.le_refl _, Nat.le_refl _⟩ (kX0_allGrams d N S q9 hq9) ?_
                  cases h
                  exact gh_T_ret (fun _ => rfl)
                | false =>
                  rw [c8, cond_false] at h
                  cases c10 : gh_cmp .eq a1 8 with
                  | true =>
                    rw [c10, cond_true] at h
                    refine gh_T_at 8 c10 (τ := (130, [(0, .ref 0), (1, .int a1)], [], (gh_mo S, 0, 0))) (fun _ => rfl) ?_
                    refine gh_T_steps 2 (τ := (134, [(0, .ref 0), (1, .int a1)], [.ref 6], (gh_mo S, 0, 0))) (fun _ => rfl) ?_
                    obtain ⟨q11, hq11, h⟩ := gh_bi h
                    refine gh_T_iv (As := []) (b := 6) (rest := []) (y := some (.long q11.1)) (M' := gh_mo q11.2) rfl rfl rfl rfl rfl rfl rfl rfl rfl ⟨Nat.le_refl _, Nat.le_refl _⟩ (kX3_allGrams d N S q11 hq11) ?_
                    cases h
                    exact gh_T_ret (fun _ => rfl)
                  | false =>
                    rw [c10, cond_false] at h
                    cases c12 : gh_cmp .eq a1 9 with
                    | true =>
                      rw [c12, cond_true] at h
                      refine gh_T_at 9 c12 (τ := (138, [(0, .ref 0), (1, .int a1)], [], (gh_mo S, 0, 0))) (fun _ => rfl) ?_
                      refine gh_T_steps 4 (τ := (146, [(0, .ref 0), (1, .int a1)], [.long ((S.1 43 1 : Int32).toInt64)], (gh_mo S, 0, 0))) (fun _ => rfl) ?_
                      cases h
                      exact gh_T_ret (fun _ => rfl)
                    | false =>
                      rw [c12, cond_false] at h
                      cases c13 : gh_cmp .eq a1 10 with
                      | true =>
                        rw [c13, cond_true] at h
                        refine gh_T_at 10 c13 (τ := (147, [(0, .ref 0), (1, .int a1)], [], (gh_mo S, 0, 0))) (fun _ => rfl) ?_
                        refine gh_T_steps 4 (τ := (155, [(0, .ref 0), (1, .int a1)], [.long ((S.1 11 8 : Int32).toInt64)], (gh_mo S, 0, 0))) (fun _ => rfl) ?_
                        cases h
                        exact gh_T_ret (fun _ => rfl)
                      | false =>
                        rw [c13, cond_false] at h
                        cases c14 : gh_cmp .eq a1 11 with
                        | true =>
                          rw [c14, cond_true] at h
                          refine gh_T_at 11 c14 (τ := (156, [(0, .ref 0), (1, .int a1)], [], (gh_mo S, 0, 0))) (fun _ => rfl) ?_
                          refine gh_T_steps 4 (τ := (164, [(0, .ref 0), (1, .int a1)], [.long ((S.1 18 8 : Int32).toInt64)], (gh_mo S, 0, 0))) (fun _ => rfl) ?_
                          cases h
                          exact gh_T_ret (fun _ => rfl)
                        | false =>
                          rw [c14, cond_false] at h
                          cases c15 : gh_cmp .eq a1 12 with
                          | true =>
                            rw [c15, cond_true] at h
                            refine gh_T_at 12 c15 (τ := (165, [(0, .ref 0), (1, .int a1)], [], (gh_mo S, 0, 0))) (fun _ => rfl) ?_
                            refine gh_T_steps 4 (τ := (173, [(0, .ref 0), (1, .int a1)], [.long ((S.1 18 9 : Int32).toInt64)], (gh_mo S, 0, 0))) (fun _ => rfl) ?_
                            cases h
                            exact gh_T_ret (fun _ => rfl)
                          | false =>
                            rw [c15, cond_false] at h
                            cases c16 : gh_cmp .eq a1 13 with
                            | true =>
                              rw [c16, cond_true] at h
                              refine gh_T_at 13 c16 (τ := (174, [(0, .ref 0), (1, .int a1)], [], (gh_mo S, 0, 0))) (fun _ => rfl) ?_
                              refine gh_T_steps 4 (τ := (182, [(0, .ref 0), (1, .int a1)], [.long ((S.1 26 10 : Int32).toInt64)], (gh_mo S, 0, 0))) (fun _ => rfl) ?_
                              cases h
                              exact gh_T_ret (fun _ => rfl)
                            | false =>
                              rw [c16, cond_false] at h
                              refine gh_T_td (tgt := 183) 14 rfl rfl (by decide) ⟨⟨⟨⟨⟨⟨⟨⟨⟨⟨⟨⟨⟨⟨trivial, c1⟩, c2⟩, c3⟩, c4⟩, c5⟩, c6⟩, c7⟩, c8⟩, c10⟩, c12⟩, c13⟩, c14⟩, c15⟩, c16⟩ (by decide) ?_
                              refine gh_T_steps 1 (τ := (186, [(0, .ref 0), (1, .int a1)], [.long ((-1))], (gh_mo S, 0, 0))) (fun _ => rfl) ?_
                              cases h
                              exact gh_T_ret (fun _ => rfl)
theorem kX9_about (d N : Nat) (a1 : Int32) (S : gh_St) (r : Int64 × gh_St) (h : sX9_about N a1 S = some r) : gh_Mx (d + 2) 107 [.ref 0, .int a1] (gh_mo S) (some (.long r.1)) (gh_mo r.2) :=
  gh_Mx_of rfl rfl rfl rfl rfl rfl (kX9_about_e d N a1 S r h)
def sX9_within (N : Nat) (a0 : Int32) (a1 : Int32) (a2 : Int32) (S : gh_St) : Option (Int32 × gh_St) :=
  bif gh_cmp .lt a0 a1 then
    (some (0, S))
  else
    (bif gh_cmp .gt a0 a2 then
      (some (0, S))
    else
      (some (1, S)))
set_option maxRecDepth 100000 in
theorem kX9_within_e (d N : Nat) (a0 : Int32) (a1 : Int32) (a2 : Int32) (S : gh_St) (r : Int32 × gh_St) (h : sX9_within N a0 a1 a2 S = some r) : gh_T d fX9_within 0 0 none true false (0, [(0, .int a0), (1, .int a1), (2, .int a2)], [], (gh_mo S, 0, 0)) (some (.int r.1), (gh_mo r.2, 0, 0)) := by
  unfold sX9_within at h
  refine gh_T_steps 2 (τ := (2, [(0, .int a0), (1, .int a1), (2, .int a2)], [.int a1, .int a0], (gh_mo S, 0, 0))) (fun _ => rfl) ?_
  cases c2 : gh_cmp .lt a0 a1 with
  | true =>
    rw [c2, cond_true] at h
    refine gh_T_ic true rfl c2 ?_
    refine gh_T_steps 1 (τ := (15, [(0, .int a0), (1, .int a1), (2, .int a2)], [.int 0], (gh_mo S, 0, 0))) (fun _ => rfl) ?_
    cases h
    exact gh_T_ret (fun _ => rfl)
  | false =>
    rw [c2, cond_false] at h
    refine gh_T_ic false rfl c2 ?_
    refine gh_T_steps 2 (τ := (7, [(0, .int a0), (1, .int a1), (2, .int a2)], [.int a2, .int a0], (gh_mo S, 0, 0))) (fun _ => rfl) ?_
    cases c1 : gh_cmp .gt a0 a2 with
    | true =>
      rw [c1, cond_true] at h
      refine gh_T_ic true rfl c1 ?_
      refine gh_T_steps 1 (τ := (15, [(0, .int a0), (1, .int a1), (2, .int a2)], [.int 0], (gh_mo S, 0, 0))) (fun _ => rfl) ?_
      cases h
      exact gh_T_ret (fun _ => rfl)
    | false =>
      rw [c1, cond_false] at h
      refine gh_T_ic false rfl c1 ?_
      refine gh_T_steps 2 (τ := (15, [(0, .int a0), (1, .int a1), (2, .int a2)], [.int 1], (gh_mo S, 0, 0))) (fun _ => rfl) ?_
      cases h
      exact gh_T_ret (fun _ => rfl)
theorem kX9_within (d N : Nat) (a0 : Int32) (a1 : Int32) (a2 : Int32) (S : gh_St) (r : Int32 × gh_St) (h : sX9_within N a0 a1 a2 S = some r) : gh_Mx (d + 1) 108 [.int a0, .int a1, .int a2] (gh_mo S) (some (.int r.1)) (gh_mo r.2) :=
  gh_Mx_of rfl rfl rfl rfl rfl rfl (kX9_within_e d N a0 a1 a2 S r h)
def sX9_isBin (N : Nat) (a0 : Int32) (S : gh_St) : Option (Int32 × gh_St) :=
  (sX9_within N a0 0 7 S).bind fun q1 =>
  (gh_gB q1.1).bind fun x2 => some (x2, q1.2)
set_option maxRecDepth 100000 in
theorem kX9_isBin_e (d N : Nat) (a0 : Int32) (S : gh_St) (r : Int32 × gh_St) (h : sX9_isBin N a0 S = some r) : gh_T (d + 1) fX9_isBin 0 0 none true false (0, [(0, .int a0)], [], (gh_mo S, 0, 0)) (some (.int r.1), (gh_mo r.2, 0, 0)) := by
  unfold sX9_isBin at h
  refine gh_T_steps 3 (τ := (4, [(0, .int a0)], [.int 7, .int 0, .int a0], (gh_mo S, 0, 0))) (fun _ => rfl) ?_
  obtain ⟨q1, hq1, h⟩ := gh_bi h
  refine gh_T_is (As := [.int a0, .int 0, .int 7]) (rest := []) (y := some (.int q1.1)) (M' := gh_mo q1.2) rfl rfl rfl rfl rfl rfl rfl ⟨Nat.le_refl _, Nat.le_refl _⟩ (kX9_within d N a0 0 7 S q1 hq1) ?_
  obtain ⟨x2, hx2, h⟩ := gh_bi h
  obtain ⟨hz, rfl⟩ := gh_bs hx2
  cases h
  exact gh_T_rz rfl hz
theorem kX9_isBin (d N : Nat) (a0 : Int32) (S : gh_St) (r : Int32 × gh_St) (h : sX9_isBin N a0 S = some r) : gh_Mx (d + 2) 109 [.int a0] (gh_mo S) (some (.int r.1)) (gh_mo r.2) :=
  gh_Mx_of rfl rfl rfl rfl rfl rfl (kX9_isBin_e d N a0 S r h)
def sX9_isKind (N : Nat) (a0 : Int32) (S : gh_St) : Option (Int32 × gh_St) :=
  (sX9_within N a0 0 3 S).bind fun q1 =>
  (gh_gB q1.1).bind fun x2 => some (x2, q1.2)
set_option maxRecDepth 100000 in
theorem kX9_isKind_e (d N : Nat) (a0 : Int32) (S : gh_St) (r : Int32 × gh_St) (h : sX9_isKind N a0 S = some r) : gh_T (d + 1) fX9_isKind 0 0 none true false (0, [(0, .int a0)], [], (gh_mo S, 0, 0)) (some (.int r.1), (gh_mo r.2, 0, 0)) := by
  unfold sX9_isKind at h
  refine gh_T_steps 3 (τ := (3, [(0, .int a0)], [.int 3, .int 0, .int a0], (gh_mo S, 0, 0))) (fun _ => rfl) ?_
  obtain ⟨q1, hq1, h⟩ := gh_bi h
  refine gh_T_is (As := [.int a0, .int 0, .int 3]) (rest := []) (y := some (.int q1.1)) (M' := gh_mo q1.2) rfl rfl rfl rfl rfl rfl rfl ⟨Nat.le_refl _, Nat.le_refl _⟩ (kX9_within d N a0 0 3 S q1 hq1) ?_
  obtain ⟨x2, hx2, h⟩ := gh_bi h
  obtain ⟨hz, rfl⟩ := gh_bs hx2
  cases h
  exact gh_T_rz rfl hz
theorem kX9_isKind (d N : Nat) (a0 : Int32) (S : gh_St) (r : Int32 × gh_St) (h : sX9_isKind N a0 S = some r) : gh_Mx (d + 2) 110 [.int a0] (gh_mo S) (some (.int r.1)) (gh_mo r.2) :=
  gh_Mx_of rfl rfl rfl rfl rfl rfl (kX9_isKind_e d N a0 S r h)
def sX9_isFarmer (N : Nat) (a0 : Int32) (S : gh_St) : Option (Int32 × gh_St) :=
  (sX9_within N a0 0 9 S).bind fun q1 =>
  (gh_gB q1.1).bind fun x2 => some (x2, q1.2)
set_option maxRecDepth 100000 in
theorem kX9_isFarmer_e (d N : Nat) (a0 : Int32) (S : gh_St) (r : Int32 × gh_St) (h : sX9_isFarmer N a0 S = some r) : gh_T (d + 1) fX9_isFarmer 0 0 none true false (0, [(0, .int a0)], [], (gh_mo S, 0, 0)) (some (.int r.1), (gh_mo r.2, 0, 0)) := by
  unfold sX9_isFarmer at h
  refine gh_T_steps 3 (τ := (4, [(0, .int a0)], [.int 9, .int 0, .int a0], (gh_mo S, 0, 0))) (fun _ => rfl) ?_
  obtain ⟨q1, hq1, h⟩ := gh_bi h
  refine gh_T_is (As := [.int a0, .int 0, .int 9]) (rest := []) (y := some (.int q1.1)) (M' := gh_mo q1.2) rfl rfl rfl rfl rfl rfl rfl ⟨Nat.le_refl _, Nat.le_refl _⟩ (kX9_within d N a0 0 9 S q1 hq1) ?_
  obtain ⟨x2, hx2, h⟩ := gh_bi h
  obtain ⟨hz, rfl⟩ := gh_bs hx2
  cases h
  exact gh_T_rz rfl hz
theorem kX9_isFarmer (d N : Nat) (a0 : Int32) (S : gh_St) (r : Int32 × gh_St) (h : sX9_isFarmer N a0 S = some r) : gh_Mx (d + 2) 111 [.int a0] (gh_mo S) (some (.int r.1)) (gh_mo r.2) :=
  gh_Mx_of rfl rfl rfl rfl rfl rfl (kX9_isFarmer_e d N a0 S r h)
def sX10_in (N : Nat) (a0 : Int64) (a2 : Int64) (a4 : Int64) (S : gh_St) : Option (Int32 × gh_St) :=
  bif gh_cmp .lt (lg_cmp a0 a2) 0 then
    (some (0, S))
  else
    (bif gh_cmp .gt (lg_cmp a0 a4) 0 then
      (some (0, S))
    else
      (some (1, S)))
set_option maxRecDepth 100000 in
theorem kX10_in_e (d N : Nat) (a0 : Int64) (a2 : Int64) (a4 : Int64) (S : gh_St) (r : Int32 × gh_St) (h : sX10_in N a0 a2 a4 S = some r) : gh_T d fX10_in 0 0 none true false (0, [(0, .long a0), (2, .long a2), (4, .long a4)], [], (gh_mo S, 0, 0)) (some (.int r.1), (gh_mo r.2, 0, 0)) := by
  unfold sX10_in at h
  refine gh_T_steps 3 (τ := (3, [(0, .long a0), (2, .long a2), (4, .long a4)], [.int (lg_cmp a0 a2)], (gh_mo S, 0, 0))) (fun _ => rfl) ?_
  cases c2 : gh_cmp .lt (lg_cmp a0 a2) 0 with
  | true =>
    rw [c2, cond_true] at h
    refine gh_T_if true rfl c2 ?_
    refine gh_T_steps 1 (τ := (18, [(0, .long a0), (2, .long a2), (4, .long a4)], [.int 0], (gh_mo S, 0, 0))) (fun _ => rfl) ?_
    cases h
    exact gh_T_ret (fun _ => rfl)
  | false =>
    rw [c2, cond_false] at h
    refine gh_T_if false rfl c2 ?_
    refine gh_T_steps 3 (τ := (10, [(0, .long a0), (2, .long a2), (4, .long a4)], [.int (lg_cmp a0 a4)], (gh_mo S, 0, 0))) (fun _ => rfl) ?_
    cases c1 : gh_cmp .gt (lg_cmp a0 a4) 0 with
    | true =>
      rw [c1, cond_true] at h
      refine gh_T_if true rfl c1 ?_
      refine gh_T_steps 1 (τ := (18, [(0, .long a0), (2, .long a2), (4, .long a4)], [.int 0], (gh_mo S, 0, 0))) (fun _ => rfl) ?_
      cases h
      exact gh_T_ret (fun _ => rfl)
    | false =>
      rw [c1, cond_false] at h
      refine gh_T_if false rfl c1 ?_
      refine gh_T_steps 2 (τ := (18, [(0, .long a0), (2, .long a2), (4, .long a4)], [.int 1], (gh_mo S, 0, 0))) (fun _ => rfl) ?_
      cases h
      exact gh_T_ret (fun _ => rfl)
theorem kX10_in (d N : Nat) (a0 : Int64) (a2 : Int64) (a4 : Int64) (S : gh_St) (r : Int32 × gh_St) (h : sX10_in N a0 a2 a4 S = some r) : gh_Mx (d + 1) 113 [.long a0, .long a2, .long a4] (gh_mo S) (some (.int r.1)) (gh_mo r.2) :=
  gh_Mx_of rfl rfl rfl rfl rfl rfl (kX10_in_e d N a0 a2 a4 S r h)
def sX10_isBin (N : Nat) (a0 : Int32) (S : gh_St) : Option (Int32 × gh_St) :=
  (sX10_in N ((a0 : Int32).toInt64) 0 7 S).bind fun q1 =>
  (gh_gB q1.1).bind fun x2 => some (x2, q1.2)
set_option maxRecDepth 100000 in
theorem kX10_isBin_e (d N : Nat) (a0 : Int32) (S : gh_St) (r : Int32 × gh_St) (h : sX10_isBin N a0 S = some r) : gh_T (d + 1) fX10_isBin 0 0 none true false (0, [(0, .int a0)], [], (gh_mo S, 0, 0)) (some (.int r.1), (gh_mo r.2, 0, 0)) := by
  unfold sX10_isBin at h
  refine gh_T_steps 4 (τ := (6, [(0, .int a0)], [.long 7, .long 0, .long ((a0 : Int32).toInt64)], (gh_mo S, 0, 0))) (fun _ => rfl) ?_
  obtain ⟨q1, hq1, h⟩ := gh_bi h
  refine gh_T_is (As := [.long ((a0 : Int32).toInt64), .long 0, .long 7]) (rest := []) (y := some (.int q1.1)) (M' := gh_mo q1.2) rfl rfl rfl rfl rfl rfl rfl ⟨Nat.le_refl _, Nat.le_refl _⟩ (kX10_in d N ((a0 : Int32).toInt64) 0 7 S q1 hq1) ?_
  obtain ⟨x2, hx2, h⟩ := gh_bi h
  obtain ⟨hz, rfl⟩ := gh_bs hx2
  cases h
  exact gh_T_rz rfl hz
theorem kX10_isBin (d N : Nat) (a0 : Int32) (S : gh_St) (r : Int32 × gh_St) (h : sX10_isBin N a0 S = some r) : gh_Mx (d + 2) 114 [.int a0] (gh_mo S) (some (.int r.1)) (gh_mo r.2) :=
  gh_Mx_of rfl rfl rfl rfl rfl rfl (kX10_isBin_e d N a0 S r h)
def sX10_isKind (N : Nat) (a0 : Int32) (S : gh_St) : Option (Int32 × gh_St) :=
  (sX10_in N ((a0 : Int32).toInt64) 0 3 S).bind fun q1 =>
  (gh_gB q1.1).bind fun x2 => some (x2, q1.2)
set_option maxRecDepth 100000 in
theorem kX10_isKind_e (d N : Nat) (a0 : Int32) (S : gh_St) (r : Int32 × gh_St) (h : sX10_isKind N a0 S = some r) : gh_T (d + 1) fX10_isKind 0 0 none true false (0, [(0, .int a0)], [], (gh_mo S, 0, 0)) (some (.int r.1), (gh_mo r.2, 0, 0)) := by
  unfold sX10_isKind at h
  refine gh_T_steps 4 (τ := (6, [(0, .int a0)], [.long 3, .long 0, .long ((a0 : Int32).toInt64)], (gh_mo S, 0, 0))) (fun _ => rfl) ?_
  obtain ⟨q1, hq1, h⟩ := gh_bi h
  refine gh_T_is (As := [.long ((a0 : Int32).toInt64), .long 0, .long 3]) (rest := []) (y := some (.int q1.1)) (M' := gh_mo q1.2) rfl rfl rfl rfl rfl rfl rfl ⟨Nat.le_refl _, Nat.le_refl _⟩ (kX10_in d N ((a0 : Int32).toInt64) 0 3 S q1 hq1) ?_
  obtain ⟨x2, hx2, h⟩ := gh_bi h
  obtain ⟨hz, rfl⟩ := gh_bs hx2
  cases h
  exact gh_T_rz rfl hz
theorem kX10_isKind (d N : Nat) (a0 : Int32) (S : gh_St) (r : Int32 × gh_St) (h : sX10_isKind N a0 S = some r) : gh_Mx (d + 2) 115 [.int a0] (gh_mo S) (some (.int r.1)) (gh_mo r.2) :=
  gh_Mx_of rfl rfl rfl rfl rfl rfl (kX10_isKind_e d N a0 S r h)
def sX10_holds (N : Nat) (a1 : Int32) (a2 : Int32) (S : gh_St) : Option (Int32 × gh_St) :=
  (sX10_isBin N a1 S).bind fun q1 =>
  bif gh_cmp .eq q1.1 0 then
    (some (0, q1.2))
  else
    ((sX10_in N ((a2 : Int32).toInt64) 1 500000 q1.2).bind fun q2 =>
    bif gh_cmp .eq q2.1 0 then
      (some (0, q2.2))
    else
      ((gh_ra q2.2 59 8 a1).bind fun x3 =>
      bif gh_cmp .ge a2 x3 then
        ((gh_wa q2.2 57 8 a1 a2).bind fun S4 =>
        some (1, S4))
      else
        (some (0, q2.2))))
set_option maxRecDepth 100000 in
theorem kX10_holds_e (d N : Nat) (a1 : Int32) (a2 : Int32) (S : gh_St) (r : Int32 × gh_St) (h : sX10_holds N a1 a2 S = some r) : gh_T (d + 2) fX10_holds 0 0 none true false (0, [(0, .ref 56), (1, .int a1), (2, .int a2)], [], (gh_mo S, 0, 0)) (some (.int r.1), (gh_mo r.2, 0, 0)) := by
  unfold sX10_holds at h
  refine gh_T_steps 1 (τ := (1, [(0, .ref 56), (1, .int a1), (2, .int a2)], [.int a1], (gh_mo S, 0, 0))) (fun _ => rfl) ?_
  obtain ⟨q1, hq1, h⟩ := gh_bi h
  refine gh_T_is (As := [.int a1]) (rest := []) (y := some (.int q1.1)) (M' := gh_mo q1.2) rfl rfl rfl rfl rfl rfl rfl ⟨Nat.le_refl _, Nat.le_refl _⟩ (kX10_isBin d N a1 S q1 hq1) ?_
  cases c7 : gh_cmp .eq q1.1 0 with
  | true =>
    rw [c7, cond_true] at h
    refine gh_T_if true rfl c7 ?_
    refine gh_T_steps 1 (τ := (30, [(0, .ref 56), (1, .int a1), (2, .int a2)], [.int 0], (gh_mo q1.2, 0, 0))) (fun _ => rfl) ?_
    cases h
    exact gh_T_ret (fun _ => rfl)
  | false =>
    rw [c7, cond_false] at h
    refine gh_T_if false rfl c7 ?_
    refine gh_T_steps 4 (τ := (13, [(0, .ref 56), (1, .int a1), (2, .int a2)], [.long 500000, .long 1, .long ((a2 : Int32).toInt64)], (gh_mo q1.2, 0, 0))) (fun _ => rfl) ?_
    obtain ⟨q2, hq2, h⟩ := gh_bi h
    refine gh_T_is (As := [.long ((a2 : Int32).toInt64), .long 1, .long 500000]) (rest := []) (y := some (.int q2.1)) (M' := gh_mo q2.2) rfl rfl rfl rfl rfl rfl rfl ⟨Nat.le_refl _, Nat.le_refl _⟩ (kX10_in (d + 1) N ((a2 : Int32).toInt64) 1 500000 q1.2 q2 hq2) ?_
    cases c6 : gh_cmp .eq q2.1 0 with
    | true =>
      rw [c6, cond_true] at h
      refine gh_T_if true rfl c6 ?_
      refine gh_T_steps 1 (τ := (30, [(0, .ref 56), (1, .int a1), (2, .int a2)], [.int 0], (gh_mo q2.2, 0, 0))) (fun _ => rfl) ?_
      cases h
      exact gh_T_ret (fun _ => rfl)
    | false =>
      rw [c6, cond_false] at h
      refine gh_T_if false rfl c6 ?_
      refine gh_T_steps 4 (τ := (25, [(0, .ref 56), (1, .int a1), (2, .int a2)], [.int a1, .ref 59, .int a2], (gh_mo q2.2, 0, 0))) (fun _ => rfl) ?_
      obtain ⟨x3, hx3, h⟩ := gh_bi h
      refine gh_T_ra rfl rfl hx3 ?_
      cases c5 : gh_cmp .ge a2 x3 with
      | true =>
        rw [c5, cond_true] at h
        refine gh_T_ic true rfl c5 ?_
        refine gh_T_steps 4 (τ := (37, [(0, .ref 56), (1, .int a1), (2, .int a2)], [.int a2, .int a1, .ref 57], (gh_mo q2.2, 0, 0))) (fun _ => rfl) ?_
        obtain ⟨S4, hS4, h⟩ := gh_bi h
        refine gh_T_wa rfl rfl hS4 ?_
        refine gh_T_steps 1 (τ := (39, [(0, .ref 56), (1, .int a1), (2, .int a2)], [.int 1], (gh_mo S4, 0, 0))) (fun _ => rfl) ?_
        cases h
        exact gh_T_ret (fun _ => rfl)
      | false =>
        rw [c5, cond_false] at h
        refine gh_T_ic false rfl c5 ?_
        refine gh_T_steps 1 (τ := (30, [(0, .ref 56), (1, .int a1), (2, .int a2)], [.int 0], (gh_mo q2.2, 0, 0))) (fun _ => rfl) ?_
        cases h
        exact gh_T_ret (fun _ => rfl)
theorem kX10_holds (d N : Nat) (a1 : Int32) (a2 : Int32) (S : gh_St) (r : Int32 × gh_St) (h : sX10_holds N a1 a2 S = some r) : gh_Mx (d + 3) 116 [.ref 56, .int a1, .int a2] (gh_mo S) (some (.int r.1)) (gh_mo r.2) :=
  gh_Mx_of rfl rfl rfl rfl rfl rfl (kX10_holds_e d N a1 a2 S r h)
def sX10_canPut_19 (N : Nat) (l1 : Int32) (l3 : Int32) (S : gh_St) : Option (Int32 × gh_St) :=
  (gh_ra S 59 8 l1).bind fun x1 =>
  (gh_ra S 57 8 l1).bind fun x2 =>
  bif gh_cmp .gt (x1 + l3) x2 then
    (some (0, S))
  else
    (some (1, S))
set_option maxRecDepth 100000 in
theorem kX10_canPut_19 (d N : Nat) (l1 : Int32) (l3 : Int32) (S : gh_St) (r : Int32 × gh_St) (h : sX10_canPut_19 N l1 l3 S = some r) : gh_T d fX10_canPut 0 0 none true false (19, [(0, .ref 56), (1, .int l1), (3, .int l3)], [], (gh_mo S, 0, 0)) (some (.int r.1), (gh_mo r.2, 0, 0)) := by
  unfold sX10_canPut_19 at h
  refine gh_T_steps 3 (τ := (24, [(0, .ref 56), (1, .int l1), (3, .int l3)], [.int l1, .ref 59], (gh_mo S, 0, 0))) (fun _ => rfl) ?_
  obtain ⟨x1, hx1, h⟩ := gh_bi h
  refine gh_T_ra rfl rfl hx1 ?_
  refine gh_T_steps 5 (τ := (32, [(0, .ref 56), (1, .int l1), (3, .int l3)], [.int l1, .ref 57, .int (x1 + l3)], (gh_mo S, 0, 0))) (fun _ => rfl) ?_
  obtain ⟨x2, hx2, h⟩ := gh_bi h
  refine gh_T_ra rfl rfl hx2 ?_
  cases c3 : gh_cmp .gt (x1 + l3) x2 with
  | true =>
    rw [c3, cond_true] at h
    refine gh_T_ic true rfl c3 ?_
    refine gh_T_steps 1 (τ := (41, [(0, .ref 56), (1, .int l1), (3, .int l3)], [.int 0], (gh_mo S, 0, 0))) (fun _ => rfl) ?_
    cases h
    exact gh_T_ret (fun _ => rfl)
  | false =>
    rw [c3, cond_false] at h
    refine gh_T_ic false rfl c3 ?_
    refine gh_T_steps 2 (τ := (41, [(0, .ref 56), (1, .int l1), (3, .int l3)], [.int 1], (gh_mo S, 0, 0))) (fun _ => rfl) ?_
    cases h
    exact gh_T_ret (fun _ => rfl)
def sX10_canPut (N : Nat) (a1 : Int32) (a2 : Int32) (a3 : Int32) (S : gh_St) : Option (Int32 × gh_St) :=
  (gh_ra S 59 8 a1).bind fun x1 =>
  bif gh_cmp .eq x1 0 then
    (sX10_canPut_19 N a1 a3 S)
  else
    ((gh_ra S 58 8 a1).bind fun x2 =>
    bif gh_cmp .ne x2 a2 then
      (some (0, S))
    else
      (sX10_canPut_19 N a1 a3 S))
set_option maxRecDepth 100000 in
theorem kX10_canPut_e (d N : Nat) (a1 : Int32) (a2 : Int32) (a3 : Int32) (S : gh_St) (r : Int32 × gh_St) (h : sX10_canPut N a1 a2 a3 S = some r) : gh_T d fX10_canPut 0 0 none true false (0, [(0, .ref 56), (1, .int a1), (2, .int a2), (3, .int a3)], [], (gh_mo S, 0, 0)) (some (.int r.1), (gh_mo r.2, 0, 0)) := by
  unfold sX10_canPut at h
  refine gh_T_steps 3 (τ := (5, [(0, .ref 56), (1, .int a1), (2, .int a2), (3, .int a3)], [.int a1, .ref 59], (gh_mo S, 0, 0))) (fun _ => rfl) ?_
  obtain ⟨x1, hx1, h⟩ := gh_bi h
  refine gh_T_ra rfl rfl hx1 ?_
  cases c4 : gh_cmp .eq x1 0 with
  | true =>
    rw [c4, cond_true] at h
    refine gh_T_if true rfl c4 ?_
    refine gh_T_weak (lv := [(0, .ref 56), (1, .int a1), (3, .int a3)]) ⟨rfl, rfl, rfl, trivial⟩ ?_
    exact kX10_canPut_19 d N a1 a3 S _ h
  | false =>
    rw [c4, cond_false] at h
    refine gh_T_if false rfl c4 ?_
    refine gh_T_steps 3 (τ := (14, [(0, .ref 56), (1, .int a1), (2, .int a2), (3, .int a3)], [.int a1, .ref 58], (gh_mo S, 0, 0))) (fun _ => rfl) ?_
    obtain ⟨x2, hx2, h⟩ := gh_bi h
    refine gh_T_ra rfl rfl hx2 ?_
    refine gh_T_steps 1 (τ := (16, [(0, .ref 56), (1, .int a1), (2, .int a2), (3, .int a3)], [.int a2, .int x2], (gh_mo S, 0, 0))) (fun _ => rfl) ?_
    cases c3 : gh_cmp .ne x2 a2 with
    | true =>
      rw [c3, cond_true] at h
      refine gh_T_ic true rfl c3 ?_
      refine gh_T_steps 1 (τ := (41, [(0, .ref 56), (1, .int a1), (2, .int a2), (3, .int a3)], [.int 0], (gh_mo S, 0, 0))) (fun _ => rfl) ?_
      cases h
      exact gh_T_ret (fun _ => rfl)
    | false =>
      rw [c3, cond_false] at h
      refine gh_T_ic false rfl c3 ?_
      refine gh_T_weak (lv := [(0, .ref 56), (1, .int a1), (3, .int a3)]) ⟨rfl, rfl, rfl, trivial⟩ ?_
      exact kX10_canPut_19 d N a1 a3 S _ h
theorem kX10_canPut (d N : Nat) (a1 : Int32) (a2 : Int32) (a3 : Int32) (S : gh_St) (r : Int32 × gh_St) (h : sX10_canPut N a1 a2 a3 S = some r) : gh_Mx (d + 1) 117 [.ref 56, .int a1, .int a2, .int a3] (gh_mo S) (some (.int r.1)) (gh_mo r.2) :=
  gh_Mx_of rfl rfl rfl rfl rfl rfl (kX10_canPut_e d N a1 a2 a3 S r h)
def sX10_puts (N : Nat) (a1 : Int32) (a2 : Int32) (a3 : Int32) (a4 : Int64) (S : gh_St) : Option (gh_St) :=
  (gh_wa S 58 8 a1 a2).bind fun S1 =>
  (gh_ra S1 59 8 a1).bind fun x2 =>
  (gh_wa S1 59 8 a1 (x2 + a3)).bind fun S3 =>
  (gh_rj S3 60 8 a1).bind fun x4 =>
  (gh_wj S3 60 8 a1 (x4 + a4)).bind fun S5 =>
  some S5
set_option maxRecDepth 100000 in
theorem kX10_puts_e (d N : Nat) (a1 : Int32) (a2 : Int32) (a3 : Int32) (a4 : Int64) (S : gh_St) (r : gh_St) (h : sX10_puts N a1 a2 a3 a4 S = some r) : gh_T d fX10_puts 0 0 none false false (0, [(0, .ref 56), (1, .int a1), (2, .int a2), (3, .int a3), (4, .long a4)], [], (gh_mo S, 0, 0)) (none, (gh_mo r, 0, 0)) := by
  unfold sX10_puts at h
  refine gh_T_steps 4 (τ := (6, [(0, .ref 56), (1, .int a1), (2, .int a2), (3, .int a3), (4, .long a4)], [.int a2, .int a1, .ref 58], (gh_mo S, 0, 0))) (fun _ => rfl) ?_
  obtain ⟨S1, hS1, h⟩ := gh_bi h
  refine gh_T_wa rfl rfl hS1 ?_
  refine gh_T_steps 4 (τ := (13, [(0, .ref 56), (1, .int a1), (2, .int a2), (3, .int a3), (4, .long a4)], [.int a1, .ref 59, .int a1, .ref 59], (gh_mo S1, 0, 0))) (fun _ => rfl) ?_
  obtain ⟨x2, hx2, h⟩ := gh_bi h
  refine gh_T_ra rfl rfl hx2 ?_
  refine gh_T_steps 2 (τ := (16, [(0, .ref 56), (1, .int a1), (2, .int a2), (3, .int a3), (4, .long a4)], [.int (x2 + a3), .int a1, .ref 59], (gh_mo S1, 0, 0))) (fun _ => rfl) ?_
  obtain ⟨S3, hS3, h⟩ := gh_bi h
  refine gh_T_wa rfl rfl hS3 ?_
  refine gh_T_steps 4 (τ := (23, [(0, .ref 56), (1, .int a1), (2, .int a2), (3, .int a3), (4, .long a4)], [.int a1, .ref 60, .int a1, .ref 60], (gh_mo S3, 0, 0))) (fun _ => rfl) ?_
  obtain ⟨x4, hx4, h⟩ := gh_bi h
  refine gh_T_rj rfl rfl hx4 ?_
  refine gh_T_steps 2 (τ := (27, [(0, .ref 56), (1, .int a1), (2, .int a2), (3, .int a3), (4, .long a4)], [.long (x4 + a4), .int a1, .ref 60], (gh_mo S3, 0, 0))) (fun _ => rfl) ?_
  obtain ⟨S5, hS5, h⟩ := gh_bi h
  refine gh_T_wj rfl rfl hS5 ?_
  cases h
  exact gh_T_ret (fun _ => rfl)
theorem kX10_puts (d N : Nat) (a1 : Int32) (a2 : Int32) (a3 : Int32) (a4 : Int64) (S : gh_St) (r : gh_St) (h : sX10_puts N a1 a2 a3 a4 S = some r) : gh_Mx (d + 1) 118 [.ref 56, .int a1, .int a2, .int a3, .long a4] (gh_mo S) none (gh_mo r) :=
  gh_Mx_of rfl rfl rfl rfl rfl rfl (kX10_puts_e d N a1 a2 a3 a4 S r h)
def sX10_dryOf (N : Nat) (a1 : Int32) (a2 : Int32) (S : gh_St) : Option (Int64 × gh_St) :=
  (gh_ra S 59 8 a1).bind fun x1 =>
  bif gh_cmp .ne a2 x1 then
    ((gh_rj S 60 8 a1).bind fun x2 =>
    (gh_ra S 59 8 a1).bind fun x3 =>
    (gh_dj (x2 * ((a2 : Int32).toInt64)) ((x3 : Int32).toInt64)).bind fun x4 =>
    some (x4, S))
  else
    ((gh_rj S 60 8 a1).bind fun x5 =>
    some (x5, S))
set_option maxRecDepth 100000 in
theorem kX10_dryOf_e (d N : Nat) (a1 : Int32) (a2 : Int32) (S : gh_St) (r : Int64 × gh_St) (h : sX10_dryOf N a1 a2 S = some r) : gh_T d fX10_dryOf 0 0 none false false (0, [(0, .ref 56), (1, .int a1), (2, .int a2)], [], (gh_mo S, 0, 0)) (some (.long r.1), (gh_mo r.2, 0, 0)) := by
  unfold sX10_dryOf at h
  refine gh_T_steps 4 (τ := (6, [(0, .ref 56), (1, .int a1), (2, .int a2)], [.int a1, .ref 59, .int a2], (gh_mo S, 0, 0))) (fun _ => rfl) ?_
  obtain ⟨x1, hx1, h⟩ := gh_bi h
  refine gh_T_ra rfl rfl hx1 ?_
  cases c6 : gh_cmp .ne a2 x1 with
  | true =>
    rw [c6, cond_true] at h
    refine gh_T_ic true rfl c6 ?_
    refine gh_T_steps 3 (τ := (24, [(0, .ref 56), (1, .int a1), (2, .int a2)], [.int a1, .ref 60], (gh_mo S, 0, 0))) (fun _ => rfl) ?_
    obtain ⟨x2, hx2, h⟩ := gh_bi h
    refine gh_T_rj rfl rfl hx2 ?_
    refine gh_T_steps 6 (τ := (33, [(0, .ref 56), (1, .int a1), (2, .int a2)], [.int a1, .ref 59, .long (x2 * ((a2 : Int32).toInt64))], (gh_mo S, 0, 0))) (fun _ => rfl) ?_
    obtain ⟨x3, hx3, h⟩ := gh_bi h
    refine gh_T_ra rfl rfl hx3 ?_
    refine gh_T_steps 1 (τ := (35, [(0, .ref 56), (1, .int a1), (2, .int a2)], [.long ((x3 : Int32).toInt64), .long (x2 * ((a2 : Int32).toInt64))], (gh_mo S, 0, 0))) (fun _ => rfl) ?_
    obtain ⟨x4, hx4, h⟩ := gh_bi h
    refine gh_T_dj rfl hx4 ?_
    cases h
    exact gh_T_ret (fun _ => rfl)
  | false =>
    rw [c6, cond_false] at h
    refine gh_T_ic false rfl c6 ?_
    refine gh_T_steps 3 (τ := (15, [(0, .ref 56), (1, .int a1), (2, .int a2)], [.int a1, .ref 60], (gh_mo S, 0, 0))) (fun _ => rfl) ?_
    obtain ⟨x5, hx5, h⟩ := gh_bi h
    refine gh_T_rj rfl rfl hx5 ?_
    refine gh_T_steps 1 (τ := (36, [(0, .ref 56), (1, .int a1), (2, .int a2)], [.long x5], (gh_mo S, 0, 0))) (fun _ => rfl) ?_
    cases h
    exact gh_T_ret (fun _ => rfl)
theorem kX10_dryOf (d N : Nat) (a1 : Int32) (a2 : Int32) (S : gh_St) (r : Int64 × gh_St) (h : sX10_dryOf N a1 a2 S = some r) : gh_Mx (d + 1) 119 [.ref 56, .int a1, .int a2] (gh_mo S) (some (.long r.1)) (gh_mo r.2) :=
  gh_Mx_of rfl rfl rfl rfl rfl rfl (kX10_dryOf_e d N a1 a2 S r h)
def sX10_moistOf (N : Nat) (a0 : Int64) (a2 : Int64) (S : gh_St) : Option (Int32 × gh_St) :=
  (gh_dj a0 a2).bind fun x1 =>
  bif gh_cmp .ge (lg_cmp ((1000 : Int64) - x1) (0 : Int64)) 0 then
    (some (((1000 : Int64) - x1 : Int64).toInt32, S))
  else
    (some (0, S))
set_option maxRecDepth 100000 in
theorem kX10_moistOf_e (d N : Nat) (a0 : Int64) (a2 : Int64) (S : gh_St) (r : Int32 × gh_St) (h : sX10_moistOf N a0 a2 S = some r) : gh_T d fX10_moistOf 0 0 none false false (0, [(0, .long a0), (2, .long a2)], [], (gh_mo S, 0, 0)) (some (.int r.1), (gh_mo r.2, 0, 0)) := by
  unfold sX10_moistOf at h
  refine gh_T_steps 3 (τ := (5, [(0, .long a0), (2, .long a2)], [.long a2, .long a0, .long 1000], (gh_mo S, 0, 0))) (fun _ => rfl) ?_
  obtain ⟨x1, hx1, h⟩ := gh_bi h
  refine gh_T_dj rfl hx1 ?_
  refine gh_T_steps 5 (τ := (13, [(4, .long ((1000 : Int64) - x1)), (0, .long a0), (2, .long a2)], [.int (lg_cmp ((1000 : Int64) - x1) (0 : Int64))], (gh_mo S, 0, 0))) (fun _ => rfl) ?_
  cases c2 : gh_cmp .ge (lg_cmp ((1000 : Int64) - x1) (0 : Int64)) 0 with
  | true =>
    rw [c2, cond_true] at h
    refine gh_T_if true rfl c2 ?_
    refine gh_T_steps 2 (τ := (23, [(4, .long ((1000 : Int64) - x1)), (0, .long a0), (2, .long a2)], [.int (((1000 : Int64) - x1 : Int64).toInt32)], (gh_mo S, 0, 0))) (fun _ => rfl) ?_
    cases h
    exact gh_T_ret (fun _ => rfl)
  | false =>
    rw [c2, cond_false] at h
    refine gh_T_if false rfl c2 ?_
    refine gh_T_steps 2 (τ := (23, [(4, .long ((1000 : Int64) - x1)), (0, .long a0), (2, .long a2)], [.int 0], (gh_mo S, 0, 0))) (fun _ => rfl) ?_
    cases h
    exact gh_T_ret (fun _ => rfl)
theorem kX10_moistOf (d N : Nat) (a0 : Int64) (a2 : Int64) (S : gh_St) (r : Int32 × gh_St) (h : sX10_moistOf N a0 a2 S = some r) : gh_Mx (d + 1) 120 [.long a0, .long a2] (gh_mo S) (some (.int r.1)) (gh_mo r.2) :=
  gh_Mx_of rfl rfl rfl rfl rfl rfl (kX10_moistOf_e d N a0 a2 S r h)
def sX10_load (N : Nat) (a1 : Int32) (a2 : Int32) (a3 : Int32) (a4 : Int32) (a5 : Int32) (S : gh_St) : Option (Int32 × gh_St) :=
  (sX10_in N ((a1 : Int32).toInt64) 0 9 S).bind fun q1 =>
  bif gh_cmp .eq q1.1 0 then
    (some ((-1), q1.2))
  else
    ((sX10_isKind N a2 q1.2).bind fun q2 =>
    bif gh_cmp .eq q2.1 0 then
      (some ((-1), q2.2))
    else
      ((sX10_in N ((a3 : Int32).toInt64) 1 40000 q2.2).bind fun q3 =>
      bif gh_cmp .eq q3.1 0 then
        (some ((-1), q3.2))
      else
        ((sX10_in N ((a4 : Int32).toInt64) 0 400 q3.2).bind fun q4 =>
        bif gh_cmp .eq q4.1 0 then
          (some ((-1), q4.2))
        else
          ((sX10_isBin N a5 q4.2).bind fun q5 =>
          bif gh_cmp .eq q5.1 0 then
            (some ((-1), q5.2))
          else
            (bif gh_cmp .eq (q5.2.1 56 4) 100 then
              (some ((-1), q5.2))
            else
              ((sX10_canPut N a5 a2 a3 q5.2).bind fun q6 =>
              bif gh_cmp .ne q6.1 0 then
                ((gh_wa q6.2 61 100 (q6.2.1 56 4) a1).bind fun S7 =>
                (gh_wa S7 62 100 (S7.1 56 4) a2).bind fun S8 =>
                (gh_wa S8 63 100 (S8.1 56 4) a4).bind fun S9 =>
                (gh_wj S9 64 100 (S9.1 56 4) (((a3 : Int32).toInt64) * (((1000 : Int32) - a4 : Int32).toInt64))).bind fun S10 =>
                (sX10_puts N a5 a2 a3 (((a3 : Int32).toInt64) * (((1000 : Int32) - a4 : Int32).toInt64)) (gh_fI S10 56 4 ((S10.1 56 4) + (1 : Int32)))).bind fun q11 =>
                some ((q11.1 56 4) - (1 : Int32), q11))
              else
                (some ((-1), q6.2))))))))
set_option maxRecDepth 100000 in
theorem kX10_load_e (d N : Nat) (a1 : Int32) (a2 : Int32) (a3 : Int32) (a4 : Int32) (a5 : Int32) (S : gh_St) (r : Int32 × gh_St) (h : sX10_load N a1 a2 a3 a4 a5 S = some r) : gh_T (d + 2) fX10_load 0 0 none false false (0, [(0, .ref 56), (1, .int a1), (2, .int a2), (3, .int a3), (4, .int a4), (5, .int a5)], [], (gh_mo S, 0, 0)) (some (.int r.1), (gh_mo r.2, 0, 0)) := by
  unfold sX10_load at h
  refine gh_T_steps 4 (τ := (6, [(0, .ref 56), (1, .int a1), (2, .int a2), (3, .int a3), (4, .int a4), (5, .int a5)], [.long 9, .long 0, .long ((a1 : Int32).toInt64)], (gh_mo S, 0, 0))) (fun _ => rfl) ?_
  obtain ⟨q1, hq1, h⟩ := gh_bi h
  refine gh_T_is (As := [.long ((a1 : Int32).toInt64), .long 0, .long 9]) (rest := []) (y := some (.int q1.1)) (M' := gh_mo q1.2) rfl rfl rfl rfl rfl rfl rfl ⟨Nat.le_refl _, Nat.le_refl _⟩ (kX10_in (d + 1) N ((a1 : Int32).toInt64) 0 9 S q1 hq1) ?_
  cases c18 : gh_cmp .eq q1.1 0 with
  | true =>
    rw [c18, cond_true] at h
    refine gh_T_if true rfl c18 ?_
    refine gh_T_steps 1 (τ := (73, [(0, .ref 56), (1, .int a1), (2, .int a2), (3, .int a3), (4, .int a4), (5, .int a5)], [.int ((-1))], (gh_mo q1.2, 0, 0))) (fun _ => rfl) ?_
    cases h
    exact gh_T_ret (fun _ => rfl)
  | false =>
    rw [c18, cond_false] at h
    refine gh_T_if false rfl c18 ?_
    refine gh_T_steps 1 (τ := (13, [(0, .ref 56), (1, .int a1), (2, .int a2), (3, .int a3), (4, .int a4), (5, .int a5)], [.int a2], (gh_mo q1.2, 0, 0))) (fun _ => rfl) ?_
    obtain ⟨q2, hq2, h⟩ := gh_bi h
    refine gh_T_is (As := [.int a2]) (rest := []) (y := some (.int q2.1)) (M' := gh_mo q2.2) rfl rfl rfl rfl rfl rfl rfl ⟨Nat.le_refl _, Nat.le_refl _⟩ (kX10_isKind d N a2 q1.2 q2 hq2) ?_
    cases c17 : gh_cmp .eq q2.1 0 with
    | true =>
      rw [c17, cond_true] at h
      refine gh_T_if true rfl c17 ?_
      refine gh_T_steps 1 (τ := (73, [(0, .ref 56), (1, .int a1), (2, .int a2), (3, .int a3), (4, .int a4), (5, .int a5)], [.int ((-1))], (gh_mo q2.2, 0, 0))) (fun _ => rfl) ?_
      cases h
      exact gh_T_ret (fun _ => rfl)
    | false =>
      rw [c17, cond_false] at h
      refine gh_T_if false rfl c17 ?_
      refine gh_T_steps 4 (τ := (25, [(0, .ref 56), (1, .int a1), (2, .int a2), (3, .int a3), (4, .int a4), (5, .int a5)], [.long 40000, .long 1, .long ((a3 : Int32).toInt64)], (gh_mo q2.2, 0, 0))) (fun _ => rfl) ?_
      obtain ⟨q3, hq3, h⟩ := gh_bi h
      refine gh_T_is (As := [.long ((a3 : Int32).toInt64), .long 1, .long 40000]) (rest := []) (y := some (.int q3.1)) (M' := gh_mo q3.2) rfl rfl rfl rfl rfl rfl rfl ⟨Nat.le_refl _, Nat.le_refl _⟩ (kX10_in (d + 1) N ((a3 : Int32).toInt64) 1 40000 q2.2 q3 hq3) ?_
      cases c16 : gh_cmp .eq q3.1 0 with
      | true =>
        rw [c16, cond_true] at h
        refine gh_T_if true rfl c16 ?_
        refine gh_T_steps 1 (τ := (73, [(0, .ref 56), (1, .int a1), (2, .int a2), (3, .int a3), (4, .int a4), (5, .int a5)], [.int ((-1))], (gh_mo q3.2, 0, 0))) (fun _ => rfl) ?_
        cases h
        exact gh_T_ret (fun _ => rfl)
      | false =>
        rw [c16, cond_false] at h
        refine gh_T_if false rfl c16 ?_
        refine gh_T_steps 4 (τ := (38, [(0, .ref 56), (1, .int a1), (2, .int a2), (3, .int a3), (4, .int a4), (5, .int a5)], [.long 400, .long 0, .long ((a4 : Int32).toInt64)], (gh_mo q3.2, 0, 0))) (fun _ => rfl) ?_
        obtain ⟨q4, hq4, h⟩ := gh_bi h
        refine gh_T_is (As := [.long ((a4 : Int32).toInt64), .long 0, .long 400]) (rest := []) (y := some (.int q4.1)) (M' := gh_mo q4.2) rfl rfl rfl rfl rfl rfl rfl ⟨Nat.le_refl _, Nat.le_refl _⟩ (kX10_in (d + 1) N ((a4 : Int32).toInt64) 0 400 q3.2 q4 hq4) ?_
        cases c15 : gh_cmp .eq q4.1 0 with
        | true =>
          rw [c15, cond_true] at h
          refine gh_T_if true rfl c15 ?_
          refine gh_T_steps 1 (τ := (73, [(0, .ref 56), (1, .int a1), (2, .int a2), (3, .int a3), (4, .int a4), (5, .int a5)], [.int ((-1))], (gh_mo q4.2, 0, 0))) (fun _ => rfl) ?_
          cases h
          exact gh_T_ret (fun _ => rfl)
        | false =>
          rw [c15, cond_false] at h
          refine gh_T_if false rfl c15 ?_
          refine gh_T_steps 1 (τ := (46, [(0, .ref 56), (1, .int a1), (2, .int a2), (3, .int a3), (4, .int a4), (5, .int a5)], [.int a5], (gh_mo q4.2, 0, 0))) (fun _ => rfl) ?_
          obtain ⟨q5, hq5, h⟩ := gh_bi h
          refine gh_T_is (As := [.int a5]) (rest := []) (y := some (.int q5.1)) (M' := gh_mo q5.2) rfl rfl rfl rfl rfl rfl rfl ⟨Nat.le_refl _, Nat.le_refl _⟩ (kX10_isBin d N a5 q4.2 q5 hq5) ?_
          cases c14 : gh_cmp .eq q5.1 0 with
          | true =>
            rw [c14, cond_true] at h
            refine gh_T_if true rfl c14 ?_
            refine gh_T_steps 1 (τ := (73, [(0, .ref 56), (1, .int a1), (2, .int a2), (3, .int a3), (4, .int a4), (5, .int a5)], [.int ((-1))], (gh_mo q5.2, 0, 0))) (fun _ => rfl) ?_
            cases h
            exact gh_T_ret (fun _ => rfl)
          | false =>
            rw [c14, cond_false] at h
            refine gh_T_if false rfl c14 ?_
            refine gh_T_steps 3 (τ := (58, [(0, .ref 56), (1, .int a1), (2, .int a2), (3, .int a3), (4, .int a4), (5, .int a5)], [.int 100, .int (q5.2.1 56 4)], (gh_mo q5.2, 0, 0))) (fun _ => rfl) ?_
            cases c13 : gh_cmp .eq (q5.2.1 56 4) 100 with
            | true =>
              rw [c13, cond_true] at h
              refine gh_T_ic true rfl c13 ?_
              refine gh_T_steps 1 (τ := (73, [(0, .ref 56), (1, .int a1), (2, .int a2), (3, .int a3), (4, .int a4), (5, .int a5)], [.int ((-1))], (gh_mo q5.2, 0, 0))) (fun _ => rfl) ?_
              cases h
              exact gh_T_ret (fun _ => rfl)
            | false =>
              rw [c13, cond_false] at h
              refine gh_T_ic false rfl c13 ?_
              refine gh_T_steps 4 (τ := (66, [(0, .ref 56), (1, .int a1), (2, .int a2), (3, .int a3), (4, .int a4), (5, .int a5)], [.int a3, .int a2, .int a5, .ref 56], (gh_mo q5.2, 0, 0))) (fun _ => rfl) ?_
              obtain ⟨q6, hq6, h⟩ := gh_bi h
              refine gh_T_iv (As := [.int a5, .int a2, .int a3]) (b := 56) (rest := []) (y := some (.int q6.1)) (M' := gh_mo q6.2) rfl rfl rfl rfl rfl rfl rfl rfl rfl ⟨Nat.le_refl _, Nat.le_refl _⟩ (kX10_canPut (d + 1) N a5 a2 a3 q5.2 q6 hq6) ?_
              cases c12 : gh_cmp .ne q6.1 0 with
              | true =>
                rw [c12, cond_true] at h
                refine gh_T_if true rfl c12 ?_
                refine gh_T_steps 13 (τ := (95, [(6, .long (((a3 : Int32).toInt64) * (((1000 : Int32) - a4 : Int32).toInt64))), (0, .ref 56), (1, .int a1), (2, .int a2), (3, .int a3), (4, .int a4), (5, .int a5)], [.int a1, .int (q6.2.1 56 4), .ref 61], (gh_mo q6.2, 0, 0))) (fun _ => rfl) ?_
                obtain ⟨S7, hS7, h⟩ := gh_bi h
                refine gh_T_wa rfl rfl hS7 ?_
                refine gh_T_steps 5 (τ := (105, [(6, .long (((a3 : Int32).toInt64) * (((1000 : Int32) - a4 : Int32).toInt64))), (0, .ref 56), (1, .int a1), (2, .int a2), (3, .int a3), (4, .int a4), (5, .int a5)], [.int a2, .int (S7.1 56 4), .ref 62], (gh_mo S7, 0, 0))) (fun _ => rfl) ?_
                obtain ⟨S8, hS8, h⟩ := gh_bi h
                refine gh_T_wa rfl rfl hS8 ?_
                refine gh_T_steps 5 (τ := (116, [(6, .long (((a3 : Int32).toInt64) * (((1000 : Int32) - a4 : Int32).toInt64))), (0, .ref 56), (1, .int a1), (2, .int a2), (3, .int a3), (4, .int a4), (5, .int a5)], [.int a4, .int (S8.1 56 4), .ref 63], (gh_mo S8, 0, 0))) (fun _ => rfl) ?_
                obtain ⟨S9, hS9, h⟩ := gh_bi h
                refine gh_T_wa rfl rfl hS9 ?_
                refine gh_T_steps 5 (τ := (127, [(6, .long (((a3 : Int32).toInt64) * (((1000 : Int32) - a4 : Int32).toInt64))), (0, .ref 56), (1, .int a1), (2, .int a2), (3, .int a3), (4, .int a4), (5, .int a5)], [.long (((a3 : Int32).toInt64) * (((1000 : Int32) - a4 : Int32).toInt64)), .int (S9.1 56 4), .ref 64], (gh_mo S9, 0, 0))) (fun _ => rfl) ?_
                obtain ⟨S10, hS10, h⟩ := gh_bi h
                refine gh_T_wj rfl rfl hS10 ?_
                refine gh_T_steps 11 (τ := (145, [(6, .long (((a3 : Int32).toInt64) * (((1000 : Int32) - a4 : Int32).toInt64))), (0, .ref 56), (1, .int a1), (2, .int a2), (3, .int a3), (4, .int a4), (5, .int a5)], [.long (((a3 : Int32).toInt64) * (((1000 : Int32) - a4 : Int32).toInt64)), .int a3, .int a2, .int a5, .ref 56], (gh_mo (gh_fI S10 56 4 ((S10.1 56 4) + (1 : Int32))), 0, 0))) (fun _ => rfl) ?_
                obtain ⟨q11, hq11, h⟩ := gh_bi h
                refine gh_T_iv (As := [.int a5, .int a2, .int a3, .long (((a3 : Int32).toInt64) * (((1000 : Int32) - a4 : Int32).toInt64))]) (b := 56) (rest := []) (y := none) (M' := gh_mo q11) rfl rfl rfl rfl rfl rfl rfl rfl rfl ⟨Nat.le_refl _, Nat.le_refl _⟩ (kX10_puts (d + 1) N a5 a2 a3 (((a3 : Int32).toInt64) * (((1000 : Int32) - a4 : Int32).toInt64)) (gh_fI S10 56 4 ((S10.1 56 4) + (1 : Int32))) q11 hq11) ?_
                refine gh_T_steps 4 (τ := (154, [(6, .long (((a3 : Int32).toInt64) * (((1000 : Int32) - a4 : Int32).toInt64))), (0, .ref 56), (1, .int a1), (2, .int a2), (3, .int a3), (4, .int a4), (5, .int a5)], [.int ((q11.1 56 4) - (1 : Int32))], (gh_mo q11, 0, 0))) (fun _ => rfl) ?_
                cases h
                exact gh_T_ret (fun _ => rfl)
              | false =>
                rw [c12, cond_false] at h
                refine gh_T_if false rfl c12 ?_
                refine gh_T_steps 1 (τ := (73, [(0, .ref 56), (1, .int a1), (2, .int a2), (3, .int a3), (4, .int a4), (5, .int a5)], [.int ((-1))], (gh_mo q6.2, 0, 0))) (fun _ => rfl) ?_
                cases h
                exact gh_T_ret (fun _ => rfl)
theorem kX10_load (d N : Nat) (a1 : Int32) (a2 : Int32) (a3 : Int32) (a4 : Int32) (a5 : Int32) (S : gh_St) (r : Int32 × gh_St) (h : sX10_load N a1 a2 a3 a4 a5 S = some r) : gh_Mx (d + 3) 121 [.ref 56, .int a1, .int a2, .int a3, .int a4, .int a5] (gh_mo S) (some (.int r.1)) (gh_mo r.2) :=
  gh_Mx_of rfl rfl rfl rfl rfl rfl (kX10_load_e d N a1 a2 a3 a4 a5 S r h)
def sX10_leg (N : Nat) (a1 : Int32) (a2 : Int32) (a3 : Int32) (S : gh_St) : Option (Int32 × gh_St) :=
  (sX10_in N ((a1 : Int32).toInt64) 0 11 S).bind fun q1 =>
  bif gh_cmp .eq q1.1 0 then
    (some ((-1), q1.2))
  else
    ((sX10_in N ((a2 : Int32).toInt64) 0 11 q1.2).bind fun q2 =>
    bif gh_cmp .eq q2.1 0 then
      (some ((-1), q2.2))
    else
      (bif gh_cmp .eq a1 a2 then
        (some ((-1), q2.2))
      else
        ((sX10_in N ((a3 : Int32).toInt64) 1 60 q2.2).bind fun q3 =>
        bif gh_cmp .eq q3.1 0 then
          (some ((-1), q3.2))
        else
          (bif gh_cmp .ne (q3.2.1 56 9) 20 then
            ((gh_wa q3.2 65 20 (q3.2.1 56 9) a1).bind fun S4 =>
            (gh_wa S4 66 20 (S4.1 56 9) a2).bind fun S5 =>
            (gh_wa S5 67 20 (S5.1 56 9) a3).bind fun S6 =>
            (gh_wa S6 68 20 (S6.1 56 9) ((-1))).bind fun S7 =>
            some (((gh_fI S7 56 9 ((S7.1 56 9) + (1 : Int32))).1 56 9) - (1 : Int32), gh_fI S7 56 9 ((S7.1 56 9) + (1 : Int32))))
          else
            (some ((-1), q3.2))))))
set_option maxRecDepth 100000 in
theorem kX10_leg_e (d N : Nat) (a1 : Int32) (a2 : Int32) (a3 : Int32) (S : gh_St) (r : Int32 × gh_St) (h : sX10_leg N a1 a2 a3 S = some r) : gh_T (d + 1) fX10_leg 0 0 none false false (0, [(0, .ref 56), (1, .int a1), (2, .int a2), (3, .int a3)], [], (gh_mo S, 0, 0)) (some (.int r.1), (gh_mo r.2, 0, 0)) := by
  unfold sX10_leg at h
  refine gh_T_steps 4 (τ := (6, [(0, .ref 56), (1, .int a1), (2, .int a2), (3, .int a3)], [.long 11, .long 0, .long ((a1 : Int32).toInt64)], (gh_mo S, 0, 0))) (fun _ => rfl) ?_
  obtain ⟨q1, hq1, h⟩ := gh_bi h
  refine gh_T_is (As := [.long ((a1 : Int32).toInt64), .long 0, .long 11]) (rest := []) (y := some (.int q1.1)) (M' := gh_mo q1.2) rfl rfl rfl rfl rfl rfl rfl ⟨Nat.le_refl _, Nat.le_refl _⟩ (kX10_in d N ((a1 : Int32).toInt64) 0 11 S q1 hq1) ?_
  cases c12 : gh_cmp .eq q1.1 0 with
  | true =>
    rw [c12, cond_true] at h
    refine gh_T_if true rfl c12 ?_
    refine gh_T_steps 1 (τ := (51, [(0, .ref 56), (1, .int a1), (2, .int a2), (3, .int a3)], [.int ((-1))], (gh_mo q1.2, 0, 0))) (fun _ => rfl) ?_
    cases h
    exact gh_T_ret (fun _ => rfl)
  | false =>
    rw [c12, cond_false] at h
    refine gh_T_if false rfl c12 ?_
    refine gh_T_steps 4 (τ := (18, [(0, .ref 56), (1, .int a1), (2, .int a2), (3, .int a3)], [.long 11, .long 0, .long ((a2 : Int32).toInt64)], (gh_mo q1.2, 0, 0))) (fun _ => rfl) ?_
    obtain ⟨q2, hq2, h⟩ := gh_bi h
    refine gh_T_is (As := [.long ((a2 : Int32).toInt64), .long 0, .long 11]) (rest := []) (y := some (.int q2.1)) (M' := gh_mo q2.2) rfl rfl rfl rfl rfl rfl rfl ⟨Nat.le_refl _, Nat.le_refl _⟩ (kX10_in d N ((a2 : Int32).toInt64) 0 11 q1.2 q2 hq2) ?_
    cases c11 : gh_cmp .eq q2.1 0 with
    | true =>
      rw [c11, cond_true] at h
      refine gh_T_if true rfl c11 ?_
      refine gh_T_steps 1 (τ := (51, [(0, .ref 56), (1, .int a1), (2, .int a2), (3, .int a3)], [.int ((-1))], (gh_mo q2.2, 0, 0))) (fun _ => rfl) ?_
      cases h
      exact gh_T_ret (fun _ => rfl)
    | false =>
      rw [c11, cond_false] at h
      refine gh_T_if false rfl c11 ?_
      refine gh_T_steps 2 (τ := (26, [(0, .ref 56), (1, .int a1), (2, .int a2), (3, .int a3)], [.int a2, .int a1], (gh_mo q2.2, 0, 0))) (fun _ => rfl) ?_
      cases c10 : gh_cmp .eq a1 a2 with
      | true =>
        rw [c10, cond_true] at h
        refine gh_T_ic true rfl c10 ?_
        refine gh_T_steps 1 (τ := (51, [(0, .ref 56), (1, .int a1), (2, .int a2), (3, .int a3)], [.int ((-1))], (gh_mo q2.2, 0, 0))) (fun _ => rfl) ?_
        cases h
        exact gh_T_ret (fun _ => rfl)
      | false =>
        rw [c10, cond_false] at h
        refine gh_T_ic false rfl c10 ?_
        refine gh_T_steps 4 (τ := (35, [(0, .ref 56), (1, .int a1), (2, .int a2), (3, .int a3)], [.long 60, .long 1, .long ((a3 : Int32).toInt64)], (gh_mo q2.2, 0, 0))) (fun _ => rfl) ?_
        obtain ⟨q3, hq3, h⟩ := gh_bi h
        refine gh_T_is (As := [.long ((a3 : Int32).toInt64), .long 1, .long 60]) (rest := []) (y := some (.int q3.1)) (M' := gh_mo q3.2) rfl rfl rfl rfl rfl rfl rfl ⟨Nat.le_refl _, Nat.le_refl _⟩ (kX10_in d N ((a3 : Int32).toInt64) 1 60 q2.2 q3 hq3) ?_
        cases c9 : gh_cmp .eq q3.1 0 with
        | true =>
          rw [c9, cond_true] at h
          refine gh_T_if true rfl c9 ?_
          refine gh_T_steps 1 (τ := (51, [(0, .ref 56), (1, .int a1), (2, .int a2), (3, .int a3)], [.int ((-1))], (gh_mo q3.2, 0, 0))) (fun _ => rfl) ?_
          cases h
          exact gh_T_ret (fun _ => rfl)
        | false =>
          rw [c9, cond_false] at h
          refine gh_T_if false rfl c9 ?_
          refine gh_T_steps 3 (τ := (47, [(0, .ref 56), (1, .int a1), (2, .int a2), (3, .int a3)], [.int 20, .int (q3.2.1 56 9)], (gh_mo q3.2, 0, 0))) (fun _ => rfl) ?_
          cases c8 : gh_cmp .ne (q3.2.1 56 9) 20 with
          | true =>
            rw [c8, cond_true] at h
            refine gh_T_ic true rfl c8 ?_
            refine gh_T_steps 5 (τ := (61, [(0, .ref 56), (1, .int a1), (2, .int a2), (3, .int a3)], [.int a1, .int (q3.2.1 56 9), .ref 65], (gh_mo q3.2, 0, 0))) (fun _ => rfl) ?_
            obtain ⟨S4, hS4, h⟩ := gh_bi h
            refine gh_T_wa rfl rfl hS4 ?_
            refine gh_T_steps 5 (τ := (71, [(0, .ref 56), (1, .int a1), (2, .int a2), (3, .int a3)], [.int a2, .int (S4.1 56 9), .ref 66], (gh_mo S4, 0, 0))) (fun _ => rfl) ?_
            obtain ⟨S5, hS5, h⟩ := gh_bi h
            refine gh_T_wa rfl rfl hS5 ?_
            refine gh_T_steps 5 (τ := (81, [(0, .ref 56), (1, .int a1), (2, .int a2), (3, .int a3)], [.int a3, .int (S5.1 56 9), .ref 67], (gh_mo S5, 0, 0))) (fun _ => rfl) ?_
            obtain ⟨S6, hS6, h⟩ := gh_bi h
            refine gh_T_wa rfl rfl hS6 ?_
            refine gh_T_steps 5 (τ := (91, [(0, .ref 56), (1, .int a1), (2, .int a2), (3, .int a3)], [.int ((-1)), .int (S6.1 56 9), .ref 68], (gh_mo S6, 0, 0))) (fun _ => rfl) ?_
            obtain ⟨S7, hS7, h⟩ := gh_bi h
            refine gh_T_wa rfl rfl hS7 ?_
            refine gh_T_steps 10 (τ := (108, [(0, .ref 56), (1, .int a1), (2, .int a2), (3, .int a3)], [.int (((gh_fI S7 56 9 ((S7.1 56 9) + (1 : Int32))).1 56 9) - (1 : Int32))], (gh_mo (gh_fI S7 56 9 ((S7.1 56 9) + (1 : Int32))), 0, 0))) (fun _ => rfl) ?_
            cases h
            exact gh_T_ret (fun _ => rfl)
          | false =>
            rw [c8, cond_false] at h
            refine gh_T_ic false rfl c8 ?_
            refine gh_T_steps 1 (τ := (51, [(0, .ref 56), (1, .int a1), (2, .int a2), (3, .int a3)], [.int ((-1))], (gh_mo q3.2, 0, 0))) (fun _ => rfl) ?_
            cases h
            exact gh_T_ret (fun _ => rfl)
theorem kX10_leg (d N : Nat) (a1 : Int32) (a2 : Int32) (a3 : Int32) (S : gh_St) (r : Int32 × gh_St) (h : sX10_leg N a1 a2 a3 S = some r) : gh_Mx (d + 2) 122 [.ref 56, .int a1, .int a2, .int a3] (gh_mo S) (some (.int r.1)) (gh_mo r.2) :=
  gh_Mx_of rfl rfl rfl rfl rfl rfl (kX10_leg_e d N a1 a2 a3 S r h)
def sX10_cleaning (N : Nat) (a1 : Int32) (S : gh_St) : Option (Int32 × gh_St) :=
  (sX10_in N ((a1 : Int32).toInt64) 0 99 S).bind fun q1 =>
  bif gh_cmp .ne q1.1 0 then
    (some (1, gh_fI q1.2 56 14 a1))
  else
    (some (0, q1.2))
set_option maxRecDepth 100000 in
theorem kX10_cleaning_e (d N : Nat) (a1 : Int32) (S : gh_St) (r : Int32 × gh_St) (h : sX10_cleaning N a1 S = some r) : gh_T (d + 1) fX10_cleaning 0 0 none true false (0, [(0, .ref 56), (1, .int a1)], [], (gh_mo S, 0, 0)) (some (.int r.1), (gh_mo r.2, 0, 0)) := by
  unfold sX10_cleaning at h
  refine gh_T_steps 4 (τ := (6, [(0, .ref 56), (1, .int a1)], [.long 99, .long 0, .long ((a1 : Int32).toInt64)], (gh_mo S, 0, 0))) (fun _ => rfl) ?_
  obtain ⟨q1, hq1, h⟩ := gh_bi h
  refine gh_T_is (As := [.long ((a1 : Int32).toInt64), .long 0, .long 99]) (rest := []) (y := some (.int q1.1)) (M' := gh_mo q1.2) rfl rfl rfl rfl rfl rfl rfl ⟨Nat.le_refl _, Nat.le_refl _⟩ (kX10_in d N ((a1 : Int32).toInt64) 0 99 S q1 hq1) ?_
  cases c2 : gh_cmp .ne q1.1 0 with
  | true =>
    rw [c2, cond_true] at h
    refine gh_T_if true rfl c2 ?_
    refine gh_T_steps 4 (τ := (20, [(0, .ref 56), (1, .int a1)], [.int 1], (gh_mo (gh_fI q1.2 56 14 a1), 0, 0))) (fun _ => rfl) ?_
    cases h
    exact gh_T_ret (fun _ => rfl)
  | false =>
    rw [c2, cond_false] at h
    refine gh_T_if false rfl c2 ?_
    refine gh_T_steps 1 (τ := (13, [(0, .ref 56), (1, .int a1)], [.int 0], (gh_mo q1.2, 0, 0))) (fun _ => rfl) ?_
    cases h
    exact gh_T_ret (fun _ => rfl)
theorem kX10_cleaning (d N : Nat) (a1 : Int32) (S : gh_St) (r : Int32 × gh_St) (h : sX10_cleaning N a1 S = some r) : gh_Mx (d + 2) 123 [.ref 56, .int a1] (gh_mo S) (some (.int r.1)) (gh_mo r.2) :=
  gh_Mx_of rfl rfl rfl rfl rfl rfl (kX10_cleaning_e d N a1 S r h)
def sX10_legCost_35 (N : Nat) (t0 : Int32) (t1 : Int32) (t2 : Int32) (S : gh_St) : Option (Int32 × gh_St) :=
  some ((t2 * (t1 + t0)) + (1 : Int32), S)
set_option maxRecDepth 100000 in
theorem kX10_legCost_35 (d N : Nat) (t0 : Int32) (t1 : Int32) (t2 : Int32) (S : gh_St) (r : Int32 × gh_St) (h : sX10_legCost_35 N t0 t1 t2 S = some r) : gh_T d fX10_legCost 0 0 none false false (35, [], [.int t0, .int t1, .int t2], (gh_mo S, 0, 0)) (some (.int r.1), (gh_mo r.2, 0, 0)) := by
  unfold sX10_legCost_35 at h
  refine gh_T_steps 4 (τ := (39, [], [.int ((t2 * (t1 + t0)) + (1 : Int32))], (gh_mo S, 0, 0))) (fun _ => rfl) ?_
  cases h
  exact gh_T_ret (fun _ => rfl)
def sX10_legCost_34 (N : Nat) (t0 : Int32) (t1 : Int32) (S : gh_St) : Option (Int32 × gh_St) :=
  sX10_legCost_35 N 0 t0 t1 S
set_option maxRecDepth 100000 in
theorem kX10_legCost_34 (d N : Nat) (t0 : Int32) (t1 : Int32) (S : gh_St) (r : Int32 × gh_St) (h : sX10_legCost_34 N t0 t1 S = some r) : gh_T d fX10_legCost 0 0 none false false (34, [], [.int t0, .int t1], (gh_mo S, 0, 0)) (some (.int r.1), (gh_mo r.2, 0, 0)) := by
  unfold sX10_legCost_34 at h
  refine gh_T_steps 1 (τ := (35, [], [.int 0, .int t0, .int t1], (gh_mo S, 0, 0))) (fun _ => rfl) ?_
  exact kX10_legCost_35 d N 0 t0 t1 S _ h
def sX10_legCost (N : Nat) (a1 : Int32) (a2 : Int32) (S : gh_St) : Option (Int32 × gh_St) :=
  (gh_ra S 67 20 a1).bind fun x1 =>
  (gh_ra S 68 20 a1).bind fun x2 =>
  bif gh_cmp .lt x2 0 then
    (sX10_legCost_34 N x1 100 S)
  else
    ((gh_ra S 68 20 a1).bind fun x3 =>
    bif gh_cmp .eq x3 a2 then
      (sX10_legCost_34 N x1 100 S)
    else
      (sX10_legCost_35 N (S.1 56 14) x1 100 S))
set_option maxRecDepth 100000 in
theorem kX10_legCost_e (d N : Nat) (a1 : Int32) (a2 : Int32) (S : gh_St) (r : Int32 × gh_St) (h : sX10_legCost N a1 a2 S = some r) : gh_T d fX10_legCost 0 0 none false false (0, [(0, .ref 56), (1, .int a1), (2, .int a2)], [], (gh_mo S, 0, 0)) (some (.int r.1), (gh_mo r.2, 0, 0)) := by
  unfold sX10_legCost at h
  refine gh_T_steps 4 (τ := (7, [(0, .ref 56), (1, .int a1), (2, .int a2)], [.int a1, .ref 67, .int 100], (gh_mo S, 0, 0))) (fun _ => rfl) ?_
  obtain ⟨x1, hx1, h⟩ := gh_bi h
  refine gh_T_ra rfl rfl hx1 ?_
  refine gh_T_steps 3 (τ := (13, [(0, .ref 56), (1, .int a1), (2, .int a2)], [.int a1, .ref 68, .int x1, .int 100], (gh_mo S, 0, 0))) (fun _ => rfl) ?_
  obtain ⟨x2, hx2, h⟩ := gh_bi h
  refine gh_T_ra rfl rfl hx2 ?_
  cases c5 : gh_cmp .lt x2 0 with
  | true =>
    rw [c5, cond_true] at h
    refine gh_T_if true rfl c5 ?_
    refine gh_T_weak (lv := []) trivial ?_
    exact kX10_legCost_34 d N x1 100 S _ h
  | false =>
    rw [c5, cond_false] at h
    refine gh_T_if false rfl c5 ?_
    refine gh_T_steps 3 (τ := (22, [(0, .ref 56), (1, .int a1), (2, .int a2)], [.int a1, .ref 68, .int x1, .int 100], (gh_mo S, 0, 0))) (fun _ => rfl) ?_
    obtain ⟨x3, hx3, h⟩ := gh_bi h
    refine gh_T_ra rfl rfl hx3 ?_
    refine gh_T_steps 1 (τ := (24, [(0, .ref 56), (1, .int a1), (2, .int a2)], [.int a2, .int x3, .int x1, .int 100], (gh_mo S, 0, 0))) (fun _ => rfl) ?_
    cases c4 : gh_cmp .eq x3 a2 with
    | true =>
      rw [c4, cond_true] at h
      refine gh_T_ic true rfl c4 ?_
      refine gh_T_weak (lv := []) trivial ?_
      exact kX10_legCost_34 d N x1 100 S _ h
    | false =>
      rw [c4, cond_false] at h
      refine gh_T_ic false rfl c4 ?_
      refine gh_T_steps 3 (τ := (35, [(0, .ref 56), (1, .int a1), (2, .int a2)], [.int (S.1 56 14), .int x1, .int 100], (gh_mo S, 0, 0))) (fun _ => rfl) ?_
      refine gh_T_weak (lv := []) trivial ?_
      exact kX10_legCost_35 d N (S.1 56 14) x1 100 S _ h
theorem kX10_legCost (d N : Nat) (a1 : Int32) (a2 : Int32) (S : gh_St) (r : Int32 × gh_St) (h : sX10_legCost N a1 a2 S = some r) : gh_Mx (d + 1) 124 [.ref 56, .int a1, .int a2] (gh_mo S) (some (.int r.1)) (gh_mo r.2) :=
  gh_Mx_of rfl rfl rfl rfl rfl rfl (kX10_legCost_e d N a1 a2 S r h)
def sX10_lessens_12 (N : Nat) (l1 : Int32) (l2 : Int32) (l3 : Int32) (l4 : Int32) (S : gh_St) : Option (Int32 × gh_St) :=
  (gh_ra S 83 12 l2).bind fun x1 =>
  (sX10_legCost N l3 l4 S).bind fun q2 =>
  (gh_ra q2.2 83 12 l1).bind fun x3 =>
  bif gh_cmp .lt (x1 + q2.1) x3 then
    ((gh_ra q2.2 83 12 l2).bind fun x4 =>
    (sX10_legCost N l3 l4 q2.2).bind fun q5 =>
    (gh_wa q5.2 83 12 l1 (x4 + q5.1)).bind fun S6 =>
    some (1, S6))
  else
    (some (0, q2.2))
set_option maxRecDepth 100000 in
theorem kX10_lessens_12 (d N : Nat) (l1 : Int32) (l2 : Int32) (l3 : Int32) (l4 : Int32) (S : gh_St) (r : Int32 × gh_St) (h : sX10_lessens_12 N l1 l2 l3 l4 S = some r) : gh_T (d + 1) fX10_lessens 0 0 none true false (12, [(0, .ref 56), (1, .int l1), (2, .int l2), (3, .int l3), (4, .int l4)], [], (gh_mo S, 0, 0)) (some (.int r.1), (gh_mo r.2, 0, 0)) := by
  unfold sX10_lessens_12 at h
  refine gh_T_steps 3 (τ := (17, [(0, .ref 56), (1, .int l1), (2, .int l2), (3, .int l3), (4, .int l4)], [.int l2, .ref 83], (gh_mo S, 0, 0))) (fun _ => rfl) ?_
  obtain ⟨x1, hx1, h⟩ := gh_bi h
  refine gh_T_ra rfl rfl hx1 ?_
  refine gh_T_steps 3 (τ := (22, [(0, .ref 56), (1, .int l1), (2, .int l2), (3, .int l3), (4, .int l4)], [.int l4, .int l3, .ref 56, .int x1], (gh_mo S, 0, 0))) (fun _ => rfl) ?_
  obtain ⟨q2, hq2, h⟩ := gh_bi h
  refine gh_T_iv (As := [.int l3, .int l4]) (b := 56) (rest := [.int x1]) (y := some (.int q2.1)) (M' := gh_mo q2.2) rfl rfl rfl rfl rfl rfl rfl rfl rfl ⟨Nat.le_refl _, Nat.le_refl _⟩ (kX10_legCost d N l3 l4 S q2 hq2) ?_
  refine gh_T_steps 4 (τ := (31, [(0, .ref 56), (1, .int l1), (2, .int l2), (3, .int l3), (4, .int l4)], [.int l1, .ref 83, .int (x1 + q2.1)], (gh_mo q2.2, 0, 0))) (fun _ => rfl) ?_
  obtain ⟨x3, hx3, h⟩ := gh_bi h
  refine gh_T_ra rfl rfl hx3 ?_
  cases c7 : gh_cmp .lt (x1 + q2.1) x3 with
  | true =>
    rw [c7, cond_true] at h
    refine gh_T_ic true rfl c7 ?_
    refine gh_T_steps 6 (τ := (47, [(0, .ref 56), (1, .int l1), (2, .int l2), (3, .int l3), (4, .int l4)], [.int l2, .ref 83, .int l1, .ref 83], (gh_mo q2.2, 0, 0))) (fun _ => rfl) ?_
    obtain ⟨x4, hx4, h⟩ := gh_bi h
    refine gh_T_ra rfl rfl hx4 ?_
    refine gh_T_steps 3 (τ := (52, [(0, .ref 56), (1, .int l1), (2, .int l2), (3, .int l3), (4, .int l4)], [.int l4, .int l3, .ref 56, .int x4, .int l1, .ref 83], (gh_mo q2.2, 0, 0))) (fun _ => rfl) ?_
    obtain ⟨q5, hq5, h⟩ := gh_bi h
    refine gh_T_iv (As := [.int l3, .int l4]) (b := 56) (rest := [.int x4, .int l1, .ref 83]) (y := some (.int q5.1)) (M' := gh_mo q5.2) rfl rfl rfl rfl rfl rfl rfl rfl rfl ⟨Nat.le_refl _, Nat.le_refl _⟩ (kX10_legCost d N l3 l4 q2.2 q5 hq5) ?_
    refine gh_T_steps 1 (τ := (56, [(0, .ref 56), (1, .int l1), (2, .int l2), (3, .int l3), (4, .int l4)], [.int (x4 + q5.1), .int l1, .ref 83], (gh_mo q5.2, 0, 0))) (fun _ => rfl) ?_
    obtain ⟨S6, hS6, h⟩ := gh_bi h
    refine gh_T_wa rfl rfl hS6 ?_
    refine gh_T_steps 1 (τ := (58, [(0, .ref 56), (1, .int l1), (2, .int l2), (3, .int l3), (4, .int l4)], [.int 1], (gh_mo S6, 0, 0))) (fun _ => rfl) ?_
    cases h
    exact gh_T_ret (fun _ => rfl)
  | false =>
    rw [c7, cond_false] at h
    refine gh_T_ic false rfl c7 ?_
    refine gh_T_steps 1 (τ := (36, [(0, .ref 56), (1, .int l1), (2, .int l2), (3, .int l3), (4, .int l4)], [.int 0], (gh_mo q2.2, 0, 0))) (fun _ => rfl) ?_
    cases h
    exact gh_T_ret (fun _ => rfl)
def sX10_lessens (N : Nat) (a1 : Int32) (a2 : Int32) (a3 : Int32) (a4 : Int32) (a5 : Int32) (S : gh_St) : Option (Int32 × gh_St) :=
  bif gh_cmp .eq a2 a5 then
    (sX10_lessens_12 N a1 a2 a3 a4 S)
  else
    (bif gh_cmp .lt a2 8 then
      (some (0, S))
    else
      (sX10_lessens_12 N a1 a2 a3 a4 S))
set_option maxRecDepth 100000 in
theorem kX10_lessens_e (d N : Nat) (a1 : Int32) (a2 : Int32) (a3 : Int32) (a4 : Int32) (a5 : Int32) (S : gh_St) (r : Int32 × gh_St) (h : sX10_lessens N a1 a2 a3 a4 a5 S = some r) : gh_T (d + 1) fX10_lessens 0 0 none true false (0, [(0, .ref 56), (1, .int a1), (2, .int a2), (3, .int a3), (4, .int a4), (5, .int a5)], [], (gh_mo S, 0, 0)) (some (.int r.1), (gh_mo r.2, 0, 0)) := by
  unfold sX10_lessens at h
  refine gh_T_steps 2 (τ := (3, [(0, .ref 56), (1, .int a1), (2, .int a2), (3, .int a3), (4, .int a4), (5, .int a5)], [.int a5, .int a2], (gh_mo S, 0, 0))) (fun _ => rfl) ?_
  cases c2 : gh_cmp .eq a2 a5 with
  | true =>
    rw [c2, cond_true] at h
    refine gh_T_ic true rfl c2 ?_
    refine gh_T_weak (lv := [(0, .ref 56), (1, .int a1), (2, .int a2), (3, .int a3), (4, .int a4)]) ⟨rfl, rfl, rfl, rfl, rfl, trivial⟩ ?_
    exact kX10_lessens_12 d N a1 a2 a3 a4 S _ h
  | false =>
    rw [c2, cond_false] at h
    refine gh_T_ic false rfl c2 ?_
    refine gh_T_steps 2 (τ := (9, [(0, .ref 56), (1, .int a1), (2, .int a2), (3, .int a3), (4, .int a4), (5, .int a5)], [.int 8, .int a2], (gh_mo S, 0, 0))) (fun _ => rfl) ?_
    cases c1 : gh_cmp .lt a2 8 with
    | true =>
      rw [c1, cond_true] at h
      refine gh_T_ic true rfl c1 ?_
      refine gh_T_steps 1 (τ := (36, [(0, .ref 56), (1, .int a1), (2, .int a2), (3, .int a3), (4, .int a4), (5, .int a5)], [.int 0], (gh_mo S, 0, 0))) (fun _ => rfl) ?_
      cases h
      exact gh_T_ret (fun _ => rfl)
    | false =>
      rw [c1, cond_false] at h
      refine gh_T_ic false rfl c1 ?_
      refine gh_T_weak (lv := [(0, .ref 56), (1, .int a1), (2, .int a2), (3, .int a3), (4, .int a4)]) ⟨rfl, rfl, rfl, rfl, rfl, trivial⟩ ?_
      exact kX10_lessens_12 d N a1 a2 a3 a4 S _ h
theorem kX10_lessens (d N : Nat) (a1 : Int32) (a2 : Int32) (a3 : Int32) (a4 : Int32) (a5 : Int32) (S : gh_St) (r : Int32 × gh_St) (h : sX10_lessens N a1 a2 a3 a4 a5 S = some r) : gh_Mx (d + 2) 126 [.ref 56, .int a1, .int a2, .int a3, .int a4, .int a5] (gh_mo S) (some (.int r.1)) (gh_mo r.2) :=
  gh_Mx_of rfl rfl rfl rfl rfl rfl (kX10_lessens_e d N a1 a2 a3 a4 a5 S r h)
def sX10_nextLeg_113 (N : Nat) (kc6 : Int32 → Int32 → Int32 → Int32 → Int32 → gh_St → Option (Int32 × gh_St)) (l1 : Int32) (l2 : Int32) (l3 : Int32) (l5 : Int32) (t0 : Int32) (S : gh_St) : Option (Int32 × gh_St) :=
  kc6 l1 l2 l3 t0 (l5 + 1) S
set_option maxRecDepth 100000 in
theorem kX10_nextLeg_113 (d N : Nat) (kc6 : Int32 → Int32 → Int32 → Int32 → Int32 → gh_St → Option (Int32 × gh_St)) (hkc6 : ∀ (l1 : Int32) (l2 : Int32) (l3 : Int32) (l4 : Int32) (l5 : Int32) (S : gh_St) (r : Int32 × gh_St), kc6 l1 l2 l3 l4 l5 S = some r → gh_T (d + 1) fX10_nextLeg 0 0 none false false (6, [(0, .ref 56), (1, .int l1), (2, .int l2), (3, .int l3), (4, .int l4), (5, .int l5)], [], (gh_mo S, 0, 0)) (some (.int r.1), (gh_mo r.2, 0, 0))) (l1 : Int32) (l2 : Int32) (l3 : Int32) (l5 : Int32) (t0 : Int32) (S : gh_St) (r : Int32 × gh_St) (h : sX10_nextLeg_113 N kc6 l1 l2 l3 l5 t0 S = some r) : gh_T (d + 1) fX10_nextLeg 0 0 none false false (113, [(0, .ref 56), (1, .int l1), (2, .int l2), (3, .int l3), (5, .int l5)], [.int t0], (gh_mo S, 0, 0)) (some (.int r.1), (gh_mo r.2, 0, 0)) := by
  unfold sX10_nextLeg_113 at h
  refine gh_T_steps 3 (τ := (6, [(5, .int (l5 + 1)), (4, .int t0), (0, .ref 56), (1, .int l1), (2, .int l2), (3, .int l3)], [], (gh_mo S, 0, 0))) (fun _ => rfl) ?_
  refine gh_T_weak (lv := [(0, .ref 56), (1, .int l1), (2, .int l2), (3, .int l3), (4, .int t0), (5, .int (l5 + 1))]) ⟨rfl, rfl, rfl, rfl, rfl, rfl, trivial⟩ ?_
  exact hkc6 l1 l2 l3 t0 (l5 + 1) S _ h
def sX10_nextLeg_112 (N : Nat) (kc6 : Int32 → Int32 → Int32 → Int32 → Int32 → gh_St → Option (Int32 × gh_St)) (l1 : Int32) (l2 : Int32) (l3 : Int32) (l5 : Int32) (S : gh_St) : Option (Int32 × gh_St) :=
  sX10_nextLeg_113 N kc6 l1 l2 l3 l5 ((-1)) S
set_option maxRecDepth 100000 in
theorem kX10_nextLeg_112 (d N : Nat) (kc6 : Int32 → Int32 → Int32 → Int32 → Int32 → gh_St → Option (Int32 × gh_St)) (hkc6 : ∀ (l1 : Int32) (l2 : Int32) (l3 : Int32) (l4 : Int32) (l5 : Int32) (S : gh_St) (r : Int32 × gh_St), kc6 l1 l2 l3 l4 l5 S = some r → gh_T (d + 1) fX10_nextLeg 0 0 none false false (6, [(0, .ref 56), (1, .int l1), (2, .int l2), (3, .int l3), (4, .int l4), (5, .int l5)], [], (gh_mo S, 0, 0)) (some (.int r.1), (gh_mo r.2, 0, 0))) (l1 : Int32) (l2 : Int32) (l3 : Int32) (l5 : Int32) (S : gh_St) (r : Int32 × gh_St) (h : sX10_nextLeg_112 N kc6 l1 l2 l3 l5 S = some r) : gh_T (d + 1) fX10_nextLeg 0 0 none false false (112, [(0, .ref 56), (1, .int l1), (2, .int l2), (3, .int l3), (5, .int l5)], [], (gh_mo S, 0, 0)) (some (.int r.1), (gh_mo r.2, 0, 0)) := by
  unfold sX10_nextLeg_112 at h
  refine gh_T_steps 1 (τ := (113, [(0, .ref 56), (1, .int l1), (2, .int l2), (3, .int l3), (5, .int l5)], [.int ((-1))], (gh_mo S, 0, 0))) (fun _ => rfl) ?_
  exact kX10_nextLeg_113 d N kc6 hkc6 l1 l2 l3 l5 ((-1)) S _ h
def sX10_nextLeg_83 (N : Nat) (kc6 : Int32 → Int32 → Int32 → Int32 → Int32 → gh_St → Option (Int32 × gh_St)) (l1 : Int32) (l2 : Int32) (l3 : Int32) (l5 : Int32) (l6 : Int32) (S : gh_St) : Option (Int32 × gh_St) :=
  (gh_ra S 83 12 l6).bind fun x1 =>
  (sX10_legCost N l5 l2 S).bind fun q2 =>
  (gh_ra q2.2 83 12 l1).bind fun x3 =>
  bif gh_cmp .ne (x1 + q2.1) x3 then
    (sX10_nextLeg_112 N kc6 l1 l2 l3 l5 q2.2)
  else
    (sX10_nextLeg_113 N kc6 l1 l2 l3 l5 l5 q2.2)
set_option maxRecDepth 100000 in
theorem kX10_nextLeg_83 (d N : Nat) (kc6 : Int32 → Int32 → Int32 → Int32 → Int32 → gh_St → Option (Int32 × gh_St)) (hkc6 : ∀ (l1 : Int32) (l2 : Int32) (l3 : Int32) (l4 : Int32) (l5 : Int32) (S : gh_St) (r : Int32 × gh_St), kc6 l1 l2 l3 l4 l5 S = some r → gh_T (d + 1) fX10_nextLeg 0 0 none false false (6, [(0, .ref 56), (1, .int l1), (2, .int l2), (3, .int l3), (4, .int l4), (5, .int l5)], [], (gh_mo S, 0, 0)) (some (.int r.1), (gh_mo r.2, 0, 0))) (l1 : Int32) (l2 : Int32) (l3 : Int32) (l5 : Int32) (l6 : Int32) (S : gh_St) (r : Int32 × gh_St) (h : sX10_nextLeg_83 N kc6 l1 l2 l3 l5 l6 S = some r) : gh_T (d + 1) fX10_nextLeg 0 0 none false false (83, [(0, .ref 56), (1, .int l1), (2, .int l2), (3, .int l3), (5, .int l5), (6, .int l6)], [], (gh_mo S, 0, 0)) (some (.int r.1), (gh_mo r.2, 0, 0)) := by
  unfold sX10_nextLeg_83 at h
  refine gh_T_steps 3 (τ := (89, [(0, .ref 56), (1, .int l1), (2, .int l2), (3, .int l3), (5, .int l5), (6, .int l6)], [.int l6, .ref 83], (gh_mo S, 0, 0))) (fun _ => rfl) ?_
  obtain ⟨x1, hx1, h⟩ := gh_bi h
  refine gh_T_ra rfl rfl hx1 ?_
  refine gh_T_steps 3 (τ := (94, [(0, .ref 56), (1, .int l1), (2, .int l2), (3, .int l3), (5, .int l5), (6, .int l6)], [.int l2, .int l5, .ref 56, .int x1], (gh_mo S, 0, 0))) (fun _ => rfl) ?_
  obtain ⟨q2, hq2, h⟩ := gh_bi h
  refine gh_T_iv (As := [.int l5, .int l2]) (b := 56) (rest := [.int x1]) (y := some (.int q2.1)) (M' := gh_mo q2.2) rfl rfl rfl rfl rfl rfl rfl rfl rfl ⟨Nat.le_refl _, Nat.le_refl _⟩ (kX10_legCost d N l5 l2 S q2 hq2) ?_
  refine gh_T_steps 4 (τ := (103, [(0, .ref 56), (1, .int l1), (2, .int l2), (3, .int l3), (5, .int l5), (6, .int l6)], [.int l1, .ref 83, .int (x1 + q2.1)], (gh_mo q2.2, 0, 0))) (fun _ => rfl) ?_
  obtain ⟨x3, hx3, h⟩ := gh_bi h
  refine gh_T_ra rfl rfl hx3 ?_
  cases c4 : gh_cmp .ne (x1 + q2.1) x3 with
  | true =>
    rw [c4, cond_true] at h
    refine gh_T_ic true rfl c4 ?_
    refine gh_T_weak (lv := [(0, .ref 56), (1, .int l1), (2, .int l2), (3, .int l3), (5, .int l5)]) ⟨rfl, rfl, rfl, rfl, rfl, trivial⟩ ?_
    exact kX10_nextLeg_112 d N kc6 hkc6 l1 l2 l3 l5 q2.2 _ h
  | false =>
    rw [c4, cond_false] at h
    refine gh_T_ic false rfl c4 ?_
    refine gh_T_steps 2 (τ := (113, [(0, .ref 56), (1, .int l1), (2, .int l2), (3, .int l3), (5, .int l5), (6, .int l6)], [.int l5], (gh_mo q2.2, 0, 0))) (fun _ => rfl) ?_
    refine gh_T_weak (lv := [(0, .ref 56), (1, .int l1), (2, .int l2), (3, .int l3), (5, .int l5)]) ⟨rfl, rfl, rfl, rfl, rfl, trivial⟩ ?_
    exact kX10_nextLeg_113 d N kc6 hkc6 l1 l2 l3 l5 l5 q2.2 _ h
def sX10_nextLeg_63 (N : Nat) (kc6 : Int32 → Int32 → Int32 → Int32 → Int32 → gh_St → Option (Int32 × gh_St)) (l1 : Int32) (l2 : Int32) (l3 : Int32) (l5 : Int32) (t0 : Int32) (S : gh_St) : Option (Int32 × gh_St) :=
  bif gh_cmp .lt t0 0 then
    (sX10_nextLeg_112 N kc6 l1 l2 l3 l5 S)
  else
    (bif gh_cmp .eq t0 l3 then
      (sX10_nextLeg_83 N kc6 l1 l2 l3 l5 t0 S)
    else
      (bif gh_cmp .le t0 7 then
        (sX10_nextLeg_112 N kc6 l1 l2 l3 l5 S)
      else
        (sX10_nextLeg_83 N kc6 l1 l2 l3 l5 t0 S)))
set_option maxRecDepth 100000 in
theorem kX10_nextLeg_63 (d N : Nat) (kc6 : Int32 → Int32 → Int32 → Int32 → Int32 → gh_St → Option (Int32 × gh_St)) (hkc6 : ∀ (l1 : Int32) (l2 : Int32) (l3 : Int32) (l4 : Int32) (l5 : Int32) (S : gh_St) (r : Int32 × gh_St), kc6 l1 l2 l3 l4 l5 S = some r → gh_T (d + 1) fX10_nextLeg 0 0 none false false (6, [(0, .ref 56), (1, .int l1), (2, .int l2), (3, .int l3), (4, .int l4), (5, .int l5)], [], (gh_mo S, 0, 0)) (some (.int r.1), (gh_mo r.2, 0, 0))) (l1 : Int32) (l2 : Int32) (l3 : Int32) (l5 : Int32) (t0 : Int32) (S : gh_St) (r : Int32 × gh_St) (h : sX10_nextLeg_63 N kc6 l1 l2 l3 l5 t0 S = some r) : gh_T (d + 1) fX10_nextLeg 0 0 none false false (63, [(0, .ref 56), (1, .int l1), (2, .int l2), (3, .int l3), (5, .int l5)], [.int t0], (gh_mo S, 0, 0)) (some (.int r.1), (gh_mo r.2, 0, 0)) := by
  unfold sX10_nextLeg_63 at h
  refine gh_T_steps 2 (τ := (67, [(6, .int t0), (0, .ref 56), (1, .int l1), (2, .int l2), (3, .int l3), (5, .int l5)], [.int t0], (gh_mo S, 0, 0))) (fun _ => rfl) ?_
  cases c3 : gh_cmp .lt t0 0 with
  | true =>
    rw [c3, cond_true] at h
    refine gh_T_if true rfl c3 ?_
    refine gh_T_weak (lv := [(0, .ref 56), (1, .int l1), (2, .int l2), (3, .int l3), (5, .int l5)]) ⟨rfl, rfl, rfl, rfl, rfl, trivial⟩ ?_
    exact kX10_nextLeg_112 d N kc6 hkc6 l1 l2 l3 l5 S _ h
  | false =>
    rw [c3, cond_false] at h
    refine gh_T_if false rfl c3 ?_
    refine gh_T_steps 2 (τ := (73, [(6, .int t0), (0, .ref 56), (1, .int l1), (2, .int l2), (3, .int l3), (5, .int l5)], [.int l3, .int t0], (gh_mo S, 0, 0))) (fun _ => rfl) ?_
    cases c2 : gh_cmp .eq t0 l3 with
    | true =>
      rw [c2, cond_true] at h
      refine gh_T_ic true rfl c2 ?_
      refine gh_T_weak (lv := [(0, .ref 56), (1, .int l1), (2, .int l2), (3, .int l3), (5, .int l5), (6, .int t0)]) ⟨rfl, rfl, rfl, rfl, rfl, rfl, trivial⟩ ?_
      exact kX10_nextLeg_83 d N kc6 hkc6 l1 l2 l3 l5 t0 S _ h
    | false =>
      rw [c2, cond_false] at h
      refine gh_T_ic false rfl c2 ?_
      refine gh_T_steps 2 (τ := (80, [(6, .int t0), (0, .ref 56), (1, .int l1), (2, .int l2), (3, .int l3), (5, .int l5)], [.int 7, .int t0], (gh_mo S, 0, 0))) (fun _ => rfl) ?_
      cases c1 : gh_cmp .le t0 7 with
      | true =>
        rw [c1, cond_true] at h
        refine gh_T_ic true rfl c1 ?_
        refine gh_T_weak (lv := [(0, .ref 56), (1, .int l1), (2, .int l2), (3, .int l3), (5, .int l5)]) ⟨rfl, rfl, rfl, rfl, rfl, trivial⟩ ?_
        exact kX10_nextLeg_112 d N kc6 hkc6 l1 l2 l3 l5 S _ h
      | false =>
        rw [c1, cond_false] at h
        refine gh_T_ic false rfl c1 ?_
        refine gh_T_weak (lv := [(0, .ref 56), (1, .int l1), (2, .int l2), (3, .int l3), (5, .int l5), (6, .int t0)]) ⟨rfl, rfl, rfl, rfl, rfl, rfl, trivial⟩ ?_
        exact kX10_nextLeg_83 d N kc6 hkc6 l1 l2 l3 l5 t0 S _ h
def sX10_nextLeg_121 (N : Nat) (l4 : Int32) (S : gh_St) : Option (Int32 × gh_St) :=
  some (l4, S)
set_option maxRecDepth 100000 in
theorem kX10_nextLeg_121 (d N : Nat) (l4 : Int32) (S : gh_St) (r : Int32 × gh_St) (h : sX10_nextLeg_121 N l4 S = some r) : gh_T (d + 1) fX10_nextLeg 0 0 none false false (121, [(4, .int l4)], [], (gh_mo S, 0, 0)) (some (.int r.1), (gh_mo r.2, 0, 0)) := by
  unfold sX10_nextLeg_121 at h
  refine gh_T_steps 1 (τ := (123, [(4, .int l4)], [.int l4], (gh_mo S, 0, 0))) (fun _ => rfl) ?_
  cases h
  exact gh_T_ret (fun _ => rfl)
def sX10_nextLeg_6 (N : Nat) : Nat → Int32 → Int32 → Int32 → Int32 → Int32 → gh_St → Option (Int32 × gh_St)
  | 0, _, _, _, _, _, _ => none
  | n + 1, l1, l2, l3, l4, l5, S =>
    bif gh_cmp .ge l5 (S.1 56 9) then
      (sX10_nextLeg_121 N l4 S)
    else
      (bif gh_cmp .ge l4 0 then
        (sX10_nextLeg_121 N l4 S)
      else
        ((gh_ra S 65 20 l5).bind fun x1 =>
        bif gh_cmp .ne x1 l1 then
          ((gh_ra S 66 20 l5).bind fun x2 =>
          bif gh_cmp .ne x2 l1 then
            (sX10_nextLeg_63 N (sX10_nextLeg_6 N n) l1 l2 l3 l5 ((-1)) S)
          else
            ((gh_ra S 65 20 l5).bind fun x3 =>
            sX10_nextLeg_63 N (sX10_nextLeg_6 N n) l1 l2 l3 l5 x3 S))
        else
          ((gh_ra S 66 20 l5).bind fun x5 =>
          sX10_nextLeg_63 N (sX10_nextLeg_6 N n) l1 l2 l3 l5 x5 S)))
set_option maxRecDepth 100000 in
theorem kX10_nextLeg_6 (d N : Nat) : ∀ (n : Nat) (l1 : Int32) (l2 : Int32) (l3 : Int32) (l4 : Int32) (l5 : Int32) (S : gh_St) (r : Int32 × gh_St), sX10_nextLeg_6 N n l1 l2 l3 l4 l5 S = some r → gh_T (d + 1) fX10_nextLeg 0 0 none false false (6, [(0, .ref 56), (1, .int l1), (2, .int l2), (3, .int l3), (4, .int l4), (5, .int l5)], [], (gh_mo S, 0, 0)) (some (.int r.1), (gh_mo r.2, 0, 0)) := by
  intro n
  induction n with
  | zero =>
    intro l1 l2 l3 l4 l5 S r h
    cases h
  | succ n ih =>
    intro l1 l2 l3 l4 l5 S r h
    rw [sX10_nextLeg_6] at h
    refine gh_T_steps 3 (τ := (12, [(0, .ref 56), (1, .int l1), (2, .int l2), (3, .int l3), (4, .int l4), (5, .int l5)], [.int (S.1 56 9), .int l5], (gh_mo S, 0, 0))) (fun _ => rfl) ?_
    cases c8 : gh_cmp .ge l5 (S.1 56 9) with
    | true =>
      rw [c8, cond_true] at h
      refine gh_T_ic true rfl c8 ?_
      refine gh_T_weak (lv := [(4, .int l4)]) ⟨rfl, trivial⟩ ?_
      exact kX10_nextLeg_121 d N l4 S _ h
    | false =>
      rw [c8, cond_false] at h
      refine gh_T_ic false rfl c8 ?_
      refine gh_T_steps 1 (τ := (17, [(0, .ref 56), (1, .int l1), (2, .int l2), (3, .int l3), (4, .int l4), (5, .int l5)], [.int l4], (gh_mo S, 0, 0))) (fun _ => rfl) ?_
      cases c7 : gh_cmp .ge l4 0 with
      | true =>
        rw [c7, cond_true] at h
        refine gh_T_if true rfl c7 ?_
        refine gh_T_weak (lv := [(4, .int l4)]) ⟨rfl, trivial⟩ ?_
        exact kX10_nextLeg_121 d N l4 S _ h
      | false =>
        rw [c7, cond_false] at h
        refine gh_T_if false rfl c7 ?_
        refine gh_T_steps 3 (τ := (26, [(0, .ref 56), (1, .int l1), (2, .int l2), (3, .int l3), (4, .int l4), (5, .int l5)], [.int l5, .ref 65], (gh_mo S, 0, 0))) (fun _ => rfl) ?_
        obtain ⟨x1, hx1, h⟩ := gh_bi h
        refine gh_T_ra rfl rfl hx1 ?_
        refine gh_T_steps 1 (τ := (28, [(0, .ref 56), (1, .int l1), (2, .int l2), (3, .int l3), (4, .int l4), (5, .int l5)], [.int l1, .int x1], (gh_mo S, 0, 0))) (fun _ => rfl) ?_
        cases c6 : gh_cmp .ne x1 l1 with
        | true =>
          rw [c6, cond_true] at h
          refine gh_T_ic true rfl c6 ?_
          refine gh_T_steps 3 (τ := (47, [(0, .ref 56), (1, .int l1), (2, .int l2), (3, .int l3), (4, .int l4), (5, .int l5)], [.int l5, .ref 66], (gh_mo S, 0, 0))) (fun _ => rfl) ?_
          obtain ⟨x2, hx2, h⟩ := gh_bi h
          refine gh_T_ra rfl rfl hx2 ?_
          refine gh_T_steps 1 (τ := (49, [(0, .ref 56), (1, .int l1), (2, .int l2), (3, .int l3), (4, .int l4), (5, .int l5)], [.int l1, .int x2], (gh_mo S, 0, 0))) (fun _ => rfl) ?_
          cases c4 : gh_cmp .ne x2 l1 with
          | true =>
            rw [c4, cond_true] at h
            refine gh_T_ic true rfl c4 ?_
            refine gh_T_steps 1 (τ := (63, [(0, .ref 56), (1, .int l1), (2, .int l2), (3, .int l3), (4, .int l4), (5, .int l5)], [.int ((-1))], (gh_mo S, 0, 0))) (fun _ => rfl) ?_
            refine gh_T_weak (lv := [(0, .ref 56), (1, .int l1), (2, .int l2), (3, .int l3), (5, .int l5)]) ⟨rfl, rfl, rfl, rfl, rfl, trivial⟩ ?_
            exact kX10_nextLeg_63 d N (sX10_nextLeg_6 N n) ih l1 l2 l3 l5 ((-1)) S _ h
          | false =>
            rw [c4, cond_false] at h
            refine gh_T_ic false rfl c4 ?_
            refine gh_T_steps 3 (τ := (58, [(0, .ref 56), (1, .int l1), (2, .int l2), (3, .int l3), (4, .int l4), (5, .int l5)], [.int l5, .ref 65], (gh_mo S, 0, 0))) (fun _ => rfl) ?_
            obtain ⟨x3, hx3, h⟩ := gh_bi h
            refine gh_T_ra rfl rfl hx3 ?_
            refine gh_T_steps 1 (τ := (63, [(0, .ref 56), (1, .int l1), (2, .int l2), (3, .int l3), (4, .int l4), (5, .int l5)], [.int x3], (gh_mo S, 0, 0))) (fun _ => rfl) ?_
            refine gh_T_weak (lv := [(0, .ref 56), (1, .int l1), (2, .int l2), (3, .int l3), (5, .int l5)]) ⟨rfl, rfl, rfl, rfl, rfl, trivial⟩ ?_
            exact kX10_nextLeg_63 d N (sX10_nextLeg_6 N n) ih l1 l2 l3 l5 x3 S _ h
        | false =>
          rw [c6, cond_false] at h
          refine gh_T_ic false rfl c6 ?_
          refine gh_T_steps 3 (τ := (37, [(0, .ref 56), (1, .int l1), (2, .int l2), (3, .int l3), (4, .int l4), (5, .int l5)], [.int l5, .ref 66], (gh_mo S, 0, 0))) (fun _ => rfl) ?_
          obtain ⟨x5, hx5, h⟩ := gh_bi h
          refine gh_T_ra rfl rfl hx5 ?_
          refine gh_T_steps 1 (τ := (63, [(0, .ref 56), (1, .int l1), (2, .int l2), (3, .int l3), (4, .int l4), (5, .int l5)], [.int x5], (gh_mo S, 0, 0))) (fun _ => rfl) ?_
          refine gh_T_weak (lv := [(0, .ref 56), (1, .int l1), (2, .int l2), (3, .int l3), (5, .int l5)]) ⟨rfl, rfl, rfl, rfl, rfl, trivial⟩ ?_
          exact kX10_nextLeg_63 d N (sX10_nextLeg_6 N n) ih l1 l2 l3 l5 x5 S _ h
def sX10_nextLeg (N : Nat) (a1 : Int32) (a2 : Int32) (a3 : Int32) (S : gh_St) : Option (Int32 × gh_St) :=
  sX10_nextLeg_6 N N a1 a2 a3 ((-1)) 0 S
set_option maxRecDepth 100000 in
theorem kX10_nextLeg_e (d N : Nat) (a1 : Int32) (a2 : Int32) (a3 : Int32) (S : gh_St) (r : Int32 × gh_St) (h : sX10_nextLeg N a1 a2 a3 S = some r) : gh_T (d + 1) fX10_nextLeg 0 0 none false false (0, [(0, .ref 56), (1, .int a1), (2, .int a2), (3, .int a3)], [], (gh_mo S, 0, 0)) (some (.int r.1), (gh_mo r.2, 0, 0)) := by
  unfold sX10_nextLeg at h
  refine gh_T_steps 4 (τ := (6, [(5, .int 0), (4, .int ((-1))), (0, .ref 56), (1, .int a1), (2, .int a2), (3, .int a3)], [], (gh_mo S, 0, 0))) (fun _ => rfl) ?_
  refine gh_T_weak (lv := [(0, .ref 56), (1, .int a1), (2, .int a2), (3, .int a3), (4, .int ((-1))), (5, .int 0)]) ⟨rfl, rfl, rfl, rfl, rfl, rfl, trivial⟩ ?_
  exact kX10_nextLeg_6 d N N a1 a2 a3 ((-1)) 0 S _ h
theorem kX10_nextLeg (d N : Nat) (a1 : Int32) (a2 : Int32) (a3 : Int32) (S : gh_St) (r : Int32 × gh_St) (h : sX10_nextLeg N a1 a2 a3 S = some r) : gh_Mx (d + 2) 129 [.ref 56, .int a1, .int a2, .int a3] (gh_mo S) (some (.int r.1)) (gh_mo r.2) :=
  gh_Mx_of rfl rfl rfl rfl rfl rfl (kX10_nextLeg_e d N a1 a2 a3 S r h)
def sX10_goesBy_74 (N : Nat) (kc17 : Int32 → Int32 → Int32 → Int32 → Int32 → gh_St → Option (Int32 × gh_St)) (l1 : Int32) (l3 : Int32) (l4 : Int32) (l5 : Int32) (t0 : Int32) (S : gh_St) : Option (Int32 × gh_St) :=
  kc17 l1 l3 l4 l5 t0 S
set_option maxRecDepth 100000 in
theorem kX10_goesBy_74 (d N : Nat) (kc17 : Int32 → Int32 → Int32 → Int32 → Int32 → gh_St → Option (Int32 × gh_St)) (hkc17 : ∀ (l1 : Int32) (l3 : Int32) (l4 : Int32) (l5 : Int32) (l6 : Int32) (S : gh_St) (r : Int32 × gh_St), kc17 l1 l3 l4 l5 l6 S = some r → gh_T (d + 2) fX10_goesBy 0 0 none false false (17, [(0, .ref 56), (1, .int l1), (3, .int l3), (4, .int l4), (5, .int l5), (6, .int l6)], [], (gh_mo S, 0, 0)) (some (.int r.1), (gh_mo r.2, 0, 0))) (l1 : Int32) (l3 : Int32) (l4 : Int32) (l5 : Int32) (t0 : Int32) (S : gh_St) (r : Int32 × gh_St) (h : sX10_goesBy_74 N kc17 l1 l3 l4 l5 t0 S = some r) : gh_T (d + 2) fX10_goesBy 0 0 none false false (74, [(0, .ref 56), (1, .int l1), (3, .int l3), (4, .int l4), (5, .int l5)], [.int t0], (gh_mo S, 0, 0)) (some (.int r.1), (gh_mo r.2, 0, 0)) := by
  unfold sX10_goesBy_74 at h
  refine gh_T_steps 2 (τ := (17, [(6, .int t0), (0, .ref 56), (1, .int l1), (3, .int l3), (4, .int l4), (5, .int l5)], [], (gh_mo S, 0, 0))) (fun _ => rfl) ?_
  refine gh_T_weak (lv := [(0, .ref 56), (1, .int l1), (3, .int l3), (4, .int l4), (5, .int l5), (6, .int t0)]) ⟨rfl, rfl, rfl, rfl, rfl, rfl, trivial⟩ ?_
  exact hkc17 l1 l3 l4 l5 t0 S _ h
def sX10_goesBy_82 (N : Nat) : Nat → Int32 → Int32 → Int32 → Int32 → gh_St → Option (Int32 × gh_St)
  | 0, _, _, _, _, _ => none
  | n + 1, l1, l4, l5, l7, S =>
    bif gh_cmp .ge l7 l5 then
      (some (l4, gh_fI S 56 15 ((S.1 56 15) + l4)))
    else
      ((gh_ra S 84 20 l7).bind fun x1 =>
      (gh_wa S 68 20 x1 l1).bind fun S2 =>
      (sX10_goesBy_82 N n) l1 l4 l5 (l7 + 1) S2)
set_option maxRecDepth 100000 in
theorem kX10_goesBy_82 (d N : Nat) : ∀ (n : Nat) (l1 : Int32) (l4 : Int32) (l5 : Int32) (l7 : Int32) (S : gh_St) (r : Int32 × gh_St), sX10_goesBy_82 N n l1 l4 l5 l7 S = some r → gh_T (d + 2) fX10_goesBy 0 0 none false false (82, [(0, .ref 56), (1, .int l1), (4, .int l4), (5, .int l5), (7, .int l7)], [], (gh_mo S, 0, 0)) (some (.int r.1), (gh_mo r.2, 0, 0)) := by
  intro n
  induction n with
  | zero =>
    intro l1 l4 l5 l7 S r h
    cases h
  | succ n ih =>
    intro l1 l4 l5 l7 S r h
    rw [sX10_goesBy_82] at h
    refine gh_T_steps 2 (τ := (86, [(0, .ref 56), (1, .int l1), (4, .int l4), (5, .int l5), (7, .int l7)], [.int l5, .int l7], (gh_mo S, 0, 0))) (fun _ => rfl) ?_
    cases c3 : gh_cmp .ge l7 l5 with
    | true =>
      rw [c3, cond_true] at h
      refine gh_T_ic true rfl c3 ?_
      refine gh_T_steps 7 (τ := (121, [(0, .ref 56), (1, .int l1), (4, .int l4), (5, .int l5), (7, .int l7)], [.int l4], (gh_mo (gh_fI S 56 15 ((S.1 56 15) + l4)), 0, 0))) (fun _ => rfl) ?_
      cases h
      exact gh_T_ret (fun _ => rfl)
    | false =>
      rw [c3, cond_false] at h
      refine gh_T_ic false rfl c3 ?_
      refine gh_T_steps 5 (τ := (99, [(0, .ref 56), (1, .int l1), (4, .int l4), (5, .int l5), (7, .int l7)], [.int l7, .ref 84, .ref 68], (gh_mo S, 0, 0))) (fun _ => rfl) ?_
      obtain ⟨x1, hx1, h⟩ := gh_bi h
      refine gh_T_ra rfl rfl hx1 ?_
      refine gh_T_steps 1 (τ := (101, [(0, .ref 56), (1, .int l1), (4, .int l4), (5, .int l5), (7, .int l7)], [.int l1, .int x1, .ref 68], (gh_mo S, 0, 0))) (fun _ => rfl) ?_
      obtain ⟨S2, hS2, h⟩ := gh_bi h
      refine gh_T_wa rfl rfl hS2 ?_
      refine gh_T_steps 2 (τ := (82, [(7, .int (l7 + 1)), (0, .ref 56), (1, .int l1), (4, .int l4), (5, .int l5)], [], (gh_mo S2, 0, 0))) (fun _ => rfl) ?_
      refine gh_T_weak (lv := [(0, .ref 56), (1, .int l1), (4, .int l4), (5, .int l5), (7, .int (l7 + 1))]) ⟨rfl, rfl, rfl, rfl, rfl, trivial⟩ ?_
      exact ih l1 l4 l5 (l7 + 1) S2 _ h
def sX10_goesBy_17 (N : Nat) : Nat → Int32 → Int32 → Int32 → Int32 → Int32 → gh_St → Option (Int32 × gh_St)
  | 0, _, _, _, _, _, _ => none
  | n + 1, l1, l3, l4, l5, l6, S =>
    bif gh_cmp .eq l6 l3 then
      (sX10_goesBy_82 N N l1 l4 l5 0 S)
    else
      ((sX10_nextLeg N l6 l1 l3 S).bind fun q1 =>
      (gh_wa q1.2 84 20 l5 q1.1).bind fun S2 =>
      (gh_ra S2 65 20 q1.1).bind fun x3 =>
      bif gh_cmp .ne x3 l6 then
        ((gh_ra S2 65 20 q1.1).bind fun x4 =>
        (sX10_goesBy_17 N n) l1 l3 l4 (l5 + 1) x4 S2)
      else
        ((gh_ra S2 66 20 q1.1).bind fun x5 =>
        sX10_goesBy_74 N (sX10_goesBy_17 N n) l1 l3 l4 (l5 + 1) x5 S2))
set_option maxRecDepth 100000 in
theorem kX10_goesBy_17 (d N : Nat) : ∀ (n : Nat) (l1 : Int32) (l3 : Int32) (l4 : Int32) (l5 : Int32) (l6 : Int32) (S : gh_St) (r : Int32 × gh_St), sX10_goesBy_17 N n l1 l3 l4 l5 l6 S = some r → gh_T (d + 2) fX10_goesBy 0 0 none false false (17, [(0, .ref 56), (1, .int l1), (3, .int l3), (4, .int l4), (5, .int l5), (6, .int l6)], [], (gh_mo S, 0, 0)) (some (.int r.1), (gh_mo r.2, 0, 0)) := by
  intro n
  induction n with
  | zero =>
    intro l1 l3 l4 l5 l6 S r h
    cases h
  | succ n ih =>
    intro l1 l3 l4 l5 l6 S r h
    rw [sX10_goesBy_17] at h
    refine gh_T_steps 2 (τ := (20, [(0, .ref 56), (1, .int l1), (3, .int l3), (4, .int l4), (5, .int l5), (6, .int l6)], [.int l3, .int l6], (gh_mo S, 0, 0))) (fun _ => rfl) ?_
    cases c7 : gh_cmp .eq l6 l3 with
    | true =>
      rw [c7, cond_true] at h
      refine gh_T_ic true rfl c7 ?_
      refine gh_T_steps 2 (τ := (82, [(7, .int 0), (0, .ref 56), (1, .int l1), (3, .int l3), (4, .int l4), (5, .int l5), (6, .int l6)], [], (gh_mo S, 0, 0))) (fun _ => rfl) ?_
      refine gh_T_weak (lv := [(0, .ref 56), (1, .int l1), (4, .int l4), (5, .int l5), (7, .int 0)]) ⟨rfl, rfl, rfl, rfl, rfl, trivial⟩ ?_
      exact kX10_goesBy_82 d N N l1 l4 l5 0 S _ h
    | false =>
      rw [c7, cond_false] at h
      refine gh_T_ic false rfl c7 ?_
      refine gh_T_steps 4 (τ := (28, [(0, .ref 56), (1, .int l1), (3, .int l3), (4, .int l4), (5, .int l5), (6, .int l6)], [.int l3, .int l1, .int l6, .ref 56], (gh_mo S, 0, 0))) (fun _ => rfl) ?_
      obtain ⟨q1, hq1, h⟩ := gh_bi h
      refine gh_T_iv (As := [.int l6, .int l1, .int l3]) (b := 56) (rest := []) (y := some (.int q1.1)) (M' := gh_mo q1.2) rfl rfl rfl rfl rfl rfl rfl rfl rfl ⟨Nat.le_refl _, Nat.le_refl _⟩ (kX10_nextLeg d N l6 l1 l3 S q1 hq1) ?_
      refine gh_T_steps 5 (τ := (41, [(7, .int q1.1), (0, .ref 56), (1, .int l1), (3, .int l3), (4, .int l4), (5, .int l5), (6, .int l6)], [.int q1.1, .int l5, .ref 84], (gh_mo q1.2, 0, 0))) (fun _ => rfl) ?_
      obtain ⟨S2, hS2, h⟩ := gh_bi h
      refine gh_T_wa rfl rfl hS2 ?_
      refine gh_T_steps 4 (τ := (51, [(5, .int (l5 + 1)), (7, .int q1.1), (0, .ref 56), (1, .int l1), (3, .int l3), (4, .int l4), (6, .int l6)], [.int q1.1, .ref 65], (gh_mo S2, 0, 0))) (fun _ => rfl) ?_
      obtain ⟨x3, hx3, h⟩ := gh_bi h
      refine gh_T_ra rfl rfl hx3 ?_
      refine gh_T_steps 1 (τ := (54, [(5, .int (l5 + 1)), (7, .int q1.1), (0, .ref 56), (1, .int l1), (3, .int l3), (4, .int l4), (6, .int l6)], [.int l6, .int x3], (gh_mo S2, 0, 0))) (fun _ => rfl) ?_
      cases c6 : gh_cmp .ne x3 l6 with
      | true =>
        rw [c6, cond_true] at h
        refine gh_T_ic true rfl c6 ?_
        refine gh_T_steps 3 (τ := (73, [(5, .int (l5 + 1)), (7, .int q1.1), (0, .ref 56), (1, .int l1), (3, .int l3), (4, .int l4), (6, .int l6)], [.int q1.1, .ref 65], (gh_mo S2, 0, 0))) (fun _ => rfl) ?_
        obtain ⟨x4, hx4, h⟩ := gh_bi h
        refine gh_T_ra rfl rfl hx4 ?_
        refine gh_T_steps 2 (τ := (17, [(6, .int x4), (5, .int (l5 + 1)), (7, .int q1.1), (0, .ref 56), (1, .int l1), (3, .int l3), (4, .int l4)], [], (gh_mo S2, 0, 0))) (fun _ => rfl) ?_
        refine gh_T_weak (lv := [(0, .ref 56), (1, .int l1), (3, .int l3), (4, .int l4), (5, .int (l5 + 1)), (6, .int x4)]) ⟨rfl, rfl, rfl, rfl, rfl, rfl, trivial⟩ ?_
        exact ih l1 l3 l4 (l5 + 1) x4 S2 _ h
      | false =>
        rw [c6, cond_false] at h
        refine gh_T_ic false rfl c6 ?_
        refine gh_T_steps 3 (τ := (63, [(5, .int (l5 + 1)), (7, .int q1.1), (0, .ref 56), (1, .int l1), (3, .int l3), (4, .int l4), (6, .int l6)], [.int q1.1, .ref 66], (gh_mo S2, 0, 0))) (fun _ => rfl) ?_
        obtain ⟨x5, hx5, h⟩ := gh_bi h
        refine gh_T_ra rfl rfl hx5 ?_
        refine gh_T_steps 1 (τ := (74, [(5, .int (l5 + 1)), (7, .int q1.1), (0, .ref 56), (1, .int l1), (3, .int l3), (4, .int l4), (6, .int l6)], [.int x5], (gh_mo S2, 0, 0))) (fun _ => rfl) ?_
        refine gh_T_weak (lv := [(0, .ref 56), (1, .int l1), (3, .int l3), (4, .int l4), (5, .int (l5 + 1))]) ⟨rfl, rfl, rfl, rfl, rfl, trivial⟩ ?_
        exact kX10_goesBy_74 d N (sX10_goesBy_17 N n) ih l1 l3 l4 (l5 + 1) x5 S2 _ h
def sX10_goesBy (N : Nat) (a1 : Int32) (a2 : Int32) (a3 : Int32) (S : gh_St) : Option (Int32 × gh_St) :=
  (gh_ra S 83 12 a2).bind fun x1 =>
  (gh_di x1 100).bind fun x2 =>
  sX10_goesBy_17 N N a1 a3 x2 0 a2 S
set_option maxRecDepth 100000 in
theorem kX10_goesBy_e (d N : Nat) (a1 : Int32) (a2 : Int32) (a3 : Int32) (S : gh_St) (r : Int32 × gh_St) (h : sX10_goesBy N a1 a2 a3 S = some r) : gh_T (d + 2) fX10_goesBy 0 0 none false false (0, [(0, .ref 56), (1, .int a1), (2, .int a2), (3, .int a3)], [], (gh_mo S, 0, 0)) (some (.int r.1), (gh_mo r.2, 0, 0)) := by
  unfold sX10_goesBy at h
  refine gh_T_steps 3 (τ := (5, [(0, .ref 56), (1, .int a1), (2, .int a2), (3, .int a3)], [.int a2, .ref 83], (gh_mo S, 0, 0))) (fun _ => rfl) ?_
  obtain ⟨x1, hx1, h⟩ := gh_bi h
  refine gh_T_ra rfl rfl hx1 ?_
  refine gh_T_steps 1 (τ := (8, [(0, .ref 56), (1, .int a1), (2, .int a2), (3, .int a3)], [.int 100, .int x1], (gh_mo S, 0, 0))) (fun _ => rfl) ?_
  obtain ⟨x2, hx2, h⟩ := gh_bi h
  refine gh_T_di rfl hx2 ?_
  refine gh_T_steps 5 (τ := (17, [(6, .int a2), (5, .int 0), (4, .int x2), (0, .ref 56), (1, .int a1), (2, .int a2), (3, .int a3)], [], (gh_mo S, 0, 0))) (fun _ => rfl) ?_
  refine gh_T_weak (lv := [(0, .ref 56), (1, .int a1), (3, .int a3), (4, .int x2), (5, .int 0), (6, .int a2)]) ⟨rfl, rfl, rfl, rfl, rfl, rfl, trivial⟩ ?_
  exact kX10_goesBy_17 d N N a1 a3 x2 0 a2 S _ h
theorem kX10_goesBy (d N : Nat) (a1 : Int32) (a2 : Int32) (a3 : Int32) (S : gh_St) (r : Int32 × gh_St) (h : sX10_goesBy N a1 a2 a3 S = some r) : gh_Mx (d + 3) 131 [.ref 56, .int a1, .int a2, .int a3] (gh_mo S) (some (.int r.1)) (gh_mo r.2) :=
  gh_Mx_of rfl rfl rfl rfl rfl rfl (kX10_goesBy_e d N a1 a2 a3 S r h)
def sX10_takes (N : Nat) (a1 : Int32) (a2 : Int32) (S : gh_St) : Option (gh_St) :=
  (gh_rj S 60 8 a1).bind fun x1 =>
  (sX10_dryOf N a1 a2 S).bind fun q2 =>
  (gh_wj q2.2 60 8 a1 (x1 - q2.1)).bind fun S3 =>
  (gh_ra S3 59 8 a1).bind fun x4 =>
  (gh_wa S3 59 8 a1 (x4 - a2)).bind fun S5 =>
  some S5
set_option maxRecDepth 100000 in
theorem kX10_takes_e (d N : Nat) (a1 : Int32) (a2 : Int32) (S : gh_St) (r : gh_St) (h : sX10_takes N a1 a2 S = some r) : gh_T (d + 1) fX10_takes 0 0 none false false (0, [(0, .ref 56), (1, .int a1), (2, .int a2)], [], (gh_mo S, 0, 0)) (none, (gh_mo r, 0, 0)) := by
  unfold sX10_takes at h
  refine gh_T_steps 4 (τ := (6, [(0, .ref 56), (1, .int a1), (2, .int a2)], [.int a1, .ref 60, .int a1, .ref 60], (gh_mo S, 0, 0))) (fun _ => rfl) ?_
  obtain ⟨x1, hx1, h⟩ := gh_bi h
  refine gh_T_rj rfl rfl hx1 ?_
  refine gh_T_steps 3 (τ := (10, [(0, .ref 56), (1, .int a1), (2, .int a2)], [.int a2, .int a1, .ref 56, .long x1, .int a1, .ref 60], (gh_mo S, 0, 0))) (fun _ => rfl) ?_
  obtain ⟨q2, hq2, h⟩ := gh_bi h
  refine gh_T_iv (As := [.int a1, .int a2]) (b := 56) (rest := [.long x1, .int a1, .ref 60]) (y := some (.long q2.1)) (M' := gh_mo q2.2) rfl rfl rfl rfl rfl rfl rfl rfl rfl ⟨Nat.le_refl _, Nat.le_refl _⟩ (kX10_dryOf d N a1 a2 S q2 hq2) ?_
  refine gh_T_steps 1 (τ := (14, [(0, .ref 56), (1, .int a1), (2, .int a2)], [.long (x1 - q2.1), .int a1, .ref 60], (gh_mo q2.2, 0, 0))) (fun _ => rfl) ?_
  obtain ⟨S3, hS3, h⟩ := gh_bi h
  refine gh_T_wj rfl rfl hS3 ?_
  refine gh_T_steps 4 (τ := (21, [(0, .ref 56), (1, .int a1), (2, .int a2)], [.int a1, .ref 59, .int a1, .ref 59], (gh_mo S3, 0, 0))) (fun _ => rfl) ?_
  obtain ⟨x4, hx4, h⟩ := gh_bi h
  refine gh_T_ra rfl rfl hx4 ?_
  refine gh_T_steps 2 (τ := (24, [(0, .ref 56), (1, .int a1), (2, .int a2)], [.int (x4 - a2), .int a1, .ref 59], (gh_mo S3, 0, 0))) (fun _ => rfl) ?_
  obtain ⟨S5, hS5, h⟩ := gh_bi h
  refine gh_T_wa rfl rfl hS5 ?_
  cases h
  exact gh_T_ret (fun _ => rfl)
theorem kX10_takes (d N : Nat) (a1 : Int32) (a2 : Int32) (S : gh_St) (r : gh_St) (h : sX10_takes N a1 a2 S = some r) : gh_Mx (d + 2) 132 [.ref 56, .int a1, .int a2] (gh_mo S) none (gh_mo r) :=
  gh_Mx_of rfl rfl rfl rfl rfl rfl (kX10_takes_e d N a1 a2 S r h)
def sX10_ship (N : Nat) (a1 : Int32) (a2 : Int32) (S : gh_St) : Option (Int64 × gh_St) :=
  (sX10_isBin N a1 S).bind fun q1 =>
  bif gh_cmp .eq q1.1 0 then
    (some ((-1), q1.2))
  else
    ((gh_ra q1.2 59 8 a1).bind fun x2 =>
    (sX10_in N ((a2 : Int32).toInt64) 1 ((x2 : Int32).toInt64) q1.2).bind fun q3 =>
    bif gh_cmp .ne q3.1 0 then
      ((sX10_dryOf N a1 a2 q3.2).bind fun q4 =>
      (sX10_takes N a1 a2 q4.2).bind fun q5 =>
      some (q4.1, gh_fL (gh_fL q5 56 17 ((q5.2.1 56 17) + ((a2 : Int32).toInt64))) 56 18 (((gh_fL q5 56 17 ((q5.2.1 56 17) + ((a2 : Int32).toInt64))).2.1 56 18) + q4.1)))
    else
      (some ((-1), q3.2)))
set_option maxRecDepth 100000 in
theorem kX10_ship_e (d N : Nat) (a1 : Int32) (a2 : Int32) (S : gh_St) (r : Int64 × gh_St) (h : sX10_ship N a1 a2 S = some r) : gh_T (d + 2) fX10_ship 0 0 none false false (0, [(0, .ref 56), (1, .int a1), (2, .int a2)], [], (gh_mo S, 0, 0)) (some (.long r.1), (gh_mo r.2, 0, 0)) := by
  unfold sX10_ship at h
  refine gh_T_steps 1 (τ := (1, [(0, .ref 56), (1, .int a1), (2, .int a2)], [.int a1], (gh_mo S, 0, 0))) (fun _ => rfl) ?_
  obtain ⟨q1, hq1, h⟩ := gh_bi h
  refine gh_T_is (As := [.int a1]) (rest := []) (y := some (.int q1.1)) (M' := gh_mo q1.2) rfl rfl rfl rfl rfl rfl rfl ⟨Nat.le_refl _, Nat.le_refl _⟩ (kX10_isBin d N a1 S q1 hq1) ?_
  cases c7 : gh_cmp .eq q1.1 0 with
  | true =>
    rw [c7, cond_true] at h
    refine gh_T_if true rfl c7 ?_
    refine gh_T_steps 1 (τ := (26, [(0, .ref 56), (1, .int a1), (2, .int a2)], [.long ((-1))], (gh_mo q1.2, 0, 0))) (fun _ => rfl) ?_
    cases h
    exact gh_T_ret (fun _ => rfl)
  | false =>
    rw [c7, cond_false] at h
    refine gh_T_if false rfl c7 ?_
    refine gh_T_steps 6 (τ := (15, [(0, .ref 56), (1, .int a1), (2, .int a2)], [.int a1, .ref 59, .long 1, .long ((a2 : Int32).toInt64)], (gh_mo q1.2, 0, 0))) (fun _ => rfl) ?_
    obtain ⟨x2, hx2, h⟩ := gh_bi h
    refine gh_T_ra rfl rfl hx2 ?_
    refine gh_T_steps 1 (τ := (17, [(0, .ref 56), (1, .int a1), (2, .int a2)], [.long ((x2 : Int32).toInt64), .long 1, .long ((a2 : Int32).toInt64)], (gh_mo q1.2, 0, 0))) (fun _ => rfl) ?_
    obtain ⟨q3, hq3, h⟩ := gh_bi h
    refine gh_T_is (As := [.long ((a2 : Int32).toInt64), .long 1, .long ((x2 : Int32).toInt64)]) (rest := []) (y := some (.int q3.1)) (M' := gh_mo q3.2) rfl rfl rfl rfl rfl rfl rfl ⟨Nat.le_refl _, Nat.le_refl _⟩ (kX10_in (d + 1) N ((a2 : Int32).toInt64) 1 ((x2 : Int32).toInt64) q1.2 q3 hq3) ?_
    cases c6 : gh_cmp .ne q3.1 0 with
    | true =>
      rw [c6, cond_true] at h
      refine gh_T_if true rfl c6 ?_
      refine gh_T_steps 3 (τ := (30, [(0, .ref 56), (1, .int a1), (2, .int a2)], [.int a2, .int a1, .ref 56], (gh_mo q3.2, 0, 0))) (fun _ => rfl) ?_
      obtain ⟨q4, hq4, h⟩ := gh_bi h
      refine gh_T_iv (As := [.int a1, .int a2]) (b := 56) (rest := []) (y := some (.long q4.1)) (M' := gh_mo q4.2) rfl rfl rfl rfl rfl rfl rfl rfl rfl ⟨Nat.le_refl _, Nat.le_refl _⟩ (kX10_dryOf (d + 1) N a1 a2 q3.2 q4 hq4) ?_
      refine gh_T_steps 4 (τ := (37, [(3, .long q4.1), (0, .ref 56), (1, .int a1), (2, .int a2)], [.int a2, .int a1, .ref 56], (gh_mo q4.2, 0, 0))) (fun _ => rfl) ?_
      obtain ⟨q5, hq5, h⟩ := gh_bi h
      refine gh_T_iv (As := [.int a1, .int a2]) (b := 56) (rest := []) (y := none) (M' := gh_mo q5) rfl rfl rfl rfl rfl rfl rfl rfl rfl ⟨Nat.le_refl _, Nat.le_refl _⟩ (kX10_takes d N a1 a2 q4.2 q5 hq5) ?_
      refine gh_T_steps 14 (τ := (62, [(3, .long q4.1), (0, .ref 56), (1, .int a1), (2, .int a2)], [.long q4.1], (gh_mo (gh_fL (gh_fL q5 56 17 ((q5.2.1 56 17) + ((a2 : Int32).toInt64))) 56 18 (((gh_fL q5 56 17 ((q5.2.1 56 17) + ((a2 : Int32).toInt64))).2.1 56 18) + q4.1)), 0, 0))) (fun _ => rfl) ?_
      cases h
      exact gh_T_ret (fun _ => rfl)
    | false =>
      rw [c6, cond_false] at h
      refine gh_T_if false rfl c6 ?_
      refine gh_T_steps 1 (τ := (26, [(0, .ref 56), (1, .int a1), (2, .int a2)], [.long ((-1))], (gh_mo q3.2, 0, 0))) (fun _ => rfl) ?_
      cases h
      exact gh_T_ret (fun _ => rfl)
theorem kX10_ship (d N : Nat) (a1 : Int32) (a2 : Int32) (S : gh_St) (r : Int64 × gh_St) (h : sX10_ship N a1 a2 S = some r) : gh_Mx (d + 3) 135 [.ref 56, .int a1, .int a2] (gh_mo S) (some (.long r.1)) (gh_mo r.2) :=
  gh_Mx_of rfl rfl rfl rfl rfl rfl (kX10_ship_e d N a1 a2 S r h)
def sX10_binOf_23 (N : Nat) (l1 : Int32) (l2 : Int32) (t0 : Int32) (S : gh_St) : Option (Int32 × gh_St) :=
  bif gh_cmp .eq l2 0 then
    (bif gh_cmp .eq t0 0 then
      ((gh_ra S 58 8 l1).bind fun x2 =>
      some (x2, S))
    else
      (some ((-1), S)))
  else
    bif gh_cmp .eq l2 1 then
    ((gh_ra S 59 8 l1).bind fun x5 =>
      some (x5, S))
  else
    bif gh_cmp .eq l2 2 then
    (bif gh_cmp .eq t0 0 then
          ((gh_rj S 60 8 l1).bind fun x7 =>
          (gh_ra S 59 8 l1).bind fun x8 =>
          (sX10_moistOf N x7 ((x8 : Int32).toInt64) S).bind fun q9 =>
          some (q9.1, q9.2))
        else
          (some ((-1), S)))
  else
    bif gh_cmp .eq l2 3 then
    ((gh_ra S 57 8 l1).bind fun x12 =>
          some (x12, S))
  else
    (some ((-1), S))
set_option maxRecDepth 100000 in
theorem kX10_binOf_23 (d N : Nat) (l1 : Int32) (l2 : Int32) (t0 : Int32) (S : gh_St) (r : Int32 × gh_St) (h : sX10_binOf_23 N l1 l2 t0 S = some r) : gh_T (d + 2) fX10_binOf 0 0 none false false (23, [(0, .ref 56), (1, .int l1), (2, .int l2)], [.int t0], (gh_mo S, 0, 0)) (some (.int r.1), (gh_mo r.2, 0, 0)) := by
  unfold sX10_binOf_23 at h
  refine gh_T_steps 2 (τ := (25, [(3, .int t0), (0, .ref 56), (1, .int l1), (2, .int l2)], [.int l2], (gh_mo S, 0, 0))) (fun _ => rfl) ?_
  cases c1 : gh_cmp .eq l2 0 with
  | true =>
    rw [c1, cond_true] at h
    refine gh_T_at 0 c1 (τ := (56, [(3, .int t0), (0, .ref 56), (1, .int l1), (2, .int l2)], [], (gh_mo S, 0, 0))) (fun _ => rfl) ?_
    refine gh_T_steps 1 (τ := (57, [(3, .int t0), (0, .ref 56), (1, .int l1), (2, .int l2)], [.int t0], (gh_mo S, 0, 0))) (fun _ => rfl) ?_
    cases c3 : gh_cmp .eq t0 0 with
    | true =>
      rw [c3, cond_true] at h
      refine gh_T_if true rfl c3 ?_
      refine gh_T_steps 3 (τ := (69, [(3, .int t0), (0, .ref 56), (1, .int l1), (2, .int l2)], [.int l1, .ref 58], (gh_mo S, 0, 0))) (fun _ => rfl) ?_
      obtain ⟨x2, hx2, h⟩ := gh_bi h
      refine gh_T_ra rfl rfl hx2 ?_
      cases h
      exact gh_T_ret (fun _ => rfl)
    | false =>
      rw [c3, cond_false] at h
      refine gh_T_if false rfl c3 ?_
      refine gh_T_steps 2 (τ := (70, [(3, .int t0), (0, .ref 56), (1, .int l1), (2, .int l2)], [.int ((-1))], (gh_mo S, 0, 0))) (fun _ => rfl) ?_
      cases h
      exact gh_T_ret (fun _ => rfl)
  | false =>
    rw [c1, cond_false] at h
    cases c4 : gh_cmp .eq l2 1 with
    | true =>
      rw [c4, cond_true] at h
      refine gh_T_at 1 c4 (τ := (71, [(3, .int t0), (0, .ref 56), (1, .int l1), (2, .int l2)], [], (gh_mo S, 0, 0))) (fun _ => rfl) ?_
      refine gh_T_steps 3 (τ := (76, [(3, .int t0), (0, .ref 56), (1, .int l1), (2, .int l2)], [.int l1, .ref 59], (gh_mo S, 0, 0))) (fun _ => rfl) ?_
      obtain ⟨x5, hx5, h⟩ := gh_bi h
      refine gh_T_ra rfl rfl hx5 ?_
      cases h
      exact gh_T_ret (fun _ => rfl)
    | false =>
      rw [c4, cond_false] at h
      cases c6 : gh_cmp .eq l2 2 with
      | true =>
        rw [c6, cond_true] at h
        refine gh_T_at 2 c6 (τ := (78, [(3, .int t0), (0, .ref 56), (1, .int l1), (2, .int l2)], [], (gh_mo S, 0, 0))) (fun _ => rfl) ?_
        refine gh_T_steps 1 (τ := (79, [(3, .int t0), (0, .ref 56), (1, .int l1), (2, .int l2)], [.int t0], (gh_mo S, 0, 0))) (fun _ => rfl) ?_
        cases c10 : gh_cmp .eq t0 0 with
        | true =>
          rw [c10, cond_true] at h
          refine gh_T_if true rfl c10 ?_
          refine gh_T_steps 3 (τ := (91, [(3, .int t0), (0, .ref 56), (1, .int l1), (2, .int l2)], [.int l1, .ref 60], (gh_mo S, 0, 0))) (fun _ => rfl) ?_
          obtain ⟨x7, hx7, h⟩ := gh_bi h
          refine gh_T_rj rfl rfl hx7 ?_
          refine gh_T_steps 3 (τ := (97, [(3, .int t0), (0, .ref 56), (1, .int l1), (2, .int l2)], [.int l1, .ref 59, .long x7], (gh_mo S, 0, 0))) (fun _ => rfl) ?_
          obtain ⟨x8, hx8, h⟩ := gh_bi h
          refine gh_T_ra rfl rfl hx8 ?_
          refine gh_T_steps 1 (τ := (99, [(3, .int t0), (0, .ref 56), (1, .int l1), (2, .int l2)], [.long ((x8 : Int32).toInt64), .long x7], (gh_mo S, 0, 0))) (fun _ => rfl) ?_
          obtain ⟨q9, hq9, h⟩ := gh_bi h
          refine gh_T_is (As := [.long x7, .long ((x8 : Int32).toInt64)]) (rest := []) (y := some (.int q9.1)) (M' := gh_mo q9.2) rfl rfl rfl rfl rfl rfl rfl ⟨Nat.le_refl _, Nat.le_refl _⟩ (kX10_moistOf (d + 1) N x7 ((x8 : Int32).toInt64) S q9 hq9) ?_
          cases h
          exact gh_T_ret (fun _ => rfl)
        | false =>
          rw [c10, cond_false] at h
          refine gh_T_if false rfl c10 ?_
          refine gh_T_steps 2 (τ := (102, [(3, .int t0), (0, .ref 56), (1, .int l1), (2, .int l2)], [.int ((-1))], (gh_mo S, 0, 0))) (fun _ => rfl) ?_
          cases h
          exact gh_T_ret (fun _ => rfl)
      | false =>
        rw [c6, cond_false] at h
        cases c11 : gh_cmp .eq l2 3 with
        | true =>
          rw [c11, cond_true] at h
          refine gh_T_at 3 c11 (τ := (103, [(3, .int t0), (0, .ref 56), (1, .int l1), (2, .int l2)], [], (gh_mo S, 0, 0))) (fun _ => rfl) ?_
          refine gh_T_steps 3 (τ := (108, [(3, .int t0), (0, .ref 56), (1, .int l1), (2, .int l2)], [.int l1, .ref 57], (gh_mo S, 0, 0))) (fun _ => rfl) ?_
          obtain ⟨x12, hx12, h⟩ := gh_bi h
          refine gh_T_ra rfl rfl hx12 ?_
          cases h
          exact gh_T_ret (fun _ => rfl)
        | false =>
          rw [c11, cond_false] at h
          refine gh_T_td (tgt := 110) 4 rfl rfl (by decide) ⟨⟨⟨⟨trivial, c1⟩, c4⟩, c6⟩, c11⟩ (by decide) ?_
          refine gh_T_steps 1 (τ := (111, [(3, .int t0), (0, .ref 56), (1, .int l1), (2, .int l2)], [.int ((-1))], (gh_mo S, 0, 0))) (fun _ => rfl) ?_
          cases h
          exact gh_T_ret (fun _ => rfl)
def sX10_binOf (N : Nat) (a1 : Int32) (a2 : Int32) (S : gh_St) : Option (Int32 × gh_St) :=
  (sX10_isBin N a1 S).bind fun q1 =>
  bif gh_cmp .ne q1.1 0 then
    ((gh_ra q1.2 59 8 a1).bind fun x2 =>
    bif gh_cmp .ne x2 0 then
      (sX10_binOf_23 N a1 a2 0 q1.2)
    else
      (sX10_binOf_23 N a1 a2 1 q1.2))
  else
    (some ((-1), q1.2))
set_option maxRecDepth 100000 in
theorem kX10_binOf_e (d N : Nat) (a1 : Int32) (a2 : Int32) (S : gh_St) (r : Int32 × gh_St) (h : sX10_binOf N a1 a2 S = some r) : gh_T (d + 2) fX10_binOf 0 0 none false false (0, [(0, .ref 56), (1, .int a1), (2, .int a2)], [], (gh_mo S, 0, 0)) (some (.int r.1), (gh_mo r.2, 0, 0)) := by
  unfold sX10_binOf at h
  refine gh_T_steps 1 (τ := (1, [(0, .ref 56), (1, .int a1), (2, .int a2)], [.int a1], (gh_mo S, 0, 0))) (fun _ => rfl) ?_
  obtain ⟨q1, hq1, h⟩ := gh_bi h
  refine gh_T_is (As := [.int a1]) (rest := []) (y := some (.int q1.1)) (M' := gh_mo q1.2) rfl rfl rfl rfl rfl rfl rfl ⟨Nat.le_refl _, Nat.le_refl _⟩ (kX10_isBin d N a1 S q1 hq1) ?_
  cases c4 : gh_cmp .ne q1.1 0 with
  | true =>
    rw [c4, cond_true] at h
    refine gh_T_if true rfl c4 ?_
    refine gh_T_steps 3 (τ := (14, [(0, .ref 56), (1, .int a1), (2, .int a2)], [.int a1, .ref 59], (gh_mo q1.2, 0, 0))) (fun _ => rfl) ?_
    obtain ⟨x2, hx2, h⟩ := gh_bi h
    refine gh_T_ra rfl rfl hx2 ?_
    cases c3 : gh_cmp .ne x2 0 with
    | true =>
      rw [c3, cond_true] at h
      refine gh_T_if true rfl c3 ?_
      refine gh_T_steps 1 (τ := (23, [(0, .ref 56), (1, .int a1), (2, .int a2)], [.int 0], (gh_mo q1.2, 0, 0))) (fun _ => rfl) ?_
      exact kX10_binOf_23 d N a1 a2 0 q1.2 _ h
    | false =>
      rw [c3, cond_false] at h
      refine gh_T_if false rfl c3 ?_
      refine gh_T_steps 2 (τ := (23, [(0, .ref 56), (1, .int a1), (2, .int a2)], [.int 1], (gh_mo q1.2, 0, 0))) (fun _ => rfl) ?_
      exact kX10_binOf_23 d N a1 a2 1 q1.2 _ h
  | false =>
    rw [c4, cond_false] at h
    refine gh_T_if false rfl c4 ?_
    refine gh_T_steps 1 (τ := (8, [(0, .ref 56), (1, .int a1), (2, .int a2)], [.int ((-1))], (gh_mo q1.2, 0, 0))) (fun _ => rfl) ?_
    cases h
    exact gh_T_ret (fun _ => rfl)
theorem kX10_binOf (d N : Nat) (a1 : Int32) (a2 : Int32) (S : gh_St) (r : Int32 × gh_St) (h : sX10_binOf N a1 a2 S = some r) : gh_Mx (d + 3) 136 [.ref 56, .int a1, .int a2] (gh_mo S) (some (.int r.1)) (gh_mo r.2) :=
  gh_Mx_of rfl rfl rfl rfl rfl rfl (kX10_binOf_e d N a1 a2 S r h)
def sX10_dryIn (N : Nat) (a1 : Int32) (S : gh_St) : Option (Int64 × gh_St) :=
  (sX10_isBin N a1 S).bind fun q1 =>
  bif gh_cmp .eq q1.1 0 then
    (some ((-1), q1.2))
  else
    ((gh_rj q1.2 60 8 a1).bind fun x2 =>
    some (x2, q1.2))
set_option maxRecDepth 100000 in
theorem kX10_dryIn_e (d N : Nat) (a1 : Int32) (S : gh_St) (r : Int64 × gh_St) (h : sX10_dryIn N a1 S = some r) : gh_T (d + 2) fX10_dryIn 0 0 none false false (0, [(0, .ref 56), (1, .int a1)], [], (gh_mo S, 0, 0)) (some (.long r.1), (gh_mo r.2, 0, 0)) := by
  unfold sX10_dryIn at h
  refine gh_T_steps 1 (τ := (1, [(0, .ref 56), (1, .int a1)], [.int a1], (gh_mo S, 0, 0))) (fun _ => rfl) ?_
  obtain ⟨q1, hq1, h⟩ := gh_bi h
  refine gh_T_is (As := [.int a1]) (rest := []) (y := some (.int q1.1)) (M' := gh_mo q1.2) rfl rfl rfl rfl rfl rfl rfl ⟨Nat.le_refl _, Nat.le_refl _⟩ (kX10_isBin d N a1 S q1 hq1) ?_
  cases c3 : gh_cmp .eq q1.1 0 with
  | true =>
    rw [c3, cond_true] at h
    refine gh_T_if true rfl c3 ?_
    refine gh_T_steps 1 (τ := (19, [(0, .ref 56), (1, .int a1)], [.long ((-1))], (gh_mo q1.2, 0, 0))) (fun _ => rfl) ?_
    cases h
    exact gh_T_ret (fun _ => rfl)
  | false =>
    rw [c3, cond_false] at h
    refine gh_T_if false rfl c3 ?_
    refine gh_T_steps 3 (τ := (12, [(0, .ref 56), (1, .int a1)], [.int a1, .ref 60], (gh_mo q1.2, 0, 0))) (fun _ => rfl) ?_
    obtain ⟨x2, hx2, h⟩ := gh_bi h
    refine gh_T_rj rfl rfl hx2 ?_
    refine gh_T_steps 1 (τ := (19, [(0, .ref 56), (1, .int a1)], [.long x2], (gh_mo q1.2, 0, 0))) (fun _ => rfl) ?_
    cases h
    exact gh_T_ret (fun _ => rfl)
theorem kX10_dryIn (d N : Nat) (a1 : Int32) (S : gh_St) (r : Int64 × gh_St) (h : sX10_dryIn N a1 S = some r) : gh_Mx (d + 3) 137 [.ref 56, .int a1] (gh_mo S) (some (.long r.1)) (gh_mo r.2) :=
  gh_Mx_of rfl rfl rfl rfl rfl rfl (kX10_dryIn_e d N a1 S r h)

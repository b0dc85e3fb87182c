/-! ===== shallow functions, by program ===== -/
def sX0_has (N : Nat) (a1 : Int32) (a2 : Int32) (S : gh_St) : Option (Int32 × gh_St) :=
  (gh_ra S 3 8 a1).bind fun x1 =>
  bif gh_cmp .le x1 0 then
    (some (0, S))
  else
    ((gh_ra S 2 8 a1).bind fun x2 =>
    bif gh_cmp .ne x2 a2 then
      (some (0, S))
    else
      (some (1, S)))
set_option maxRecDepth 100000 in
theorem kX0_has_e (d N : Nat) (a1 : Int32) (a2 : Int32) (S : gh_St) (r : Int32 × gh_St) (h : sX0_has N a1 a2 S = some r) : gh_T d fX0_has 0 0 none true false (0, [(0, .ref 1), (1, .int a1), (2, .int a2)], [], (gh_mo S, 0, 0)) (some (.int r.1), (gh_mo r.2, 0, 0)) := by
  unfold sX0_has at h
  refine gh_T_steps 3 (τ := (5, [(0, .ref 1), (1, .int a1), (2, .int a2)], [.int a1, .ref 3], (gh_mo S, 0, 0))) (fun _ => rfl) ?_
  obtain ⟨x1, hx1, h⟩ := gh_bi h
  refine gh_T_ra rfl rfl hx1 ?_
  cases c4 : gh_cmp .le x1 0 with
  | true =>
    rw [c4, cond_true] at h
    refine gh_T_if true rfl c4 ?_
    refine gh_T_steps 1 (τ := (24, [(0, .ref 1), (1, .int a1), (2, .int a2)], [.int 0], (gh_mo S, 0, 0))) (fun _ => rfl) ?_
    cases h
    exact gh_T_ret (fun _ => rfl)
  | false =>
    rw [c4, cond_false] at h
    refine gh_T_if false rfl c4 ?_
    refine gh_T_steps 3 (τ := (14, [(0, .ref 1), (1, .int a1), (2, .int a2)], [.int a1, .ref 2], (gh_mo S, 0, 0))) (fun _ => rfl) ?_
    obtain ⟨x2, hx2, h⟩ := gh_bi h
    refine gh_T_ra rfl rfl hx2 ?_
    refine gh_T_steps 1 (τ := (16, [(0, .ref 1), (1, .int a1), (2, .int a2)], [.int a2, .int x2], (gh_mo S, 0, 0))) (fun _ => rfl) ?_
    cases c3 : gh_cmp .ne x2 a2 with
    | true =>
      rw [c3, cond_true] at h
      refine gh_T_ic true rfl c3 ?_
      refine gh_T_steps 1 (τ := (24, [(0, .ref 1), (1, .int a1), (2, .int a2)], [.int 0], (gh_mo S, 0, 0))) (fun _ => rfl) ?_
      cases h
      exact gh_T_ret (fun _ => rfl)
    | false =>
      rw [c3, cond_false] at h
      refine gh_T_ic false rfl c3 ?_
      refine gh_T_steps 2 (τ := (24, [(0, .ref 1), (1, .int a1), (2, .int a2)], [.int 1], (gh_mo S, 0, 0))) (fun _ => rfl) ?_
      cases h
      exact gh_T_ret (fun _ => rfl)
theorem kX0_has (d N : Nat) (a1 : Int32) (a2 : Int32) (S : gh_St) (r : Int32 × gh_St) (h : sX0_has N a1 a2 S = some r) : gh_Mx (d + 1) 1 [.ref 1, .int a1, .int a2] (gh_mo S) (some (.int r.1)) (gh_mo r.2) :=
  gh_Mx_of rfl rfl rfl rfl rfl rfl (kX0_has_e d N a1 a2 S r h)
def sX0_part (N : Nat) (a1 : Int32) (a2 : Int32) (S : gh_St) : Option (Int64 × gh_St) :=
  (gh_ra S 3 8 a1).bind fun x1 =>
  bif gh_cmp .ne x1 0 then
    ((gh_rj S 5 8 a1).bind fun x2 =>
    (gh_ra S 3 8 a1).bind fun x3 =>
    (gh_dj (x2 * ((a2 : Int32).toInt64)) ((x3 : Int32).toInt64)).bind fun x4 =>
    some (x4, S))
  else
    (some (0, S))
set_option maxRecDepth 100000 in
theorem kX0_part_e (d N : Nat) (a1 : Int32) (a2 : Int32) (S : gh_St) (r : Int64 × gh_St) (h : sX0_part N a1 a2 S = some r) : gh_T d fX0_part 0 0 none false false (0, [(0, .ref 1), (1, .int a1), (2, .int a2)], [], (gh_mo S, 0, 0)) (some (.long r.1), (gh_mo r.2, 0, 0)) := by
  unfold sX0_part at h
  refine gh_T_steps 3 (τ := (5, [(0, .ref 1), (1, .int a1), (2, .int a2)], [.int a1, .ref 3], (gh_mo S, 0, 0))) (fun _ => rfl) ?_
  obtain ⟨x1, hx1, h⟩ := gh_bi h
  refine gh_T_ra rfl rfl hx1 ?_
  cases c5 : gh_cmp .ne x1 0 with
  | true =>
    rw [c5, cond_true] at h
    refine gh_T_if true rfl c5 ?_
    refine gh_T_steps 3 (τ := (18, [(0, .ref 1), (1, .int a1), (2, .int a2)], [.int a1, .ref 5], (gh_mo S, 0, 0))) (fun _ => rfl) ?_
    obtain ⟨x2, hx2, h⟩ := gh_bi h
    refine gh_T_rj rfl rfl hx2 ?_
    refine gh_T_steps 6 (τ := (27, [(0, .ref 1), (1, .int a1), (2, .int a2)], [.int a1, .ref 3, .long (x2 * ((a2 : Int32).toInt64))], (gh_mo S, 0, 0))) (fun _ => rfl) ?_
    obtain ⟨x3, hx3, h⟩ := gh_bi h
    refine gh_T_ra rfl rfl hx3 ?_
    refine gh_T_steps 1 (τ := (29, [(0, .ref 1), (1, .int a1), (2, .int a2)], [.long ((x3 : Int32).toInt64), .long (x2 * ((a2 : Int32).toInt64))], (gh_mo S, 0, 0))) (fun _ => rfl) ?_
    obtain ⟨x4, hx4, h⟩ := gh_bi h
    refine gh_T_dj rfl hx4 ?_
    cases h
    exact gh_T_ret (fun _ => rfl)
  | false =>
    rw [c5, cond_false] at h
    refine gh_T_if false rfl c5 ?_
    refine gh_T_steps 2 (τ := (30, [(0, .ref 1), (1, .int a1), (2, .int a2)], [.long 0], (gh_mo S, 0, 0))) (fun _ => rfl) ?_
    cases h
    exact gh_T_ret (fun _ => rfl)
theorem kX0_part (d N : Nat) (a1 : Int32) (a2 : Int32) (S : gh_St) (r : Int64 × gh_St) (h : sX0_part N a1 a2 S = some r) : gh_Mx (d + 1) 4 [.ref 1, .int a1, .int a2] (gh_mo S) (some (.long r.1)) (gh_mo r.2) :=
  gh_Mx_of rfl rfl rfl rfl rfl rfl (kX0_part_e d N a1 a2 S r h)
def sX0_take (N : Nat) (a1 : Int32) (a2 : Int32) (S : gh_St) : Option (Int64 × gh_St) :=
  (sX0_part N a1 a2 S).bind fun q1 =>
  (gh_ra q1.2 3 8 a1).bind fun x2 =>
  (gh_wa q1.2 3 8 a1 (x2 - a2)).bind fun S3 =>
  (gh_rj S3 5 8 a1).bind fun x4 =>
  (gh_wj S3 5 8 a1 (x4 - q1.1)).bind fun S5 =>
  some (q1.1, S5)
set_option maxRecDepth 100000 in
theorem kX0_take_e (d N : Nat) (a1 : Int32) (a2 : Int32) (S : gh_St) (r : Int64 × gh_St) (h : sX0_take N a1 a2 S = some r) : gh_T (d + 1) fX0_take 0 0 none false false (0, [(0, .ref 1), (1, .int a1), (2, .int a2)], [], (gh_mo S, 0, 0)) (some (.long r.1), (gh_mo r.2, 0, 0)) := by
  unfold sX0_take at h
  refine gh_T_steps 3 (τ := (3, [(0, .ref 1), (1, .int a1), (2, .int a2)], [.int a2, .int a1, .ref 1], (gh_mo S, 0, 0))) (fun _ => rfl) ?_
  obtain ⟨q1, hq1, h⟩ := gh_bi h
  refine gh_T_iv (As := [.int a1, .int a2]) (b := 1) (rest := []) (y := some (.long q1.1)) (M' := gh_mo q1.2) rfl rfl rfl rfl rfl rfl rfl rfl rfl ⟨Nat.le_refl _, Nat.le_refl _⟩ (kX0_part d N a1 a2 S q1 hq1) ?_
  refine gh_T_steps 5 (τ := (13, [(3, .long q1.1), (0, .ref 1), (1, .int a1), (2, .int a2)], [.int a1, .ref 3, .int a1, .ref 3], (gh_mo q1.2, 0, 0))) (fun _ => rfl) ?_
  obtain ⟨x2, hx2, h⟩ := gh_bi h
  refine gh_T_ra rfl rfl hx2 ?_
  refine gh_T_steps 2 (τ := (16, [(3, .long q1.1), (0, .ref 1), (1, .int a1), (2, .int a2)], [.int (x2 - a2), .int a1, .ref 3], (gh_mo q1.2, 0, 0))) (fun _ => rfl) ?_
  obtain ⟨S3, hS3, h⟩ := gh_bi h
  refine gh_T_wa rfl rfl hS3 ?_
  refine gh_T_steps 4 (τ := (23, [(3, .long q1.1), (0, .ref 1), (1, .int a1), (2, .int a2)], [.int a1, .ref 5, .int a1, .ref 5], (gh_mo S3, 0, 0))) (fun _ => rfl) ?_
  obtain ⟨x4, hx4, h⟩ := gh_bi h
  refine gh_T_rj rfl rfl hx4 ?_
  refine gh_T_steps 2 (τ := (26, [(3, .long q1.1), (0, .ref 1), (1, .int a1), (2, .int a2)], [.long (x4 - q1.1), .int a1, .ref 5], (gh_mo S3, 0, 0))) (fun _ => rfl) ?_
  obtain ⟨S5, hS5, h⟩ := gh_bi h
  refine gh_T_wj rfl rfl hS5 ?_
  refine gh_T_steps 1 (τ := (28, [(3, .long q1.1), (0, .ref 1), (1, .int a1), (2, .int a2)], [.long q1.1], (gh_mo S5, 0, 0))) (fun _ => rfl) ?_
  cases h
  exact gh_T_ret (fun _ => rfl)
theorem kX0_take (d N : Nat) (a1 : Int32) (a2 : Int32) (S : gh_St) (r : Int64 × gh_St) (h : sX0_take N a1 a2 S = some r) : gh_Mx (d + 2) 5 [.ref 1, .int a1, .int a2] (gh_mo S) (some (.long r.1)) (gh_mo r.2) :=
  gh_Mx_of rfl rfl rfl rfl rfl rfl (kX0_take_e d N a1 a2 S r h)
def sX0_put (N : Nat) (a1 : Int32) (a2 : Int32) (a3 : Int32) (a4 : Int64) (S : gh_St) : Option (gh_St) :=
  (gh_wa S 2 8 a1 a2).bind fun S1 =>
  (gh_ra S1 3 8 a1).bind fun x2 =>
  (gh_wa S1 3 8 a1 (x2 + a3)).bind fun S3 =>
  (gh_rj S3 5 8 a1).bind fun x4 =>
  (gh_wj S3 5 8 a1 (x4 + a4)).bind fun S5 =>
  some S5
set_option maxRecDepth 100000 in
theorem kX0_put_e (d N : Nat) (a1 : Int32) (a2 : Int32) (a3 : Int32) (a4 : Int64) (S : gh_St) (r : gh_St) (h : sX0_put N a1 a2 a3 a4 S = some r) : gh_T d fX0_put 0 0 none false false (0, [(0, .ref 1), (1, .int a1), (2, .int a2), (3, .int a3), (4, .long a4)], [], (gh_mo S, 0, 0)) (none, (gh_mo r, 0, 0)) := by
  unfold sX0_put at h
  refine gh_T_steps 4 (τ := (6, [(0, .ref 1), (1, .int a1), (2, .int a2), (3, .int a3), (4, .long a4)], [.int a2, .int a1, .ref 2], (gh_mo S, 0, 0))) (fun _ => rfl) ?_
  obtain ⟨S1, hS1, h⟩ := gh_bi h
  refine gh_T_wa rfl rfl hS1 ?_
  refine gh_T_steps 4 (τ := (13, [(0, .ref 1), (1, .int a1), (2, .int a2), (3, .int a3), (4, .long a4)], [.int a1, .ref 3, .int a1, .ref 3], (gh_mo S1, 0, 0))) (fun _ => rfl) ?_
  obtain ⟨x2, hx2, h⟩ := gh_bi h
  refine gh_T_ra rfl rfl hx2 ?_
  refine gh_T_steps 2 (τ := (16, [(0, .ref 1), (1, .int a1), (2, .int a2), (3, .int a3), (4, .long a4)], [.int (x2 + a3), .int a1, .ref 3], (gh_mo S1, 0, 0))) (fun _ => rfl) ?_
  obtain ⟨S3, hS3, h⟩ := gh_bi h
  refine gh_T_wa rfl rfl hS3 ?_
  refine gh_T_steps 4 (τ := (23, [(0, .ref 1), (1, .int a1), (2, .int a2), (3, .int a3), (4, .long a4)], [.int a1, .ref 5, .int a1, .ref 5], (gh_mo S3, 0, 0))) (fun _ => rfl) ?_
  obtain ⟨x4, hx4, h⟩ := gh_bi h
  refine gh_T_rj rfl rfl hx4 ?_
  refine gh_T_steps 2 (τ := (27, [(0, .ref 1), (1, .int a1), (2, .int a2), (3, .int a3), (4, .long a4)], [.long (x4 + a4), .int a1, .ref 5], (gh_mo S3, 0, 0))) (fun _ => rfl) ?_
  obtain ⟨S5, hS5, h⟩ := gh_bi h
  refine gh_T_wj rfl rfl hS5 ?_
  cases h
  exact gh_T_ret (fun _ => rfl)
theorem kX0_put (d N : Nat) (a1 : Int32) (a2 : Int32) (a3 : Int32) (a4 : Int64) (S : gh_St) (r : gh_St) (h : sX0_put N a1 a2 a3 a4 S = some r) : gh_Mx (d + 1) 6 [.ref 1, .int a1, .int a2, .int a3, .long a4] (gh_mo S) none (gh_mo r) :=
  gh_Mx_of rfl rfl rfl rfl rfl rfl (kX0_put_e d N a1 a2 a3 a4 S r h)
def sX0_moist (N : Nat) (a1 : Int32) (S : gh_St) : Option (Int32 × gh_St) :=
  (gh_ra S 3 8 a1).bind fun x1 =>
  bif gh_cmp .ne x1 0 then
    ((gh_rj S 5 8 a1).bind fun x2 =>
    (gh_ra S 3 8 a1).bind fun x3 =>
    (gh_dj x2 ((x3 : Int32).toInt64)).bind fun x4 =>
    some ((gh_mxj 0 ((1000 : Int64) - x4) : Int64).toInt32, S))
  else
    (some ((-1), S))
set_option maxRecDepth 100000 in
theorem kX0_moist_e (d N : Nat) (a1 : Int32) (S : gh_St) (r : Int32 × gh_St) (h : sX0_moist N a1 S = some r) : gh_T d fX0_moist 0 0 none false false (0, [(0, .ref 1), (1, .int a1)], [], (gh_mo S, 0, 0)) (some (.int r.1), (gh_mo r.2, 0, 0)) := by
  unfold sX0_moist at h
  refine gh_T_steps 3 (τ := (5, [(0, .ref 1), (1, .int a1)], [.int a1, .ref 3], (gh_mo S, 0, 0))) (fun _ => rfl) ?_
  obtain ⟨x1, hx1, h⟩ := gh_bi h
  refine gh_T_ra rfl rfl hx1 ?_
  cases c5 : gh_cmp .ne x1 0 with
  | true =>
    rw [c5, cond_true] at h
    refine gh_T_if true rfl c5 ?_
    refine gh_T_steps 5 (τ := (20, [(0, .ref 1), (1, .int a1)], [.int a1, .ref 5, .long 1000, .long 0], (gh_mo S, 0, 0))) (fun _ => rfl) ?_
    obtain ⟨x2, hx2, h⟩ := gh_bi h
    refine gh_T_rj rfl rfl hx2 ?_
    refine gh_T_steps 3 (τ := (26, [(0, .ref 1), (1, .int a1)], [.int a1, .ref 3, .long x2, .long 1000, .long 0], (gh_mo S, 0, 0))) (fun _ => rfl) ?_
    obtain ⟨x3, hx3, h⟩ := gh_bi h
    refine gh_T_ra rfl rfl hx3 ?_
    refine gh_T_steps 1 (τ := (28, [(0, .ref 1), (1, .int a1)], [.long ((x3 : Int32).toInt64), .long x2, .long 1000, .long 0], (gh_mo S, 0, 0))) (fun _ => rfl) ?_
    obtain ⟨x4, hx4, h⟩ := gh_bi h
    refine gh_T_dj rfl hx4 ?_
    refine gh_T_steps 3 (τ := (34, [(0, .ref 1), (1, .int a1)], [.int ((gh_mxj 0 ((1000 : Int64) - x4) : Int64).toInt32)], (gh_mo S, 0, 0))) (fun _ => rfl) ?_
    cases h
    exact gh_T_ret (fun _ => rfl)
  | false =>
    rw [c5, cond_false] at h
    refine gh_T_if false rfl c5 ?_
    refine gh_T_steps 1 (τ := (10, [(0, .ref 1), (1, .int a1)], [.int ((-1))], (gh_mo S, 0, 0))) (fun _ => rfl) ?_
    cases h
    exact gh_T_ret (fun _ => rfl)
theorem kX0_moist (d N : Nat) (a1 : Int32) (S : gh_St) (r : Int32 × gh_St) (h : sX0_moist N a1 S = some r) : gh_Mx (d + 1) 7 [.ref 1, .int a1] (gh_mo S) (some (.int r.1)) (gh_mo r.2) :=
  gh_Mx_of rfl rfl rfl rfl rfl rfl (kX0_moist_e d N a1 S r h)
def sX0_allGrams_4 (N : Nat) : Nat → Int64 → Int32 → gh_St → Option (Int64 × gh_St)
  | 0, _, _, _ => none
  | n + 1, l1, l3, S =>
    bif gh_cmp .ge l3 8 then
      (some (l1, S))
    else
      ((gh_rj S 5 8 l3).bind fun x1 =>
      (sX0_allGrams_4 N n) (l1 + x1) (l3 + 1) S)
set_option maxRecDepth 100000 in
theorem kX0_allGrams_4 (d N : Nat) : ∀ (n : Nat) (l1 : Int64) (l3 : Int32) (S : gh_St) (r : Int64 × gh_St), sX0_allGrams_4 N n l1 l3 S = some r → gh_T d fX0_allGrams 0 0 none false false (4, [(0, .ref 1), (1, .long l1), (3, .int l3)], [], (gh_mo S, 0, 0)) (some (.long r.1), (gh_mo r.2, 0, 0)) := by
  intro n
  induction n with
  | zero =>
    intro l1 l3 S r h
    cases h
  | succ n ih =>
    intro l1 l3 S r h
    rw [sX0_allGrams_4] at h
    refine gh_T_steps 2 (τ := (7, [(0, .ref 1), (1, .long l1), (3, .int l3)], [.int 8, .int l3], (gh_mo S, 0, 0))) (fun _ => rfl) ?_
    cases c2 : gh_cmp .ge l3 8 with
    | true =>
      rw [c2, cond_true] at h
      refine gh_T_ic true rfl c2 ?_
      refine gh_T_steps 1 (τ := (26, [(0, .ref 1), (1, .long l1), (3, .int l3)], [.long l1], (gh_mo S, 0, 0))) (fun _ => rfl) ?_
      cases h
      exact gh_T_ret (fun _ => rfl)
    | false =>
      rw [c2, cond_false] at h
      refine gh_T_ic false rfl c2 ?_
      refine gh_T_steps 4 (τ := (16, [(0, .ref 1), (1, .long l1), (3, .int l3)], [.int l3, .ref 5, .long l1], (gh_mo S, 0, 0))) (fun _ => rfl) ?_
      obtain ⟨x1, hx1, h⟩ := gh_bi h
      refine gh_T_rj rfl rfl hx1 ?_
      refine gh_T_steps 4 (τ := (4, [(3, .int (l3 + 1)), (1, .long (l1 + x1)), (0, .ref 1)], [], (gh_mo S, 0, 0))) (fun _ => rfl) ?_
      refine gh_T_weak (lv := [(0, .ref 1), (1, .long (l1 + x1)), (3, .int (l3 + 1))]) ⟨rfl, rfl, rfl, trivial⟩ ?_
      exact ih (l1 + x1) (l3 + 1) S _ h
def sX0_allGrams (N : Nat) (S : gh_St) : Option (Int64 × gh_St) :=
  sX0_allGrams_4 N N 0 0 S
set_option maxRecDepth 100000 in
theorem kX0_allGrams_e (d N : Nat) (S : gh_St) (r : Int64 × gh_St) (h : sX0_allGrams N S = some r) : gh_T d fX0_allGrams 0 0 none false false (0, [(0, .ref 1)], [], (gh_mo S, 0, 0)) (some (.long r.1), (gh_mo r.2, 0, 0)) := by
  unfold sX0_allGrams at h
  refine gh_T_steps 4 (τ := (4, [(3, .int 0), (1, .long 0), (0, .ref 1)], [], (gh_mo S, 0, 0))) (fun _ => rfl) ?_
  refine gh_T_weak (lv := [(0, .ref 1), (1, .long 0), (3, .int 0)]) ⟨rfl, rfl, rfl, trivial⟩ ?_
  exact kX0_allGrams_4 d N N 0 0 S _ h
theorem kX0_allGrams (d N : Nat) (S : gh_St) (r : Int64 × gh_St) (h : sX0_allGrams N S = some r) : gh_Mx (d + 1) 8 [.ref 1] (gh_mo S) (some (.long r.1)) (gh_mo r.2) :=
  gh_Mx_of rfl rfl rfl rfl rfl rfl (kX0_allGrams_e d N S r h)
def sX1_choose_65 (N : Nat) (kc8 : Int32 → Int32 → Int32 → gh_St → Option (Int32 × gh_St)) (l2 : Int32) (l3 : Int32) (l4 : Int32) (S : gh_St) : Option (Int32 × gh_St) :=
  kc8 l2 l3 (l4 + 1) S
set_option maxRecDepth 100000 in
theorem kX1_choose_65 (d N : Nat) (kc8 : Int32 → Int32 → Int32 → gh_St → Option (Int32 × gh_St)) (hkc8 : ∀ (l2 : Int32) (l3 : Int32) (l4 : Int32) (S : gh_St) (r : Int32 × gh_St), kc8 l2 l3 l4 S = some r → gh_T (d + 1) fX1_choose 0 0 none true false (8, [(0, .ref 37), (1, .ref 1), (2, .int l2), (3, .int l3), (4, .int l4)], [], (gh_mo S, 0, 0)) (some (.int r.1), (gh_mo r.2, 0, 0))) (l2 : Int32) (l3 : Int32) (l4 : Int32) (S : gh_St) (r : Int32 × gh_St) (h : sX1_choose_65 N kc8 l2 l3 l4 S = some r) : gh_T (d + 1) fX1_choose 0 0 none true false (65, [(0, .ref 37), (1, .ref 1), (2, .int l2), (3, .int l3), (4, .int l4)], [], (gh_mo S, 0, 0)) (some (.int r.1), (gh_mo r.2, 0, 0)) := by
  unfold sX1_choose_65 at h
  refine gh_T_steps 2 (τ := (8, [(4, .int (l4 + 1)), (0, .ref 37), (1, .ref 1), (2, .int l2), (3, .int l3)], [], (gh_mo S, 0, 0))) (fun _ => rfl) ?_
  refine gh_T_weak (lv := [(0, .ref 37), (1, .ref 1), (2, .int l2), (3, .int l3), (4, .int (l4 + 1))]) ⟨rfl, rfl, rfl, rfl, rfl, trivial⟩ ?_
  exact hkc8 l2 l3 (l4 + 1) S _ h
def sX1_choose_8 (N : Nat) : Nat → Int32 → Int32 → Int32 → gh_St → Option (Int32 × gh_St)
  | 0, _, _, _, _ => none
  | n + 1, l2, l3, l4, S =>
    bif gh_cmp .ge l4 8 then
      (bif gh_cmp .le (S.1 37 4) 0 then
        (some (0, S))
      else
        (some (1, S)))
    else
      (bif gh_cmp .eq ((l3 >>> (l4 &&& 31)) &&& (1 : Int32)) 0 then
        (sX1_choose_65 N (sX1_choose_8 N n) l2 l3 l4 S)
      else
        ((sX0_has N l4 l2 S).bind fun q2 =>
        bif gh_cmp .eq q2.1 0 then
          (sX1_choose_65 N (sX1_choose_8 N n) l2 l3 l4 q2.2)
        else
          (bif gh_cmp .lt (q2.2.1 37 4) 4 then
            ((gh_wa q2.2 38 4 (q2.2.1 37 4) l4).bind fun S3 =>
            sX1_choose_65 N (sX1_choose_8 N n) l2 l3 l4 (gh_fI S3 37 4 ((S3.1 37 4) + (1 : Int32))))
          else
            (some (0, q2.2)))))
set_option maxRecDepth 100000 in
theorem kX1_choose_8 (d N : Nat) : ∀ (n : Nat) (l2 : Int32) (l3 : Int32) (l4 : Int32) (S : gh_St) (r : Int32 × gh_St), sX1_choose_8 N n l2 l3 l4 S = some r → gh_T (d + 1) fX1_choose 0 0 none true false (8, [(0, .ref 37), (1, .ref 1), (2, .int l2), (3, .int l3), (4, .int l4)], [], (gh_mo S, 0, 0)) (some (.int r.1), (gh_mo r.2, 0, 0)) := by
  intro n
  induction n with
  | zero =>
    intro l2 l3 l4 S r h
    cases h
  | succ n ih =>
    intro l2 l3 l4 S r h
    rw [sX1_choose_8] at h
    refine gh_T_steps 2 (τ := (12, [(0, .ref 37), (1, .ref 1), (2, .int l2), (3, .int l3), (4, .int l4)], [.int 8, .int l4], (gh_mo S, 0, 0))) (fun _ => rfl) ?_
    cases c7 : gh_cmp .ge l4 8 with
    | true =>
      rw [c7, cond_true] at h
      refine gh_T_ic true rfl c7 ?_
      refine gh_T_steps 2 (τ := (75, [(0, .ref 37), (1, .ref 1), (2, .int l2), (3, .int l3), (4, .int l4)], [.int (S.1 37 4)], (gh_mo S, 0, 0))) (fun _ => rfl) ?_
      cases c1 : gh_cmp .le (S.1 37 4) 0 with
      | true =>
        rw [c1, cond_true] at h
        refine gh_T_if true rfl c1 ?_
        refine gh_T_steps 1 (τ := (83, [(0, .ref 37), (1, .ref 1), (2, .int l2), (3, .int l3), (4, .int l4)], [.int 0], (gh_mo S, 0, 0))) (fun _ => rfl) ?_
        cases h
        exact gh_T_ret (fun _ => rfl)
      | false =>
        rw [c1, cond_false] at h
        refine gh_T_if false rfl c1 ?_
        refine gh_T_steps 2 (τ := (83, [(0, .ref 37), (1, .ref 1), (2, .int l2), (3, .int l3), (4, .int l4)], [.int 1], (gh_mo S, 0, 0))) (fun _ => rfl) ?_
        cases h
        exact gh_T_ret (fun _ => rfl)
    | false =>
      rw [c7, cond_false] at h
      refine gh_T_ic false rfl c7 ?_
      refine gh_T_steps 5 (τ := (21, [(0, .ref 37), (1, .ref 1), (2, .int l2), (3, .int l3), (4, .int l4)], [.int ((l3 >>> (l4 &&& 31)) &&& (1 : Int32))], (gh_mo S, 0, 0))) (fun _ => rfl) ?_
      cases c6 : gh_cmp .eq ((l3 >>> (l4 &&& 31)) &&& (1 : Int32)) 0 with
      | true =>
        rw [c6, cond_true] at h
        refine gh_T_if true rfl c6 ?_
        exact kX1_choose_65 d N (sX1_choose_8 N n) ih l2 l3 l4 S _ h
      | false =>
        rw [c6, cond_false] at h
        refine gh_T_if false rfl c6 ?_
        refine gh_T_steps 3 (τ := (28, [(0, .ref 37), (1, .ref 1), (2, .int l2), (3, .int l3), (4, .int l4)], [.int l2, .int l4, .ref 1], (gh_mo S, 0, 0))) (fun _ => rfl) ?_
        obtain ⟨q2, hq2, h⟩ := gh_bi h
        refine gh_T_iv (As := [.int l4, .int l2]) (b := 1) (rest := []) (y := some (.int q2.1)) (M' := gh_mo q2.2) rfl rfl rfl rfl rfl rfl rfl rfl rfl ⟨Nat.le_refl _, Nat.le_refl _⟩ (kX0_has d N l4 l2 S q2 hq2) ?_
        cases c5 : gh_cmp .eq q2.1 0 with
        | true =>
          rw [c5, cond_true] at h
          refine gh_T_if true rfl c5 ?_
          exact kX1_choose_65 d N (sX1_choose_8 N n) ih l2 l3 l4 q2.2 _ h
        | false =>
          rw [c5, cond_false] at h
          refine gh_T_if false rfl c5 ?_
          refine gh_T_steps 3 (τ := (39, [(0, .ref 37), (1, .ref 1), (2, .int l2), (3, .int l3), (4, .int l4)], [.int 4, .int (q2.2.1 37 4)], (gh_mo q2.2, 0, 0))) (fun _ => rfl) ?_
          cases c4 : gh_cmp .lt (q2.2.1 37 4) 4 with
          | true =>
            rw [c4, cond_true] at h
            refine gh_T_ic true rfl c4 ?_
            refine gh_T_steps 5 (τ := (54, [(0, .ref 37), (1, .ref 1), (2, .int l2), (3, .int l3), (4, .int l4)], [.int l4, .int (q2.2.1 37 4), .ref 38], (gh_mo q2.2, 0, 0))) (fun _ => rfl) ?_
            obtain ⟨S3, hS3, h⟩ := gh_bi h
            refine gh_T_wa rfl rfl hS3 ?_
            refine gh_T_steps 6 (τ := (65, [(0, .ref 37), (1, .ref 1), (2, .int l2), (3, .int l3), (4, .int l4)], [], (gh_mo (gh_fI S3 37 4 ((S3.1 37 4) + (1 : Int32))), 0, 0))) (fun _ => rfl) ?_
            exact kX1_choose_65 d N (sX1_choose_8 N n) ih l2 l3 l4 (gh_fI S3 37 4 ((S3.1 37 4) + (1 : Int32))) _ h
          | false =>
            rw [c4, cond_false] at h
            refine gh_T_ic false rfl c4 ?_
            refine gh_T_steps 1 (τ := (43, [(0, .ref 37), (1, .ref 1), (2, .int l2), (3, .int l3), (4, .int l4)], [.int 0], (gh_mo q2.2, 0, 0))) (fun _ => rfl) ?_
            cases h
            exact gh_T_ret (fun _ => rfl)
def sX1_choose (N : Nat) (a2 : Int32) (a3 : Int32) (S : gh_St) : Option (Int32 × gh_St) :=
  sX1_choose_8 N N a2 a3 0 (gh_fI S 37 4 0)
set_option maxRecDepth 100000 in
theorem kX1_choose_e (d N : Nat) (a2 : Int32) (a3 : Int32) (S : gh_St) (r : Int32 × gh_St) (h : sX1_choose N a2 a3 S = some r) : gh_T (d + 1) fX1_choose 0 0 none true false (0, [(0, .ref 37), (1, .ref 1), (2, .int a2), (3, .int a3)], [], (gh_mo S, 0, 0)) (some (.int r.1), (gh_mo r.2, 0, 0)) := by
  unfold sX1_choose at h
  refine gh_T_steps 5 (τ := (8, [(4, .int 0), (0, .ref 37), (1, .ref 1), (2, .int a2), (3, .int a3)], [], (gh_mo (gh_fI S 37 4 0), 0, 0))) (fun _ => rfl) ?_
  refine gh_T_weak (lv := [(0, .ref 37), (1, .ref 1), (2, .int a2), (3, .int a3), (4, .int 0)]) ⟨rfl, rfl, rfl, rfl, rfl, trivial⟩ ?_
  exact kX1_choose_8 d N N a2 a3 0 (gh_fI S 37 4 0) _ h
theorem kX1_choose (d N : Nat) (a2 : Int32) (a3 : Int32) (S : gh_St) (r : Int32 × gh_St) (h : sX1_choose N a2 a3 S = some r) : gh_Mx (d + 2) 10 [.ref 37, .ref 1, .int a2, .int a3] (gh_mo S) (some (.int r.1)) (gh_mo r.2) :=
  gh_Mx_of rfl rfl rfl rfl rfl rfl (kX1_choose_e d N a2 a3 S r h)
def sX1_reckon_47 (N : Nat) (kc2 : Int32 → Int32 → gh_St → Option (gh_St)) : Nat → Int32 → Int32 → Int32 → gh_St → Option (gh_St)
  | 0, _, _, _, _ => none
  | n + 1, l2, l3, l4, S =>
    (gh_ra S 39 4 l3).bind fun x1 =>
    bif gh_cmp .gt l4 x1 then
      (kc2 l2 (l3 + 1) S)
    else
      ((gh_ra S 38 4 l3).bind fun x2 =>
      (sX0_part N x2 (l4 * (1000 : Int32)) S).bind fun q3 =>
      (gh_wj q3.2 40 84 ((l3 * (21 : Int32)) + l4) q3.1).bind fun S4 =>
      (sX1_reckon_47 N kc2 n) l2 l3 (l4 + 1) S4)
set_option maxRecDepth 100000 in
theorem kX1_reckon_47 (d N : Nat) (kc2 : Int32 → Int32 → gh_St → Option (gh_St)) (hkc2 : ∀ (l2 : Int32) (l3 : Int32) (S : gh_St) (r : gh_St), kc2 l2 l3 S = some r → gh_T (d + 1) fX1_reckon 0 0 none false false (2, [(0, .ref 37), (1, .ref 1), (2, .int l2), (3, .int l3)], [], (gh_mo S, 0, 0)) (none, (gh_mo r, 0, 0))) : ∀ (n : Nat) (l2 : Int32) (l3 : Int32) (l4 : Int32) (S : gh_St) (r : gh_St), sX1_reckon_47 N kc2 n l2 l3 l4 S = some r → gh_T (d + 1) fX1_reckon 0 0 none false false (47, [(0, .ref 37), (1, .ref 1), (2, .int l2), (3, .int l3), (4, .int l4)], [], (gh_mo S, 0, 0)) (none, (gh_mo r, 0, 0)) := by
  intro n
  induction n with
  | zero =>
    intro l2 l3 l4 S r h
    cases h
  | succ n ih =>
    intro l2 l3 l4 S r h
    rw [sX1_reckon_47] at h
    refine gh_T_steps 4 (τ := (54, [(0, .ref 37), (1, .ref 1), (2, .int l2), (3, .int l3), (4, .int l4)], [.int l3, .ref 39, .int l4], (gh_mo S, 0, 0))) (fun _ => rfl) ?_
    obtain ⟨x1, hx1, h⟩ := gh_bi h
    refine gh_T_ra rfl rfl hx1 ?_
    cases c5 : gh_cmp .gt l4 x1 with
    | true =>
      rw [c5, cond_true] at h
      refine gh_T_ic true rfl c5 ?_
      refine gh_T_steps 2 (τ := (2, [(3, .int (l3 + 1)), (0, .ref 37), (1, .ref 1), (2, .int l2), (4, .int l4)], [], (gh_mo S, 0, 0))) (fun _ => rfl) ?_
      refine gh_T_weak (lv := [(0, .ref 37), (1, .ref 1), (2, .int l2), (3, .int (l3 + 1))]) ⟨rfl, rfl, rfl, rfl, trivial⟩ ?_
      exact hkc2 l2 (l3 + 1) S _ h
    | false =>
      rw [c5, cond_false] at h
      refine gh_T_ic false rfl c5 ?_
      refine gh_T_steps 11 (τ := (75, [(0, .ref 37), (1, .ref 1), (2, .int l2), (3, .int l3), (4, .int l4)], [.int l3, .ref 38, .ref 1, .int ((l3 * (21 : Int32)) + l4), .ref 40], (gh_mo S, 0, 0))) (fun _ => rfl) ?_
      obtain ⟨x2, hx2, h⟩ := gh_bi h
      refine gh_T_ra rfl rfl hx2 ?_
      refine gh_T_steps 3 (τ := (82, [(0, .ref 37), (1, .ref 1), (2, .int l2), (3, .int l3), (4, .int l4)], [.int (l4 * (1000 : Int32)), .int x2, .ref 1, .int ((l3 * (21 : Int32)) + l4), .ref 40], (gh_mo S, 0, 0))) (fun _ => rfl) ?_
      obtain ⟨q3, hq3, h⟩ := gh_bi h
      refine gh_T_iv (As := [.int x2, .int (l4 * (1000 : Int32))]) (b := 1) (rest := [.int ((l3 * (21 : Int32)) + l4), .ref 40]) (y := some (.long q3.1)) (M' := gh_mo q3.2) rfl rfl rfl rfl rfl rfl rfl rfl rfl ⟨Nat.le_refl _, Nat.le_refl _⟩ (kX0_part d N x2 (l4 * (1000 : Int32)) S q3 hq3) ?_
      obtain ⟨S4, hS4, h⟩ := gh_bi h
      refine gh_T_wj rfl rfl hS4 ?_
      refine gh_T_steps 2 (τ := (47, [(4, .int (l4 + 1)), (0, .ref 37), (1, .ref 1), (2, .int l2), (3, .int l3)], [], (gh_mo S4, 0, 0))) (fun _ => rfl) ?_
      refine gh_T_weak (lv := [(0, .ref 37), (1, .ref 1), (2, .int l2), (3, .int l3), (4, .int (l4 + 1))]) ⟨rfl, rfl, rfl, rfl, rfl, trivial⟩ ?_
      exact ih l2 l3 (l4 + 1) S4 _ h
def sX1_reckon_43 (N : Nat) (kc2 : Int32 → Int32 → gh_St → Option (gh_St)) (l2 : Int32) (l3 : Int32) (t0 : Int32) (t1 : Int32) (S : gh_St) : Option (gh_St) :=
  (gh_wa S 39 4 t1 t0).bind fun S1 =>
  sX1_reckon_47 N kc2 N l2 l3 1 S1
set_option maxRecDepth 100000 in
theorem kX1_reckon_43 (d N : Nat) (kc2 : Int32 → Int32 → gh_St → Option (gh_St)) (hkc2 : ∀ (l2 : Int32) (l3 : Int32) (S : gh_St) (r : gh_St), kc2 l2 l3 S = some r → gh_T (d + 1) fX1_reckon 0 0 none false false (2, [(0, .ref 37), (1, .ref 1), (2, .int l2), (3, .int l3)], [], (gh_mo S, 0, 0)) (none, (gh_mo r, 0, 0))) (l2 : Int32) (l3 : Int32) (t0 : Int32) (t1 : Int32) (S : gh_St) (r : gh_St) (h : sX1_reckon_43 N kc2 l2 l3 t0 t1 S = some r) : gh_T (d + 1) fX1_reckon 0 0 none false false (43, [(0, .ref 37), (1, .ref 1), (2, .int l2), (3, .int l3)], [.int t0, .int t1, .ref 39], (gh_mo S, 0, 0)) (none, (gh_mo r, 0, 0)) := by
  unfold sX1_reckon_43 at h
  obtain ⟨S1, hS1, h⟩ := gh_bi h
  refine gh_T_wa rfl rfl hS1 ?_
  refine gh_T_steps 2 (τ := (47, [(4, .int 1), (0, .ref 37), (1, .ref 1), (2, .int l2), (3, .int l3)], [], (gh_mo S1, 0, 0))) (fun _ => rfl) ?_
  refine gh_T_weak (lv := [(0, .ref 37), (1, .ref 1), (2, .int l2), (3, .int l3), (4, .int 1)]) ⟨rfl, rfl, rfl, rfl, rfl, trivial⟩ ?_
  exact kX1_reckon_47 d N kc2 hkc2 N l2 l3 1 S1 _ h
def sX1_reckon_2 (N : Nat) : Nat → Int32 → Int32 → gh_St → Option (gh_St)
  | 0, _, _, _ => none
  | n + 1, l2, l3, S =>
    bif gh_cmp .ge l3 4 then
      (some S)
    else
      (bif gh_cmp .ge l3 (S.1 37 4) then
        (sX1_reckon_43 N (sX1_reckon_2 N n) l2 l3 0 l3 S)
      else
        ((gh_ra S 38 4 l3).bind fun x1 =>
        (gh_ra S 3 8 x1).bind fun x2 =>
        (gh_di x2 1000).bind fun x3 =>
        sX1_reckon_43 N (sX1_reckon_2 N n) l2 l3 (gh_min l2 x3) l3 S))
set_option maxRecDepth 100000 in
theorem kX1_reckon_2 (d N : Nat) : ∀ (n : Nat) (l2 : Int32) (l3 : Int32) (S : gh_St) (r : gh_St), sX1_reckon_2 N n l2 l3 S = some r → gh_T (d + 1) fX1_reckon 0 0 none false false (2, [(0, .ref 37), (1, .ref 1), (2, .int l2), (3, .int l3)], [], (gh_mo S, 0, 0)) (none, (gh_mo r, 0, 0)) := by
  intro n
  induction n with
  | zero =>
    intro l2 l3 S r h
    cases h
  | succ n ih =>
    intro l2 l3 S r h
    rw [sX1_reckon_2] at h
    refine gh_T_steps 2 (τ := (4, [(0, .ref 37), (1, .ref 1), (2, .int l2), (3, .int l3)], [.int 4, .int l3], (gh_mo S, 0, 0))) (fun _ => rfl) ?_
    cases c5 : gh_cmp .ge l3 4 with
    | true =>
      rw [c5, cond_true] at h
      refine gh_T_ic true rfl c5 ?_
      cases h
      exact gh_T_ret (fun _ => rfl)
    | false =>
      rw [c5, cond_false] at h
      refine gh_T_ic false rfl c5 ?_
      refine gh_T_steps 6 (τ := (17, [(0, .ref 37), (1, .ref 1), (2, .int l2), (3, .int l3)], [.int (S.1 37 4), .int l3, .int l3, .ref 39], (gh_mo S, 0, 0))) (fun _ => rfl) ?_
      cases c4 : gh_cmp .ge l3 (S.1 37 4) with
      | true =>
        rw [c4, cond_true] at h
        refine gh_T_ic true rfl c4 ?_
        refine gh_T_steps 1 (τ := (43, [(0, .ref 37), (1, .ref 1), (2, .int l2), (3, .int l3)], [.int 0, .int l3, .ref 39], (gh_mo S, 0, 0))) (fun _ => rfl) ?_
        exact kX1_reckon_43 d N (sX1_reckon_2 N n) ih l2 l3 0 l3 S _ h
      | false =>
        rw [c4, cond_false] at h
        refine gh_T_ic false rfl c4 ?_
        refine gh_T_steps 6 (τ := (30, [(0, .ref 37), (1, .ref 1), (2, .int l2), (3, .int l3)], [.int l3, .ref 38, .ref 3, .int l2, .int l3, .ref 39], (gh_mo S, 0, 0))) (fun _ => rfl) ?_
        obtain ⟨x1, hx1, h⟩ := gh_bi h
        refine gh_T_ra rfl rfl hx1 ?_
        obtain ⟨x2, hx2, h⟩ := gh_bi h
        refine gh_T_ra rfl rfl hx2 ?_
        refine gh_T_steps 1 (τ := (35, [(0, .ref 37), (1, .ref 1), (2, .int l2), (3, .int l3)], [.int 1000, .int x2, .int l2, .int l3, .ref 39], (gh_mo S, 0, 0))) (fun _ => rfl) ?_
        obtain ⟨x3, hx3, h⟩ := gh_bi h
        refine gh_T_di rfl hx3 ?_
        refine gh_T_steps 2 (τ := (43, [(0, .ref 37), (1, .ref 1), (2, .int l2), (3, .int l3)], [.int (gh_min l2 x3), .int l3, .ref 39], (gh_mo S, 0, 0))) (fun _ => rfl) ?_
        exact kX1_reckon_43 d N (sX1_reckon_2 N n) ih l2 l3 (gh_min l2 x3) l3 S _ h
def sX1_reckon (N : Nat) (a2 : Int32) (S : gh_St) : Option (gh_St) :=
  sX1_reckon_2 N N a2 0 S
set_option maxRecDepth 100000 in
theorem kX1_reckon_e (d N : Nat) (a2 : Int32) (S : gh_St) (r : gh_St) (h : sX1_reckon N a2 S = some r) : gh_T (d + 1) fX1_reckon 0 0 none false false (0, [(0, .ref 37), (1, .ref 1), (2, .int a2)], [], (gh_mo S, 0, 0)) (none, (gh_mo r, 0, 0)) := by
  unfold sX1_reckon at h
  refine gh_T_steps 2 (τ := (2, [(3, .int 0), (0, .ref 37), (1, .ref 1), (2, .int a2)], [], (gh_mo S, 0, 0))) (fun _ => rfl) ?_
  refine gh_T_weak (lv := [(0, .ref 37), (1, .ref 1), (2, .int a2), (3, .int 0)]) ⟨rfl, rfl, rfl, rfl, trivial⟩ ?_
  exact kX1_reckon_2 d N N a2 0 S _ h
theorem kX1_reckon (d N : Nat) (a2 : Int32) (S : gh_St) (r : gh_St) (h : sX1_reckon N a2 S = some r) : gh_Mx (d + 2) 12 [.ref 37, .ref 1, .int a2] (gh_mo S) none (gh_mo r) :=
  gh_Mx_of rfl rfl rfl rfl rfl rfl (kX1_reckon_e d N a2 S r h)
def sX1_tryAll_188 (N : Nat) (kc12 : Int32 → Int64 → Int32 → gh_St → Option (gh_St)) (kc36 : Int32 → Int64 → Int32 → Int32 → Int32 → gh_St → Option (gh_St)) (kc81 : Int32 → Int64 → Int32 → Int32 → Int32 → Int32 → Int64 → Int32 → gh_St → Option (gh_St)) (l1 : Int32) (l2 : Int64) (l4 : Int32) (l5 : Int32) (l6 : Int32) (l7 : Int32) (l8 : Int64) (l10 : Int32) (S : gh_St) : Option (gh_St) :=
  kc81 l1 l2 l4 l5 l6 l7 l8 (l10 + (-1)) S
set_option maxRecDepth 100000 in
theorem kX1_tryAll_188 (d N : Nat) (kc12 : Int32 → Int64 → Int32 → gh_St → Option (gh_St)) (hkc12 : ∀ (l1 : Int32) (l2 : Int64) (l4 : Int32) (S : gh_St) (r : gh_St), kc12 l1 l2 l4 S = some r → gh_T d fX1_tryAll 0 0 none false false (12, [(0, .ref 37), (1, .int l1), (2, .long l2), (4, .int l4)], [], (gh_mo S, 0, 0)) (none, (gh_mo r, 0, 0))) (kc36 : Int32 → Int64 → Int32 → Int32 → Int32 → gh_St → Option (gh_St)) (hkc36 : ∀ (l1 : Int32) (l2 : Int64) (l4 : Int32) (l5 : Int32) (l6 : Int32) (S : gh_St) (r : gh_St), kc36 l1 l2 l4 l5 l6 S = some r → gh_T d fX1_tryAll 0 0 none false false (36, [(0, .ref 37), (1, .int l1), (2, .long l2), (4, .int l4), (5, .int l5), (6, .int l6)], [], (gh_mo S, 0, 0)) (none, (gh_mo r, 0, 0))) (kc81 : Int32 → Int64 → Int32 → Int32 → Int32 → Int32 → Int64 → Int32 → gh_St → Option (gh_St)) (hkc81 : ∀ (l1 : Int32) (l2 : Int64) (l4 : Int32) (l5 : Int32) (l6 : Int32) (l7 : Int32) (l8 : Int64) (l10 : Int32) (S : gh_St) (r : gh_St), kc81 l1 l2 l4 l5 l6 l7 l8 l10 S = some r → gh_T d fX1_tryAll 0 0 none false false (81, [(0, .ref 37), (1, .int l1), (2, .long l2), (4, .int l4), (5, .int l5), (6, .int l6), (7, .int l7), (8, .long l8), (10, .int l10)], [], (gh_mo S, 0, 0)) (none, (gh_mo r, 0, 0))) (l1 : Int32) (l2 : Int64) (l4 : Int32) (l5 : Int32) (l6 : Int32) (l7 : Int32) (l8 : Int64) (l10 : Int32) (S : gh_St) (r : gh_St) (h : sX1_tryAll_188 N kc12 kc36 kc81 l1 l2 l4 l5 l6 l7 l8 l10 S = some r) : gh_T d fX1_tryAll 0 0 none false false (188, [(0, .ref 37), (1, .int l1), (2, .long l2), (4, .int l4), (5, .int l5), (6, .int l6), (7, .int l7), (8, .long l8), (10, .int l10)], [], (gh_mo S, 0, 0)) (none, (gh_mo r, 0, 0)) := by
  unfold sX1_tryAll_188 at h
  refine gh_T_steps 2 (τ := (81, [(10, .int (l10 + (-1))), (0, .ref 37), (1, .int l1), (2, .long l2), (4, .int l4), (5, .int l5), (6, .int l6), (7, .int l7), (8, .long l8)], [], (gh_mo S, 0, 0))) (fun _ => rfl) ?_
  refine gh_T_weak (lv := [(0, .ref 37), (1, .int l1), (2, .long l2), (4, .int l4), (5, .int l5), (6, .int l6), (7, .int l7), (8, .long l8), (10, .int (l10 + (-1)))]) ⟨rfl, rfl, rfl, rfl, rfl, rfl, rfl, rfl, rfl, trivial⟩ ?_
  exact hkc81 l1 l2 l4 l5 l6 l7 l8 (l10 + (-1)) S _ h
def sX1_tryAll_194 (N : Nat) (kc12 : Int32 → Int64 → Int32 → gh_St → Option (gh_St)) (kc36 : Int32 → Int64 → Int32 → Int32 → Int32 → gh_St → Option (gh_St)) (l1 : Int32) (l2 : Int64) (l4 : Int32) (l5 : Int32) (l6 : Int32) (S : gh_St) : Option (gh_St) :=
  kc36 l1 l2 l4 l5 (l6 + (-1)) S
set_option maxRecDepth 100000 in
theorem kX1_tryAll_194 (d N : Nat) (kc12 : Int32 → Int64 → Int32 → gh_St → Option (gh_St)) (hkc12 : ∀ (l1 : Int32) (l2 : Int64) (l4 : Int32) (S : gh_St) (r : gh_St), kc12 l1 l2 l4 S = some r → gh_T d fX1_tryAll 0 0 none false false (12, [(0, .ref 37), (1, .int l1), (2, .long l2), (4, .int l4)], [], (gh_mo S, 0, 0)) (none, (gh_mo r, 0, 0))) (kc36 : Int32 → Int64 → Int32 → Int32 → Int32 → gh_St → Option (gh_St)) (hkc36 : ∀ (l1 : Int32) (l2 : Int64) (l4 : Int32) (l5 : Int32) (l6 : Int32) (S : gh_St) (r : gh_St), kc36 l1 l2 l4 l5 l6 S = some r → gh_T d fX1_tryAll 0 0 none false false (36, [(0, .ref 37), (1, .int l1), (2, .long l2), (4, .int l4), (5, .int l5), (6, .int l6)], [], (gh_mo S, 0, 0)) (none, (gh_mo r, 0, 0))) (l1 : Int32) (l2 : Int64) (l4 : Int32) (l5 : Int32) (l6 : Int32) (S : gh_St) (r : gh_St) (h : sX1_tryAll_194 N kc12 kc36 l1 l2 l4 l5 l6 S = some r) : gh_T d fX1_tryAll 0 0 none false false (194, [(0, .ref 37), (1, .int l1), (2, .long l2), (4, .int l4), (5, .int l5), (6, .int l6)], [], (gh_mo S, 0, 0)) (none, (gh_mo r, 0, 0)) := by
  unfold sX1_tryAll_194 at h
  refine gh_T_steps 2 (τ := (36, [(6, .int (l6 + (-1))), (0, .ref 37), (1, .int l1), (2, .long l2), (4, .int l4), (5, .int l5)], [], (gh_mo S, 0, 0))) (fun _ => rfl) ?_
  refine gh_T_weak (lv := [(0, .ref 37), (1, .int l1), (2, .long l2), (4, .int l4), (5, .int l5), (6, .int (l6 + (-1)))]) ⟨rfl, rfl, rfl, rfl, rfl, rfl, trivial⟩ ?_
  exact hkc36 l1 l2 l4 l5 (l6 + (-1)) S _ h
def sX1_tryAll_81 (N : Nat) (kc12 : Int32 → Int64 → Int32 → gh_St → Option (gh_St)) (kc36 : Int32 → Int64 → Int32 → Int32 → Int32 → gh_St → Option (gh_St)) : Nat → Int32 → Int64 → Int32 → Int32 → Int32 → Int32 → Int64 → Int32 → gh_St → Option (gh_St)
  | 0, _, _, _, _, _, _, _, _, _ => none
  | n + 1, l1, l2, l4, l5, l6, l7, l8, l10, S =>
    bif gh_cmp .lt l10 0 then
      (sX1_tryAll_194 N kc12 kc36 l1 l2 l4 l5 l6 S)
    else
      ((gh_ra S 39 4 3).bind fun x1 =>
      bif gh_cmp .gt (l7 - l10) x1 then
        (sX1_tryAll_194 N kc12 kc36 l1 l2 l4 l5 l6 S)
      else
        ((gh_rj S 40 84 ((42 : Int32) + l10)).bind fun x2 =>
        (gh_rj S 40 84 ((63 : Int32) + (l7 - l10))).bind fun x3 =>
        bif gh_cmp .lt (lg_cmp ((l8 + x2) + x3) l2) 0 then
          (sX1_tryAll_188 N kc12 kc36 (sX1_tryAll_81 N kc12 kc36 n) l1 l2 l4 l5 l6 l7 l8 l10 S)
        else
          (bif gh_cmp .ge (lg_cmp ((l8 + x2) + x3) (S.2.1 37 5)) 0 then
            (sX1_tryAll_188 N kc12 kc36 (sX1_tryAll_81 N kc12 kc36 n) l1 l2 l4 l5 l6 l7 l8 l10 S)
          else
            ((gh_wa (gh_fL S 37 5 ((l8 + x2) + x3)) 41 4 0 l4).bind fun S4 =>
            (gh_wa S4 41 4 1 l6).bind fun S5 =>
            (gh_wa S5 41 4 2 l10).bind fun S6 =>
            (gh_wa S6 41 4 3 (l7 - l10)).bind fun S7 =>
            (sX1_tryAll_81 N kc12 kc36 n) l1 l2 l4 l5 l6 l7 l8 (l10 + (-1)) S7))))
set_option maxRecDepth 100000 in
theorem kX1_tryAll_81 (d N : Nat) (kc12 : Int32 → Int64 → Int32 → gh_St → Option (gh_St)) (hkc12 : ∀ (l1 : Int32) (l2 : Int64) (l4 : Int32) (S : gh_St) (r : gh_St), kc12 l1 l2 l4 S = some r → gh_T d fX1_tryAll 0 0 none false false (12, [(0, .ref 37), (1, .int l1), (2, .long l2), (4, .int l4)], [], (gh_mo S, 0, 0)) (none, (gh_mo r, 0, 0))) (kc36 : Int32 → Int64 → Int32 → Int32 → Int32 → gh_St → Option (gh_St)) (hkc36 : ∀ (l1 : Int32) (l2 : Int64) (l4 : Int32) (l5 : Int32) (l6 : Int32) (S : gh_St) (r : gh_St), kc36 l1 l2 l4 l5 l6 S = some r → gh_T d fX1_tryAll 0 0 none false false (36, [(0, .ref 37), (1, .int l1), (2, .long l2), (4, .int l4), (5, .int l5), (6, .int l6)], [], (gh_mo S, 0, 0)) (none, (gh_mo r, 0, 0))) : ∀ (n : Nat) (l1 : Int32) (l2 : Int64) (l4 : Int32) (l5 : Int32) (l6 : Int32) (l7 : Int32) (l8 : Int64) (l10 : Int32) (S : gh_St) (r : gh_St), sX1_tryAll_81 N kc12 kc36 n l1 l2 l4 l5 l6 l7 l8 l10 S = some r → gh_T d fX1_tryAll 0 0 none false false (81, [(0, .ref 37), (1, .int l1), (2, .long l2), (4, .int l4), (5, .int l5), (6, .int l6), (7, .int l7), (8, .long l8), (10, .int l10)], [], (gh_mo S, 0, 0)) (none, (gh_mo r, 0, 0)) := by
  intro n
  induction n with
  | zero =>
    intro l1 l2 l4 l5 l6 l7 l8 l10 S r h
    cases h
  | succ n ih =>
    intro l1 l2 l4 l5 l6 l7 l8 l10 S r h
    rw [sX1_tryAll_81] at h
    refine gh_T_steps 1 (τ := (83, [(0, .ref 37), (1, .int l1), (2, .long l2), (4, .int l4), (5, .int l5), (6, .int l6), (7, .int l7), (8, .long l8), (10, .int l10)], [.int l10], (gh_mo S, 0, 0))) (fun _ => rfl) ?_
    cases c11 : gh_cmp .lt l10 0 with
    | true =>
      rw [c11, cond_true] at h
      refine gh_T_if true rfl c11 ?_
      refine gh_T_weak (lv := [(0, .ref 37), (1, .int l1), (2, .long l2), (4, .int l4), (5, .int l5), (6, .int l6)]) ⟨rfl, rfl, rfl, rfl, rfl, rfl, trivial⟩ ?_
      exact kX1_tryAll_194 d N kc12 hkc12 kc36 hkc36 l1 l2 l4 l5 l6 S _ h
    | false =>
      rw [c11, cond_false] at h
      refine gh_T_if false rfl c11 ?_
      refine gh_T_steps 6 (τ := (96, [(0, .ref 37), (1, .int l1), (2, .long l2), (4, .int l4), (5, .int l5), (6, .int l6), (7, .int l7), (8, .long l8), (10, .int l10)], [.int 3, .ref 39, .int (l7 - l10)], (gh_mo S, 0, 0))) (fun _ => rfl) ?_
      obtain ⟨x1, hx1, h⟩ := gh_bi h
      refine gh_T_ra rfl rfl hx1 ?_
      cases c10 : gh_cmp .gt (l7 - l10) x1 with
      | true =>
        rw [c10, cond_true] at h
        refine gh_T_ic true rfl c10 ?_
        refine gh_T_weak (lv := [(0, .ref 37), (1, .int l1), (2, .long l2), (4, .int l4), (5, .int l5), (6, .int l6)]) ⟨rfl, rfl, rfl, rfl, rfl, rfl, trivial⟩ ?_
        exact kX1_tryAll_194 d N kc12 hkc12 kc36 hkc36 l1 l2 l4 l5 l6 S _ h
      | false =>
        rw [c10, cond_false] at h
        refine gh_T_ic false rfl c10 ?_
        refine gh_T_steps 10 (τ := (118, [(11, .int (l7 - l10)), (0, .ref 37), (1, .int l1), (2, .long l2), (4, .int l4), (5, .int l5), (6, .int l6), (7, .int l7), (8, .long l8), (10, .int l10)], [.int ((42 : Int32) + l10), .ref 40, .long l8], (gh_mo S, 0, 0))) (fun _ => rfl) ?_
        obtain ⟨x2, hx2, h⟩ := gh_bi h
        refine gh_T_rj rfl rfl hx2 ?_
        refine gh_T_steps 6 (τ := (129, [(11, .int (l7 - l10)), (0, .ref 37), (1, .int l1), (2, .long l2), (4, .int l4), (5, .int l5), (6, .int l6), (7, .int l7), (8, .long l8), (10, .int l10)], [.int ((63 : Int32) + (l7 - l10)), .ref 40, .long (l8 + x2)], (gh_mo S, 0, 0))) (fun _ => rfl) ?_
        obtain ⟨x3, hx3, h⟩ := gh_bi h
        refine gh_T_rj rfl rfl hx3 ?_
        refine gh_T_steps 5 (τ := (137, [(12, .long ((l8 + x2) + x3)), (11, .int (l7 - l10)), (0, .ref 37), (1, .int l1), (2, .long l2), (4, .int l4), (5, .int l5), (6, .int l6), (7, .int l7), (8, .long l8), (10, .int l10)], [.int (lg_cmp ((l8 + x2) + x3) l2)], (gh_mo S, 0, 0))) (fun _ => rfl) ?_
        cases c9 : gh_cmp .lt (lg_cmp ((l8 + x2) + x3) l2) 0 with
        | true =>
          rw [c9, cond_true] at h
          refine gh_T_if true rfl c9 ?_
          refine gh_T_weak (lv := [(0, .ref 37), (1, .int l1), (2, .long l2), (4, .int l4), (5, .int l5), (6, .int l6), (7, .int l7), (8, .long l8), (10, .int l10)]) ⟨rfl, rfl, rfl, rfl, rfl, rfl, rfl, rfl, rfl, trivial⟩ ?_
          exact kX1_tryAll_188 d N kc12 hkc12 kc36 hkc36 (sX1_tryAll_81 N kc12 kc36 n) ih l1 l2 l4 l5 l6 l7 l8 l10 S _ h
        | false =>
          rw [c9, cond_false] at h
          refine gh_T_if false rfl c9 ?_
          refine gh_T_steps 4 (τ := (147, [(12, .long ((l8 + x2) + x3)), (11, .int (l7 - l10)), (0, .ref 37), (1, .int l1), (2, .long l2), (4, .int l4), (5, .int l5), (6, .int l6), (7, .int l7), (8, .long l8), (10, .int l10)], [.int (lg_cmp ((l8 + x2) + x3) (S.2.1 37 5))], (gh_mo S, 0, 0))) (fun _ => rfl) ?_
          cases c8 : gh_cmp .ge (lg_cmp ((l8 + x2) + x3) (S.2.1 37 5)) 0 with
          | true =>
            rw [c8, cond_true] at h
            refine gh_T_if true rfl c8 ?_
            refine gh_T_weak (lv := [(0, .ref 37), (1, .int l1), (2, .long l2), (4, .int l4), (5, .int l5), (6, .int l6), (7, .int l7), (8, .long l8), (10, .int l10)]) ⟨rfl, rfl, rfl, rfl, rfl, rfl, rfl, rfl, rfl, trivial⟩ ?_
            exact kX1_tryAll_188 d N kc12 hkc12 kc36 hkc36 (sX1_tryAll_81 N kc12 kc36 n) ih l1 l2 l4 l5 l6 l7 l8 l10 S _ h
          | false =>
            rw [c8, cond_false] at h
            refine gh_T_if false rfl c8 ?_
            refine gh_T_steps 7 (τ := (163, [(12, .long ((l8 + x2) + x3)), (11, .int (l7 - l10)), (0, .ref 37), (1, .int l1), (2, .long l2), (4, .int l4), (5, .int l5), (6, .int l6), (7, .int l7), (8, .long l8), (10, .int l10)], [.int l4, .int 0, .ref 41], (gh_mo (gh_fL S 37 5 ((l8 + x2) + x3)), 0, 0))) (fun _ => rfl) ?_
            obtain ⟨S4, hS4, h⟩ := gh_bi h
            refine gh_T_wa rfl rfl hS4 ?_
            refine gh_T_steps 4 (τ := (171, [(12, .long ((l8 + x2) + x3)), (11, .int (l7 - l10)), (0, .ref 37), (1, .int l1), (2, .long l2), (4, .int l4), (5, .int l5), (6, .int l6), (7, .int l7), (8, .long l8), (10, .int l10)], [.int l6, .int 1, .ref 41], (gh_mo S4, 0, 0))) (fun _ => rfl) ?_
            obtain ⟨S5, hS5, h⟩ := gh_bi h
            refine gh_T_wa rfl rfl hS5 ?_
            refine gh_T_steps 4 (τ := (179, [(12, .long ((l8 + x2) + x3)), (11, .int (l7 - l10)), (0, .ref 37), (1, .int l1), (2, .long l2), (4, .int l4), (5, .int l5), (6, .int l6), (7, .int l7), (8, .long l8), (10, .int l10)], [.int l10, .int 2, .ref 41], (gh_mo S5, 0, 0))) (fun _ => rfl) ?_
            obtain ⟨S6, hS6, h⟩ := gh_bi h
            refine gh_T_wa rfl rfl hS6 ?_
            refine gh_T_steps 4 (τ := (187, [(12, .long ((l8 + x2) + x3)), (11, .int (l7 - l10)), (0, .ref 37), (1, .int l1), (2, .long l2), (4, .int l4), (5, .int l5), (6, .int l6), (7, .int l7), (8, .long l8), (10, .int l10)], [.int (l7 - l10), .int 3, .ref 41], (gh_mo S6, 0, 0))) (fun _ => rfl) ?_
            obtain ⟨S7, hS7, h⟩ := gh_bi h
            refine gh_T_wa rfl rfl hS7 ?_
            refine gh_T_steps 2 (τ := (81, [(10, .int (l10 + (-1))), (12, .long ((l8 + x2) + x3)), (11, .int (l7 - l10)), (0, .ref 37), (1, .int l1), (2, .long l2), (4, .int l4), (5, .int l5), (6, .int l6), (7, .int l7), (8, .long l8)], [], (gh_mo S7, 0, 0))) (fun _ => rfl) ?_
            refine gh_T_weak (lv := [(0, .ref 37), (1, .int l1), (2, .long l2), (4, .int l4), (5, .int l5), (6, .int l6), (7, .int l7), (8, .long l8), (10, .int (l10 + (-1)))]) ⟨rfl, rfl, rfl, rfl, rfl, rfl, rfl, rfl, rfl, trivial⟩ ?_
            exact ih l1 l2 l4 l5 l6 l7 l8 (l10 + (-1)) S7 _ h
def sX1_tryAll_36 (N : Nat) (kc12 : Int32 → Int64 → Int32 → gh_St → Option (gh_St)) : Nat → Int32 → Int64 → Int32 → Int32 → Int32 → gh_St → Option (gh_St)
  | 0, _, _, _, _, _, _ => none
  | n + 1, l1, l2, l4, l5, l6, S =>
    bif gh_cmp .lt l6 0 then
      (kc12 l1 l2 (l4 + (-1)) S)
    else
      ((gh_rj S 40 84 l4).bind fun x1 =>
      (gh_rj S 40 84 ((21 : Int32) + l6)).bind fun x2 =>
      (gh_ra S 39 4 2).bind fun x3 =>
      sX1_tryAll_81 N kc12 (sX1_tryAll_36 N kc12 n) N l1 l2 l4 l5 l6 (l5 - l6) (x1 + x2) (gh_min (l5 - l6) x3) S)
set_option maxRecDepth 100000 in
theorem kX1_tryAll_36 (d N : Nat) (kc12 : Int32 → Int64 → Int32 → gh_St → Option (gh_St)) (hkc12 : ∀ (l1 : Int32) (l2 : Int64) (l4 : Int32) (S : gh_St) (r : gh_St), kc12 l1 l2 l4 S = some r → gh_T d fX1_tryAll 0 0 none false false (12, [(0, .ref 37), (1, .int l1), (2, .long l2), (4, .int l4)], [], (gh_mo S, 0, 0)) (none, (gh_mo r, 0, 0))) : ∀ (n : Nat) (l1 : Int32) (l2 : Int64) (l4 : Int32) (l5 : Int32) (l6 : Int32) (S : gh_St) (r : gh_St), sX1_tryAll_36 N kc12 n l1 l2 l4 l5 l6 S = some r → gh_T d fX1_tryAll 0 0 none false false (36, [(0, .ref 37), (1, .int l1), (2, .long l2), (4, .int l4), (5, .int l5), (6, .int l6)], [], (gh_mo S, 0, 0)) (none, (gh_mo r, 0, 0)) := by
  intro n
  induction n with
  | zero =>
    intro l1 l2 l4 l5 l6 S r h
    cases h
  | succ n ih =>
    intro l1 l2 l4 l5 l6 S r h
    rw [sX1_tryAll_36] at h
    refine gh_T_steps 1 (τ := (38, [(0, .ref 37), (1, .int l1), (2, .long l2), (4, .int l4), (5, .int l5), (6, .int l6)], [.int l6], (gh_mo S, 0, 0))) (fun _ => rfl) ?_
    cases c4 : gh_cmp .lt l6 0 with
    | true =>
      rw [c4, cond_true] at h
      refine gh_T_if true rfl c4 ?_
      refine gh_T_steps 2 (τ := (12, [(4, .int (l4 + (-1))), (0, .ref 37), (1, .int l1), (2, .long l2), (5, .int l5), (6, .int l6)], [], (gh_mo S, 0, 0))) (fun _ => rfl) ?_
      refine gh_T_weak (lv := [(0, .ref 37), (1, .int l1), (2, .long l2), (4, .int (l4 + (-1)))]) ⟨rfl, rfl, rfl, rfl, trivial⟩ ?_
      exact hkc12 l1 l2 (l4 + (-1)) S _ h
    | false =>
      rw [c4, cond_false] at h
      refine gh_T_if false rfl c4 ?_
      refine gh_T_steps 7 (τ := (54, [(7, .int (l5 - l6)), (0, .ref 37), (1, .int l1), (2, .long l2), (4, .int l4), (5, .int l5), (6, .int l6)], [.int l4, .ref 40], (gh_mo S, 0, 0))) (fun _ => rfl) ?_
      obtain ⟨x1, hx1, h⟩ := gh_bi h
      refine gh_T_rj rfl rfl hx1 ?_
      refine gh_T_steps 5 (τ := (64, [(7, .int (l5 - l6)), (0, .ref 37), (1, .int l1), (2, .long l2), (4, .int l4), (5, .int l5), (6, .int l6)], [.int ((21 : Int32) + l6), .ref 40, .long x1], (gh_mo S, 0, 0))) (fun _ => rfl) ?_
      obtain ⟨x2, hx2, h⟩ := gh_bi h
      refine gh_T_rj rfl rfl hx2 ?_
      refine gh_T_steps 6 (τ := (75, [(8, .long (x1 + x2)), (7, .int (l5 - l6)), (0, .ref 37), (1, .int l1), (2, .long l2), (4, .int l4), (5, .int l5), (6, .int l6)], [.int 2, .ref 39, .int (l5 - l6)], (gh_mo S, 0, 0))) (fun _ => rfl) ?_
      obtain ⟨x3, hx3, h⟩ := gh_bi h
      refine gh_T_ra rfl rfl hx3 ?_
      refine gh_T_steps 2 (τ := (81, [(10, .int (gh_min (l5 - l6) x3)), (8, .long (x1 + x2)), (7, .int (l5 - l6)), (0, .ref 37), (1, .int l1), (2, .long l2), (4, .int l4), (5, .int l5), (6, .int l6)], [], (gh_mo S, 0, 0))) (fun _ => rfl) ?_
      refine gh_T_weak (lv := [(0, .ref 37), (1, .int l1), (2, .long l2), (4, .int l4), (5, .int l5), (6, .int l6), (7, .int (l5 - l6)), (8, .long (x1 + x2)), (10, .int (gh_min (l5 - l6) x3))]) ⟨rfl, rfl, rfl, rfl, rfl, rfl, rfl, rfl, rfl, trivial⟩ ?_
      exact kX1_tryAll_81 d N kc12 hkc12 (sX1_tryAll_36 N kc12 n) ih N l1 l2 l4 l5 l6 (l5 - l6) (x1 + x2) (gh_min (l5 - l6) x3) S _ h
def sX1_tryAll_12 (N : Nat) : Nat → Int32 → Int64 → Int32 → gh_St → Option (gh_St)
  | 0, _, _, _, _ => none
  | n + 1, l1, l2, l4, S =>
    bif gh_cmp .lt l4 0 then
      (some S)
    else
      ((gh_ra S 39 4 1).bind fun x1 =>
      sX1_tryAll_36 N (sX1_tryAll_12 N n) N l1 l2 l4 (l1 - l4) (gh_min (l1 - l4) x1) S)
set_option maxRecDepth 100000 in
theorem kX1_tryAll_12 (d N : Nat) : ∀ (n : Nat) (l1 : Int32) (l2 : Int64) (l4 : Int32) (S : gh_St) (r : gh_St), sX1_tryAll_12 N n l1 l2 l4 S = some r → gh_T d fX1_tryAll 0 0 none false false (12, [(0, .ref 37), (1, .int l1), (2, .long l2), (4, .int l4)], [], (gh_mo S, 0, 0)) (none, (gh_mo r, 0, 0)) := by
  intro n
  induction n with
  | zero =>
    intro l1 l2 l4 S r h
    cases h
  | succ n ih =>
    intro l1 l2 l4 S r h
    rw [sX1_tryAll_12] at h
    refine gh_T_steps 1 (τ := (14, [(0, .ref 37), (1, .int l1), (2, .long l2), (4, .int l4)], [.int l4], (gh_mo S, 0, 0))) (fun _ => rfl) ?_
    cases c2 : gh_cmp .lt l4 0 with
    | true =>
      rw [c2, cond_true] at h
      refine gh_T_if true rfl c2 ?_
      cases h
      exact gh_T_ret (fun _ => rfl)
    | false =>
      rw [c2, cond_false] at h
      refine gh_T_if false rfl c2 ?_
      refine gh_T_steps 8 (τ := (30, [(5, .int (l1 - l4)), (0, .ref 37), (1, .int l1), (2, .long l2), (4, .int l4)], [.int 1, .ref 39, .int (l1 - l4)], (gh_mo S, 0, 0))) (fun _ => rfl) ?_
      obtain ⟨x1, hx1, h⟩ := gh_bi h
      refine gh_T_ra rfl rfl hx1 ?_
      refine gh_T_steps 2 (τ := (36, [(6, .int (gh_min (l1 - l4) x1)), (5, .int (l1 - l4)), (0, .ref 37), (1, .int l1), (2, .long l2), (4, .int l4)], [], (gh_mo S, 0, 0))) (fun _ => rfl) ?_
      refine gh_T_weak (lv := [(0, .ref 37), (1, .int l1), (2, .long l2), (4, .int l4), (5, .int (l1 - l4)), (6, .int (gh_min (l1 - l4) x1))]) ⟨rfl, rfl, rfl, rfl, rfl, rfl, trivial⟩ ?_
      exact kX1_tryAll_36 d N (sX1_tryAll_12 N n) ih N l1 l2 l4 (l1 - l4) (gh_min (l1 - l4) x1) S _ h
def sX1_tryAll (N : Nat) (a1 : Int32) (a2 : Int64) (S : gh_St) : Option (gh_St) :=
  (gh_ra S 39 4 0).bind fun x1 =>
  sX1_tryAll_12 N N a1 a2 (gh_min a1 x1) S
set_option maxRecDepth 100000 in
theorem kX1_tryAll_e (d N : Nat) (a1 : Int32) (a2 : Int64) (S : gh_St) (r : gh_St) (h : sX1_tryAll N a1 a2 S = some r) : gh_T d fX1_tryAll 0 0 none false false (0, [(0, .ref 37), (1, .int a1), (2, .long a2)], [], (gh_mo S, 0, 0)) (none, (gh_mo r, 0, 0)) := by
  unfold sX1_tryAll at h
  refine gh_T_steps 4 (τ := (6, [(0, .ref 37), (1, .int a1), (2, .long a2)], [.int 0, .ref 39, .int a1], (gh_mo S, 0, 0))) (fun _ => rfl) ?_
  obtain ⟨x1, hx1, h⟩ := gh_bi h
  refine gh_T_ra rfl rfl hx1 ?_
  refine gh_T_steps 2 (τ := (12, [(4, .int (gh_min a1 x1)), (0, .ref 37), (1, .int a1), (2, .long a2)], [], (gh_mo S, 0, 0))) (fun _ => rfl) ?_
  refine gh_T_weak (lv := [(0, .ref 37), (1, .int a1), (2, .long a2), (4, .int (gh_min a1 x1))]) ⟨rfl, rfl, rfl, rfl, trivial⟩ ?_
  exact kX1_tryAll_12 d N N a1 a2 (gh_min a1 x1) S _ h
theorem kX1_tryAll (d N : Nat) (a1 : Int32) (a2 : Int64) (S : gh_St) (r : gh_St) (h : sX1_tryAll N a1 a2 S = some r) : gh_Mx (d + 1) 13 [.ref 37, .int a1, .long a2] (gh_mo S) none (gh_mo r) :=
  gh_Mx_of rfl rfl rfl rfl rfl rfl (kX1_tryAll_e d N a1 a2 S r h)
def sX2_paid_4 (N : Nat) : Nat → Int32 → Int32 → gh_St → Option (Int32 × gh_St)
  | 0, _, _, _ => none
  | n + 1, l1, l2, S =>
    bif gh_cmp .ge l2 12 then
      (some (l1, S))
    else
      ((gh_ra S 32 12 l2).bind fun x1 =>
      (gh_ra S 28 12 l2).bind fun x2 =>
      (sX2_paid_4 N n) (l1 + (x1 * x2)) (l2 + 1) S)
set_option maxRecDepth 100000 in
theorem kX2_paid_4 (d N : Nat) : ∀ (n : Nat) (l1 : Int32) (l2 : Int32) (S : gh_St) (r : Int32 × gh_St), sX2_paid_4 N n l1 l2 S = some r → gh_T d fX2_paid 0 0 none false false (4, [(0, .ref 26), (1, .int l1), (2, .int l2)], [], (gh_mo S, 0, 0)) (some (.int r.1), (gh_mo r.2, 0, 0)) := by
  intro n
  induction n with
  | zero =>
    intro l1 l2 S r h
    cases h
  | succ n ih =>
    intro l1 l2 S r h
    rw [sX2_paid_4] at h
    refine gh_T_steps 2 (τ := (7, [(0, .ref 26), (1, .int l1), (2, .int l2)], [.int 12, .int l2], (gh_mo S, 0, 0))) (fun _ => rfl) ?_
    cases c3 : gh_cmp .ge l2 12 with
    | true =>
      rw [c3, cond_true] at h
      refine gh_T_ic true rfl c3 ?_
      refine gh_T_steps 1 (τ := (33, [(0, .ref 26), (1, .int l1), (2, .int l2)], [.int l1], (gh_mo S, 0, 0))) (fun _ => rfl) ?_
      cases h
      exact gh_T_ret (fun _ => rfl)
    | false =>
      rw [c3, cond_false] at h
      refine gh_T_ic false rfl c3 ?_
      refine gh_T_steps 4 (τ := (16, [(0, .ref 26), (1, .int l1), (2, .int l2)], [.int l2, .ref 32, .int l1], (gh_mo S, 0, 0))) (fun _ => rfl) ?_
      obtain ⟨x1, hx1, h⟩ := gh_bi h
      refine gh_T_ra rfl rfl hx1 ?_
      refine gh_T_steps 3 (τ := (22, [(0, .ref 26), (1, .int l1), (2, .int l2)], [.int l2, .ref 28, .int x1, .int l1], (gh_mo S, 0, 0))) (fun _ => rfl) ?_
      obtain ⟨x2, hx2, h⟩ := gh_bi h
      refine gh_T_ra rfl rfl hx2 ?_
      refine gh_T_steps 5 (τ := (4, [(2, .int (l2 + 1)), (1, .int (l1 + (x1 * x2))), (0, .ref 26)], [], (gh_mo S, 0, 0))) (fun _ => rfl) ?_
      refine gh_T_weak (lv := [(0, .ref 26), (1, .int (l1 + (x1 * x2))), (2, .int (l2 + 1))]) ⟨rfl, rfl, rfl, trivial⟩ ?_
      exact ih (l1 + (x1 * x2)) (l2 + 1) S _ h
def sX2_paid (N : Nat) (S : gh_St) : Option (Int32 × gh_St) :=
  sX2_paid_4 N N 0 0 S
set_option maxRecDepth 100000 in
theorem kX2_paid_e (d N : Nat) (S : gh_St) (r : Int32 × gh_St) (h : sX2_paid N S = some r) : gh_T d fX2_paid 0 0 none false false (0, [(0, .ref 26)], [], (gh_mo S, 0, 0)) (some (.int r.1), (gh_mo r.2, 0, 0)) := by
  unfold sX2_paid at h
  refine gh_T_steps 4 (τ := (4, [(2, .int 0), (1, .int 0), (0, .ref 26)], [], (gh_mo S, 0, 0))) (fun _ => rfl) ?_
  refine gh_T_weak (lv := [(0, .ref 26), (1, .int 0), (2, .int 0)]) ⟨rfl, rfl, rfl, trivial⟩ ?_
  exact kX2_paid_4 d N N 0 0 S _ h
theorem kX2_paid (d N : Nat) (S : gh_St) (r : Int32 × gh_St) (h : sX2_paid N S = some r) : gh_Mx (d + 1) 19 [.ref 26] (gh_mo S) (some (.int r.1)) (gh_mo r.2) :=
  gh_Mx_of rfl rfl rfl rfl rfl rfl (kX2_paid_e d N S r h)
def sX2_reach (N : Nat) (a1 : Int32) (a2 : Int32) (a3 : Int32) (S : gh_St) : Option (gh_St) :=
  bif gh_cmp .lt (S.1 26 11) 12 then
    ((gh_wa (gh_fI S 26 12 ((S.1 26 12) ||| ((1 : Int32) <<< (a1 &&& 31)))) 34 12 a1 a2).bind fun S1 =>
    (gh_wa S1 35 12 a1 a3).bind fun S2 =>
    (gh_wa S2 33 12 (S2.1 26 11) a1).bind fun S3 =>
    some (gh_fI S3 26 11 ((S3.1 26 11) + (1 : Int32))))
  else
    (some S)
set_option maxRecDepth 100000 in
theorem kX2_reach_e (d N : Nat) (a1 : Int32) (a2 : Int32) (a3 : Int32) (S : gh_St) (r : gh_St) (h : sX2_reach N a1 a2 a3 S = some r) : gh_T d fX2_reach 0 0 none false false (0, [(0, .ref 26), (1, .int a1), (2, .int a2), (3, .int a3)], [], (gh_mo S, 0, 0)) (none, (gh_mo r, 0, 0)) := by
  unfold sX2_reach at h
  refine gh_T_steps 3 (τ := (6, [(0, .ref 26), (1, .int a1), (2, .int a2), (3, .int a3)], [.int 12, .int (S.1 26 11)], (gh_mo S, 0, 0))) (fun _ => rfl) ?_
  cases c4 : gh_cmp .lt (S.1 26 11) 12 with
  | true =>
    rw [c4, cond_true] at h
    refine gh_T_ic true rfl c4 ?_
    refine gh_T_steps 12 (τ := (28, [(0, .ref 26), (1, .int a1), (2, .int a2), (3, .int a3)], [.int a2, .int a1, .ref 34], (gh_mo (gh_fI S 26 12 ((S.1 26 12) ||| ((1 : Int32) <<< (a1 &&& 31)))), 0, 0))) (fun _ => rfl) ?_
    obtain ⟨S1, hS1, h⟩ := gh_bi h
    refine gh_T_wa rfl rfl hS1 ?_
    refine gh_T_steps 4 (τ := (35, [(0, .ref 26), (1, .int a1), (2, .int a2), (3, .int a3)], [.int a3, .int a1, .ref 35], (gh_mo S1, 0, 0))) (fun _ => rfl) ?_
    obtain ⟨S2, hS2, h⟩ := gh_bi h
    refine gh_T_wa rfl rfl hS2 ?_
    refine gh_T_steps 5 (τ := (45, [(0, .ref 26), (1, .int a1), (2, .int a2), (3, .int a3)], [.int a1, .int (S2.1 26 11), .ref 33], (gh_mo S2, 0, 0))) (fun _ => rfl) ?_
    obtain ⟨S3, hS3, h⟩ := gh_bi h
    refine gh_T_wa rfl rfl hS3 ?_
    refine gh_T_steps 6 (τ := (56, [(0, .ref 26), (1, .int a1), (2, .int a2), (3, .int a3)], [], (gh_mo (gh_fI S3 26 11 ((S3.1 26 11) + (1 : Int32))), 0, 0))) (fun _ => rfl) ?_
    cases h
    exact gh_T_ret (fun _ => rfl)
  | false =>
    rw [c4, cond_false] at h
    refine gh_T_ic false rfl c4 ?_
    cases h
    exact gh_T_ret (fun _ => rfl)
theorem kX2_reach (d N : Nat) (a1 : Int32) (a2 : Int32) (a3 : Int32) (S : gh_St) (r : gh_St) (h : sX2_reach N a1 a2 a3 S = some r) : gh_Mx (d + 1) 23 [.ref 26, .int a1, .int a2, .int a3] (gh_mo S) none (gh_mo r) :=
  gh_Mx_of rfl rfl rfl rfl rfl rfl (kX2_reach_e d N a1 a2 a3 S r h)
def sX2_shift_97 (N : Nat) (kc4 : Int32 → Int32 → gh_St → Option (gh_St)) (l3 : Int32) (l4 : Int32) (S : gh_St) : Option (gh_St) :=
  kc4 l4 (l3 + 1) S
set_option maxRecDepth 100000 in
theorem kX2_shift_97 (d N : Nat) (kc4 : Int32 → Int32 → gh_St → Option (gh_St)) (hkc4 : ∀ (l2 : Int32) (l3 : Int32) (S : gh_St) (r : gh_St), kc4 l2 l3 S = some r → gh_T d fX2_shift 0 0 none false false (4, [(0, .ref 26), (2, .int l2), (3, .int l3)], [], (gh_mo S, 0, 0)) (none, (gh_mo r, 0, 0))) (l3 : Int32) (l4 : Int32) (S : gh_St) (r : gh_St) (h : sX2_shift_97 N kc4 l3 l4 S = some r) : gh_T d fX2_shift 0 0 none false false (97, [(0, .ref 26), (3, .int l3), (4, .int l4)], [], (gh_mo S, 0, 0)) (none, (gh_mo r, 0, 0)) := by
  unfold sX2_shift_97 at h
  refine gh_T_steps 4 (τ := (4, [(3, .int (l3 + 1)), (2, .int l4), (0, .ref 26), (4, .int l4)], [], (gh_mo S, 0, 0))) (fun _ => rfl) ?_
  refine gh_T_weak (lv := [(0, .ref 26), (2, .int l4), (3, .int (l3 + 1))]) ⟨rfl, rfl, rfl, trivial⟩ ?_
  exact hkc4 l4 (l3 + 1) S _ h
def sX2_shift_4 (N : Nat) : Nat → Int32 → Int32 → gh_St → Option (gh_St)
  | 0, _, _, _ => none
  | n + 1, l2, l3, S =>
    bif gh_cmp .ge l3 12 then
      (some S)
    else
      (bif gh_cmp .eq l2 ((-1)) then
        (some S)
      else
        ((gh_ra S 35 12 l2).bind fun x1 =>
        (gh_ra S 34 12 l2).bind fun x2 =>
        bif gh_cmp .ne x2 8 then
          ((gh_ra S 36 8 x2).bind fun x3 =>
          (gh_wa S 36 8 x2 (x3 ||| ((1 : Int32) <<< (l2 &&& 31)))).bind fun S4 =>
          bif gh_cmp .eq x1 ((-1)) then
            (sX2_shift_97 N (sX2_shift_4 N n) l3 x1 S4)
          else
            ((gh_ra S4 36 8 x2).bind fun x5 =>
            (gh_wa S4 36 8 x2 (x5 &&& (((1 : Int32) <<< (x1 &&& 31)) ^^^ (-1 : Int32)))).bind fun S6 =>
            (sX2_shift_4 N n) x1 (l3 + 1) S6))
        else
          ((gh_ra S 32 12 l2).bind fun x8 =>
          (gh_wa S 32 12 l2 (x8 - (1 : Int32))).bind fun S9 =>
          (gh_ra S9 32 12 x1).bind fun x10 =>
          (gh_wa S9 32 12 x1 (x10 + (1 : Int32))).bind fun S11 =>
          sX2_shift_97 N (sX2_shift_4 N n) l3 x1 S11)))
set_option maxRecDepth 100000 in
theorem kX2_shift_4 (d N : Nat) : ∀ (n : Nat) (l2 : Int32) (l3 : Int32) (S : gh_St) (r : gh_St), sX2_shift_4 N n l2 l3 S = some r → gh_T d fX2_shift 0 0 none false false (4, [(0, .ref 26), (2, .int l2), (3, .int l3)], [], (gh_mo S, 0, 0)) (none, (gh_mo r, 0, 0)) := by
  intro n
  induction n with
  | zero =>
    intro l2 l3 S r h
    cases h
  | succ n ih =>
    intro l2 l3 S r h
    rw [sX2_shift_4] at h
    refine gh_T_steps 2 (τ := (7, [(0, .ref 26), (2, .int l2), (3, .int l3)], [.int 12, .int l3], (gh_mo S, 0, 0))) (fun _ => rfl) ?_
    cases c14 : gh_cmp .ge l3 12 with
    | true =>
      rw [c14, cond_true] at h
      refine gh_T_ic true rfl c14 ?_
      cases h
      exact gh_T_ret (fun _ => rfl)
    | false =>
      rw [c14, cond_false] at h
      refine gh_T_ic false rfl c14 ?_
      refine gh_T_steps 2 (τ := (12, [(0, .ref 26), (2, .int l2), (3, .int l3)], [.int ((-1)), .int l2], (gh_mo S, 0, 0))) (fun _ => rfl) ?_
      cases c13 : gh_cmp .eq l2 ((-1)) with
      | true =>
        rw [c13, cond_true] at h
        refine gh_T_ic true rfl c13 ?_
        cases h
        exact gh_T_ret (fun _ => rfl)
      | false =>
        rw [c13, cond_false] at h
        refine gh_T_ic false rfl c13 ?_
        refine gh_T_steps 3 (τ := (20, [(0, .ref 26), (2, .int l2), (3, .int l3)], [.int l2, .ref 35], (gh_mo S, 0, 0))) (fun _ => rfl) ?_
        obtain ⟨x1, hx1, h⟩ := gh_bi h
        refine gh_T_ra rfl rfl hx1 ?_
        refine gh_T_steps 4 (τ := (28, [(4, .int x1), (0, .ref 26), (2, .int l2), (3, .int l3)], [.int l2, .ref 34], (gh_mo S, 0, 0))) (fun _ => rfl) ?_
        obtain ⟨x2, hx2, h⟩ := gh_bi h
        refine gh_T_ra rfl rfl hx2 ?_
        refine gh_T_steps 3 (τ := (35, [(5, .int x2), (4, .int x1), (0, .ref 26), (2, .int l2), (3, .int l3)], [.int 8, .int x2], (gh_mo S, 0, 0))) (fun _ => rfl) ?_
        cases c12 : gh_cmp .ne x2 8 with
        | true =>
          rw [c12, cond_true] at h
          refine gh_T_ic true rfl c12 ?_
          refine gh_T_steps 4 (τ := (69, [(5, .int x2), (4, .int x1), (0, .ref 26), (2, .int l2), (3, .int l3)], [.int x2, .ref 36, .int x2, .ref 36], (gh_mo S, 0, 0))) (fun _ => rfl) ?_
          obtain ⟨x3, hx3, h⟩ := gh_bi h
          refine gh_T_ra rfl rfl hx3 ?_
          refine gh_T_steps 4 (τ := (74, [(5, .int x2), (4, .int x1), (0, .ref 26), (2, .int l2), (3, .int l3)], [.int (x3 ||| ((1 : Int32) <<< (l2 &&& 31))), .int x2, .ref 36], (gh_mo S, 0, 0))) (fun _ => rfl) ?_
          obtain ⟨S4, hS4, h⟩ := gh_bi h
          refine gh_T_wa rfl rfl hS4 ?_
          refine gh_T_steps 2 (τ := (78, [(5, .int x2), (4, .int x1), (0, .ref 26), (2, .int l2), (3, .int l3)], [.int ((-1)), .int x1], (gh_mo S4, 0, 0))) (fun _ => rfl) ?_
          cases c7 : gh_cmp .eq x1 ((-1)) with
          | true =>
            rw [c7, cond_true] at h
            refine gh_T_ic true rfl c7 ?_
            refine gh_T_weak (lv := [(0, .ref 26), (3, .int l3), (4, .int x1)]) ⟨rfl, rfl, rfl, trivial⟩ ?_
            exact kX2_shift_97 d N (sX2_shift_4 N n) ih l3 x1 S4 _ h
          | false =>
            rw [c7, cond_false] at h
            refine gh_T_ic false rfl c7 ?_
            refine gh_T_steps 4 (τ := (88, [(5, .int x2), (4, .int x1), (0, .ref 26), (2, .int l2), (3, .int l3)], [.int x2, .ref 36, .int x2, .ref 36], (gh_mo S4, 0, 0))) (fun _ => rfl) ?_
            obtain ⟨x5, hx5, h⟩ := gh_bi h
            refine gh_T_ra rfl rfl hx5 ?_
            refine gh_T_steps 6 (τ := (96, [(5, .int x2), (4, .int x1), (0, .ref 26), (2, .int l2), (3, .int l3)], [.int (x5 &&& (((1 : Int32) <<< (x1 &&& 31)) ^^^ (-1 : Int32))), .int x2, .ref 36], (gh_mo S4, 0, 0))) (fun _ => rfl) ?_
            obtain ⟨S6, hS6, h⟩ := gh_bi h
            refine gh_T_wa rfl rfl hS6 ?_
            refine gh_T_steps 4 (τ := (4, [(3, .int (l3 + 1)), (2, .int x1), (5, .int x2), (4, .int x1), (0, .ref 26)], [], (gh_mo S6, 0, 0))) (fun _ => rfl) ?_
            refine gh_T_weak (lv := [(0, .ref 26), (2, .int x1), (3, .int (l3 + 1))]) ⟨rfl, rfl, rfl, trivial⟩ ?_
            exact ih x1 (l3 + 1) S6 _ h
        | false =>
          rw [c12, cond_false] at h
          refine gh_T_ic false rfl c12 ?_
          refine gh_T_steps 4 (τ := (44, [(5, .int x2), (4, .int x1), (0, .ref 26), (2, .int l2), (3, .int l3)], [.int l2, .ref 32, .int l2, .ref 32], (gh_mo S, 0, 0))) (fun _ => rfl) ?_
          obtain ⟨x8, hx8, h⟩ := gh_bi h
          refine gh_T_ra rfl rfl hx8 ?_
          refine gh_T_steps 2 (τ := (47, [(5, .int x2), (4, .int x1), (0, .ref 26), (2, .int l2), (3, .int l3)], [.int (x8 - (1 : Int32)), .int l2, .ref 32], (gh_mo S, 0, 0))) (fun _ => rfl) ?_
          obtain ⟨S9, hS9, h⟩ := gh_bi h
          refine gh_T_wa rfl rfl hS9 ?_
          refine gh_T_steps 4 (τ := (55, [(5, .int x2), (4, .int x1), (0, .ref 26), (2, .int l2), (3, .int l3)], [.int x1, .ref 32, .int x1, .ref 32], (gh_mo S9, 0, 0))) (fun _ => rfl) ?_
          obtain ⟨x10, hx10, h⟩ := gh_bi h
          refine gh_T_ra rfl rfl hx10 ?_
          refine gh_T_steps 2 (τ := (58, [(5, .int x2), (4, .int x1), (0, .ref 26), (2, .int l2), (3, .int l3)], [.int (x10 + (1 : Int32)), .int x1, .ref 32], (gh_mo S9, 0, 0))) (fun _ => rfl) ?_
          obtain ⟨S11, hS11, h⟩ := gh_bi h
          refine gh_T_wa rfl rfl hS11 ?_
          refine gh_T_steps 1 (τ := (97, [(5, .int x2), (4, .int x1), (0, .ref 26), (2, .int l2), (3, .int l3)], [], (gh_mo S11, 0, 0))) (fun _ => rfl) ?_
          refine gh_T_weak (lv := [(0, .ref 26), (3, .int l3), (4, .int x1)]) ⟨rfl, rfl, rfl, trivial⟩ ?_
          exact kX2_shift_97 d N (sX2_shift_4 N n) ih l3 x1 S11 _ h
def sX2_shift (N : Nat) (a1 : Int32) (S : gh_St) : Option (gh_St) :=
  sX2_shift_4 N N a1 0 S
set_option maxRecDepth 100000 in
theorem kX2_shift_e (d N : Nat) (a1 : Int32) (S : gh_St) (r : gh_St) (h : sX2_shift N a1 S = some r) : gh_T d fX2_shift 0 0 none false false (0, [(0, .ref 26), (1, .int a1)], [], (gh_mo S, 0, 0)) (none, (gh_mo r, 0, 0)) := by
  unfold sX2_shift at h
  refine gh_T_steps 4 (τ := (4, [(3, .int 0), (2, .int a1), (0, .ref 26), (1, .int a1)], [], (gh_mo S, 0, 0))) (fun _ => rfl) ?_
  refine gh_T_weak (lv := [(0, .ref 26), (2, .int a1), (3, .int 0)]) ⟨rfl, rfl, rfl, trivial⟩ ?_
  exact kX2_shift_4 d N N a1 0 S _ h
theorem kX2_shift (d N : Nat) (a1 : Int32) (S : gh_St) (r : gh_St) (h : sX2_shift N a1 S = some r) : gh_Mx (d + 1) 25 [.ref 26, .int a1] (gh_mo S) none (gh_mo r) :=
  gh_Mx_of rfl rfl rfl rfl rfl rfl (kX2_shift_e d N a1 S r h)
def sX2_reachBySpare_51 (N : Nat) (kc2 : Int32 → Int32 → gh_St → Option (gh_St)) (l1 : Int32) (l2 : Int32) (S : gh_St) : Option (gh_St) :=
  kc2 l1 (l2 + 1) S
set_option maxRecDepth 100000 in
theorem kX2_reachBySpare_51 (d N : Nat) (kc2 : Int32 → Int32 → gh_St → Option (gh_St)) (hkc2 : ∀ (l1 : Int32) (l2 : Int32) (S : gh_St) (r : gh_St), kc2 l1 l2 S = some r → gh_T (d + 1) fX2_reachBySpare 0 0 none false false (2, [(0, .ref 26), (1, .int l1), (2, .int l2)], [], (gh_mo S, 0, 0)) (none, (gh_mo r, 0, 0))) (l1 : Int32) (l2 : Int32) (S : gh_St) (r : gh_St) (h : sX2_reachBySpare_51 N kc2 l1 l2 S = some r) : gh_T (d + 1) fX2_reachBySpare 0 0 none false false (51, [(0, .ref 26), (1, .int l1), (2, .int l2)], [], (gh_mo S, 0, 0)) (none, (gh_mo r, 0, 0)) := by
  unfold sX2_reachBySpare_51 at h
  refine gh_T_steps 2 (τ := (2, [(2, .int (l2 + 1)), (0, .ref 26), (1, .int l1)], [], (gh_mo S, 0, 0))) (fun _ => rfl) ?_
  refine gh_T_weak (lv := [(0, .ref 26), (1, .int l1), (2, .int (l2 + 1))]) ⟨rfl, rfl, rfl, trivial⟩ ?_
  exact hkc2 l1 (l2 + 1) S _ h
def sX2_reachBySpare_2 (N : Nat) : Nat → Int32 → Int32 → gh_St → Option (gh_St)
  | 0, _, _, _ => none
  | n + 1, l1, l2, S =>
    bif gh_cmp .ge l2 12 then
      (some S)
    else
      (bif gh_cmp .ne (((S.1 26 12) >>> (l2 &&& 31)) &&& (1 : Int32)) 0 then
        (sX2_reachBySpare_51 N (sX2_reachBySpare_2 N n) l1 l2 S)
      else
        ((gh_ra S 32 12 l2).bind fun x1 =>
        bif gh_cmp .le x1 0 then
          (sX2_reachBySpare_51 N (sX2_reachBySpare_2 N n) l1 l2 S)
        else
          ((gh_ra S 28 12 l2).bind fun x2 =>
          (gh_ra S 28 12 l1).bind fun x3 =>
          bif gh_cmp .ne x2 x3 then
            (sX2_reachBySpare_51 N (sX2_reachBySpare_2 N n) l1 l2 S)
          else
            ((sX2_reach N l2 8 l1 S).bind fun q4 =>
            sX2_reachBySpare_51 N (sX2_reachBySpare_2 N n) l1 l2 q4))))
set_option maxRecDepth 100000 in
theorem kX2_reachBySpare_2 (d N : Nat) : ∀ (n : Nat) (l1 : Int32) (l2 : Int32) (S : gh_St) (r : gh_St), sX2_reachBySpare_2 N n l1 l2 S = some r → gh_T (d + 1) fX2_reachBySpare 0 0 none false false (2, [(0, .ref 26), (1, .int l1), (2, .int l2)], [], (gh_mo S, 0, 0)) (none, (gh_mo r, 0, 0)) := by
  intro n
  induction n with
  | zero =>
    intro l1 l2 S r h
    cases h
  | succ n ih =>
    intro l1 l2 S r h
    rw [sX2_reachBySpare_2] at h
    refine gh_T_steps 2 (τ := (5, [(0, .ref 26), (1, .int l1), (2, .int l2)], [.int 12, .int l2], (gh_mo S, 0, 0))) (fun _ => rfl) ?_
    cases c8 : gh_cmp .ge l2 12 with
    | true =>
      rw [c8, cond_true] at h
      refine gh_T_ic true rfl c8 ?_
      cases h
      exact gh_T_ret (fun _ => rfl)
    | false =>
      rw [c8, cond_false] at h
      refine gh_T_ic false rfl c8 ?_
      refine gh_T_steps 6 (τ := (16, [(0, .ref 26), (1, .int l1), (2, .int l2)], [.int (((S.1 26 12) >>> (l2 &&& 31)) &&& (1 : Int32))], (gh_mo S, 0, 0))) (fun _ => rfl) ?_
      cases c7 : gh_cmp .ne (((S.1 26 12) >>> (l2 &&& 31)) &&& (1 : Int32)) 0 with
      | true =>
        rw [c7, cond_true] at h
        refine gh_T_if true rfl c7 ?_
        exact kX2_reachBySpare_51 d N (sX2_reachBySpare_2 N n) ih l1 l2 S _ h
      | false =>
        rw [c7, cond_false] at h
        refine gh_T_if false rfl c7 ?_
        refine gh_T_steps 3 (τ := (24, [(0, .ref 26), (1, .int l1), (2, .int l2)], [.int l2, .ref 32], (gh_mo S, 0, 0))) (fun _ => rfl) ?_
        obtain ⟨x1, hx1, h⟩ := gh_bi h
        refine gh_T_ra rfl rfl hx1 ?_
        cases c6 : gh_cmp .le x1 0 with
        | true =>
          rw [c6, cond_true] at h
          refine gh_T_if true rfl c6 ?_
          exact kX2_reachBySpare_51 d N (sX2_reachBySpare_2 N n) ih l1 l2 S _ h
        | false =>
          rw [c6, cond_false] at h
          refine gh_T_if false rfl c6 ?_
          refine gh_T_steps 3 (τ := (33, [(0, .ref 26), (1, .int l1), (2, .int l2)], [.int l2, .ref 28], (gh_mo S, 0, 0))) (fun _ => rfl) ?_
          obtain ⟨x2, hx2, h⟩ := gh_bi h
          refine gh_T_ra rfl rfl hx2 ?_
          refine gh_T_steps 3 (τ := (39, [(0, .ref 26), (1, .int l1), (2, .int l2)], [.int l1, .ref 28, .int x2], (gh_mo S, 0, 0))) (fun _ => rfl) ?_
          obtain ⟨x3, hx3, h⟩ := gh_bi h
          refine gh_T_ra rfl rfl hx3 ?_
          cases c5 : gh_cmp .ne x2 x3 with
          | true =>
            rw [c5, cond_true] at h
            refine gh_T_ic true rfl c5 ?_
            exact kX2_reachBySpare_51 d N (sX2_reachBySpare_2 N n) ih l1 l2 S _ h
          | false =>
            rw [c5, cond_false] at h
            refine gh_T_ic false rfl c5 ?_
            refine gh_T_steps 4 (τ := (48, [(0, .ref 26), (1, .int l1), (2, .int l2)], [.int l1, .int 8, .int l2, .ref 26], (gh_mo S, 0, 0))) (fun _ => rfl) ?_
            obtain ⟨q4, hq4, h⟩ := gh_bi h
            refine gh_T_iv (As := [.int l2, .int 8, .int l1]) (b := 26) (rest := []) (y := none) (M' := gh_mo q4) rfl rfl rfl rfl rfl rfl rfl rfl rfl ⟨Nat.le_refl _, Nat.le_refl _⟩ (kX2_reach d N l2 8 l1 S q4 hq4) ?_
            exact kX2_reachBySpare_51 d N (sX2_reachBySpare_2 N n) ih l1 l2 q4 _ h
def sX2_reachBySpare (N : Nat) (a1 : Int32) (S : gh_St) : Option (gh_St) :=
  sX2_reachBySpare_2 N N a1 0 S
set_option maxRecDepth 100000 in
theorem kX2_reachBySpare_e (d N : Nat) (a1 : Int32) (S : gh_St) (r : gh_St) (h : sX2_reachBySpare N a1 S = some r) : gh_T (d + 1) fX2_reachBySpare 0 0 none false false (0, [(0, .ref 26), (1, .int a1)], [], (gh_mo S, 0, 0)) (none, (gh_mo r, 0, 0)) := by
  unfold sX2_reachBySpare at h
  refine gh_T_steps 2 (τ := (2, [(2, .int 0), (0, .ref 26), (1, .int a1)], [], (gh_mo S, 0, 0))) (fun _ => rfl) ?_
  refine gh_T_weak (lv := [(0, .ref 26), (1, .int a1), (2, .int 0)]) ⟨rfl, rfl, rfl, trivial⟩ ?_
  exact kX2_reachBySpare_2 d N N a1 0 S _ h
theorem kX2_reachBySpare (d N : Nat) (a1 : Int32) (S : gh_St) (r : gh_St) (h : sX2_reachBySpare N a1 S = some r) : gh_Mx (d + 2) 28 [.ref 26, .int a1] (gh_mo S) none (gh_mo r) :=
  gh_Mx_of rfl rfl rfl rfl rfl rfl (kX2_reachBySpare_e d N a1 S r h)
def sX3_isFull (N : Nat) (S : gh_St) : Option (Int32 × gh_St) :=
  bif gh_cmp .lt (S.1 6 4) 100 then
    (some (0, S))
  else
    (some (1, S))
set_option maxRecDepth 100000 in
theorem kX3_isFull_e (d N : Nat) (S : gh_St) (r : Int32 × gh_St) (h : sX3_isFull N S = some r) : gh_T d fX3_isFull 0 0 none true false (0, [(0, .ref 6)], [], (gh_mo S, 0, 0)) (some (.int r.1), (gh_mo r.2, 0, 0)) := by
  unfold sX3_isFull at h
  refine gh_T_steps 3 (τ := (6, [(0, .ref 6)], [.int 100, .int (S.1 6 4)], (gh_mo S, 0, 0))) (fun _ => rfl) ?_
  cases c1 : gh_cmp .lt (S.1 6 4) 100 with
  | true =>
    rw [c1, cond_true] at h
    refine gh_T_ic true rfl c1 ?_
    refine gh_T_steps 1 (τ := (14, [(0, .ref 6)], [.int 0], (gh_mo S, 0, 0))) (fun _ => rfl) ?_
    cases h
    exact gh_T_ret (fun _ => rfl)
  | false =>
    rw [c1, cond_false] at h
    refine gh_T_ic false rfl c1 ?_
    refine gh_T_steps 2 (τ := (14, [(0, .ref 6)], [.int 1], (gh_mo S, 0, 0))) (fun _ => rfl) ?_
    cases h
    exact gh_T_ret (fun _ => rfl)
theorem kX3_isFull (d N : Nat) (S : gh_St) (r : Int32 × gh_St) (h : sX3_isFull N S = some r) : gh_Mx (d + 1) 30 [.ref 6] (gh_mo S) (some (.int r.1)) (gh_mo r.2) :=
  gh_Mx_of rfl rfl rfl rfl rfl rfl (kX3_isFull_e d N S r h)
def sX3_add (N : Nat) (a1 : Int32) (a2 : Int32) (a3 : Int32) (a4 : Int64) (S : gh_St) : Option (Int32 × gh_St) :=
  (sX3_isFull N S).bind fun q1 =>
  bif gh_cmp .eq q1.1 0 then
    ((gh_wa q1.2 7 100 (q1.2.1 6 4) a1).bind fun S2 =>
    (gh_wa S2 8 100 (S2.1 6 4) a2).bind fun S3 =>
    (gh_wa S3 9 100 (S3.1 6 4) a3).bind fun S4 =>
    (gh_wa S4 10 100 (S4.1 6 4) ((a4 : Int64).toInt32)).bind fun S5 =>
    some (((gh_fI S5 6 4 ((S5.1 6 4) + (1 : Int32))).1 6 4) - (1 : Int32), gh_fI S5 6 4 ((S5.1 6 4) + (1 : Int32))))
  else
    (some ((-1), q1.2))
set_option maxRecDepth 100000 in
theorem kX3_add_e (d N : Nat) (a1 : Int32) (a2 : Int32) (a3 : Int32) (a4 : Int64) (S : gh_St) (r : Int32 × gh_St) (h : sX3_add N a1 a2 a3 a4 S = some r) : gh_T (d + 1) fX3_add 0 0 none false false (0, [(0, .ref 6), (1, .int a1), (2, .int a2), (3, .int a3), (4, .long a4)], [], (gh_mo S, 0, 0)) (some (.int r.1), (gh_mo r.2, 0, 0)) := by
  unfold sX3_add at h
  refine gh_T_steps 1 (τ := (1, [(0, .ref 6), (1, .int a1), (2, .int a2), (3, .int a3), (4, .long a4)], [.ref 6], (gh_mo S, 0, 0))) (fun _ => rfl) ?_
  obtain ⟨q1, hq1, h⟩ := gh_bi h
  refine gh_T_iv (As := []) (b := 6) (rest := []) (y := some (.int q1.1)) (M' := gh_mo q1.2) rfl rfl rfl rfl rfl rfl rfl rfl rfl ⟨Nat.le_refl _, Nat.le_refl _⟩ (kX3_isFull d N S q1 hq1) ?_
  cases c6 : gh_cmp .eq q1.1 0 with
  | true =>
    rw [c6, cond_true] at h
    refine gh_T_if true rfl c6 ?_
    refine gh_T_steps 5 (τ := (18, [(0, .ref 6), (1, .int a1), (2, .int a2), (3, .int a3), (4, .long a4)], [.int a1, .int (q1.2.1 6 4), .ref 7], (gh_mo q1.2, 0, 0))) (fun _ => rfl) ?_
    obtain ⟨S2, hS2, h⟩ := gh_bi h
    refine gh_T_wa rfl rfl hS2 ?_
    refine gh_T_steps 5 (τ := (28, [(0, .ref 6), (1, .int a1), (2, .int a2), (3, .int a3), (4, .long a4)], [.int a2, .int (S2.1 6 4), .ref 8], (gh_mo S2, 0, 0))) (fun _ => rfl) ?_
    obtain ⟨S3, hS3, h⟩ := gh_bi h
    refine gh_T_wa rfl rfl hS3 ?_
    refine gh_T_steps 5 (τ := (38, [(0, .ref 6), (1, .int a1), (2, .int a2), (3, .int a3), (4, .long a4)], [.int a3, .int (S3.1 6 4), .ref 9], (gh_mo S3, 0, 0))) (fun _ => rfl) ?_
    obtain ⟨S4, hS4, h⟩ := gh_bi h
    refine gh_T_wa rfl rfl hS4 ?_
    refine gh_T_steps 6 (τ := (50, [(0, .ref 6), (1, .int a1), (2, .int a2), (3, .int a3), (4, .long a4)], [.int ((a4 : Int64).toInt32), .int (S4.1 6 4), .ref 10], (gh_mo S4, 0, 0))) (fun _ => rfl) ?_
    obtain ⟨S5, hS5, h⟩ := gh_bi h
    refine gh_T_wa rfl rfl hS5 ?_
    refine gh_T_steps 10 (τ := (67, [(0, .ref 6), (1, .int a1), (2, .int a2), (3, .int a3), (4, .long a4)], [.int (((gh_fI S5 6 4 ((S5.1 6 4) + (1 : Int32))).1 6 4) - (1 : Int32))], (gh_mo (gh_fI S5 6 4 ((S5.1 6 4) + (1 : Int32))), 0, 0))) (fun _ => rfl) ?_
    cases h
    exact gh_T_ret (fun _ => rfl)
  | false =>
    rw [c6, cond_false] at h
    refine gh_T_if false rfl c6 ?_
    refine gh_T_steps 1 (τ := (8, [(0, .ref 6), (1, .int a1), (2, .int a2), (3, .int a3), (4, .long a4)], [.int ((-1))], (gh_mo q1.2, 0, 0))) (fun _ => rfl) ?_
    cases h
    exact gh_T_ret (fun _ => rfl)
theorem kX3_add (d N : Nat) (a1 : Int32) (a2 : Int32) (a3 : Int32) (a4 : Int64) (S : gh_St) (r : Int32 × gh_St) (h : sX3_add N a1 a2 a3 a4 S = some r) : gh_Mx (d + 2) 31 [.ref 6, .int a1, .int a2, .int a3, .long a4] (gh_mo S) (some (.int r.1)) (gh_mo r.2) :=
  gh_Mx_of rfl rfl rfl rfl rfl rfl (kX3_add_e d N a1 a2 a3 a4 S r h)
def sX3_gramsOf_36 (N : Nat) (kc5 : Int32 → Int64 → Int32 → gh_St → Option (Int64 × gh_St)) (l1 : Int32) (l2 : Int64) (l4 : Int32) (S : gh_St) : Option (Int64 × gh_St) :=
  kc5 l1 l2 (l4 + 1) S
set_option maxRecDepth 100000 in
theorem kX3_gramsOf_36 (d N : Nat) (kc5 : Int32 → Int64 → Int32 → gh_St → Option (Int64 × gh_St)) (hkc5 : ∀ (l1 : Int32) (l2 : Int64) (l4 : Int32) (S : gh_St) (r : Int64 × gh_St), kc5 l1 l2 l4 S = some r → gh_T d fX3_gramsOf 0 0 none false false (5, [(0, .ref 6), (1, .int l1), (2, .long l2), (4, .int l4)], [], (gh_mo S, 0, 0)) (some (.long r.1), (gh_mo r.2, 0, 0))) (l1 : Int32) (l2 : Int64) (l4 : Int32) (S : gh_St) (r : Int64 × gh_St) (h : sX3_gramsOf_36 N kc5 l1 l2 l4 S = some r) : gh_T d fX3_gramsOf 0 0 none false false (36, [(0, .ref 6), (1, .int l1), (2, .long l2), (4, .int l4)], [], (gh_mo S, 0, 0)) (some (.long r.1), (gh_mo r.2, 0, 0)) := by
  unfold sX3_gramsOf_36 at h
  refine gh_T_steps 2 (τ := (5, [(4, .int (l4 + 1)), (0, .ref 6), (1, .int l1), (2, .long l2)], [], (gh_mo S, 0, 0))) (fun _ => rfl) ?_
  refine gh_T_weak (lv := [(0, .ref 6), (1, .int l1), (2, .long l2), (4, .int (l4 + 1))]) ⟨rfl, rfl, rfl, rfl, trivial⟩ ?_
  exact hkc5 l1 l2 (l4 + 1) S _ h
def sX3_gramsOf_5 (N : Nat) : Nat → Int32 → Int64 → Int32 → gh_St → Option (Int64 × gh_St)
  | 0, _, _, _, _ => none
  | n + 1, l1, l2, l4, S =>
    bif gh_cmp .ge l4 (S.1 6 4) then
      (some (l2, S))
    else
      ((gh_ra S 7 100 l4).bind fun x1 =>
      bif gh_cmp .ne x1 l1 then
        (sX3_gramsOf_36 N (sX3_gramsOf_5 N n) l1 l2 l4 S)
      else
        ((gh_ra S 10 100 l4).bind fun x2 =>
        sX3_gramsOf_36 N (sX3_gramsOf_5 N n) l1 (l2 + ((x2 : Int32).toInt64)) l4 S))
set_option maxRecDepth 100000 in
theorem kX3_gramsOf_5 (d N : Nat) : ∀ (n : Nat) (l1 : Int32) (l2 : Int64) (l4 : Int32) (S : gh_St) (r : Int64 × gh_St), sX3_gramsOf_5 N n l1 l2 l4 S = some r → gh_T d fX3_gramsOf 0 0 none false false (5, [(0, .ref 6), (1, .int l1), (2, .long l2), (4, .int l4)], [], (gh_mo S, 0, 0)) (some (.long r.1), (gh_mo r.2, 0, 0)) := by
  intro n
  induction n with
  | zero =>
    intro l1 l2 l4 S r h
    cases h
  | succ n ih =>
    intro l1 l2 l4 S r h
    rw [sX3_gramsOf_5] at h
    refine gh_T_steps 3 (τ := (11, [(0, .ref 6), (1, .int l1), (2, .long l2), (4, .int l4)], [.int (S.1 6 4), .int l4], (gh_mo S, 0, 0))) (fun _ => rfl) ?_
    cases c4 : gh_cmp .ge l4 (S.1 6 4) with
    | true =>
      rw [c4, cond_true] at h
      refine gh_T_ic true rfl c4 ?_
      refine gh_T_steps 1 (τ := (43, [(0, .ref 6), (1, .int l1), (2, .long l2), (4, .int l4)], [.long l2], (gh_mo S, 0, 0))) (fun _ => rfl) ?_
      cases h
      exact gh_T_ret (fun _ => rfl)
    | false =>
      rw [c4, cond_false] at h
      refine gh_T_ic false rfl c4 ?_
      refine gh_T_steps 3 (τ := (20, [(0, .ref 6), (1, .int l1), (2, .long l2), (4, .int l4)], [.int l4, .ref 7], (gh_mo S, 0, 0))) (fun _ => rfl) ?_
      obtain ⟨x1, hx1, h⟩ := gh_bi h
      refine gh_T_ra rfl rfl hx1 ?_
      refine gh_T_steps 1 (τ := (22, [(0, .ref 6), (1, .int l1), (2, .long l2), (4, .int l4)], [.int l1, .int x1], (gh_mo S, 0, 0))) (fun _ => rfl) ?_
      cases c3 : gh_cmp .ne x1 l1 with
      | true =>
        rw [c3, cond_true] at h
        refine gh_T_ic true rfl c3 ?_
        exact kX3_gramsOf_36 d N (sX3_gramsOf_5 N n) ih l1 l2 l4 S _ h
      | false =>
        rw [c3, cond_false] at h
        refine gh_T_ic false rfl c3 ?_
        refine gh_T_steps 4 (τ := (32, [(0, .ref 6), (1, .int l1), (2, .long l2), (4, .int l4)], [.int l4, .ref 10, .long l2], (gh_mo S, 0, 0))) (fun _ => rfl) ?_
        obtain ⟨x2, hx2, h⟩ := gh_bi h
        refine gh_T_ra rfl rfl hx2 ?_
        refine gh_T_steps 3 (τ := (36, [(2, .long (l2 + ((x2 : Int32).toInt64))), (0, .ref 6), (1, .int l1), (4, .int l4)], [], (gh_mo S, 0, 0))) (fun _ => rfl) ?_
        refine gh_T_weak (lv := [(0, .ref 6), (1, .int l1), (2, .long (l2 + ((x2 : Int32).toInt64))), (4, .int l4)]) ⟨rfl, rfl, rfl, rfl, trivial⟩ ?_
        exact kX3_gramsOf_36 d N (sX3_gramsOf_5 N n) ih l1 (l2 + ((x2 : Int32).toInt64)) l4 S _ h
def sX3_gramsOf (N : Nat) (a1 : Int32) (S : gh_St) : Option (Int64 × gh_St) :=
  sX3_gramsOf_5 N N a1 0 0 S
set_option maxRecDepth 100000 in
theorem kX3_gramsOf_e (d N : Nat) (a1 : Int32) (S : gh_St) (r : Int64 × gh_St) (h : sX3_gramsOf N a1 S = some r) : gh_T d fX3_gramsOf 0 0 none false false (0, [(0, .ref 6), (1, .int a1)], [], (gh_mo S, 0, 0)) (some (.long r.1), (gh_mo r.2, 0, 0)) := by
  unfold sX3_gramsOf at h
  refine gh_T_steps 4 (τ := (5, [(4, .int 0), (2, .long 0), (0, .ref 6), (1, .int a1)], [], (gh_mo S, 0, 0))) (fun _ => rfl) ?_
  refine gh_T_weak (lv := [(0, .ref 6), (1, .int a1), (2, .long 0), (4, .int 0)]) ⟨rfl, rfl, rfl, rfl, trivial⟩ ?_
  exact kX3_gramsOf_5 d N N a1 0 0 S _ h
theorem kX3_gramsOf (d N : Nat) (a1 : Int32) (S : gh_St) (r : Int64 × gh_St) (h : sX3_gramsOf N a1 S = some r) : gh_Mx (d + 1) 34 [.ref 6, .int a1] (gh_mo S) (some (.long r.1)) (gh_mo r.2) :=
  gh_Mx_of rfl rfl rfl rfl rfl rfl (kX3_gramsOf_e d N a1 S r h)
def sX3_countOf_25 (N : Nat) (kc4 : Int32 → Int32 → Int32 → gh_St → Option (Int32 × gh_St)) (l1 : Int32) (l2 : Int32) (l3 : Int32) (S : gh_St) : Option (Int32 × gh_St) :=
  kc4 l1 l2 (l3 + 1) S
set_option maxRecDepth 100000 in
theorem kX3_countOf_25 (d N : Nat) (kc4 : Int32 → Int32 → Int32 → gh_St → Option (Int32 × gh_St)) (hkc4 : ∀ (l1 : Int32) (l2 : Int32) (l3 : Int32) (S : gh_St) (r : Int32 × gh_St), kc4 l1 l2 l3 S = some r → gh_T d fX3_countOf 0 0 none false false (4, [(0, .ref 6), (1, .int l1), (2, .int l2), (3, .int l3)], [], (gh_mo S, 0, 0)) (some (.int r.1), (gh_mo r.2, 0, 0))) (l1 : Int32) (l2 : Int32) (l3 : Int32) (S : gh_St) (r : Int32 × gh_St) (h : sX3_countOf_25 N kc4 l1 l2 l3 S = some r) : gh_T d fX3_countOf 0 0 none false false (25, [(0, .ref 6), (1, .int l1), (2, .int l2), (3, .int l3)], [], (gh_mo S, 0, 0)) (some (.int r.1), (gh_mo r.2, 0, 0)) := by
  unfold sX3_countOf_25 at h
  refine gh_T_steps 2 (τ := (4, [(3, .int (l3 + 1)), (0, .ref 6), (1, .int l1), (2, .int l2)], [], (gh_mo S, 0, 0))) (fun _ => rfl) ?_
  refine gh_T_weak (lv := [(0, .ref 6), (1, .int l1), (2, .int l2), (3, .int (l3 + 1))]) ⟨rfl, rfl, rfl, rfl, trivial⟩ ?_
  exact hkc4 l1 l2 (l3 + 1) S _ h
def sX3_countOf_4 (N : Nat) : Nat → Int32 → Int32 → Int32 → gh_St → Option (Int32 × gh_St)
  | 0, _, _, _, _ => none
  | n + 1, l1, l2, l3, S =>
    bif gh_cmp .ge l3 (S.1 6 4) then
      (some (l2, S))
    else
      ((gh_ra S 7 100 l3).bind fun x1 =>
      bif gh_cmp .ne x1 l1 then
        (sX3_countOf_25 N (sX3_countOf_4 N n) l1 l2 l3 S)
      else
        (sX3_countOf_25 N (sX3_countOf_4 N n) l1 (l2 + 1) l3 S))
set_option maxRecDepth 100000 in
theorem kX3_countOf_4 (d N : Nat) : ∀ (n : Nat) (l1 : Int32) (l2 : Int32) (l3 : Int32) (S : gh_St) (r : Int32 × gh_St), sX3_countOf_4 N n l1 l2 l3 S = some r → gh_T d fX3_countOf 0 0 none false false (4, [(0, .ref 6), (1, .int l1), (2, .int l2), (3, .int l3)], [], (gh_mo S, 0, 0)) (some (.int r.1), (gh_mo r.2, 0, 0)) := by
  intro n
  induction n with
  | zero =>
    intro l1 l2 l3 S r h
    cases h
  | succ n ih =>
    intro l1 l2 l3 S r h
    rw [sX3_countOf_4] at h
    refine gh_T_steps 3 (τ := (9, [(0, .ref 6), (1, .int l1), (2, .int l2), (3, .int l3)], [.int (S.1 6 4), .int l3], (gh_mo S, 0, 0))) (fun _ => rfl) ?_
    cases c3 : gh_cmp .ge l3 (S.1 6 4) with
    | true =>
      rw [c3, cond_true] at h
      refine gh_T_ic true rfl c3 ?_
      refine gh_T_steps 1 (τ := (32, [(0, .ref 6), (1, .int l1), (2, .int l2), (3, .int l3)], [.int l2], (gh_mo S, 0, 0))) (fun _ => rfl) ?_
      cases h
      exact gh_T_ret (fun _ => rfl)
    | false =>
      rw [c3, cond_false] at h
      refine gh_T_ic false rfl c3 ?_
      refine gh_T_steps 3 (τ := (17, [(0, .ref 6), (1, .int l1), (2, .int l2), (3, .int l3)], [.int l3, .ref 7], (gh_mo S, 0, 0))) (fun _ => rfl) ?_
      obtain ⟨x1, hx1, h⟩ := gh_bi h
      refine gh_T_ra rfl rfl hx1 ?_
      refine gh_T_steps 1 (τ := (19, [(0, .ref 6), (1, .int l1), (2, .int l2), (3, .int l3)], [.int l1, .int x1], (gh_mo S, 0, 0))) (fun _ => rfl) ?_
      cases c2 : gh_cmp .ne x1 l1 with
      | true =>
        rw [c2, cond_true] at h
        refine gh_T_ic true rfl c2 ?_
        exact kX3_countOf_25 d N (sX3_countOf_4 N n) ih l1 l2 l3 S _ h
      | false =>
        rw [c2, cond_false] at h
        refine gh_T_ic false rfl c2 ?_
        refine gh_T_steps 1 (τ := (25, [(2, .int (l2 + 1)), (0, .ref 6), (1, .int l1), (3, .int l3)], [], (gh_mo S, 0, 0))) (fun _ => rfl) ?_
        refine gh_T_weak (lv := [(0, .ref 6), (1, .int l1), (2, .int (l2 + 1)), (3, .int l3)]) ⟨rfl, rfl, rfl, rfl, trivial⟩ ?_
        exact kX3_countOf_25 d N (sX3_countOf_4 N n) ih l1 (l2 + 1) l3 S _ h
def sX3_countOf (N : Nat) (a1 : Int32) (S : gh_St) : Option (Int32 × gh_St) :=
  sX3_countOf_4 N N a1 0 0 S
set_option maxRecDepth 100000 in
theorem kX3_countOf_e (d N : Nat) (a1 : Int32) (S : gh_St) (r : Int32 × gh_St) (h : sX3_countOf N a1 S = some r) : gh_T d fX3_countOf 0 0 none false false (0, [(0, .ref 6), (1, .int a1)], [], (gh_mo S, 0, 0)) (some (.int r.1), (gh_mo r.2, 0, 0)) := by
  unfold sX3_countOf at h
  refine gh_T_steps 4 (τ := (4, [(3, .int 0), (2, .int 0), (0, .ref 6), (1, .int a1)], [], (gh_mo S, 0, 0))) (fun _ => rfl) ?_
  refine gh_T_weak (lv := [(0, .ref 6), (1, .int a1), (2, .int 0), (3, .int 0)]) ⟨rfl, rfl, rfl, rfl, trivial⟩ ?_
  exact kX3_countOf_4 d N N a1 0 0 S _ h
theorem kX3_countOf (d N : Nat) (a1 : Int32) (S : gh_St) (r : Int32 × gh_St) (h : sX3_countOf N a1 S = some r) : gh_Mx (d + 1) 35 [.ref 6, .int a1] (gh_mo S) (some (.int r.1)) (gh_mo r.2) :=
  gh_Mx_of rfl rfl rfl rfl rfl rfl (kX3_countOf_e d N a1 S r h)
def sX3_allGrams_4 (N : Nat) : Nat → Int64 → Int32 → gh_St → Option (Int64 × gh_St)
  | 0, _, _, _ => none
  | n + 1, l1, l3, S =>
    bif gh_cmp .ge l3 (S.1 6 4) then
      (some (l1, S))
    else
      ((gh_ra S 10 100 l3).bind fun x1 =>
      (sX3_allGrams_4 N n) (l1 + ((x1 : Int32).toInt64)) (l3 + 1) S)
set_option maxRecDepth 100000 in
theorem kX3_allGrams_4 (d N : Nat) : ∀ (n : Nat) (l1 : Int64) (l3 : Int32) (S : gh_St) (r : Int64 × gh_St), sX3_allGrams_4 N n l1 l3 S = some r → gh_T d fX3_allGrams 0 0 none false false (4, [(0, .ref 6), (1, .long l1), (3, .int l3)], [], (gh_mo S, 0, 0)) (some (.long r.1), (gh_mo r.2, 0, 0)) := by
  intro n
  induction n with
  | zero =>
    intro l1 l3 S r h
    cases h
  | succ n ih =>
    intro l1 l3 S r h
    rw [sX3_allGrams_4] at h
    refine gh_T_steps 3 (τ := (9, [(0, .ref 6), (1, .long l1), (3, .int l3)], [.int (S.1 6 4), .int l3], (gh_mo S, 0, 0))) (fun _ => rfl) ?_
    cases c2 : gh_cmp .ge l3 (S.1 6 4) with
    | true =>
      rw [c2, cond_true] at h
      refine gh_T_ic true rfl c2 ?_
      refine gh_T_steps 1 (τ := (29, [(0, .ref 6), (1, .long l1), (3, .int l3)], [.long l1], (gh_mo S, 0, 0))) (fun _ => rfl) ?_
      cases h
      exact gh_T_ret (fun _ => rfl)
    | false =>
      rw [c2, cond_false] at h
      refine gh_T_ic false rfl c2 ?_
      refine gh_T_steps 4 (τ := (18, [(0, .ref 6), (1, .long l1), (3, .int l3)], [.int l3, .ref 10, .long l1], (gh_mo S, 0, 0))) (fun _ => rfl) ?_
      obtain ⟨x1, hx1, h⟩ := gh_bi h
      refine gh_T_ra rfl rfl hx1 ?_
      refine gh_T_steps 5 (τ := (4, [(3, .int (l3 + 1)), (1, .long (l1 + ((x1 : Int32).toInt64))), (0, .ref 6)], [], (gh_mo S, 0, 0))) (fun _ => rfl) ?_
      refine gh_T_weak (lv := [(0, .ref 6), (1, .long (l1 + ((x1 : Int32).toInt64))), (3, .int (l3 + 1))]) ⟨rfl, rfl, rfl, trivial⟩ ?_
      exact ih (l1 + ((x1 : Int32).toInt64)) (l3 + 1) S _ h
def sX3_allGrams (N : Nat) (S : gh_St) : Option (Int64 × gh_St) :=
  sX3_allGrams_4 N N 0 0 S
set_option maxRecDepth 100000 in
theorem kX3_allGrams_e (d N : Nat) (S : gh_St) (r : Int64 × gh_St) (h : sX3_allGrams N S = some r) : gh_T d fX3_allGrams 0 0 none false false (0, [(0, .ref 6)], [], (gh_mo S, 0, 0)) (some (.long r.1), (gh_mo r.2, 0, 0)) := by
  unfold sX3_allGrams at h
  refine gh_T_steps 4 (τ := (4, [(3, .int 0), (1, .long 0), (0, .ref 6)], [], (gh_mo S, 0, 0))) (fun _ => rfl) ?_
  refine gh_T_weak (lv := [(0, .ref 6), (1, .long 0), (3, .int 0)]) ⟨rfl, rfl, rfl, trivial⟩ ?_
  exact kX3_allGrams_4 d N N 0 0 S _ h
theorem kX3_allGrams (d N : Nat) (S : gh_St) (r : Int64 × gh_St) (h : sX3_allGrams N S = some r) : gh_Mx (d + 1) 36 [.ref 6] (gh_mo S) (some (.long r.1)) (gh_mo r.2) :=
  gh_Mx_of rfl rfl rfl rfl rfl rfl (kX3_allGrams_e d N S r h)
def sX4_costOf_25 (N : Nat) (l1 : Int32) (t0 : Int32) (S : gh_St) : Option (Int32 × gh_St) :=
  bif gh_cmp .eq t0 0 then
    ((gh_ra S 14 20 l1).bind fun x1 =>
    some (x1 + (S.1 11 8), S))
  else
    ((gh_ra S 14 20 l1).bind fun x2 =>
    some (x2, S))
set_option maxRecDepth 100000 in
theorem kX4_costOf_25 (d N : Nat) (l1 : Int32) (t0 : Int32) (S : gh_St) (r : Int32 × gh_St) (h : sX4_costOf_25 N l1 t0 S = some r) : gh_T d fX4_costOf 0 0 none false false (25, [(0, .ref 11), (1, .int l1)], [.int t0], (gh_mo S, 0, 0)) (some (.int r.1), (gh_mo r.2, 0, 0)) := by
  unfold sX4_costOf_25 at h
  refine gh_T_steps 2 (τ := (27, [(3, .int t0), (0, .ref 11), (1, .int l1)], [.int t0], (gh_mo S, 0, 0))) (fun _ => rfl) ?_
  cases c3 : gh_cmp .eq t0 0 with
  | true =>
    rw [c3, cond_true] at h
    refine gh_T_if true rfl c3 ?_
    refine gh_T_steps 3 (τ := (44, [(3, .int t0), (0, .ref 11), (1, .int l1)], [.int l1, .ref 14], (gh_mo S, 0, 0))) (fun _ => rfl) ?_
    obtain ⟨x1, hx1, h⟩ := gh_bi h
    refine gh_T_ra rfl rfl hx1 ?_
    refine gh_T_steps 3 (τ := (50, [(3, .int t0), (0, .ref 11), (1, .int l1)], [.int (x1 + (S.1 11 8))], (gh_mo S, 0, 0))) (fun _ => rfl) ?_
    cases h
    exact gh_T_ret (fun _ => rfl)
  | false =>
    rw [c3, cond_false] at h
    refine gh_T_if false rfl c3 ?_
    refine gh_T_steps 3 (τ := (35, [(3, .int t0), (0, .ref 11), (1, .int l1)], [.int l1, .ref 14], (gh_mo S, 0, 0))) (fun _ => rfl) ?_
    obtain ⟨x2, hx2, h⟩ := gh_bi h
    refine gh_T_ra rfl rfl hx2 ?_
    refine gh_T_steps 1 (τ := (50, [(3, .int t0), (0, .ref 11), (1, .int l1)], [.int x2], (gh_mo S, 0, 0))) (fun _ => rfl) ?_
    cases h
    exact gh_T_ret (fun _ => rfl)
def sX4_costOf_20 (N : Nat) (l1 : Int32) (S : gh_St) : Option (Int32 × gh_St) :=
  sX4_costOf_25 N l1 1 S
set_option maxRecDepth 100000 in
theorem kX4_costOf_20 (d N : Nat) (l1 : Int32) (S : gh_St) (r : Int32 × gh_St) (h : sX4_costOf_20 N l1 S = some r) : gh_T d fX4_costOf 0 0 none false false (20, [(0, .ref 11), (1, .int l1)], [], (gh_mo S, 0, 0)) (some (.int r.1), (gh_mo r.2, 0, 0)) := by
  unfold sX4_costOf_20 at h
  refine gh_T_steps 2 (τ := (25, [(0, .ref 11), (1, .int l1)], [.int 1], (gh_mo S, 0, 0))) (fun _ => rfl) ?_
  exact kX4_costOf_25 d N l1 1 S _ h
def sX4_costOf (N : Nat) (a1 : Int32) (a2 : Int32) (S : gh_St) : Option (Int32 × gh_St) :=
  (gh_ra S 15 20 a1).bind fun x1 =>
  bif gh_cmp .eq x1 ((-1)) then
    (sX4_costOf_20 N a1 S)
  else
    ((gh_ra S 15 20 a1).bind fun x2 =>
    bif gh_cmp .ne x2 a2 then
      (sX4_costOf_25 N a1 0 S)
    else
      (sX4_costOf_20 N a1 S))
set_option maxRecDepth 100000 in
theorem kX4_costOf_e (d N : Nat) (a1 : Int32) (a2 : Int32) (S : gh_St) (r : Int32 × gh_St) (h : sX4_costOf N a1 a2 S = some r) : gh_T d fX4_costOf 0 0 none false false (0, [(0, .ref 11), (1, .int a1), (2, .int a2)], [], (gh_mo S, 0, 0)) (some (.int r.1), (gh_mo r.2, 0, 0)) := by
  unfold sX4_costOf at h
  refine gh_T_steps 3 (τ := (5, [(0, .ref 11), (1, .int a1), (2, .int a2)], [.int a1, .ref 15], (gh_mo S, 0, 0))) (fun _ => rfl) ?_
  obtain ⟨x1, hx1, h⟩ := gh_bi h
  refine gh_T_ra rfl rfl hx1 ?_
  refine gh_T_steps 1 (τ := (7, [(0, .ref 11), (1, .int a1), (2, .int a2)], [.int ((-1)), .int x1], (gh_mo S, 0, 0))) (fun _ => rfl) ?_
  cases c4 : gh_cmp .eq x1 ((-1)) with
  | true =>
    rw [c4, cond_true] at h
    refine gh_T_ic true rfl c4 ?_
    refine gh_T_weak (lv := [(0, .ref 11), (1, .int a1)]) ⟨rfl, rfl, trivial⟩ ?_
    exact kX4_costOf_20 d N a1 S _ h
  | false =>
    rw [c4, cond_false] at h
    refine gh_T_ic false rfl c4 ?_
    refine gh_T_steps 3 (τ := (15, [(0, .ref 11), (1, .int a1), (2, .int a2)], [.int a1, .ref 15], (gh_mo S, 0, 0))) (fun _ => rfl) ?_
    obtain ⟨x2, hx2, h⟩ := gh_bi h
    refine gh_T_ra rfl rfl hx2 ?_
    refine gh_T_steps 1 (τ := (17, [(0, .ref 11), (1, .int a1), (2, .int a2)], [.int a2, .int x2], (gh_mo S, 0, 0))) (fun _ => rfl) ?_
    cases c3 : gh_cmp .ne x2 a2 with
    | true =>
      rw [c3, cond_true] at h
      refine gh_T_ic true rfl c3 ?_
      refine gh_T_steps 1 (τ := (25, [(0, .ref 11), (1, .int a1), (2, .int a2)], [.int 0], (gh_mo S, 0, 0))) (fun _ => rfl) ?_
      refine gh_T_weak (lv := [(0, .ref 11), (1, .int a1)]) ⟨rfl, rfl, trivial⟩ ?_
      exact kX4_costOf_25 d N a1 0 S _ h
    | false =>
      rw [c3, cond_false] at h
      refine gh_T_ic false rfl c3 ?_
      refine gh_T_weak (lv := [(0, .ref 11), (1, .int a1)]) ⟨rfl, rfl, trivial⟩ ?_
      exact kX4_costOf_20 d N a1 S _ h
theorem kX4_costOf (d N : Nat) (a1 : Int32) (a2 : Int32) (S : gh_St) (r : Int32 × gh_St) (h : sX4_costOf N a1 a2 S = some r) : gh_Mx (d + 1) 40 [.ref 11, .int a1, .int a2] (gh_mo S) (some (.int r.1)) (gh_mo r.2) :=
  gh_Mx_of rfl rfl rfl rfl rfl rfl (kX4_costOf_e d N a1 a2 S r h)
def sX4_spreadOver_19 (N : Nat) (l1 : Int32) (l2 : Int32) (l3 : Int32) (l5 : Int32) (S : gh_St) : Option (gh_St) :=
  (gh_ra S 16 72 ((l5 * (12 : Int32)) + l1)).bind fun x1 =>
  (gh_ra S 16 72 (((l5 - (1 : Int32)) * (12 : Int32)) + l2)).bind fun x2 =>
  (gh_wa S 16 72 ((l5 * (12 : Int32)) + l1) (gh_min x1 (l3 + x2))).bind fun S3 =>
  some S3
set_option maxRecDepth 100000 in
theorem kX4_spreadOver_19 (d N : Nat) (l1 : Int32) (l2 : Int32) (l3 : Int32) (l5 : Int32) (S : gh_St) (r : gh_St) (h : sX4_spreadOver_19 N l1 l2 l3 l5 S = some r) : gh_T d fX4_spreadOver 0 0 none false false (19, [(0, .ref 11), (1, .int l1), (2, .int l2), (3, .int l3), (5, .int l5)], [], (gh_mo S, 0, 0)) (none, (gh_mo r, 0, 0)) := by
  unfold sX4_spreadOver_19 at h
  refine gh_T_steps 12 (τ := (40, [(6, .int ((l5 * (12 : Int32)) + l1)), (0, .ref 11), (1, .int l1), (2, .int l2), (3, .int l3), (5, .int l5)], [.int ((l5 * (12 : Int32)) + l1), .ref 16, .int ((l5 * (12 : Int32)) + l1), .ref 16], (gh_mo S, 0, 0))) (fun _ => rfl) ?_
  obtain ⟨x1, hx1, h⟩ := gh_bi h
  refine gh_T_ra rfl rfl hx1 ?_
  refine gh_T_steps 10 (τ := (55, [(6, .int ((l5 * (12 : Int32)) + l1)), (0, .ref 11), (1, .int l1), (2, .int l2), (3, .int l3), (5, .int l5)], [.int (((l5 - (1 : Int32)) * (12 : Int32)) + l2), .ref 16, .int l3, .int x1, .int ((l5 * (12 : Int32)) + l1), .ref 16], (gh_mo S, 0, 0))) (fun _ => rfl) ?_
  obtain ⟨x2, hx2, h⟩ := gh_bi h
  refine gh_T_ra rfl rfl hx2 ?_
  refine gh_T_steps 2 (τ := (60, [(6, .int ((l5 * (12 : Int32)) + l1)), (0, .ref 11), (1, .int l1), (2, .int l2), (3, .int l3), (5, .int l5)], [.int (gh_min x1 (l3 + x2)), .int ((l5 * (12 : Int32)) + l1), .ref 16], (gh_mo S, 0, 0))) (fun _ => rfl) ?_
  obtain ⟨S3, hS3, h⟩ := gh_bi h
  refine gh_T_wa rfl rfl hS3 ?_
  cases h
  exact gh_T_ret (fun _ => rfl)
def sX4_spreadOver (N : Nat) (a1 : Int32) (a2 : Int32) (a3 : Int32) (a4 : Int32) (a5 : Int32) (S : gh_St) : Option (gh_St) :=
  bif gh_cmp .eq a2 a4 then
    (some S)
  else
    (bif gh_cmp .eq a1 a4 then
      (sX4_spreadOver_19 N a1 a2 a3 a5 S)
    else
      (bif gh_cmp .ge a1 8 then
        (sX4_spreadOver_19 N a1 a2 a3 a5 S)
      else
        (some S)))
set_option maxRecDepth 100000 in
theorem kX4_spreadOver_e (d N : Nat) (a1 : Int32) (a2 : Int32) (a3 : Int32) (a4 : Int32) (a5 : Int32) (S : gh_St) (r : gh_St) (h : sX4_spreadOver N a1 a2 a3 a4 a5 S = some r) : gh_T d fX4_spreadOver 0 0 none false false (0, [(0, .ref 11), (1, .int a1), (2, .int a2), (3, .int a3), (4, .int a4), (5, .int a5)], [], (gh_mo S, 0, 0)) (none, (gh_mo r, 0, 0)) := by
  unfold sX4_spreadOver at h
  refine gh_T_steps 2 (τ := (3, [(0, .ref 11), (1, .int a1), (2, .int a2), (3, .int a3), (4, .int a4), (5, .int a5)], [.int a4, .int a2], (gh_mo S, 0, 0))) (fun _ => rfl) ?_
  cases c3 : gh_cmp .eq a2 a4 with
  | true =>
    rw [c3, cond_true] at h
    refine gh_T_ic true rfl c3 ?_
    cases h
    exact gh_T_ret (fun _ => rfl)
  | false =>
    rw [c3, cond_false] at h
    refine gh_T_ic false rfl c3 ?_
    refine gh_T_steps 2 (τ := (9, [(0, .ref 11), (1, .int a1), (2, .int a2), (3, .int a3), (4, .int a4), (5, .int a5)], [.int a4, .int a1], (gh_mo S, 0, 0))) (fun _ => rfl) ?_
    cases c2 : gh_cmp .eq a1 a4 with
    | true =>
      rw [c2, cond_true] at h
      refine gh_T_ic true rfl c2 ?_
      refine gh_T_weak (lv := [(0, .ref 11), (1, .int a1), (2, .int a2), (3, .int a3), (5, .int a5)]) ⟨rfl, rfl, rfl, rfl, rfl, trivial⟩ ?_
      exact kX4_spreadOver_19 d N a1 a2 a3 a5 S _ h
    | false =>
      rw [c2, cond_false] at h
      refine gh_T_ic false rfl c2 ?_
      refine gh_T_steps 2 (τ := (15, [(0, .ref 11), (1, .int a1), (2, .int a2), (3, .int a3), (4, .int a4), (5, .int a5)], [.int 8, .int a1], (gh_mo S, 0, 0))) (fun _ => rfl) ?_
      cases c1 : gh_cmp .ge a1 8 with
      | true =>
        rw [c1, cond_true] at h
        refine gh_T_ic true rfl c1 ?_
        refine gh_T_weak (lv := [(0, .ref 11), (1, .int a1), (2, .int a2), (3, .int a3), (5, .int a5)]) ⟨rfl, rfl, rfl, rfl, rfl, trivial⟩ ?_
        exact kX4_spreadOver_19 d N a1 a2 a3 a5 S _ h
      | false =>
        rw [c1, cond_false] at h
        refine gh_T_ic false rfl c1 ?_
        cases h
        exact gh_T_ret (fun _ => rfl)
theorem kX4_spreadOver (d N : Nat) (a1 : Int32) (a2 : Int32) (a3 : Int32) (a4 : Int32) (a5 : Int32) (S : gh_St) (r : gh_St) (h : sX4_spreadOver N a1 a2 a3 a4 a5 S = some r) : gh_Mx (d + 1) 42 [.ref 11, .int a1, .int a2, .int a3, .int a4, .int a5] (gh_mo S) none (gh_mo r) :=
  gh_Mx_of rfl rfl rfl rfl rfl rfl (kX4_spreadOver_e d N a1 a2 a3 a4 a5 S r h)

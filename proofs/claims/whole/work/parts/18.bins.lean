def gh_wd (b : Bool) : Nat := bif b then gh_SC + 2 else gh_SC + 1
def sX0_has (N : Nat) (a1 : Int32) (a2 : Int32) (S : gh_St) : Option (Int32 × gh_St) :=
  (gh_ra S 3 8 a1).bind fun x1 =>
  bif gh_cmp .le x1 0 then
    (some (0, S))
  else
    ((gh_ra S 2 8 a1).bind fun x2 =>
    bif gh_cmp .ne x2 a2 then
      (some (0, S))
    else
      (some (1, S)))
set_option maxRecDepth 100000 in
theorem kX0_has_0 (d N : Nat) (a1 : Int32) (a2 : Int32) (S : gh_St) (r : Int32 × gh_St) (h : sX0_has N a1 a2 S = some r) : gh_T d fX0_has 0 0 none true false (0, [(0, .ref 1), (1, .int a1), (2, .int a2)], [], (gh_mo S, 0, 0)) (some (.int r.1), (gh_mo r.2, 0, 0)) := by
  unfold sX0_has at h
  refine gh_T_steps 3 (τ := (5, [(0, .ref 1), (1, .int a1), (2, .int a2)], [.int a1, .ref 3], (gh_mo S, 0, 0))) (fun _ => rfl) ?_
  obtain ⟨x1, hx1, h⟩ := gh_bi h
  refine gh_T_ra rfl rfl hx1 ?_
  cases c4 : gh_cmp .le x1 0 with
  | true =>
    rw [c4] at h
    refine gh_T_if true rfl c4 ?_
    refine gh_T_steps 1 (τ := (24, [(0, .ref 1), (1, .int a1), (2, .int a2)], [.int 0], (gh_mo S, 0, 0))) (fun _ => rfl) ?_
    cases h
    exact gh_T_ret (fun _ => rfl)
  | false =>
    rw [c4] at h
    refine gh_T_if false rfl c4 ?_
    refine gh_T_steps 3 (τ := (14, [(0, .ref 1), (1, .int a1), (2, .int a2)], [.int a1, .ref 2], (gh_mo S, 0, 0))) (fun _ => rfl) ?_
    obtain ⟨x2, hx2, h⟩ := gh_bi h
    refine gh_T_ra rfl rfl hx2 ?_
    refine gh_T_steps 1 (τ := (16, [(0, .ref 1), (1, .int a1), (2, .int a2)], [.int a2, .int x2], (gh_mo S, 0, 0))) (fun _ => rfl) ?_
    cases c3 : gh_cmp .ne x2 a2 with
    | true =>
      rw [c3] at h
      refine gh_T_ic true rfl c3 ?_
      refine gh_T_steps 1 (τ := (24, [(0, .ref 1), (1, .int a1), (2, .int a2)], [.int 0], (gh_mo S, 0, 0))) (fun _ => rfl) ?_
      cases h
      exact gh_T_ret (fun _ => rfl)
    | false =>
      rw [c3] at h
      refine gh_T_ic false rfl c3 ?_
      refine gh_T_steps 2 (τ := (24, [(0, .ref 1), (1, .int a1), (2, .int a2)], [.int 1], (gh_mo S, 0, 0))) (fun _ => rfl) ?_
      cases h
      exact gh_T_ret (fun _ => rfl)
theorem kX0_has (d N : Nat) (a1 : Int32) (a2 : Int32) (S : gh_St) (r : Int32 × gh_St) (h : sX0_has N a1 a2 S = some r) : gh_Mx (d + 1) 1 [.ref 1, .int a1, .int a2] (gh_mo S) (some (.int r.1)) (gh_mo r.2) :=
  gh_Mx_of rfl rfl rfl rfl rfl rfl (kX0_has_0 d N a1 a2 S r h)
def sX0_part (N : Nat) (a1 : Int32) (a2 : Int32) (S : gh_St) : Option (Int64 × gh_St) :=
  (gh_ra S 3 8 a1).bind fun x1 =>
  bif gh_cmp .ne x1 0 then
    ((gh_rj S 5 8 a1).bind fun x2 =>
    (gh_ra S 3 8 a1).bind fun x3 =>
    (gh_dj (x2 * ((a2 : Int32).toInt64)) ((x3 : Int32).toInt64)).bind fun x4 =>
    some (x4, S))
  else
    (some (0, S))
set_option maxRecDepth 100000 in
theorem kX0_part_0 (d N : Nat) (a1 : Int32) (a2 : Int32) (S : gh_St) (r : Int64 × gh_St) (h : sX0_part N a1 a2 S = some r) : gh_T d fX0_part 0 0 none false false (0, [(0, .ref 1), (1, .int a1), (2, .int a2)], [], (gh_mo S, 0, 0)) (some (.long r.1), (gh_mo r.2, 0, 0)) := by
  unfold sX0_part at h
  refine gh_T_steps 3 (τ := (5, [(0, .ref 1), (1, .int a1), (2, .int a2)], [.int a1, .ref 3], (gh_mo S, 0, 0))) (fun _ => rfl) ?_
  obtain ⟨x1, hx1, h⟩ := gh_bi h
  refine gh_T_ra rfl rfl hx1 ?_
  cases c5 : gh_cmp .ne x1 0 with
  | true =>
    rw [c5] at h
    refine gh_T_if true rfl c5 ?_
    refine gh_T_steps 3 (τ := (18, [(0, .ref 1), (1, .int a1), (2, .int a2)], [.int a1, .ref 5], (gh_mo S, 0, 0))) (fun _ => rfl) ?_
    obtain ⟨x2, hx2, h⟩ := gh_bi h
    refine gh_T_rj rfl rfl hx2 ?_
    refine gh_T_steps 6 (τ := (27, [(0, .ref 1), (1, .int a1), (2, .int a2)], [.int a1, .ref 3, .long (x2 * ((a2 : Int32).toInt64))], (gh_mo S, 0, 0))) (fun _ => rfl) ?_
    obtain ⟨x3, hx3, h⟩ := gh_bi h
    refine gh_T_ra rfl rfl hx3 ?_
    refine gh_T_steps 1 (τ := (29, [(0, .ref 1), (1, .int a1), (2, .int a2)], [.long ((x3 : Int32).toInt64), .long (x2 * ((a2 : Int32).toInt64))], (gh_mo S, 0, 0))) (fun _ => rfl) ?_
    obtain ⟨x4, hx4, h⟩ := gh_bi h
    refine gh_T_dj rfl hx4 ?_
    cases h
    exact gh_T_ret (fun _ => rfl)
  | false =>
    rw [c5] at h
    refine gh_T_if false rfl c5 ?_
    refine gh_T_steps 2 (τ := (30, [(0, .ref 1), (1, .int a1), (2, .int a2)], [.long 0], (gh_mo S, 0, 0))) (fun _ => rfl) ?_
    cases h
    exact gh_T_ret (fun _ => rfl)
theorem kX0_part (d N : Nat) (a1 : Int32) (a2 : Int32) (S : gh_St) (r : Int64 × gh_St) (h : sX0_part N a1 a2 S = some r) : gh_Mx (d + 1) 4 [.ref 1, .int a1, .int a2] (gh_mo S) (some (.long r.1)) (gh_mo r.2) :=
  gh_Mx_of rfl rfl rfl rfl rfl rfl (kX0_part_0 d N a1 a2 S r h)
def sX0_take (N : Nat) (a1 : Int32) (a2 : Int32) (S : gh_St) : Option (Int64 × gh_St) :=
  (sX0_part N a1 a2 S).bind fun q1 =>
  (gh_ra q1.2 3 8 a1).bind fun x2 =>
  (gh_wa q1.2 3 8 a1 (x2 - a2)).bind fun S3 =>
  (gh_rj S3 5 8 a1).bind fun x4 =>
  (gh_wj S3 5 8 a1 (x4 - q1.1)).bind fun S5 =>
  some (q1.1, S5)
set_option maxRecDepth 100000 in
theorem kX0_take_0 (d N : Nat) (a1 : Int32) (a2 : Int32) (S : gh_St) (r : Int64 × gh_St) (h : sX0_take N a1 a2 S = some r) : gh_T (d + 1) fX0_take 0 0 none false false (0, [(0, .ref 1), (1, .int a1), (2, .int a2)], [], (gh_mo S, 0, 0)) (some (.long r.1), (gh_mo r.2, 0, 0)) := by
  unfold sX0_take at h
  refine gh_T_steps 3 (τ := (3, [(0, .ref 1), (1, .int a1), (2, .int a2)], [.int a2, .int a1, .ref 1], (gh_mo S, 0, 0))) (fun _ => rfl) ?_
  obtain ⟨q1, hq1, h⟩ := gh_bi h
  refine gh_T_iv (As := [.int a1, .int a2]) (b := 1) (rest := []) (y := some (.long q1.1)) (M' := gh_mo q1.2) rfl rfl rfl rfl rfl rfl rfl rfl rfl ⟨Nat.le_refl _, Nat.le_refl _⟩ (kX0_part d N a1 a2 S q1 hq1) ?_
  refine gh_T_steps 5 (τ := (13, [(3, .long q1.1), (0, .ref 1), (1, .int a1), (2, .int a2)], [.int a1, .ref 3, .int a1, .ref 3], (gh_mo q1.2, 0, 0))) (fun _ => rfl) ?_
  obtain ⟨x2, hx2, h⟩ := gh_bi h
  refine gh_T_ra rfl rfl hx2 ?_
  refine gh_T_steps 2 (τ := (16, [(3, .long q1.1), (0, .ref 1), (1, .int a1), (2, .int a2)], [.int (x2 - a2), .int a1, .ref 3], (gh_mo q1.2, 0, 0))) (fun _ => rfl) ?_
  obtain ⟨S3, hS3, h⟩ := gh_bi h
  refine gh_T_wa rfl rfl hS3 ?_
  refine gh_T_steps 4 (τ := (23, [(3, .long q1.1), (0, .ref 1), (1, .int a1), (2, .int a2)], [.int a1, .ref 5, .int a1, .ref 5], (gh_mo S3, 0, 0))) (fun _ => rfl) ?_
  obtain ⟨x4, hx4, h⟩ := gh_bi h
  refine gh_T_rj rfl rfl hx4 ?_
  refine gh_T_steps 2 (τ := (26, [(3, .long q1.1), (0, .ref 1), (1, .int a1), (2, .int a2)], [.long (x4 - q1.1), .int a1, .ref 5], (gh_mo S3, 0, 0))) (fun _ => rfl) ?_
  obtain ⟨S5, hS5, h⟩ := gh_bi h
  refine gh_T_wj rfl rfl hS5 ?_
  refine gh_T_steps 1 (τ := (28, [(3, .long q1.1), (0, .ref 1), (1, .int a1), (2, .int a2)], [.long q1.1], (gh_mo S5, 0, 0))) (fun _ => rfl) ?_
  cases h
  exact gh_T_ret (fun _ => rfl)
theorem kX0_take (d N : Nat) (a1 : Int32) (a2 : Int32) (S : gh_St) (r : Int64 × gh_St) (h : sX0_take N a1 a2 S = some r) : gh_Mx (d + 2) 5 [.ref 1, .int a1, .int a2] (gh_mo S) (some (.long r.1)) (gh_mo r.2) :=
  gh_Mx_of rfl rfl rfl rfl rfl rfl (kX0_take_0 d N a1 a2 S r h)
def sX0_put (N : Nat) (a1 : Int32) (a2 : Int32) (a3 : Int32) (a4 : Int64) (S : gh_St) : Option (gh_St) :=
  (gh_wa S 2 8 a1 a2).bind fun S1 =>
  (gh_ra S1 3 8 a1).bind fun x2 =>
  (gh_wa S1 3 8 a1 (x2 + a3)).bind fun S3 =>
  (gh_rj S3 5 8 a1).bind fun x4 =>
  (gh_wj S3 5 8 a1 (x4 + a4)).bind fun S5 =>
  some S5
set_option maxRecDepth 100000 in
theorem kX0_put_0 (d N : Nat) (a1 : Int32) (a2 : Int32) (a3 : Int32) (a4 : Int64) (S : gh_St) (r : gh_St) (h : sX0_put N a1 a2 a3 a4 S = some r) : gh_T d fX0_put 0 0 none false false (0, [(0, .ref 1), (1, .int a1), (2, .int a2), (3, .int a3), (4, .long a4)], [], (gh_mo S, 0, 0)) (none, (gh_mo r, 0, 0)) := by
  unfold sX0_put at h
  refine gh_T_steps 4 (τ := (6, [(0, .ref 1), (1, .int a1), (2, .int a2), (3, .int a3), (4, .long a4)], [.int a2, .int a1, .ref 2], (gh_mo S, 0, 0))) (fun _ => rfl) ?_
  obtain ⟨S1, hS1, h⟩ := gh_bi h
  refine gh_T_wa rfl rfl hS1 ?_
  refine gh_T_steps 4 (τ := (13, [(0, .ref 1), (1, .int a1), (2, .int a2), (3, .int a3), (4, .long a4)], [.int a1, .ref 3, .int a1, .ref 3], (gh_mo S1, 0, 0))) (fun _ => rfl) ?_
  obtain ⟨x2, hx2, h⟩ := gh_bi h
  refine gh_T_ra rfl rfl hx2 ?_
  refine gh_T_steps 2 (τ := (16, [(0, .ref 1), (1, .int a1), (2, .int a2), (3, .int a3), (4, .long a4)], [.int (x2 + a3), .int a1, .ref 3], (gh_mo S1, 0, 0))) (fun _ => rfl) ?_
  obtain ⟨S3, hS3, h⟩ := gh_bi h
  refine gh_T_wa rfl rfl hS3 ?_
  refine gh_T_steps 4 (τ := (23, [(0, .ref 1), (1, .int a1), (2, .int a2), (3, .int a3), (4, .long a4)], [.int a1, .ref 5, .int a1, .ref 5], (gh_mo S3, 0, 0))) (fun _ => rfl) ?_
  obtain ⟨x4, hx4, h⟩ := gh_bi h
  refine gh_T_rj rfl rfl hx4 ?_
  refine gh_T_steps 2 (τ := (27, [(0, .ref 1), (1, .int a1), (2, .int a2), (3, .int a3), (4, .long a4)], [.long (x4 + a4), .int a1, .ref 5], (gh_mo S3, 0, 0))) (fun _ => rfl) ?_
  obtain ⟨S5, hS5, h⟩ := gh_bi h
  refine gh_T_wj rfl rfl hS5 ?_
  cases h
  exact gh_T_ret (fun _ => rfl)
theorem kX0_put (d N : Nat) (a1 : Int32) (a2 : Int32) (a3 : Int32) (a4 : Int64) (S : gh_St) (r : gh_St) (h : sX0_put N a1 a2 a3 a4 S = some r) : gh_Mx (d + 1) 6 [.ref 1, .int a1, .int a2, .int a3, .long a4] (gh_mo S) none (gh_mo r) :=
  gh_Mx_of rfl rfl rfl rfl rfl rfl (kX0_put_0 d N a1 a2 a3 a4 S r h)
def sX0_moist (N : Nat) (a1 : Int32) (S : gh_St) : Option (Int32 × gh_St) :=
  (gh_ra S 3 8 a1).bind fun x1 =>
  bif gh_cmp .ne x1 0 then
    ((gh_rj S 5 8 a1).bind fun x2 =>
    (gh_ra S 3 8 a1).bind fun x3 =>
    (gh_dj x2 ((x3 : Int32).toInt64)).bind fun x4 =>
    some ((gh_mxj 0 (1000 - x4) : Int64).toInt32, S))
  else
    (some ((-1), S))
set_option maxRecDepth 100000 in
theorem kX0_moist_0 (d N : Nat) (a1 : Int32) (S : gh_St) (r : Int32 × gh_St) (h : sX0_moist N a1 S = some r) : gh_T d fX0_moist 0 0 none false false (0, [(0, .ref 1), (1, .int a1)], [], (gh_mo S, 0, 0)) (some (.int r.1), (gh_mo r.2, 0, 0)) := by
  unfold sX0_moist at h
  refine gh_T_steps 3 (τ := (5, [(0, .ref 1), (1, .int a1)], [.int a1, .ref 3], (gh_mo S, 0, 0))) (fun _ => rfl) ?_
  obtain ⟨x1, hx1, h⟩ := gh_bi h
  refine gh_T_ra rfl rfl hx1 ?_
  cases c5 : gh_cmp .ne x1 0 with
  | true =>
    rw [c5] at h
    refine gh_T_if true rfl c5 ?_
    refine gh_T_steps 5 (τ := (20, [(0, .ref 1), (1, .int a1)], [.int a1, .ref 5, .long 1000, .long 0], (gh_mo S, 0, 0))) (fun _ => rfl) ?_
    obtain ⟨x2, hx2, h⟩ := gh_bi h
    refine gh_T_rj rfl rfl hx2 ?_
    refine gh_T_steps 3 (τ := (26, [(0, .ref 1), (1, .int a1)], [.int a1, .ref 3, .long x2, .long 1000, .long 0], (gh_mo S, 0, 0))) (fun _ => rfl) ?_
    obtain ⟨x3, hx3, h⟩ := gh_bi h
    refine gh_T_ra rfl rfl hx3 ?_
    refine gh_T_steps 1 (τ := (28, [(0, .ref 1), (1, .int a1)], [.long ((x3 : Int32).toInt64), .long x2, .long 1000, .long 0], (gh_mo S, 0, 0))) (fun _ => rfl) ?_
    obtain ⟨x4, hx4, h⟩ := gh_bi h
    refine gh_T_dj rfl hx4 ?_
    refine gh_T_steps 3 (τ := (34, [(0, .ref 1), (1, .int a1)], [.int ((gh_mxj 0 (1000 - x4) : Int64).toInt32)], (gh_mo S, 0, 0))) (fun _ => rfl) ?_
    cases h
    exact gh_T_ret (fun _ => rfl)
  | false =>
    rw [c5] at h
    refine gh_T_if false rfl c5 ?_
    refine gh_T_steps 1 (τ := (10, [(0, .ref 1), (1, .int a1)], [.int ((-1))], (gh_mo S, 0, 0))) (fun _ => rfl) ?_
    cases h
    exact gh_T_ret (fun _ => rfl)
theorem kX0_moist (d N : Nat) (a1 : Int32) (S : gh_St) (r : Int32 × gh_St) (h : sX0_moist N a1 S = some r) : gh_Mx (d + 1) 7 [.ref 1, .int a1] (gh_mo S) (some (.int r.1)) (gh_mo r.2) :=
  gh_Mx_of rfl rfl rfl rfl rfl rfl (kX0_moist_0 d N a1 S r h)
def sX0_allGrams_4 (N : Nat) : Nat → Int64 → Int32 → gh_St → Option (Int64 × gh_St)
  | 0, _, _, _ => none
  | n + 1, l1, l3, S =>
    bif gh_cmp .ge l3 8 then
      (some (l1, S))
    else
      ((gh_rj S 5 8 l3).bind fun x1 =>
      (sX0_allGrams_4 N n) (l1 + x1) (l3 + 1) S)
set_option maxRecDepth 100000 in
theorem kX0_allGrams_4 (d N : Nat) : ∀ (n : Nat) (l1 : Int64) (l3 : Int32) (S : gh_St) (r : Int64 × gh_St), sX0_allGrams_4 N n l1 l3 S = some r → gh_T d fX0_allGrams 0 0 none false false (4, [(0, .ref 1), (1, .long l1), (3, .int l3)], [], (gh_mo S, 0, 0)) (some (.long r.1), (gh_mo r.2, 0, 0)) := by
  intro n
  induction n with
  | zero =>
    intro l1 l3 S r h
    cases h
  | succ n ih =>
    intro l1 l3 S r h
    rw [sX0_allGrams_4] at h
    refine gh_T_steps 2 (τ := (7, [(0, .ref 1), (1, .long l1), (3, .int l3)], [.int 8, .int l3], (gh_mo S, 0, 0))) (fun _ => rfl) ?_
    cases c2 : gh_cmp .ge l3 8 with
    | true =>
      rw [c2] at h
      refine gh_T_ic true rfl c2 ?_
      refine gh_T_steps 1 (τ := (26, [(0, .ref 1), (1, .long l1), (3, .int l3)], [.long l1], (gh_mo S, 0, 0))) (fun _ => rfl) ?_
      cases h
      exact gh_T_ret (fun _ => rfl)
    | false =>
      rw [c2] at h
      refine gh_T_ic false rfl c2 ?_
      refine gh_T_steps 4 (τ := (16, [(0, .ref 1), (1, .long l1), (3, .int l3)], [.int l3, .ref 5, .long l1], (gh_mo S, 0, 0))) (fun _ => rfl) ?_
      obtain ⟨x1, hx1, h⟩ := gh_bi h
      refine gh_T_rj rfl rfl hx1 ?_
      refine gh_T_steps 4 (τ := (4, [(3, .int (l3 + 1)), (1, .long (l1 + x1)), (0, .ref 1)], [], (gh_mo S, 0, 0))) (fun _ => rfl) ?_
      refine gh_T_weak (lv := [(0, .ref 1), (1, .long (l1 + x1)), (3, .int (l3 + 1))]) ⟨rfl, rfl, rfl, trivial⟩ ?_
      exact ih (l1 + x1) (l3 + 1) S _ h
def sX0_allGrams (N : Nat) (S : gh_St) : Option (Int64 × gh_St) :=
  sX0_allGrams_4 N N 0 0 S
set_option maxRecDepth 100000 in
theorem kX0_allGrams_0 (d N : Nat) (S : gh_St) (r : Int64 × gh_St) (h : sX0_allGrams N S = some r) : gh_T d fX0_allGrams 0 0 none false false (0, [(0, .ref 1)], [], (gh_mo S, 0, 0)) (some (.long r.1), (gh_mo r.2, 0, 0)) := by
  unfold sX0_allGrams at h
  refine gh_T_steps 4 (τ := (4, [(3, .int 0), (1, .long 0), (0, .ref 1)], [], (gh_mo S, 0, 0))) (fun _ => rfl) ?_
  refine gh_T_weak (lv := [(0, .ref 1), (1, .long 0), (3, .int 0)]) ⟨rfl, rfl, rfl, trivial⟩ ?_
  exact kX0_allGrams_4 d N N 0 0 S _ h
theorem kX0_allGrams (d N : Nat) (S : gh_St) (r : Int64 × gh_St) (h : sX0_allGrams N S = some r) : gh_Mx (d + 1) 8 [.ref 1] (gh_mo S) (some (.long r.1)) (gh_mo r.2) :=
  gh_Mx_of rfl rfl rfl rfl rfl rfl (kX0_allGrams_0 d N S r h)
def sX9_within (N : Nat) (a0 : Int32) (a1 : Int32) (a2 : Int32) (S : gh_St) : Option (Int32 × gh_St) :=
  bif gh_cmp .lt a0 a1 then
    (some (0, S))
  else
    (bif gh_cmp .gt a0 a2 then
      (some (0, S))
    else
      (some (1, S)))
set_option maxRecDepth 100000 in
theorem kX9_within_0 (d N : Nat) (a0 : Int32) (a1 : Int32) (a2 : Int32) (S : gh_St) (r : Int32 × gh_St) (h : sX9_within N a0 a1 a2 S = some r) : gh_T d fX9_within 0 0 none true false (0, [(0, .int a0), (1, .int a1), (2, .int a2)], [], (gh_mo S, 0, 0)) (some (.int r.1), (gh_mo r.2, 0, 0)) := by
  unfold sX9_within at h
  refine gh_T_steps 2 (τ := (2, [(0, .int a0), (1, .int a1), (2, .int a2)], [.int a1, .int a0], (gh_mo S, 0, 0))) (fun _ => rfl) ?_
  cases c2 : gh_cmp .lt a0 a1 with
  | true =>
    rw [c2] at h
    refine gh_T_ic true rfl c2 ?_
    refine gh_T_steps 1 (τ := (15, [(0, .int a0), (1, .int a1), (2, .int a2)], [.int 0], (gh_mo S, 0, 0))) (fun _ => rfl) ?_
    cases h
    exact gh_T_ret (fun _ => rfl)
  | false =>
    rw [c2] at h
    refine gh_T_ic false rfl c2 ?_
    refine gh_T_steps 2 (τ := (7, [(0, .int a0), (1, .int a1), (2, .int a2)], [.int a2, .int a0], (gh_mo S, 0, 0))) (fun _ => rfl) ?_
    cases c1 : gh_cmp .gt a0 a2 with
    | true =>
      rw [c1] at h
      refine gh_T_ic true rfl c1 ?_
      refine gh_T_steps 1 (τ := (15, [(0, .int a0), (1, .int a1), (2, .int a2)], [.int 0], (gh_mo S, 0, 0))) (fun _ => rfl) ?_
      cases h
      exact gh_T_ret (fun _ => rfl)
    | false =>
      rw [c1] at h
      refine gh_T_ic false rfl c1 ?_
      refine gh_T_steps 2 (τ := (15, [(0, .int a0), (1, .int a1), (2, .int a2)], [.int 1], (gh_mo S, 0, 0))) (fun _ => rfl) ?_
      cases h
      exact gh_T_ret (fun _ => rfl)
theorem kX9_within (d N : Nat) (a0 : Int32) (a1 : Int32) (a2 : Int32) (S : gh_St) (r : Int32 × gh_St) (h : sX9_within N a0 a1 a2 S = some r) : gh_Mx (d + 1) 108 [.int a0, .int a1, .int a2] (gh_mo S) (some (.int r.1)) (gh_mo r.2) :=
  gh_Mx_of rfl rfl rfl rfl rfl rfl (kX9_within_0 d N a0 a1 a2 S r h)
def sX9_isBin (N : Nat) (a0 : Int32) (S : gh_St) : Option (Int32 × gh_St) :=
  (sX9_within N a0 0 7 S).bind fun q1 =>
  (gh_gB q1.1).bind fun x2 => some (x2, q1.2)
set_option maxRecDepth 100000 in
theorem kX9_isBin_0 (d N : Nat) (a0 : Int32) (S : gh_St) (r : Int32 × gh_St) (h : sX9_isBin N a0 S = some r) : gh_T (d + 1) fX9_isBin 0 0 none true false (0, [(0, .int a0)], [], (gh_mo S, 0, 0)) (some (.int r.1), (gh_mo r.2, 0, 0)) := by
  unfold sX9_isBin at h
  refine gh_T_steps 3 (τ := (4, [(0, .int a0)], [.int 7, .int 0, .int a0], (gh_mo S, 0, 0))) (fun _ => rfl) ?_
  obtain ⟨q1, hq1, h⟩ := gh_bi h
  refine gh_T_is (As := [.int a0, .int 0, .int 7]) (rest := []) (y := some (.int q1.1)) (M' := gh_mo q1.2) rfl rfl rfl rfl rfl rfl rfl ⟨Nat.le_refl _, Nat.le_refl _⟩ (kX9_within d N a0 0 7 S q1 hq1) ?_
  obtain ⟨x2, hx2, h⟩ := gh_bi h
  obtain ⟨hz, rfl⟩ := gh_bs hx2
  cases h
  exact gh_T_rz rfl hz
theorem kX9_isBin (d N : Nat) (a0 : Int32) (S : gh_St) (r : Int32 × gh_St) (h : sX9_isBin N a0 S = some r) : gh_Mx (d + 2) 109 [.int a0] (gh_mo S) (some (.int r.1)) (gh_mo r.2) :=
  gh_Mx_of rfl rfl rfl rfl rfl rfl (kX9_isBin_0 d N a0 S r h)
def sX0_canTake (N : Nat) (a1 : Int32) (a2 : Int32) (S : gh_St) : Option (Int32 × gh_St) :=
  (sX9_isBin N a1 S).bind fun q1 =>
  bif gh_cmp .eq q1.1 0 then
    (some (0, q1.2))
  else
    ((gh_ra q1.2 3 8 a1).bind fun x2 =>
    (sX9_within N a2 1 x2 q1.2).bind fun q3 =>
    bif gh_cmp .eq q3.1 0 then
      (some (0, q3.2))
    else
      (some (1, q3.2)))
set_option maxRecDepth 100000 in
theorem kX0_canTake_0 (d N : Nat) (a1 : Int32) (a2 : Int32) (S : gh_St) (r : Int32 × gh_St) (h : sX0_canTake N a1 a2 S = some r) : gh_T (d + 2) fX0_canTake 0 0 none true false (0, [(0, .ref 1), (1, .int a1), (2, .int a2)], [], (gh_mo S, 0, 0)) (some (.int r.1), (gh_mo r.2, 0, 0)) := by
  unfold sX0_canTake at h
  refine gh_T_steps 1 (τ := (1, [(0, .ref 1), (1, .int a1), (2, .int a2)], [.int a1], (gh_mo S, 0, 0))) (fun _ => rfl) ?_
  obtain ⟨q1, hq1, h⟩ := gh_bi h
  refine gh_T_is (As := [.int a1]) (rest := []) (y := some (.int q1.1)) (M' := gh_mo q1.2) rfl rfl rfl rfl rfl rfl rfl ⟨Nat.le_refl _, Nat.le_refl _⟩ (kX9_isBin d N a1 S q1 hq1) ?_
  cases c5 : gh_cmp .eq q1.1 0 with
  | true =>
    rw [c5] at h
    refine gh_T_if true rfl c5 ?_
    refine gh_T_steps 1 (τ := (26, [(0, .ref 1), (1, .int a1), (2, .int a2)], [.int 0], (gh_mo q1.2, 0, 0))) (fun _ => rfl) ?_
    cases h
    exact gh_T_ret (fun _ => rfl)
  | false =>
    rw [c5] at h
    refine gh_T_if false rfl c5 ?_
    refine gh_T_steps 5 (τ := (14, [(0, .ref 1), (1, .int a1), (2, .int a2)], [.int a1, .ref 3, .int 1, .int a2], (gh_mo q1.2, 0, 0))) (fun _ => rfl) ?_
    obtain ⟨x2, hx2, h⟩ := gh_bi h
    refine gh_T_ra rfl rfl hx2 ?_
    obtain ⟨q3, hq3, h⟩ := gh_bi h
    refine gh_T_is (As := [.int a2, .int 1, .int x2]) (rest := []) (y := some (.int q3.1)) (M' := gh_mo q3.2) rfl rfl rfl rfl rfl rfl rfl ⟨Nat.le_refl _, Nat.le_refl _⟩ (kX9_within (d + 1) N a2 1 x2 q1.2 q3 hq3) ?_
    cases c4 : gh_cmp .eq q3.1 0 with
    | true =>
      rw [c4] at h
      refine gh_T_if true rfl c4 ?_
      refine gh_T_steps 1 (τ := (26, [(0, .ref 1), (1, .int a1), (2, .int a2)], [.int 0], (gh_mo q3.2, 0, 0))) (fun _ => rfl) ?_
      cases h
      exact gh_T_ret (fun _ => rfl)
    | false =>
      rw [c4] at h
      refine gh_T_if false rfl c4 ?_
      refine gh_T_steps 2 (τ := (26, [(0, .ref 1), (1, .int a1), (2, .int a2)], [.int 1], (gh_mo q3.2, 0, 0))) (fun _ => rfl) ?_
      cases h
      exact gh_T_ret (fun _ => rfl)
theorem kX0_canTake (d N : Nat) (a1 : Int32) (a2 : Int32) (S : gh_St) (r : Int32 × gh_St) (h : sX0_canTake N a1 a2 S = some r) : gh_Mx (d + 3) 2 [.ref 1, .int a1, .int a2] (gh_mo S) (some (.int r.1)) (gh_mo r.2) :=
  gh_Mx_of rfl rfl rfl rfl rfl rfl (kX0_canTake_0 d N a1 a2 S r h)
def sX0_canPut_28 (N : Nat) (l1 : Int32) (l3 : Int32) (S : gh_St) : Option (Int32 × gh_St) :=
  (gh_ra S 4 8 l1).bind fun x1 =>
  (gh_ra S 3 8 l1).bind fun x2 =>
  bif gh_cmp .gt l3 (x1 - x2) then
    (some (0, S))
  else
    (some (1, S))
set_option maxRecDepth 100000 in
theorem kX0_canPut_28 (d N : Nat) (l1 : Int32) (l3 : Int32) (S : gh_St) (r : Int32 × gh_St) (h : sX0_canPut_28 N l1 l3 S = some r) : gh_T (d + 2) fX0_canPut 0 0 none true false (28, [(0, .ref 1), (1, .int l1), (3, .int l3)], [], (gh_mo S, 0, 0)) (some (.int r.1), (gh_mo r.2, 0, 0)) := by
  unfold sX0_canPut_28 at h
  refine gh_T_steps 4 (τ := (34, [(0, .ref 1), (1, .int l1), (3, .int l3)], [.int l1, .ref 4, .int l3], (gh_mo S, 0, 0))) (fun _ => rfl) ?_
  obtain ⟨x1, hx1, h⟩ := gh_bi h
  refine gh_T_ra rfl rfl hx1 ?_
  refine gh_T_steps 3 (τ := (40, [(0, .ref 1), (1, .int l1), (3, .int l3)], [.int l1, .ref 3, .int x1, .int l3], (gh_mo S, 0, 0))) (fun _ => rfl) ?_
  obtain ⟨x2, hx2, h⟩ := gh_bi h
  refine gh_T_ra rfl rfl hx2 ?_
  refine gh_T_steps 1 (τ := (42, [(0, .ref 1), (1, .int l1), (3, .int l3)], [.int (x1 - x2), .int l3], (gh_mo S, 0, 0))) (fun _ => rfl) ?_
  cases c3 : gh_cmp .gt l3 (x1 - x2) with
  | true =>
    rw [c3] at h
    refine gh_T_ic true rfl c3 ?_
    refine gh_T_steps 1 (τ := (50, [(0, .ref 1), (1, .int l1), (3, .int l3)], [.int 0], (gh_mo S, 0, 0))) (fun _ => rfl) ?_
    cases h
    exact gh_T_ret (fun _ => rfl)
  | false =>
    rw [c3] at h
    refine gh_T_ic false rfl c3 ?_
    refine gh_T_steps 2 (τ := (50, [(0, .ref 1), (1, .int l1), (3, .int l3)], [.int 1], (gh_mo S, 0, 0))) (fun _ => rfl) ?_
    cases h
    exact gh_T_ret (fun _ => rfl)
def sX0_canPut (N : Nat) (a1 : Int32) (a2 : Int32) (a3 : Int32) (S : gh_St) : Option (Int32 × gh_St) :=
  (sX9_isBin N a1 S).bind fun q1 =>
  bif gh_cmp .ne q1.1 0 then
    ((gh_ra q1.2 3 8 a1).bind fun x2 =>
    bif gh_cmp .eq x2 0 then
      (sX0_canPut_28 N a1 a3 q1.2)
    else
      ((gh_ra q1.2 2 8 a1).bind fun x3 =>
      bif gh_cmp .ne x3 a2 then
        (some (0, q1.2))
      else
        (sX0_canPut_28 N a1 a3 q1.2)))
  else
    (some (0, q1.2))
set_option maxRecDepth 100000 in
theorem kX0_canPut_0 (d N : Nat) (a1 : Int32) (a2 : Int32) (a3 : Int32) (S : gh_St) (r : Int32 × gh_St) (h : sX0_canPut N a1 a2 a3 S = some r) : gh_T (d + 2) fX0_canPut 0 0 none true false (0, [(0, .ref 1), (1, .int a1), (2, .int a2), (3, .int a3)], [], (gh_mo S, 0, 0)) (some (.int r.1), (gh_mo r.2, 0, 0)) := by
  unfold sX0_canPut at h
  refine gh_T_steps 1 (τ := (1, [(0, .ref 1), (1, .int a1), (2, .int a2), (3, .int a3)], [.int a1], (gh_mo S, 0, 0))) (fun _ => rfl) ?_
  obtain ⟨q1, hq1, h⟩ := gh_bi h
  refine gh_T_is (As := [.int a1]) (rest := []) (y := some (.int q1.1)) (M' := gh_mo q1.2) rfl rfl rfl rfl rfl rfl rfl ⟨Nat.le_refl _, Nat.le_refl _⟩ (kX9_isBin d N a1 S q1 hq1) ?_
  cases c6 : gh_cmp .ne q1.1 0 with
  | true =>
    rw [c6] at h
    refine gh_T_if true rfl c6 ?_
    refine gh_T_steps 3 (τ := (14, [(0, .ref 1), (1, .int a1), (2, .int a2), (3, .int a3)], [.int a1, .ref 3], (gh_mo q1.2, 0, 0))) (fun _ => rfl) ?_
    obtain ⟨x2, hx2, h⟩ := gh_bi h
    refine gh_T_ra rfl rfl hx2 ?_
    cases c5 : gh_cmp .eq x2 0 with
    | true =>
      rw [c5] at h
      refine gh_T_if true rfl c5 ?_
      refine gh_T_weak (lv := [(0, .ref 1), (1, .int a1), (3, .int a3)]) ⟨rfl, rfl, rfl, trivial⟩ ?_
      exact kX0_canPut_28 d N a1 a3 q1.2 _ h
    | false =>
      rw [c5] at h
      refine gh_T_if false rfl c5 ?_
      refine gh_T_steps 3 (τ := (23, [(0, .ref 1), (1, .int a1), (2, .int a2), (3, .int a3)], [.int a1, .ref 2], (gh_mo q1.2, 0, 0))) (fun _ => rfl) ?_
      obtain ⟨x3, hx3, h⟩ := gh_bi h
      refine gh_T_ra rfl rfl hx3 ?_
      refine gh_T_steps 1 (τ := (25, [(0, .ref 1), (1, .int a1), (2, .int a2), (3, .int a3)], [.int a2, .int x3], (gh_mo q1.2, 0, 0))) (fun _ => rfl) ?_
      cases c4 : gh_cmp .ne x3 a2 with
      | true =>
        rw [c4] at h
        refine gh_T_ic true rfl c4 ?_
        refine gh_T_steps 1 (τ := (50, [(0, .ref 1), (1, .int a1), (2, .int a2), (3, .int a3)], [.int 0], (gh_mo q1.2, 0, 0))) (fun _ => rfl) ?_
        cases h
        exact gh_T_ret (fun _ => rfl)
      | false =>
        rw [c4] at h
        refine gh_T_ic false rfl c4 ?_
        refine gh_T_weak (lv := [(0, .ref 1), (1, .int a1), (3, .int a3)]) ⟨rfl, rfl, rfl, trivial⟩ ?_
        exact kX0_canPut_28 d N a1 a3 q1.2 _ h
  | false =>
    rw [c6] at h
    refine gh_T_if false rfl c6 ?_
    refine gh_T_steps 1 (τ := (8, [(0, .ref 1), (1, .int a1), (2, .int a2), (3, .int a3)], [.int 0], (gh_mo q1.2, 0, 0))) (fun _ => rfl) ?_
    cases h
    exact gh_T_ret (fun _ => rfl)
theorem kX0_canPut (d N : Nat) (a1 : Int32) (a2 : Int32) (a3 : Int32) (S : gh_St) (r : Int32 × gh_St) (h : sX0_canPut N a1 a2 a3 S = some r) : gh_Mx (d + 3) 3 [.ref 1, .int a1, .int a2, .int a3] (gh_mo S) (some (.int r.1)) (gh_mo r.2) :=
  gh_Mx_of rfl rfl rfl rfl rfl rfl (kX0_canPut_0 d N a1 a2 a3 S r h)

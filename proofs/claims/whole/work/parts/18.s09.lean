def sX2_cheapest_32 (N : Nat) (kc4 : Int32 → Int32 → gh_St → Option (Int32 × gh_St)) (l1 : Int32) (l2 : Int32) (S : gh_St) : Option (Int32 × gh_St) :=
  kc4 l1 (l2 + 1) S
set_option maxRecDepth 100000 in
theorem kX2_cheapest_32 (d N : Nat) (kc4 : Int32 → Int32 → gh_St → Option (Int32 × gh_St)) (hkc4 : ∀ (l1 : Int32) (l2 : Int32) (S : gh_St) (r : Int32 × gh_St), kc4 l1 l2 S = some r → gh_T (d + 4) fX2_cheapest 0 0 none true false (4, [(0, .ref 26), (1, .int l1), (2, .int l2)], [], (gh_mo S, 0, 0)) (some (.int r.1), (gh_mo r.2, 0, 0))) (l1 : Int32) (l2 : Int32) (S : gh_St) (r : Int32 × gh_St) (h : sX2_cheapest_32 N kc4 l1 l2 S = some r) : gh_T (d + 4) fX2_cheapest 0 0 none true false (32, [(0, .ref 26), (1, .int l1), (2, .int l2)], [], (gh_mo S, 0, 0)) (some (.int r.1), (gh_mo r.2, 0, 0)) := by
  unfold sX2_cheapest_32 at h
  refine gh_T_steps 2 (τ := (4, [(2, .int (l2 + 1)), (0, .ref 26), (1, .int l1)], [], (gh_mo S, 0, 0))) (fun _ => rfl) ?_
  refine gh_T_weak (lv := [(0, .ref 26), (1, .int l1), (2, .int (l2 + 1))]) ⟨rfl, rfl, rfl, trivial⟩ ?_
  exact hkc4 l1 (l2 + 1) S _ h
def sX2_cheapest_87 (N : Nat) (kc79 : Int32 → gh_St → Option (Int32 × gh_St)) : Nat → Int32 → Int32 → gh_St → Option (Int32 × gh_St)
  | 0, _, _, _ => none
  | n + 1, l2, l3, S =>
    (gh_ra S 29 8 l2).bind fun x1 =>
    bif gh_cmp .ge l3 x1 then
      (kc79 (l2 + 1) S)
    else
      ((sX2_addHour N l2 S).bind fun q2 =>
      bif gh_cmp .ne q2.1 0 then
        ((sX2_cheapest_87 N kc79 n) l2 (l3 + 1) q2.2)
      else
        (some (0, q2.2)))
set_option maxRecDepth 100000 in
theorem kX2_cheapest_87 (d N : Nat) (kc79 : Int32 → gh_St → Option (Int32 × gh_St)) (hkc79 : ∀ (l2 : Int32) (S : gh_St) (r : Int32 × gh_St), kc79 l2 S = some r → gh_T (d + 4) fX2_cheapest 0 0 none true false (79, [(0, .ref 26), (2, .int l2)], [], (gh_mo S, 0, 0)) (some (.int r.1), (gh_mo r.2, 0, 0))) : ∀ (n : Nat) (l2 : Int32) (l3 : Int32) (S : gh_St) (r : Int32 × gh_St), sX2_cheapest_87 N kc79 n l2 l3 S = some r → gh_T (d + 4) fX2_cheapest 0 0 none true false (87, [(0, .ref 26), (2, .int l2), (3, .int l3)], [], (gh_mo S, 0, 0)) (some (.int r.1), (gh_mo r.2, 0, 0)) := by
  intro n
  induction n with
  | zero =>
    intro l2 l3 S r h
    cases h
  | succ n ih =>
    intro l2 l3 S r h
    rw [sX2_cheapest_87] at h
    refine gh_T_steps 4 (τ := (93, [(0, .ref 26), (2, .int l2), (3, .int l3)], [.int l2, .ref 29, .int l3], (gh_mo S, 0, 0))) (fun _ => rfl) ?_
    obtain ⟨x1, hx1, h⟩ := gh_bi h
    refine gh_T_ra rfl rfl hx1 ?_
    cases c4 : gh_cmp .ge l3 x1 with
    | true =>
      rw [c4, cond_true] at h
      refine gh_T_ic true rfl c4 ?_
      refine gh_T_steps 2 (τ := (79, [(2, .int (l2 + 1)), (0, .ref 26), (3, .int l3)], [], (gh_mo S, 0, 0))) (fun _ => rfl) ?_
      refine gh_T_weak (lv := [(0, .ref 26), (2, .int (l2 + 1))]) ⟨rfl, rfl, trivial⟩ ?_
      exact hkc79 (l2 + 1) S _ h
    | false =>
      rw [c4, cond_false] at h
      refine gh_T_ic false rfl c4 ?_
      refine gh_T_steps 2 (τ := (99, [(0, .ref 26), (2, .int l2), (3, .int l3)], [.int l2, .ref 26], (gh_mo S, 0, 0))) (fun _ => rfl) ?_
      obtain ⟨q2, hq2, h⟩ := gh_bi h
      refine gh_T_iv (As := [.int l2]) (b := 26) (rest := []) (y := some (.int q2.1)) (M' := gh_mo q2.2) rfl rfl rfl rfl rfl rfl rfl rfl rfl ⟨Nat.le_refl _, Nat.le_refl _⟩ (kX2_addHour d N l2 S q2 hq2) ?_
      cases c3 : gh_cmp .ne q2.1 0 with
      | true =>
        rw [c3, cond_true] at h
        refine gh_T_if true rfl c3 ?_
        refine gh_T_steps 2 (τ := (87, [(3, .int (l3 + 1)), (0, .ref 26), (2, .int l2)], [], (gh_mo q2.2, 0, 0))) (fun _ => rfl) ?_
        refine gh_T_weak (lv := [(0, .ref 26), (2, .int l2), (3, .int (l3 + 1))]) ⟨rfl, rfl, rfl, trivial⟩ ?_
        exact ih l2 (l3 + 1) q2.2 _ h
      | false =>
        rw [c3, cond_false] at h
        refine gh_T_if false rfl c3 ?_
        refine gh_T_steps 1 (τ := (106, [(0, .ref 26), (2, .int l2), (3, .int l3)], [.int 0], (gh_mo q2.2, 0, 0))) (fun _ => rfl) ?_
        cases h
        exact gh_T_ret (fun _ => rfl)
def sX2_cheapest_79 (N : Nat) : Nat → Int32 → gh_St → Option (Int32 × gh_St)
  | 0, _, _ => none
  | n + 1, l2, S =>
    bif gh_cmp .ge l2 8 then
      (some (1, S))
    else
      (sX2_cheapest_87 N (sX2_cheapest_79 N n) N l2 0 S)
set_option maxRecDepth 100000 in
theorem kX2_cheapest_79 (d N : Nat) : ∀ (n : Nat) (l2 : Int32) (S : gh_St) (r : Int32 × gh_St), sX2_cheapest_79 N n l2 S = some r → gh_T (d + 4) fX2_cheapest 0 0 none true false (79, [(0, .ref 26), (2, .int l2)], [], (gh_mo S, 0, 0)) (some (.int r.1), (gh_mo r.2, 0, 0)) := by
  intro n
  induction n with
  | zero =>
    intro l2 S r h
    cases h
  | succ n ih =>
    intro l2 S r h
    rw [sX2_cheapest_79] at h
    refine gh_T_steps 2 (τ := (82, [(0, .ref 26), (2, .int l2)], [.int 8, .int l2], (gh_mo S, 0, 0))) (fun _ => rfl) ?_
    cases c1 : gh_cmp .ge l2 8 with
    | true =>
      rw [c1, cond_true] at h
      refine gh_T_ic true rfl c1 ?_
      refine gh_T_steps 1 (τ := (120, [(0, .ref 26), (2, .int l2)], [.int 1], (gh_mo S, 0, 0))) (fun _ => rfl) ?_
      cases h
      exact gh_T_ret (fun _ => rfl)
    | false =>
      rw [c1, cond_false] at h
      refine gh_T_ic false rfl c1 ?_
      refine gh_T_steps 2 (τ := (87, [(3, .int 0), (0, .ref 26), (2, .int l2)], [], (gh_mo S, 0, 0))) (fun _ => rfl) ?_
      refine gh_T_weak (lv := [(0, .ref 26), (2, .int l2), (3, .int 0)]) ⟨rfl, rfl, rfl, trivial⟩ ?_
      exact kX2_cheapest_87 d N (sX2_cheapest_79 N n) ih N l2 0 S _ h
def sX2_cheapest_40 (N : Nat) : Nat → Int32 → Int32 → gh_St → Option (Int32 × gh_St)
  | 0, _, _, _ => none
  | n + 1, l1, l2, S =>
    bif gh_cmp .ge l2 8 then
      (sX2_cheapest_79 N N 0 S)
    else
      ((gh_wa S 36 8 l2 0).bind fun S1 =>
      (gh_ra S1 30 8 l2).bind fun x2 =>
      (gh_wa S1 31 8 l2 (l1 &&& (((1 : Int32) <<< (x2 &&& 31)) - (1 : Int32)))).bind fun S3 =>
      (sX2_cheapest_40 N n) l1 (l2 + 1) S3)
set_option maxRecDepth 100000 in
theorem kX2_cheapest_40 (d N : Nat) : ∀ (n : Nat) (l1 : Int32) (l2 : Int32) (S : gh_St) (r : Int32 × gh_St), sX2_cheapest_40 N n l1 l2 S = some r → gh_T (d + 4) fX2_cheapest 0 0 none true false (40, [(0, .ref 26), (1, .int l1), (2, .int l2)], [], (gh_mo S, 0, 0)) (some (.int r.1), (gh_mo r.2, 0, 0)) := by
  intro n
  induction n with
  | zero =>
    intro l1 l2 S r h
    cases h
  | succ n ih =>
    intro l1 l2 S r h
    rw [sX2_cheapest_40] at h
    refine gh_T_steps 2 (τ := (43, [(0, .ref 26), (1, .int l1), (2, .int l2)], [.int 8, .int l2], (gh_mo S, 0, 0))) (fun _ => rfl) ?_
    cases c4 : gh_cmp .ge l2 8 with
    | true =>
      rw [c4, cond_true] at h
      refine gh_T_ic true rfl c4 ?_
      refine gh_T_steps 2 (τ := (79, [(2, .int 0), (0, .ref 26), (1, .int l1)], [], (gh_mo S, 0, 0))) (fun _ => rfl) ?_
      refine gh_T_weak (lv := [(0, .ref 26), (2, .int 0)]) ⟨rfl, rfl, trivial⟩ ?_
      exact kX2_cheapest_79 d N N 0 S _ h
    | false =>
      rw [c4, cond_false] at h
      refine gh_T_ic false rfl c4 ?_
      refine gh_T_steps 4 (τ := (52, [(0, .ref 26), (1, .int l1), (2, .int l2)], [.int 0, .int l2, .ref 36], (gh_mo S, 0, 0))) (fun _ => rfl) ?_
      obtain ⟨S1, hS1, h⟩ := gh_bi h
      refine gh_T_wa rfl rfl hS1 ?_
      refine gh_T_steps 8 (τ := (65, [(0, .ref 26), (1, .int l1), (2, .int l2)], [.int l2, .ref 30, .int 1, .int l1, .int l2, .ref 31], (gh_mo S1, 0, 0))) (fun _ => rfl) ?_
      obtain ⟨x2, hx2, h⟩ := gh_bi h
      refine gh_T_ra rfl rfl hx2 ?_
      refine gh_T_steps 4 (τ := (70, [(0, .ref 26), (1, .int l1), (2, .int l2)], [.int (l1 &&& (((1 : Int32) <<< (x2 &&& 31)) - (1 : Int32))), .int l2, .ref 31], (gh_mo S1, 0, 0))) (fun _ => rfl) ?_
      obtain ⟨S3, hS3, h⟩ := gh_bi h
      refine gh_T_wa rfl rfl hS3 ?_
      refine gh_T_steps 2 (τ := (40, [(2, .int (l2 + 1)), (0, .ref 26), (1, .int l1)], [], (gh_mo S3, 0, 0))) (fun _ => rfl) ?_
      refine gh_T_weak (lv := [(0, .ref 26), (1, .int l1), (2, .int (l2 + 1))]) ⟨rfl, rfl, rfl, trivial⟩ ?_
      exact ih l1 (l2 + 1) S3 _ h
def sX2_cheapest_4 (N : Nat) : Nat → Int32 → Int32 → gh_St → Option (Int32 × gh_St)
  | 0, _, _, _ => none
  | n + 1, l1, l2, S =>
    bif gh_cmp .ge l2 12 then
      (sX2_cheapest_40 N N l1 0 S)
    else
      ((gh_wa S 32 12 l2 0).bind fun S1 =>
      (gh_ra S1 27 12 l2).bind fun x2 =>
      bif gh_cmp .eq x2 0 then
        (sX2_cheapest_32 N (sX2_cheapest_4 N n) l1 l2 S1)
      else
        (sX2_cheapest_32 N (sX2_cheapest_4 N n) (l1 ||| ((1 : Int32) <<< (l2 &&& 31))) l2 S1))
set_option maxRecDepth 100000 in
theorem kX2_cheapest_4 (d N : Nat) : ∀ (n : Nat) (l1 : Int32) (l2 : Int32) (S : gh_St) (r : Int32 × gh_St), sX2_cheapest_4 N n l1 l2 S = some r → gh_T (d + 4) fX2_cheapest 0 0 none true false (4, [(0, .ref 26), (1, .int l1), (2, .int l2)], [], (gh_mo S, 0, 0)) (some (.int r.1), (gh_mo r.2, 0, 0)) := by
  intro n
  induction n with
  | zero =>
    intro l1 l2 S r h
    cases h
  | succ n ih =>
    intro l1 l2 S r h
    rw [sX2_cheapest_4] at h
    refine gh_T_steps 2 (τ := (7, [(0, .ref 26), (1, .int l1), (2, .int l2)], [.int 12, .int l2], (gh_mo S, 0, 0))) (fun _ => rfl) ?_
    cases c4 : gh_cmp .ge l2 12 with
    | true =>
      rw [c4, cond_true] at h
      refine gh_T_ic true rfl c4 ?_
      refine gh_T_steps 2 (τ := (40, [(2, .int 0), (0, .ref 26), (1, .int l1)], [], (gh_mo S, 0, 0))) (fun _ => rfl) ?_
      refine gh_T_weak (lv := [(0, .ref 26), (1, .int l1), (2, .int 0)]) ⟨rfl, rfl, rfl, trivial⟩ ?_
      exact kX2_cheapest_40 d N N l1 0 S _ h
    | false =>
      rw [c4, cond_false] at h
      refine gh_T_ic false rfl c4 ?_
      refine gh_T_steps 4 (τ := (16, [(0, .ref 26), (1, .int l1), (2, .int l2)], [.int 0, .int l2, .ref 32], (gh_mo S, 0, 0))) (fun _ => rfl) ?_
      obtain ⟨S1, hS1, h⟩ := gh_bi h
      refine gh_T_wa rfl rfl hS1 ?_
      refine gh_T_steps 3 (τ := (22, [(0, .ref 26), (1, .int l1), (2, .int l2)], [.int l2, .ref 27], (gh_mo S1, 0, 0))) (fun _ => rfl) ?_
      obtain ⟨x2, hx2, h⟩ := gh_bi h
      refine gh_T_rb rfl (Or.inr rfl) rfl hx2 ?_
      cases c3 : gh_cmp .eq x2 0 with
      | true =>
        rw [c3, cond_true] at h
        refine gh_T_if true rfl c3 ?_
        exact kX2_cheapest_32 d N (sX2_cheapest_4 N n) ih l1 l2 S1 _ h
      | false =>
        rw [c3, cond_false] at h
        refine gh_T_if false rfl c3 ?_
        refine gh_T_steps 6 (τ := (32, [(1, .int (l1 ||| ((1 : Int32) <<< (l2 &&& 31)))), (0, .ref 26), (2, .int l2)], [], (gh_mo S1, 0, 0))) (fun _ => rfl) ?_
        refine gh_T_weak (lv := [(0, .ref 26), (1, .int (l1 ||| ((1 : Int32) <<< (l2 &&& 31)))), (2, .int l2)]) ⟨rfl, rfl, rfl, trivial⟩ ?_
        exact kX2_cheapest_32 d N (sX2_cheapest_4 N n) ih (l1 ||| ((1 : Int32) <<< (l2 &&& 31))) l2 S1 _ h
def sX2_cheapest (N : Nat) (S : gh_St) : Option (Int32 × gh_St) :=
  sX2_cheapest_4 N N 0 0 S
set_option maxRecDepth 100000 in
theorem kX2_cheapest_e (d N : Nat) (S : gh_St) (r : Int32 × gh_St) (h : sX2_cheapest N S = some r) : gh_T (d + 4) fX2_cheapest 0 0 none true false (0, [(0, .ref 26)], [], (gh_mo S, 0, 0)) (some (.int r.1), (gh_mo r.2, 0, 0)) := by
  unfold sX2_cheapest at h
  refine gh_T_steps 4 (τ := (4, [(2, .int 0), (1, .int 0), (0, .ref 26)], [], (gh_mo S, 0, 0))) (fun _ => rfl) ?_
  refine gh_T_weak (lv := [(0, .ref 26), (1, .int 0), (2, .int 0)]) ⟨rfl, rfl, rfl, trivial⟩ ?_
  exact kX2_cheapest_4 d N N 0 0 S _ h
theorem kX2_cheapest (d N : Nat) (S : gh_St) (r : Int32 × gh_St) (h : sX2_cheapest N S = some r) : gh_Mx (d + 5) 20 [.ref 26] (gh_mo S) (some (.int r.1)) (gh_mo r.2) :=
  gh_Mx_of rfl rfl rfl rfl rfl rfl (kX2_cheapest_e d N S r h)
def sX6_next_85 (N : Nat) : Nat → gh_St → Option (gh_St)
  | 0, _ => none
  | n + 1, S =>
    bif gh_cmp .ge (S.1 45 3) (S.1 43 1) then
      (some S)
    else
      ((gh_ra S 44 200 (S.1 45 3)).bind fun x1 =>
      (sX6_isLetter N x1 S).bind fun q2 =>
      bif gh_cmp .eq q2.1 0 then
        (some q2.2)
      else
        ((sX6_next_85 N n)  (gh_fI q2.2 45 3 ((q2.2.1 45 3) + (1 : Int32)))))
set_option maxRecDepth 100000 in
theorem kX6_next_85 (d N : Nat) : ∀ (n : Nat) (S : gh_St) (r : gh_St), sX6_next_85 N n S = some r → gh_T (d + 3) fX6_next 0 0 none false false (85, [(0, .ref 45), (1, .ref 43)], [], (gh_mo S, 0, 0)) (none, (gh_mo r, 0, 0)) := by
  intro n
  induction n with
  | zero =>
    intro S r h
    cases h
  | succ n ih =>
    intro S r h
    rw [sX6_next_85] at h
    refine gh_T_steps 4 (τ := (93, [(0, .ref 45), (1, .ref 43)], [.int (S.1 43 1), .int (S.1 45 3)], (gh_mo S, 0, 0))) (fun _ => rfl) ?_
    cases c4 : gh_cmp .ge (S.1 45 3) (S.1 43 1) with
    | true =>
      rw [c4, cond_true] at h
      refine gh_T_ic true rfl c4 ?_
      cases h
      exact gh_T_ret (fun _ => rfl)
    | false =>
      rw [c4, cond_false] at h
      refine gh_T_ic false rfl c4 ?_
      refine gh_T_steps 4 (τ := (104, [(0, .ref 45), (1, .ref 43)], [.int (S.1 45 3), .ref 44], (gh_mo S, 0, 0))) (fun _ => rfl) ?_
      obtain ⟨x1, hx1, h⟩ := gh_bi h
      refine gh_T_ra rfl rfl hx1 ?_
      obtain ⟨q2, hq2, h⟩ := gh_bi h
      refine gh_T_is (As := [.int x1]) (rest := []) (y := some (.int q2.1)) (M' := gh_mo q2.2) rfl rfl rfl rfl rfl rfl rfl ⟨Nat.le_refl _, Nat.le_refl _⟩ (kX6_isLetter (d + 1) N x1 S q2 hq2) ?_
      cases c3 : gh_cmp .eq q2.1 0 with
      | true =>
        rw [c3, cond_true] at h
        refine gh_T_if true rfl c3 ?_
        cases h
        exact gh_T_ret (fun _ => rfl)
      | false =>
        rw [c3, cond_false] at h
        refine gh_T_if false rfl c3 ?_
        refine gh_T_steps 7 (τ := (85, [(0, .ref 45), (1, .ref 43)], [], (gh_mo (gh_fI q2.2 45 3 ((q2.2.1 45 3) + (1 : Int32))), 0, 0))) (fun _ => rfl) ?_
        exact ih  (gh_fI q2.2 45 3 ((q2.2.1 45 3) + (1 : Int32))) _ h
def sX6_next_172 (N : Nat) (t0 : Int32) (S : gh_St) : Option (gh_St) :=
  some (gh_fI (gh_fI S 45 5 t0) 45 3 (((gh_fI S 45 5 t0).1 45 3) + (1 : Int32)))
set_option maxRecDepth 100000 in
theorem kX6_next_172 (d N : Nat) (t0 : Int32) (S : gh_St) (r : gh_St) (h : sX6_next_172 N t0 S = some r) : gh_T (d + 3) fX6_next 0 0 none false false (172, [(0, .ref 45)], [.int t0, .ref 45], (gh_mo S, 0, 0)) (none, (gh_mo r, 0, 0)) := by
  unfold sX6_next_172 at h
  refine gh_T_steps 7 (τ := (185, [(0, .ref 45)], [], (gh_mo (gh_fI (gh_fI S 45 5 t0) 45 3 (((gh_fI S 45 5 t0).1 45 3) + (1 : Int32))), 0, 0))) (fun _ => rfl) ?_
  cases h
  exact gh_T_ret (fun _ => rfl)
def sX6_next_38 (N : Nat) (S : gh_St) : Option (gh_St) :=
  bif gh_cmp .lt ((gh_fI S 45 4 (S.1 45 3)).1 45 3) ((gh_fI S 45 4 (S.1 45 3)).1 43 1) then
    ((gh_ra (gh_fI S 45 4 (S.1 45 3)) 44 200 ((gh_fI S 45 4 (S.1 45 3)).1 45 3)).bind fun x1 =>
    (sX6_isLetter N x1 (gh_fI S 45 4 (S.1 45 3))).bind fun q2 =>
    bif gh_cmp .eq q2.1 0 then
      ((gh_ra q2.2 44 200 (q2.2.1 45 3)).bind fun x3 =>
      (sX6_isDigit N x3 q2.2).bind fun q4 =>
      bif gh_cmp .eq q4.1 0 then
        ((gh_ra q4.2 44 200 (q4.2.1 45 3)).bind fun x5 =>
        bif gh_cmp .ne x5 59 then
          (sX6_next_172 N 1 q4.2)
        else
          (sX6_next_172 N 4 q4.2))
      else
        ((sX6_readNumber N (gh_fI q4.2 45 5 3)).bind fun q7 =>
        some q7))
    else
      (sX6_next_85 N N (gh_fI q2.2 45 5 2)))
  else
    (some (gh_fI (gh_fI S 45 4 (S.1 45 3)) 45 5 0))
set_option maxRecDepth 100000 in
theorem kX6_next_38 (d N : Nat) (S : gh_St) (r : gh_St) (h : sX6_next_38 N S = some r) : gh_T (d + 3) fX6_next 0 0 none false false (38, [(0, .ref 45), (1, .ref 43)], [], (gh_mo S, 0, 0)) (none, (gh_mo r, 0, 0)) := by
  unfold sX6_next_38 at h
  refine gh_T_steps 8 (τ := (54, [(0, .ref 45), (1, .ref 43)], [.int ((gh_fI S 45 4 (S.1 45 3)).1 43 1), .int ((gh_fI S 45 4 (S.1 45 3)).1 45 3)], (gh_mo (gh_fI S 45 4 (S.1 45 3)), 0, 0))) (fun _ => rfl) ?_
  cases c10 : gh_cmp .lt ((gh_fI S 45 4 (S.1 45 3)).1 45 3) ((gh_fI S 45 4 (S.1 45 3)).1 43 1) with
  | true =>
    rw [c10, cond_true] at h
    refine gh_T_ic true rfl c10 ?_
    refine gh_T_steps 4 (τ := (73, [(0, .ref 45), (1, .ref 43)], [.int ((gh_fI S 45 4 (S.1 45 3)).1 45 3), .ref 44], (gh_mo (gh_fI S 45 4 (S.1 45 3)), 0, 0))) (fun _ => rfl) ?_
    obtain ⟨x1, hx1, h⟩ := gh_bi h
    refine gh_T_ra rfl rfl hx1 ?_
    obtain ⟨q2, hq2, h⟩ := gh_bi h
    refine gh_T_is (As := [.int x1]) (rest := []) (y := some (.int q2.1)) (M' := gh_mo q2.2) rfl rfl rfl rfl rfl rfl rfl ⟨Nat.le_refl _, Nat.le_refl _⟩ (kX6_isLetter (d + 1) N x1 (gh_fI S 45 4 (S.1 45 3)) q2 hq2) ?_
    cases c9 : gh_cmp .eq q2.1 0 with
    | true =>
      rw [c9, cond_true] at h
      refine gh_T_if true rfl c9 ?_
      refine gh_T_steps 4 (τ := (132, [(0, .ref 45), (1, .ref 43)], [.int (q2.2.1 45 3), .ref 44], (gh_mo q2.2, 0, 0))) (fun _ => rfl) ?_
      obtain ⟨x3, hx3, h⟩ := gh_bi h
      refine gh_T_ra rfl rfl hx3 ?_
      obtain ⟨q4, hq4, h⟩ := gh_bi h
      refine gh_T_is (As := [.int x3]) (rest := []) (y := some (.int q4.1)) (M' := gh_mo q4.2) rfl rfl rfl rfl rfl rfl rfl ⟨Nat.le_refl _, Nat.le_refl _⟩ (kX6_isDigit (d + 1) N x3 q2.2 q4 hq4) ?_
      cases c8 : gh_cmp .eq q4.1 0 with
      | true =>
        rw [c8, cond_true] at h
        refine gh_T_if true rfl c8 ?_
        refine gh_T_steps 5 (τ := (161, [(0, .ref 45), (1, .ref 43)], [.int (q4.2.1 45 3), .ref 44, .ref 45], (gh_mo q4.2, 0, 0))) (fun _ => rfl) ?_
        obtain ⟨x5, hx5, h⟩ := gh_bi h
        refine gh_T_ra rfl rfl hx5 ?_
        refine gh_T_steps 1 (τ := (164, [(0, .ref 45), (1, .ref 43)], [.int 59, .int x5, .ref 45], (gh_mo q4.2, 0, 0))) (fun _ => rfl) ?_
        cases c6 : gh_cmp .ne x5 59 with
        | true =>
          rw [c6, cond_true] at h
          refine gh_T_ic true rfl c6 ?_
          refine gh_T_steps 1 (τ := (172, [(0, .ref 45), (1, .ref 43)], [.int 1, .ref 45], (gh_mo q4.2, 0, 0))) (fun _ => rfl) ?_
          refine gh_T_weak (lv := [(0, .ref 45)]) ⟨rfl, trivial⟩ ?_
          exact kX6_next_172 d N 1 q4.2 _ h
        | false =>
          rw [c6, cond_false] at h
          refine gh_T_ic false rfl c6 ?_
          refine gh_T_steps 2 (τ := (172, [(0, .ref 45), (1, .ref 43)], [.int 4, .ref 45], (gh_mo q4.2, 0, 0))) (fun _ => rfl) ?_
          refine gh_T_weak (lv := [(0, .ref 45)]) ⟨rfl, trivial⟩ ?_
          exact kX6_next_172 d N 4 q4.2 _ h
      | false =>
        rw [c8, cond_false] at h
        refine gh_T_if false rfl c8 ?_
        refine gh_T_steps 5 (τ := (146, [(0, .ref 45), (1, .ref 43)], [.ref 43, .ref 45], (gh_mo (gh_fI q4.2 45 5 3), 0, 0))) (fun _ => rfl) ?_
        obtain ⟨q7, hq7, h⟩ := gh_bi h
        refine gh_T_iv (As := [.ref 43]) (b := 45) (rest := []) (y := none) (M' := gh_mo q7) rfl rfl rfl rfl rfl rfl rfl rfl rfl ⟨Nat.le_refl _, Nat.le_refl _⟩ (kX6_readNumber d N (gh_fI q4.2 45 5 3) q7 hq7) ?_
        refine gh_T_steps 1 (τ := (185, [(0, .ref 45), (1, .ref 43)], [], (gh_mo q7, 0, 0))) (fun _ => rfl) ?_
        cases h
        exact gh_T_ret (fun _ => rfl)
    | false =>
      rw [c9, cond_false] at h
      refine gh_T_if false rfl c9 ?_
      refine gh_T_steps 3 (τ := (85, [(0, .ref 45), (1, .ref 43)], [], (gh_mo (gh_fI q2.2 45 5 2), 0, 0))) (fun _ => rfl) ?_
      exact kX6_next_85 d N N (gh_fI q2.2 45 5 2) _ h
  | false =>
    rw [c10, cond_false] at h
    refine gh_T_ic false rfl c10 ?_
    refine gh_T_steps 4 (τ := (185, [(0, .ref 45), (1, .ref 43)], [], (gh_mo (gh_fI (gh_fI S 45 4 (S.1 45 3)) 45 5 0), 0, 0))) (fun _ => rfl) ?_
    cases h
    exact gh_T_ret (fun _ => rfl)
def sX6_next_0h (N : Nat) : Nat → gh_St → Option (gh_St)
  | 0, _ => none
  | n + 1, S =>
    bif gh_cmp .ge (S.1 45 3) (S.1 43 1) then
      (sX6_next_38 N S)
    else
      ((gh_ra S 44 200 (S.1 45 3)).bind fun x1 =>
      bif gh_cmp .ne x1 32 then
        (sX6_next_38 N S)
      else
        ((sX6_next_0h N n)  (gh_fI S 45 3 ((S.1 45 3) + (1 : Int32)))))
set_option maxRecDepth 100000 in
theorem kX6_next_0h (d N : Nat) : ∀ (n : Nat) (S : gh_St) (r : gh_St), sX6_next_0h N n S = some r → gh_T (d + 3) fX6_next 0 0 none false false (0, [(0, .ref 45), (1, .ref 43)], [], (gh_mo S, 0, 0)) (none, (gh_mo r, 0, 0)) := by
  intro n
  induction n with
  | zero =>
    intro S r h
    cases h
  | succ n ih =>
    intro S r h
    rw [sX6_next_0h] at h
    refine gh_T_steps 4 (τ := (8, [(0, .ref 45), (1, .ref 43)], [.int (S.1 43 1), .int (S.1 45 3)], (gh_mo S, 0, 0))) (fun _ => rfl) ?_
    cases c3 : gh_cmp .ge (S.1 45 3) (S.1 43 1) with
    | true =>
      rw [c3, cond_true] at h
      refine gh_T_ic true rfl c3 ?_
      exact kX6_next_38 d N S _ h
    | false =>
      rw [c3, cond_false] at h
      refine gh_T_ic false rfl c3 ?_
      refine gh_T_steps 4 (τ := (19, [(0, .ref 45), (1, .ref 43)], [.int (S.1 45 3), .ref 44], (gh_mo S, 0, 0))) (fun _ => rfl) ?_
      obtain ⟨x1, hx1, h⟩ := gh_bi h
      refine gh_T_ra rfl rfl hx1 ?_
      refine gh_T_steps 1 (τ := (22, [(0, .ref 45), (1, .ref 43)], [.int 32, .int x1], (gh_mo S, 0, 0))) (fun _ => rfl) ?_
      cases c2 : gh_cmp .ne x1 32 with
      | true =>
        rw [c2, cond_true] at h
        refine gh_T_ic true rfl c2 ?_
        exact kX6_next_38 d N S _ h
      | false =>
        rw [c2, cond_false] at h
        refine gh_T_ic false rfl c2 ?_
        refine gh_T_steps 7 (τ := (0, [(0, .ref 45), (1, .ref 43)], [], (gh_mo (gh_fI S 45 3 ((S.1 45 3) + (1 : Int32))), 0, 0))) (fun _ => rfl) ?_
        exact ih  (gh_fI S 45 3 ((S.1 45 3) + (1 : Int32))) _ h
def sX6_next (N : Nat) (S : gh_St) : Option (gh_St) :=
  sX6_next_0h N N S
set_option maxRecDepth 100000 in
theorem kX6_next_e (d N : Nat) (S : gh_St) (r : gh_St) (h : sX6_next N S = some r) : gh_T (d + 3) fX6_next 0 0 none false false (0, [(0, .ref 45), (1, .ref 43)], [], (gh_mo S, 0, 0)) (none, (gh_mo r, 0, 0)) := by
  unfold sX6_next at h
  exact kX6_next_0h d N N S _ h
theorem kX6_next (d N : Nat) (S : gh_St) (r : gh_St) (h : sX6_next N S = some r) : gh_Mx (d + 4) 56 [.ref 45, .ref 43] (gh_mo S) none (gh_mo r) :=
  gh_Mx_of rfl rfl rfl rfl rfl rfl (kX6_next_e d N S r h)
def sX2_cost_43 (N : Nat) (S : gh_St) : Option (Int32 × gh_St) :=
  some (S.1 26 13, S)
set_option maxRecDepth 100000 in
theorem kX2_cost_43 (d N : Nat) (S : gh_St) (r : Int32 × gh_St) (h : sX2_cost_43 N S = some r) : gh_T (d + 5) fX2_cost 0 0 none false false (43, [(0, .ref 26)], [], (gh_mo S, 0, 0)) (some (.int r.1), (gh_mo r.2, 0, 0)) := by
  unfold sX2_cost_43 at h
  refine gh_T_steps 2 (τ := (47, [(0, .ref 26)], [.int (S.1 26 13)], (gh_mo S, 0, 0))) (fun _ => rfl) ?_
  cases h
  exact gh_T_ret (fun _ => rfl)
def sX2_cost_38 (N : Nat) (S : gh_St) : Option (Int32 × gh_St) :=
  sX2_cost_43 N (gh_fI S 26 14 1)
set_option maxRecDepth 100000 in
theorem kX2_cost_38 (d N : Nat) (S : gh_St) (r : Int32 × gh_St) (h : sX2_cost_38 N S = some r) : gh_T (d + 5) fX2_cost 0 0 none false false (38, [(0, .ref 26)], [], (gh_mo S, 0, 0)) (some (.int r.1), (gh_mo r.2, 0, 0)) := by
  unfold sX2_cost_38 at h
  refine gh_T_steps 3 (τ := (43, [(0, .ref 26)], [], (gh_mo (gh_fI S 26 14 1), 0, 0))) (fun _ => rfl) ?_
  exact kX2_cost_43 d N (gh_fI S 26 14 1) _ h
def sX2_cost_23 (N : Nat) (t0 : Int32) (S : gh_St) : Option (Int32 × gh_St) :=
  bif gh_cmp .eq ((gh_fI S 26 13 t0).1 26 13) ((-1)) then
    (sX2_cost_38 N (gh_fI S 26 13 t0))
  else
    ((sX2_makeFirst N (gh_fI S 26 13 t0)).bind fun q1 =>
    sX2_cost_38 N q1)
set_option maxRecDepth 100000 in
theorem kX2_cost_23 (d N : Nat) (t0 : Int32) (S : gh_St) (r : Int32 × gh_St) (h : sX2_cost_23 N t0 S = some r) : gh_T (d + 5) fX2_cost 0 0 none false false (23, [(0, .ref 26)], [.int t0, .ref 26], (gh_mo S, 0, 0)) (some (.int r.1), (gh_mo r.2, 0, 0)) := by
  unfold sX2_cost_23 at h
  refine gh_T_steps 4 (τ := (31, [(0, .ref 26)], [.int ((-1)), .int ((gh_fI S 26 13 t0).1 26 13)], (gh_mo (gh_fI S 26 13 t0), 0, 0))) (fun _ => rfl) ?_
  cases c2 : gh_cmp .eq ((gh_fI S 26 13 t0).1 26 13) ((-1)) with
  | true =>
    rw [c2, cond_true] at h
    refine gh_T_ic true rfl c2 ?_
    exact kX2_cost_38 d N (gh_fI S 26 13 t0) _ h
  | false =>
    rw [c2, cond_false] at h
    refine gh_T_ic false rfl c2 ?_
    refine gh_T_steps 1 (τ := (35, [(0, .ref 26)], [.ref 26], (gh_mo (gh_fI S 26 13 t0), 0, 0))) (fun _ => rfl) ?_
    obtain ⟨q1, hq1, h⟩ := gh_bi h
    refine gh_T_iv (As := []) (b := 26) (rest := []) (y := none) (M' := gh_mo q1) rfl rfl rfl rfl rfl rfl rfl rfl rfl ⟨Nat.le_refl _, Nat.le_refl _⟩ (kX2_makeFirst d N (gh_fI S 26 13 t0) q1 hq1) ?_
    exact kX2_cost_38 d N q1 _ h
def sX2_cost (N : Nat) (S : gh_St) : Option (Int32 × gh_St) :=
  bif gh_cmp .ne (S.1 26 14) 0 then
    (sX2_cost_43 N S)
  else
    ((sX2_cheapest N S).bind fun q1 =>
    bif gh_cmp .eq q1.1 0 then
      (sX2_cost_23 N ((-1)) q1.2)
    else
      ((sX2_paid N q1.2).bind fun q2 =>
      sX2_cost_23 N q2.1 q2.2))
set_option maxRecDepth 100000 in
theorem kX2_cost_e (d N : Nat) (S : gh_St) (r : Int32 × gh_St) (h : sX2_cost N S = some r) : gh_T (d + 5) fX2_cost 0 0 none false false (0, [(0, .ref 26)], [], (gh_mo S, 0, 0)) (some (.int r.1), (gh_mo r.2, 0, 0)) := by
  unfold sX2_cost at h
  refine gh_T_steps 2 (τ := (4, [(0, .ref 26)], [.int (S.1 26 14)], (gh_mo S, 0, 0))) (fun _ => rfl) ?_
  cases c4 : gh_cmp .ne (S.1 26 14) 0 with
  | true =>
    rw [c4, cond_true] at h
    refine gh_T_if true rfl c4 ?_
    exact kX2_cost_43 d N S _ h
  | false =>
    rw [c4, cond_false] at h
    refine gh_T_if false rfl c4 ?_
    refine gh_T_steps 2 (τ := (9, [(0, .ref 26)], [.ref 26, .ref 26], (gh_mo S, 0, 0))) (fun _ => rfl) ?_
    obtain ⟨q1, hq1, h⟩ := gh_bi h
    refine gh_T_iv (As := []) (b := 26) (rest := [.ref 26]) (y := some (.int q1.1)) (M' := gh_mo q1.2) rfl rfl rfl rfl rfl rfl rfl rfl rfl ⟨Nat.le_refl _, Nat.le_refl _⟩ (kX2_cheapest d N S q1 hq1) ?_
    cases c3 : gh_cmp .eq q1.1 0 with
    | true =>
      rw [c3, cond_true] at h
      refine gh_T_if true rfl c3 ?_
      refine gh_T_steps 1 (τ := (23, [(0, .ref 26)], [.int ((-1)), .ref 26], (gh_mo q1.2, 0, 0))) (fun _ => rfl) ?_
      exact kX2_cost_23 d N ((-1)) q1.2 _ h
    | false =>
      rw [c3, cond_false] at h
      refine gh_T_if false rfl c3 ?_
      refine gh_T_steps 1 (τ := (16, [(0, .ref 26)], [.ref 26, .ref 26], (gh_mo q1.2, 0, 0))) (fun _ => rfl) ?_
      obtain ⟨q2, hq2, h⟩ := gh_bi h
      refine gh_T_iv (As := []) (b := 26) (rest := [.ref 26]) (y := some (.int q2.1)) (M' := gh_mo q2.2) rfl rfl rfl rfl rfl rfl rfl rfl rfl ⟨Nat.le_refl _, Nat.le_refl _⟩ (kX2_paid (d + 4) N q1.2 q2 hq2) ?_
      refine gh_T_steps 1 (τ := (23, [(0, .ref 26)], [.int q2.1, .ref 26], (gh_mo q2.2, 0, 0))) (fun _ => rfl) ?_
      exact kX2_cost_23 d N q2.1 q2.2 _ h
theorem kX2_cost (d N : Nat) (S : gh_St) (r : Int32 × gh_St) (h : sX2_cost N S = some r) : gh_Mx (d + 6) 18 [.ref 26] (gh_mo S) (some (.int r.1)) (gh_mo r.2) :=
  gh_Mx_of rfl rfl rfl rfl rfl rfl (kX2_cost_e d N S r h)
def sX6_read_68 (N : Nat) (b : Bool) (kc36 : Int32 → gh_St → Option (Int32 × gh_St)) (l3 : Int32) (S : gh_St) : Option (Int32 × gh_St) :=
  (sX6_faultHere N b S).bind fun q1 =>
  bif gh_cmp .eq ((gh_fI q1.2 45 1 q1.1).1 45 1) 0 then
    ((sX6_accept N b (gh_fI q1.2 45 1 q1.1)).bind fun q2 =>
    kc36 (l3 + 1) q2)
  else
    (some ((-1), gh_fI (gh_fI q1.2 45 1 q1.1) 45 2 ((gh_fI q1.2 45 1 q1.1).1 45 4)))
set_option maxRecDepth 100000 in
theorem kX6_read_68 (d N : Nat) (b : Bool) (kc36 : Int32 → gh_St → Option (Int32 × gh_St)) (hkc36 : ∀ (l3 : Int32) (S : gh_St) (r : Int32 × gh_St), kc36 l3 S = some r → gh_T (d + 5) fX6_read 0 0 none false false (36, [(0, .ref 45), (1, .ref 43), (2, .ref (gh_pl b)), (3, .int l3)], [], (gh_mo S, 0, 0)) (some (.int r.1), (gh_mo r.2, 0, 0))) (l3 : Int32) (S : gh_St) (r : Int32 × gh_St) (h : sX6_read_68 N b kc36 l3 S = some r) : gh_T (d + 5) fX6_read 0 0 none false false (68, [(0, .ref 45), (1, .ref 43), (2, .ref (gh_pl b)), (3, .int l3)], [], (gh_mo S, 0, 0)) (some (.int r.1), (gh_mo r.2, 0, 0)) := by
  unfold sX6_read_68 at h
  cases b with
  | false =>
    refine gh_T_steps 4 (τ := (72, [(0, .ref 45), (1, .ref 43), (2, .ref (gh_pl false)), (3, .int l3)], [.ref (gh_pl false), .ref 43, .ref 45, .ref 45], (gh_mo S, 0, 0))) (fun _ => rfl) ?_
    obtain ⟨q1, hq1, h⟩ := gh_bi h
    refine gh_T_iv (As := [.ref 43, .ref (gh_pl false)]) (b := 45) (rest := [.ref 45]) (y := some (.int q1.1)) (M' := gh_mo q1.2) rfl rfl rfl rfl rfl rfl rfl rfl rfl ⟨Nat.le_refl _, Nat.le_refl _⟩ (kX6_faultHere d N false S q1 hq1) ?_
    refine gh_T_steps 3 (τ := (82, [(0, .ref 45), (1, .ref 43), (2, .ref (gh_pl false)), (3, .int l3)], [.int ((gh_fI q1.2 45 1 q1.1).1 45 1)], (gh_mo (gh_fI q1.2 45 1 q1.1), 0, 0))) (fun _ => rfl) ?_
    cases c3 : gh_cmp .eq ((gh_fI q1.2 45 1 q1.1).1 45 1) 0 with
    | true =>
      rw [c3, cond_true] at h
      refine gh_T_if true rfl c3 ?_
      refine gh_T_steps 3 (τ := (98, [(0, .ref 45), (1, .ref 43), (2, .ref (gh_pl false)), (3, .int l3)], [.ref (gh_pl false), .ref 43, .ref 45], (gh_mo (gh_fI q1.2 45 1 q1.1), 0, 0))) (fun _ => rfl) ?_
      obtain ⟨q2, hq2, h⟩ := gh_bi h
      refine gh_T_iv (As := [.ref 43, .ref (gh_pl false)]) (b := 45) (rest := []) (y := none) (M' := gh_mo q2) rfl rfl rfl rfl rfl rfl rfl rfl rfl ⟨Nat.le_refl _, Nat.le_refl _⟩ (kX6_accept (d + 1) N false (gh_fI q1.2 45 1 q1.1) q2 hq2) ?_
      refine gh_T_steps 2 (τ := (36, [(3, .int (l3 + 1)), (0, .ref 45), (1, .ref 43), (2, .ref (gh_pl false))], [], (gh_mo q2, 0, 0))) (fun _ => rfl) ?_
      refine gh_T_weak (lv := [(0, .ref 45), (1, .ref 43), (2, .ref (gh_pl false)), (3, .int (l3 + 1))]) ⟨rfl, rfl, rfl, rfl, trivial⟩ ?_
      exact hkc36 (l3 + 1) q2 _ h
    | false =>
      rw [c3, cond_false] at h
      refine gh_T_if false rfl c3 ?_
      refine gh_T_steps 5 (τ := (94, [(0, .ref 45), (1, .ref 43), (2, .ref (gh_pl false)), (3, .int l3)], [.int ((-1))], (gh_mo (gh_fI (gh_fI q1.2 45 1 q1.1) 45 2 ((gh_fI q1.2 45 1 q1.1).1 45 4)), 0, 0))) (fun _ => rfl) ?_
      cases h
      exact gh_T_ret (fun _ => rfl)
  | true =>
    refine gh_T_steps 4 (τ := (72, [(0, .ref 45), (1, .ref 43), (2, .ref (gh_pl true)), (3, .int l3)], [.ref (gh_pl true), .ref 43, .ref 45, .ref 45], (gh_mo S, 0, 0))) (fun _ => rfl) ?_
    obtain ⟨q1, hq1, h⟩ := gh_bi h
    refine gh_T_iv (As := [.ref 43, .ref (gh_pl true)]) (b := 45) (rest := [.ref 45]) (y := some (.int q1.1)) (M' := gh_mo q1.2) rfl rfl rfl rfl rfl rfl rfl rfl rfl ⟨Nat.le_refl _, Nat.le_refl _⟩ (kX6_faultHere d N true S q1 hq1) ?_
    refine gh_T_steps 3 (τ := (82, [(0, .ref 45), (1, .ref 43), (2, .ref (gh_pl true)), (3, .int l3)], [.int ((gh_fI q1.2 45 1 q1.1).1 45 1)], (gh_mo (gh_fI q1.2 45 1 q1.1), 0, 0))) (fun _ => rfl) ?_
    cases c3 : gh_cmp .eq ((gh_fI q1.2 45 1 q1.1).1 45 1) 0 with
    | true =>
      rw [c3, cond_true] at h
      refine gh_T_if true rfl c3 ?_
      refine gh_T_steps 3 (τ := (98, [(0, .ref 45), (1, .ref 43), (2, .ref (gh_pl true)), (3, .int l3)], [.ref (gh_pl true), .ref 43, .ref 45], (gh_mo (gh_fI q1.2 45 1 q1.1), 0, 0))) (fun _ => rfl) ?_
      obtain ⟨q2, hq2, h⟩ := gh_bi h
      refine gh_T_iv (As := [.ref 43, .ref (gh_pl true)]) (b := 45) (rest := []) (y := none) (M' := gh_mo q2) rfl rfl rfl rfl rfl rfl rfl rfl rfl ⟨Nat.le_refl _, Nat.le_refl _⟩ (kX6_accept (d + 1) N true (gh_fI q1.2 45 1 q1.1) q2 hq2) ?_
      refine gh_T_steps 2 (τ := (36, [(3, .int (l3 + 1)), (0, .ref 45), (1, .ref 43), (2, .ref (gh_pl true))], [], (gh_mo q2, 0, 0))) (fun _ => rfl) ?_
      refine gh_T_weak (lv := [(0, .ref 45), (1, .ref 43), (2, .ref (gh_pl true)), (3, .int (l3 + 1))]) ⟨rfl, rfl, rfl, rfl, trivial⟩ ?_
      exact hkc36 (l3 + 1) q2 _ h
    | false =>
      rw [c3, cond_false] at h
      refine gh_T_if false rfl c3 ?_
      refine gh_T_steps 5 (τ := (94, [(0, .ref 45), (1, .ref 43), (2, .ref (gh_pl true)), (3, .int l3)], [.int ((-1))], (gh_mo (gh_fI (gh_fI q1.2 45 1 q1.1) 45 2 ((gh_fI q1.2 45 1 q1.1).1 45 4)), 0, 0))) (fun _ => rfl) ?_
      cases h
      exact gh_T_ret (fun _ => rfl)
def sX6_read_36 (N : Nat) (b : Bool) : Nat → Int32 → gh_St → Option (Int32 × gh_St)
  | 0, _, _ => none
  | n + 1, l3, S =>
    bif gh_cmp .gt l3 (S.1 43 1) then
      (some ((-1), S))
    else
      ((sX6_next N S).bind fun q1 =>
      bif gh_cmp .ne (q1.1 45 5) 0 then
        (sX6_read_68 N b (sX6_read_36 N b n) l3 q1)
      else
        (bif gh_cmp .ne (q1.1 45 7) 0 then
          (sX6_read_68 N b (sX6_read_36 N b n) l3 q1)
        else
          (some (q1.1 45 10, q1))))
set_option maxRecDepth 100000 in
theorem kX6_read_36 (d N : Nat) (b : Bool) : ∀ (n : Nat) (l3 : Int32) (S : gh_St) (r : Int32 × gh_St), sX6_read_36 N b n l3 S = some r → gh_T (d + 5) fX6_read 0 0 none false false (36, [(0, .ref 45), (1, .ref 43), (2, .ref (gh_pl b)), (3, .int l3)], [], (gh_mo S, 0, 0)) (some (.int r.1), (gh_mo r.2, 0, 0)) := by
  cases b with
  | false =>
    intro n
    induction n with
    | zero =>
      intro l3 S r h
      cases h
    | succ n ih =>
      intro l3 S r h
      rw [sX6_read_36] at h
      refine gh_T_steps 3 (τ := (41, [(0, .ref 45), (1, .ref 43), (2, .ref (gh_pl false)), (3, .int l3)], [.int (S.1 43 1), .int l3], (gh_mo S, 0, 0))) (fun _ => rfl) ?_
      cases c4 : gh_cmp .gt l3 (S.1 43 1) with
      | true =>
        rw [c4, cond_true] at h
        refine gh_T_ic true rfl c4 ?_
        refine gh_T_steps 1 (τ := (108, [(0, .ref 45), (1, .ref 43), (2, .ref (gh_pl false)), (3, .int l3)], [.int ((-1))], (gh_mo S, 0, 0))) (fun _ => rfl) ?_
        cases h
        exact gh_T_ret (fun _ => rfl)
      | false =>
        rw [c4, cond_false] at h
        refine gh_T_ic false rfl c4 ?_
        refine gh_T_steps 2 (τ := (46, [(0, .ref 45), (1, .ref 43), (2, .ref (gh_pl false)), (3, .int l3)], [.ref 43, .ref 45], (gh_mo S, 0, 0))) (fun _ => rfl) ?_
        obtain ⟨q1, hq1, h⟩ := gh_bi h
        refine gh_T_iv (As := [.ref 43]) (b := 45) (rest := []) (y := none) (M' := gh_mo q1) rfl rfl rfl rfl rfl rfl rfl rfl rfl ⟨Nat.le_refl _, Nat.le_refl _⟩ (kX6_next (d + 1) N S q1 hq1) ?_
        refine gh_T_steps 2 (τ := (53, [(0, .ref 45), (1, .ref 43), (2, .ref (gh_pl false)), (3, .int l3)], [.int (q1.1 45 5)], (gh_mo q1, 0, 0))) (fun _ => rfl) ?_
        cases c3 : gh_cmp .ne (q1.1 45 5) 0 with
        | true =>
          rw [c3, cond_true] at h
          refine gh_T_if true rfl c3 ?_
          exact kX6_read_68 d N false (sX6_read_36 N false n) ih l3 q1 _ h
        | false =>
          rw [c3, cond_false] at h
          refine gh_T_if false rfl c3 ?_
          refine gh_T_steps 2 (τ := (60, [(0, .ref 45), (1, .ref 43), (2, .ref (gh_pl false)), (3, .int l3)], [.int (q1.1 45 7)], (gh_mo q1, 0, 0))) (fun _ => rfl) ?_
          cases c2 : gh_cmp .ne (q1.1 45 7) 0 with
          | true =>
            rw [c2, cond_true] at h
            refine gh_T_if true rfl c2 ?_
            exact kX6_read_68 d N false (sX6_read_36 N false n) ih l3 q1 _ h
          | false =>
            rw [c2, cond_false] at h
            refine gh_T_if false rfl c2 ?_
            refine gh_T_steps 2 (τ := (67, [(0, .ref 45), (1, .ref 43), (2, .ref (gh_pl false)), (3, .int l3)], [.int (q1.1 45 10)], (gh_mo q1, 0, 0))) (fun _ => rfl) ?_
            cases h
            exact gh_T_ret (fun _ => rfl)
  | true =>
    intro n
    induction n with
    | zero =>
      intro l3 S r h
      cases h
    | succ n ih =>
      intro l3 S r h
      rw [sX6_read_36] at h
      refine gh_T_steps 3 (τ := (41, [(0, .ref 45), (1, .ref 43), (2, .ref (gh_pl true)), (3, .int l3)], [.int (S.1 43 1), .int l3], (gh_mo S, 0, 0))) (fun _ => rfl) ?_
      cases c4 : gh_cmp .gt l3 (S.1 43 1) with
      | true =>
        rw [c4, cond_true] at h
        refine gh_T_ic true rfl c4 ?_
        refine gh_T_steps 1 (τ := (108, [(0, .ref 45), (1, .ref 43), (2, .ref (gh_pl true)), (3, .int l3)], [.int ((-1))], (gh_mo S, 0, 0))) (fun _ => rfl) ?_
        cases h
        exact gh_T_ret (fun _ => rfl)
      | false =>
        rw [c4, cond_false] at h
        refine gh_T_ic false rfl c4 ?_
        refine gh_T_steps 2 (τ := (46, [(0, .ref 45), (1, .ref 43), (2, .ref (gh_pl true)), (3, .int l3)], [.ref 43, .ref 45], (gh_mo S, 0, 0))) (fun _ => rfl) ?_
        obtain ⟨q1, hq1, h⟩ := gh_bi h
        refine gh_T_iv (As := [.ref 43]) (b := 45) (rest := []) (y := none) (M' := gh_mo q1) rfl rfl rfl rfl rfl rfl rfl rfl rfl ⟨Nat.le_refl _, Nat.le_refl _⟩ (kX6_next (d + 1) N S q1 hq1) ?_
        refine gh_T_steps 2 (τ := (53, [(0, .ref 45), (1, .ref 43), (2, .ref (gh_pl true)), (3, .int l3)], [.int (q1.1 45 5)], (gh_mo q1, 0, 0))) (fun _ => rfl) ?_
        cases c3 : gh_cmp .ne (q1.1 45 5) 0 with
        | true =>
          rw [c3, cond_true] at h
          refine gh_T_if true rfl c3 ?_
          exact kX6_read_68 d N true (sX6_read_36 N true n) ih l3 q1 _ h
        | false =>
          rw [c3, cond_false] at h
          refine gh_T_if false rfl c3 ?_
          refine gh_T_steps 2 (τ := (60, [(0, .ref 45), (1, .ref 43), (2, .ref (gh_pl true)), (3, .int l3)], [.int (q1.1 45 7)], (gh_mo q1, 0, 0))) (fun _ => rfl) ?_
          cases c2 : gh_cmp .ne (q1.1 45 7) 0 with
          | true =>
            rw [c2, cond_true] at h
            refine gh_T_if true rfl c2 ?_
            exact kX6_read_68 d N true (sX6_read_36 N true n) ih l3 q1 _ h
          | false =>
            rw [c2, cond_false] at h
            refine gh_T_if false rfl c2 ?_
            refine gh_T_steps 2 (τ := (67, [(0, .ref 45), (1, .ref 43), (2, .ref (gh_pl true)), (3, .int l3)], [.int (q1.1 45 10)], (gh_mo q1, 0, 0))) (fun _ => rfl) ?_
            cases h
            exact gh_T_ret (fun _ => rfl)
def sX6_read (N : Nat) (b : Bool) (S : gh_St) : Option (Int32 × gh_St) :=
  (sX5_clear N b (gh_fI (gh_fI (gh_fI (gh_fI (gh_fI (gh_fI S 45 0 1) 45 1 0) 45 2 ((-1))) 45 3 0) 45 7 0) 45 10 0)).bind fun q1 =>
  sX6_read_36 N b N 0 q1
set_option maxRecDepth 100000 in
theorem kX6_read_e (d N : Nat) (b : Bool) (S : gh_St) (r : Int32 × gh_St) (h : sX6_read N b S = some r) : gh_T (d + 5) fX6_read 0 0 none false false (0, [(0, .ref 45), (1, .ref 43), (2, .ref (gh_pl b))], [], (gh_mo S, 0, 0)) (some (.int r.1), (gh_mo r.2, 0, 0)) := by
  unfold sX6_read at h
  cases b with
  | false =>
    refine gh_T_steps 19 (τ := (31, [(0, .ref 45), (1, .ref 43), (2, .ref (gh_pl false))], [.ref (gh_pl false)], (gh_mo (gh_fI (gh_fI (gh_fI (gh_fI (gh_fI (gh_fI S 45 0 1) 45 1 0) 45 2 ((-1))) 45 3 0) 45 7 0) 45 10 0), 0, 0))) (fun _ => rfl) ?_
    obtain ⟨q1, hq1, h⟩ := gh_bi h
    refine gh_T_iv (As := []) (b := gh_pl false) (rest := []) (y := none) (M' := gh_mo q1) rfl rfl rfl rfl rfl rfl rfl rfl rfl ⟨Nat.le_refl _, Nat.le_refl _⟩ (kX5_clear (d + 4) N false (gh_fI (gh_fI (gh_fI (gh_fI (gh_fI (gh_fI S 45 0 1) 45 1 0) 45 2 ((-1))) 45 3 0) 45 7 0) 45 10 0) q1 hq1) ?_
    refine gh_T_steps 2 (τ := (36, [(3, .int 0), (0, .ref 45), (1, .ref 43), (2, .ref (gh_pl false))], [], (gh_mo q1, 0, 0))) (fun _ => rfl) ?_
    refine gh_T_weak (lv := [(0, .ref 45), (1, .ref 43), (2, .ref (gh_pl false)), (3, .int 0)]) ⟨rfl, rfl, rfl, rfl, trivial⟩ ?_
    exact kX6_read_36 d N false N 0 q1 _ h
  | true =>
    refine gh_T_steps 19 (τ := (31, [(0, .ref 45), (1, .ref 43), (2, .ref (gh_pl true))], [.ref (gh_pl true)], (gh_mo (gh_fI (gh_fI (gh_fI (gh_fI (gh_fI (gh_fI S 45 0 1) 45 1 0) 45 2 ((-1))) 45 3 0) 45 7 0) 45 10 0), 0, 0))) (fun _ => rfl) ?_
    obtain ⟨q1, hq1, h⟩ := gh_bi h
    refine gh_T_iv (As := []) (b := gh_pl true) (rest := []) (y := none) (M' := gh_mo q1) rfl rfl rfl rfl rfl rfl rfl rfl rfl ⟨Nat.le_refl _, Nat.le_refl _⟩ (kX5_clear (d + 4) N true (gh_fI (gh_fI (gh_fI (gh_fI (gh_fI (gh_fI S 45 0 1) 45 1 0) 45 2 ((-1))) 45 3 0) 45 7 0) 45 10 0) q1 hq1) ?_
    refine gh_T_steps 2 (τ := (36, [(3, .int 0), (0, .ref 45), (1, .ref 43), (2, .ref (gh_pl true))], [], (gh_mo q1, 0, 0))) (fun _ => rfl) ?_
    refine gh_T_weak (lv := [(0, .ref 45), (1, .ref 43), (2, .ref (gh_pl true)), (3, .int 0)]) ⟨rfl, rfl, rfl, rfl, trivial⟩ ?_
    exact kX6_read_36 d N true N 0 q1 _ h
theorem kX6_read (d N : Nat) (b : Bool) (S : gh_St) (r : Int32 × gh_St) (h : sX6_read N b S = some r) : gh_Mx (d + 6) 55 [.ref 45, .ref 43, .ref (gh_pl b)] (gh_mo S) (some (.int r.1)) (gh_mo r.2) :=
  gh_Mx_of rfl rfl rfl rfl rfl rfl (kX6_read_e d N b S r h)
def sX9_fans (N : Nat) (S : gh_St) : Option (Int32 × gh_St) :=
  (sX2_cost N S).bind fun q1 =>
  some (q1.1, q1.2)
set_option maxRecDepth 100000 in
theorem kX9_fans_e (d N : Nat) (S : gh_St) (r : Int32 × gh_St) (h : sX9_fans N S = some r) : gh_T (d + 6) fX9_fans 0 0 none false false (0, [(0, .ref 0)], [], (gh_mo S, 0, 0)) (some (.int r.1), (gh_mo r.2, 0, 0)) := by
  unfold sX9_fans at h
  refine gh_T_steps 2 (τ := (4, [(0, .ref 0)], [.ref 26], (gh_mo S, 0, 0))) (fun _ => rfl) ?_
  obtain ⟨q1, hq1, h⟩ := gh_bi h
  refine gh_T_iv (As := []) (b := 26) (rest := []) (y := some (.int q1.1)) (M' := gh_mo q1.2) rfl rfl rfl rfl rfl rfl rfl rfl rfl ⟨Nat.le_refl _, Nat.le_refl _⟩ (kX2_cost d N S q1 hq1) ?_
  cases h
  exact gh_T_ret (fun _ => rfl)
theorem kX9_fans (d N : Nat) (S : gh_St) (r : Int32 × gh_St) (h : sX9_fans N S = some r) : gh_Mx (d + 7) 97 [.ref 0] (gh_mo S) (some (.int r.1)) (gh_mo r.2) :=
  gh_Mx_of rfl rfl rfl rfl rfl rfl (kX9_fans_e d N S r h)
def sX9_fansOf (N : Nat) (a1 : Int32) (S : gh_St) : Option (Int32 × gh_St) :=
  (sX9_isBin N a1 S).bind fun q1 =>
  bif gh_cmp .eq q1.1 0 then
    (some ((-1), q1.2))
  else
    ((sX2_cost N q1.2).bind fun q2 =>
    bif gh_cmp .ne q2.1 ((-1)) then
      ((gh_ra q2.2 36 8 a1).bind fun x3 =>
      some (x3, q2.2))
    else
      (some ((-1), q2.2)))
set_option maxRecDepth 100000 in
theorem kX9_fansOf_e (d N : Nat) (a1 : Int32) (S : gh_St) (r : Int32 × gh_St) (h : sX9_fansOf N a1 S = some r) : gh_T (d + 6) fX9_fansOf 0 0 none false false (0, [(0, .ref 0), (1, .int a1)], [], (gh_mo S, 0, 0)) (some (.int r.1), (gh_mo r.2, 0, 0)) := by
  unfold sX9_fansOf at h
  refine gh_T_steps 1 (τ := (1, [(0, .ref 0), (1, .int a1)], [.int a1], (gh_mo S, 0, 0))) (fun _ => rfl) ?_
  obtain ⟨q1, hq1, h⟩ := gh_bi h
  refine gh_T_is (As := [.int a1]) (rest := []) (y := some (.int q1.1)) (M' := gh_mo q1.2) rfl rfl rfl rfl rfl rfl rfl ⟨Nat.le_refl _, Nat.le_refl _⟩ (kX9_isBin (d + 4) N a1 S q1 hq1) ?_
  cases c5 : gh_cmp .eq q1.1 0 with
  | true =>
    rw [c5, cond_true] at h
    refine gh_T_if true rfl c5 ?_
    refine gh_T_steps 1 (τ := (19, [(0, .ref 0), (1, .int a1)], [.int ((-1))], (gh_mo q1.2, 0, 0))) (fun _ => rfl) ?_
    cases h
    exact gh_T_ret (fun _ => rfl)
  | false =>
    rw [c5, cond_false] at h
    refine gh_T_if false rfl c5 ?_
    refine gh_T_steps 2 (τ := (11, [(0, .ref 0), (1, .int a1)], [.ref 26], (gh_mo q1.2, 0, 0))) (fun _ => rfl) ?_
    obtain ⟨q2, hq2, h⟩ := gh_bi h
    refine gh_T_iv (As := []) (b := 26) (rest := []) (y := some (.int q2.1)) (M' := gh_mo q2.2) rfl rfl rfl rfl rfl rfl rfl rfl rfl ⟨Nat.le_refl _, Nat.le_refl _⟩ (kX2_cost d N q1.2 q2 hq2) ?_
    refine gh_T_steps 1 (τ := (15, [(0, .ref 0), (1, .int a1)], [.int ((-1)), .int q2.1], (gh_mo q2.2, 0, 0))) (fun _ => rfl) ?_
    cases c4 : gh_cmp .ne q2.1 ((-1)) with
    | true =>
      rw [c4, cond_true] at h
      refine gh_T_ic true rfl c4 ?_
      refine gh_T_steps 4 (τ := (28, [(0, .ref 0), (1, .int a1)], [.int a1, .ref 36], (gh_mo q2.2, 0, 0))) (fun _ => rfl) ?_
      obtain ⟨x3, hx3, h⟩ := gh_bi h
      refine gh_T_ra rfl rfl hx3 ?_
      cases h
      exact gh_T_ret (fun _ => rfl)
    | false =>
      rw [c4, cond_false] at h
      refine gh_T_ic false rfl c4 ?_
      refine gh_T_steps 1 (τ := (19, [(0, .ref 0), (1, .int a1)], [.int ((-1))], (gh_mo q2.2, 0, 0))) (fun _ => rfl) ?_
      cases h
      exact gh_T_ret (fun _ => rfl)
theorem kX9_fansOf (d N : Nat) (a1 : Int32) (S : gh_St) (r : Int32 × gh_St) (h : sX9_fansOf N a1 S = some r) : gh_Mx (d + 7) 98 [.ref 0, .int a1] (gh_mo S) (some (.int r.1)) (gh_mo r.2) :=
  gh_Mx_of rfl rfl rfl rfl rfl rfl (kX9_fansOf_e d N a1 S r h)

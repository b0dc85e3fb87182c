def sX10_nextRow_86 (N : Nat) : Nat → Int32 → Int32 → gh_St → Option (Int32 × gh_St)
  | 0, _, _, _ => none
  | n + 1, l3, l4, S =>
    bif gh_cmp .ge l4 l3 then
      (some (1, S))
    else
      ((sX10_swaps N l4 l3 S).bind fun q1 =>
      (sX10_nextRow_86 N n) (l3 + (-1)) (l4 + 1) q1)
set_option maxRecDepth 100000 in
theorem kX10_nextRow_86 (d N : Nat) : ∀ (n : Nat) (l3 : Int32) (l4 : Int32) (S : gh_St) (r : Int32 × gh_St), sX10_nextRow_86 N n l3 l4 S = some r → gh_T (d + 1) fX10_nextRow 0 0 none true false (86, [(0, .ref 56), (3, .int l3), (4, .int l4)], [], (gh_mo S, 0, 0)) (some (.int r.1), (gh_mo r.2, 0, 0)) := by
  intro n
  induction n with
  | zero =>
    intro l3 l4 S r h
    cases h
  | succ n ih =>
    intro l3 l4 S r h
    rw [sX10_nextRow_86] at h
    refine gh_T_steps 2 (τ := (89, [(0, .ref 56), (3, .int l3), (4, .int l4)], [.int l3, .int l4], (gh_mo S, 0, 0))) (fun _ => rfl) ?_
    cases c2 : gh_cmp .ge l4 l3 with
    | true =>
      rw [c2, cond_true] at h
      refine gh_T_ic true rfl c2 ?_
      refine gh_T_steps 1 (τ := (109, [(0, .ref 56), (3, .int l3), (4, .int l4)], [.int 1], (gh_mo S, 0, 0))) (fun _ => rfl) ?_
      cases h
      exact gh_T_ret (fun _ => rfl)
    | false =>
      rw [c2, cond_false] at h
      refine gh_T_ic false rfl c2 ?_
      refine gh_T_steps 3 (τ := (96, [(0, .ref 56), (3, .int l3), (4, .int l4)], [.int l3, .int l4, .ref 56], (gh_mo S, 0, 0))) (fun _ => rfl) ?_
      obtain ⟨q1, hq1, h⟩ := gh_bi h
      refine gh_T_iv (As := [.int l4, .int l3]) (b := 56) (rest := []) (y := none) (M' := gh_mo q1) rfl rfl rfl rfl rfl rfl rfl rfl rfl ⟨Nat.le_refl _, Nat.le_refl _⟩ (kX10_swaps d N l4 l3 S q1 hq1) ?_
      refine gh_T_steps 3 (τ := (86, [(4, .int (l4 + 1)), (3, .int (l3 + (-1))), (0, .ref 56)], [], (gh_mo q1, 0, 0))) (fun _ => rfl) ?_
      refine gh_T_weak (lv := [(0, .ref 56), (3, .int (l3 + (-1))), (4, .int (l4 + 1))]) ⟨rfl, rfl, rfl, trivial⟩ ?_
      exact ih (l3 + (-1)) (l4 + 1) q1 _ h
def sX10_nextRow_47 (N : Nat) : Nat → Int32 → Int32 → gh_St → Option (Int32 × gh_St)
  | 0, _, _, _ => none
  | n + 1, l1, l2, S =>
    (gh_ra S 85 7 l2).bind fun x1 =>
    (gh_ra S 85 7 l1).bind fun x2 =>
    bif gh_cmp .ge x1 x2 then
      ((sX10_swaps N l1 l2 S).bind fun q3 =>
      sX10_nextRow_86 N N ((q3.1 56 19) - (1 : Int32)) (l1 + (1 : Int32)) q3)
    else
      ((sX10_nextRow_47 N n) l1 (l2 + (-1)) S)
set_option maxRecDepth 100000 in
theorem kX10_nextRow_47 (d N : Nat) : ∀ (n : Nat) (l1 : Int32) (l2 : Int32) (S : gh_St) (r : Int32 × gh_St), sX10_nextRow_47 N n l1 l2 S = some r → gh_T (d + 1) fX10_nextRow 0 0 none true false (47, [(0, .ref 56), (1, .int l1), (2, .int l2)], [], (gh_mo S, 0, 0)) (some (.int r.1), (gh_mo r.2, 0, 0)) := by
  intro n
  induction n with
  | zero =>
    intro l1 l2 S r h
    cases h
  | succ n ih =>
    intro l1 l2 S r h
    rw [sX10_nextRow_47] at h
    refine gh_T_steps 3 (τ := (52, [(0, .ref 56), (1, .int l1), (2, .int l2)], [.int l2, .ref 85], (gh_mo S, 0, 0))) (fun _ => rfl) ?_
    obtain ⟨x1, hx1, h⟩ := gh_bi h
    refine gh_T_ra rfl rfl hx1 ?_
    refine gh_T_steps 3 (τ := (58, [(0, .ref 56), (1, .int l1), (2, .int l2)], [.int l1, .ref 85, .int x1], (gh_mo S, 0, 0))) (fun _ => rfl) ?_
    obtain ⟨x2, hx2, h⟩ := gh_bi h
    refine gh_T_ra rfl rfl hx2 ?_
    cases c4 : gh_cmp .ge x1 x2 with
    | true =>
      rw [c4, cond_true] at h
      refine gh_T_ic true rfl c4 ?_
      refine gh_T_steps 3 (τ := (71, [(0, .ref 56), (1, .int l1), (2, .int l2)], [.int l2, .int l1, .ref 56], (gh_mo S, 0, 0))) (fun _ => rfl) ?_
      obtain ⟨q3, hq3, h⟩ := gh_bi h
      refine gh_T_iv (As := [.int l1, .int l2]) (b := 56) (rest := []) (y := none) (M' := gh_mo q3) rfl rfl rfl rfl rfl rfl rfl rfl rfl ⟨Nat.le_refl _, Nat.le_refl _⟩ (kX10_swaps d N l1 l2 S q3 hq3) ?_
      refine gh_T_steps 9 (τ := (86, [(4, .int (l1 + (1 : Int32))), (3, .int ((q3.1 56 19) - (1 : Int32))), (0, .ref 56), (1, .int l1), (2, .int l2)], [], (gh_mo q3, 0, 0))) (fun _ => rfl) ?_
      refine gh_T_weak (lv := [(0, .ref 56), (3, .int ((q3.1 56 19) - (1 : Int32))), (4, .int (l1 + (1 : Int32)))]) ⟨rfl, rfl, rfl, trivial⟩ ?_
      exact kX10_nextRow_86 d N N ((q3.1 56 19) - (1 : Int32)) (l1 + (1 : Int32)) q3 _ h
    | false =>
      rw [c4, cond_false] at h
      refine gh_T_ic false rfl c4 ?_
      refine gh_T_steps 2 (τ := (47, [(2, .int (l2 + (-1))), (0, .ref 56), (1, .int l1)], [], (gh_mo S, 0, 0))) (fun _ => rfl) ?_
      refine gh_T_weak (lv := [(0, .ref 56), (1, .int l1), (2, .int (l2 + (-1)))]) ⟨rfl, rfl, rfl, trivial⟩ ?_
      exact ih l1 (l2 + (-1)) S _ h
def sX10_nextRow_34 (N : Nat) (l1 : Int32) (S : gh_St) : Option (Int32 × gh_St) :=
  bif gh_cmp .ge l1 0 then
    (sX10_nextRow_47 N N l1 ((S.1 56 19) - (1 : Int32)) S)
  else
    (some (0, S))
set_option maxRecDepth 100000 in
theorem kX10_nextRow_34 (d N : Nat) (l1 : Int32) (S : gh_St) (r : Int32 × gh_St) (h : sX10_nextRow_34 N l1 S = some r) : gh_T (d + 1) fX10_nextRow 0 0 none true false (34, [(0, .ref 56), (1, .int l1)], [], (gh_mo S, 0, 0)) (some (.int r.1), (gh_mo r.2, 0, 0)) := by
  unfold sX10_nextRow_34 at h
  refine gh_T_steps 1 (τ := (35, [(0, .ref 56), (1, .int l1)], [.int l1], (gh_mo S, 0, 0))) (fun _ => rfl) ?_
  cases c1 : gh_cmp .ge l1 0 with
  | true =>
    rw [c1, cond_true] at h
    refine gh_T_if true rfl c1 ?_
    refine gh_T_steps 5 (τ := (47, [(2, .int ((S.1 56 19) - (1 : Int32))), (0, .ref 56), (1, .int l1)], [], (gh_mo S, 0, 0))) (fun _ => rfl) ?_
    refine gh_T_weak (lv := [(0, .ref 56), (1, .int l1), (2, .int ((S.1 56 19) - (1 : Int32)))]) ⟨rfl, rfl, rfl, trivial⟩ ?_
    exact kX10_nextRow_47 d N N l1 ((S.1 56 19) - (1 : Int32)) S _ h
  | false =>
    rw [c1, cond_false] at h
    refine gh_T_if false rfl c1 ?_
    refine gh_T_steps 1 (τ := (39, [(0, .ref 56), (1, .int l1)], [.int 0], (gh_mo S, 0, 0))) (fun _ => rfl) ?_
    cases h
    exact gh_T_ret (fun _ => rfl)
def sX10_nextRow_7 (N : Nat) : Nat → Int32 → gh_St → Option (Int32 × gh_St)
  | 0, _, _ => none
  | n + 1, l1, S =>
    bif gh_cmp .lt l1 0 then
      (sX10_nextRow_34 N l1 S)
    else
      ((gh_ra S 85 7 l1).bind fun x1 =>
      (gh_ra S 85 7 (l1 + (1 : Int32))).bind fun x2 =>
      bif gh_cmp .le x1 x2 then
        (sX10_nextRow_34 N l1 S)
      else
        ((sX10_nextRow_7 N n) (l1 + (-1)) S))
set_option maxRecDepth 100000 in
theorem kX10_nextRow_7 (d N : Nat) : ∀ (n : Nat) (l1 : Int32) (S : gh_St) (r : Int32 × gh_St), sX10_nextRow_7 N n l1 S = some r → gh_T (d + 1) fX10_nextRow 0 0 none true false (7, [(0, .ref 56), (1, .int l1)], [], (gh_mo S, 0, 0)) (some (.int r.1), (gh_mo r.2, 0, 0)) := by
  intro n
  induction n with
  | zero =>
    intro l1 S r h
    cases h
  | succ n ih =>
    intro l1 S r h
    rw [sX10_nextRow_7] at h
    refine gh_T_steps 1 (τ := (8, [(0, .ref 56), (1, .int l1)], [.int l1], (gh_mo S, 0, 0))) (fun _ => rfl) ?_
    cases c4 : gh_cmp .lt l1 0 with
    | true =>
      rw [c4, cond_true] at h
      refine gh_T_if true rfl c4 ?_
      exact kX10_nextRow_34 d N l1 S _ h
    | false =>
      rw [c4, cond_false] at h
      refine gh_T_if false rfl c4 ?_
      refine gh_T_steps 3 (τ := (16, [(0, .ref 56), (1, .int l1)], [.int l1, .ref 85], (gh_mo S, 0, 0))) (fun _ => rfl) ?_
      obtain ⟨x1, hx1, h⟩ := gh_bi h
      refine gh_T_ra rfl rfl hx1 ?_
      refine gh_T_steps 5 (τ := (24, [(0, .ref 56), (1, .int l1)], [.int (l1 + (1 : Int32)), .ref 85, .int x1], (gh_mo S, 0, 0))) (fun _ => rfl) ?_
      obtain ⟨x2, hx2, h⟩ := gh_bi h
      refine gh_T_ra rfl rfl hx2 ?_
      cases c3 : gh_cmp .le x1 x2 with
      | true =>
        rw [c3, cond_true] at h
        refine gh_T_ic true rfl c3 ?_
        exact kX10_nextRow_34 d N l1 S _ h
      | false =>
        rw [c3, cond_false] at h
        refine gh_T_ic false rfl c3 ?_
        refine gh_T_steps 2 (τ := (7, [(1, .int (l1 + (-1))), (0, .ref 56)], [], (gh_mo S, 0, 0))) (fun _ => rfl) ?_
        refine gh_T_weak (lv := [(0, .ref 56), (1, .int (l1 + (-1)))]) ⟨rfl, rfl, trivial⟩ ?_
        exact ih (l1 + (-1)) S _ h
def sX10_nextRow (N : Nat) (S : gh_St) : Option (Int32 × gh_St) :=
  sX10_nextRow_7 N N ((S.1 56 19) - (2 : Int32)) S
set_option maxRecDepth 100000 in
theorem kX10_nextRow_e (d N : Nat) (S : gh_St) (r : Int32 × gh_St) (h : sX10_nextRow N S = some r) : gh_T (d + 1) fX10_nextRow 0 0 none true false (0, [(0, .ref 56)], [], (gh_mo S, 0, 0)) (some (.int r.1), (gh_mo r.2, 0, 0)) := by
  unfold sX10_nextRow at h
  refine gh_T_steps 5 (τ := (7, [(1, .int ((S.1 56 19) - (2 : Int32))), (0, .ref 56)], [], (gh_mo S, 0, 0))) (fun _ => rfl) ?_
  refine gh_T_weak (lv := [(0, .ref 56), (1, .int ((S.1 56 19) - (2 : Int32)))]) ⟨rfl, rfl, trivial⟩ ?_
  exact kX10_nextRow_7 d N N ((S.1 56 19) - (2 : Int32)) S _ h
theorem kX10_nextRow (d N : Nat) (S : gh_St) (r : Int32 × gh_St) (h : sX10_nextRow N S = some r) : gh_Mx (d + 2) 141 [.ref 56] (gh_mo S) (some (.int r.1)) (gh_mo r.2) :=
  gh_Mx_of rfl rfl rfl rfl rfl rfl (kX10_nextRow_e d N S r h)
def sX10_rush_89 (N : Nat) (kc28 : Int32 → Int32 → gh_St → Option (Int32 × gh_St)) (l1 : Int32) (S : gh_St) : Option (Int32 × gh_St) :=
  (sX10_nextRow N S).bind fun q1 =>
  kc28 l1 q1.1 q1.2
set_option maxRecDepth 100000 in
theorem kX10_rush_89 (d N : Nat) (kc28 : Int32 → Int32 → gh_St → Option (Int32 × gh_St)) (hkc28 : ∀ (l1 : Int32) (l2 : Int32) (S : gh_St) (r : Int32 × gh_St), kc28 l1 l2 S = some r → gh_T (d + 2) fX10_rush 0 0 none false false (28, [(0, .ref 56), (1, .int l1), (2, .int l2)], [], (gh_mo S, 0, 0)) (some (.int r.1), (gh_mo r.2, 0, 0))) (l1 : Int32) (S : gh_St) (r : Int32 × gh_St) (h : sX10_rush_89 N kc28 l1 S = some r) : gh_T (d + 2) fX10_rush 0 0 none false false (89, [(0, .ref 56), (1, .int l1)], [], (gh_mo S, 0, 0)) (some (.int r.1), (gh_mo r.2, 0, 0)) := by
  unfold sX10_rush_89 at h
  refine gh_T_steps 1 (τ := (90, [(0, .ref 56), (1, .int l1)], [.ref 56], (gh_mo S, 0, 0))) (fun _ => rfl) ?_
  obtain ⟨q1, hq1, h⟩ := gh_bi h
  refine gh_T_iv (As := []) (b := 56) (rest := []) (y := some (.int q1.1)) (M' := gh_mo q1.2) rfl rfl rfl rfl rfl rfl rfl rfl rfl ⟨Nat.le_refl _, Nat.le_refl _⟩ (kX10_nextRow d N S q1 hq1) ?_
  refine gh_T_steps 2 (τ := (28, [(2, .int q1.1), (0, .ref 56), (1, .int l1)], [], (gh_mo q1.2, 0, 0))) (fun _ => rfl) ?_
  refine gh_T_weak (lv := [(0, .ref 56), (1, .int l1), (2, .int q1.1)]) ⟨rfl, rfl, rfl, trivial⟩ ?_
  exact hkc28 l1 q1.1 q1.2 _ h
def sX10_rush_60 (N : Nat) (kc28 : Int32 → Int32 → gh_St → Option (Int32 × gh_St)) : Nat → Int32 → Int32 → gh_St → Option (Int32 × gh_St)
  | 0, _, _, _ => none
  | n + 1, l1, l4, S =>
    bif gh_cmp .ge l4 (S.1 56 19) then
      (sX10_rush_89 N kc28 l1 S)
    else
      ((gh_ra S 85 7 l4).bind fun x1 =>
      (gh_wa S 86 7 l4 x1).bind fun S2 =>
      (sX10_rush_60 N kc28 n) l1 (l4 + 1) S2)
set_option maxRecDepth 100000 in
theorem kX10_rush_60 (d N : Nat) (kc28 : Int32 → Int32 → gh_St → Option (Int32 × gh_St)) (hkc28 : ∀ (l1 : Int32) (l2 : Int32) (S : gh_St) (r : Int32 × gh_St), kc28 l1 l2 S = some r → gh_T (d + 2) fX10_rush 0 0 none false false (28, [(0, .ref 56), (1, .int l1), (2, .int l2)], [], (gh_mo S, 0, 0)) (some (.int r.1), (gh_mo r.2, 0, 0))) : ∀ (n : Nat) (l1 : Int32) (l4 : Int32) (S : gh_St) (r : Int32 × gh_St), sX10_rush_60 N kc28 n l1 l4 S = some r → gh_T (d + 2) fX10_rush 0 0 none false false (60, [(0, .ref 56), (1, .int l1), (4, .int l4)], [], (gh_mo S, 0, 0)) (some (.int r.1), (gh_mo r.2, 0, 0)) := by
  intro n
  induction n with
  | zero =>
    intro l1 l4 S r h
    cases h
  | succ n ih =>
    intro l1 l4 S r h
    rw [sX10_rush_60] at h
    refine gh_T_steps 3 (τ := (66, [(0, .ref 56), (1, .int l1), (4, .int l4)], [.int (S.1 56 19), .int l4], (gh_mo S, 0, 0))) (fun _ => rfl) ?_
    cases c3 : gh_cmp .ge l4 (S.1 56 19) with
    | true =>
      rw [c3, cond_true] at h
      refine gh_T_ic true rfl c3 ?_
      refine gh_T_weak (lv := [(0, .ref 56), (1, .int l1)]) ⟨rfl, rfl, trivial⟩ ?_
      exact kX10_rush_89 d N kc28 hkc28 l1 S _ h
    | false =>
      rw [c3, cond_false] at h
      refine gh_T_ic false rfl c3 ?_
      refine gh_T_steps 6 (τ := (81, [(0, .ref 56), (1, .int l1), (4, .int l4)], [.int l4, .ref 85, .int l4, .ref 86], (gh_mo S, 0, 0))) (fun _ => rfl) ?_
      obtain ⟨x1, hx1, h⟩ := gh_bi h
      refine gh_T_ra rfl rfl hx1 ?_
      obtain ⟨S2, hS2, h⟩ := gh_bi h
      refine gh_T_wa rfl rfl hS2 ?_
      refine gh_T_steps 2 (τ := (60, [(4, .int (l4 + 1)), (0, .ref 56), (1, .int l1)], [], (gh_mo S2, 0, 0))) (fun _ => rfl) ?_
      refine gh_T_weak (lv := [(0, .ref 56), (1, .int l1), (4, .int (l4 + 1))]) ⟨rfl, rfl, rfl, trivial⟩ ?_
      exact ih l1 (l4 + 1) S2 _ h
def sX10_rush_28 (N : Nat) : Nat → Int32 → Int32 → gh_St → Option (Int32 × gh_St)
  | 0, _, _, _ => none
  | n + 1, l1, l2, S =>
    bif gh_cmp .eq l2 0 then
      (some (l1, S))
    else
      ((sX10_emptyAt N ((S.1 56 19) - (1 : Int32)) 0 S).bind fun q1 =>
      bif gh_cmp .ge (q1.2.1 56 52) l1 then
        (sX10_rush_89 N (sX10_rush_28 N n) l1 q1.2)
      else
        (sX10_rush_60 N (sX10_rush_28 N n) N (q1.2.1 56 52) 0 q1.2))
set_option maxRecDepth 100000 in
theorem kX10_rush_28 (d N : Nat) : ∀ (n : Nat) (l1 : Int32) (l2 : Int32) (S : gh_St) (r : Int32 × gh_St), sX10_rush_28 N n l1 l2 S = some r → gh_T (d + 2) fX10_rush 0 0 none false false (28, [(0, .ref 56), (1, .int l1), (2, .int l2)], [], (gh_mo S, 0, 0)) (some (.int r.1), (gh_mo r.2, 0, 0)) := by
  intro n
  induction n with
  | zero =>
    intro l1 l2 S r h
    cases h
  | succ n ih =>
    intro l1 l2 S r h
    rw [sX10_rush_28] at h
    refine gh_T_steps 1 (τ := (29, [(0, .ref 56), (1, .int l1), (2, .int l2)], [.int l2], (gh_mo S, 0, 0))) (fun _ => rfl) ?_
    cases c3 : gh_cmp .eq l2 0 with
    | true =>
      rw [c3, cond_true] at h
      refine gh_T_if true rfl c3 ?_
      refine gh_T_steps 1 (τ := (98, [(0, .ref 56), (1, .int l1), (2, .int l2)], [.int l1], (gh_mo S, 0, 0))) (fun _ => rfl) ?_
      cases h
      exact gh_T_ret (fun _ => rfl)
    | false =>
      rw [c3, cond_false] at h
      refine gh_T_if false rfl c3 ?_
      refine gh_T_steps 6 (τ := (40, [(0, .ref 56), (1, .int l1), (2, .int l2)], [.int 0, .int ((S.1 56 19) - (1 : Int32)), .ref 56], (gh_mo S, 0, 0))) (fun _ => rfl) ?_
      obtain ⟨q1, hq1, h⟩ := gh_bi h
      refine gh_T_iv (As := [.int ((S.1 56 19) - (1 : Int32)), .int 0]) (b := 56) (rest := []) (y := some (.int q1.1)) (M' := gh_mo q1.2) rfl rfl rfl rfl rfl rfl rfl rfl rfl ⟨Nat.le_refl _, Nat.le_refl _⟩ (kX10_emptyAt (d + 1) N ((S.1 56 19) - (1 : Int32)) 0 S q1 hq1) ?_
      refine gh_T_steps 4 (τ := (49, [(3, .int q1.1), (0, .ref 56), (1, .int l1), (2, .int l2)], [.int l1, .int (q1.2.1 56 52)], (gh_mo q1.2, 0, 0))) (fun _ => rfl) ?_
      cases c2 : gh_cmp .ge (q1.2.1 56 52) l1 with
      | true =>
        rw [c2, cond_true] at h
        refine gh_T_ic true rfl c2 ?_
        refine gh_T_weak (lv := [(0, .ref 56), (1, .int l1)]) ⟨rfl, rfl, trivial⟩ ?_
        exact kX10_rush_89 d N (sX10_rush_28 N n) ih l1 q1.2 _ h
      | false =>
        rw [c2, cond_false] at h
        refine gh_T_ic false rfl c2 ?_
        refine gh_T_steps 5 (τ := (60, [(4, .int 0), (1, .int (q1.2.1 56 52)), (3, .int q1.1), (0, .ref 56), (2, .int l2)], [], (gh_mo q1.2, 0, 0))) (fun _ => rfl) ?_
        refine gh_T_weak (lv := [(0, .ref 56), (1, .int (q1.2.1 56 52)), (4, .int 0)]) ⟨rfl, rfl, rfl, trivial⟩ ?_
        exact kX10_rush_60 d N (sX10_rush_28 N n) ih N (q1.2.1 56 52) 0 q1.2 _ h
def sX10_rush_2 (N : Nat) : Nat → Int32 → gh_St → Option (Int32 × gh_St)
  | 0, _, _ => none
  | n + 1, l1, S =>
    bif gh_cmp .ge l1 (S.1 56 19) then
      (sX10_rush_28 N N 100000000 1 S)
    else
      ((gh_wa S 85 7 l1 l1).bind fun S1 =>
      (sX10_rush_2 N n) (l1 + 1) S1)
set_option maxRecDepth 100000 in
theorem kX10_rush_2 (d N : Nat) : ∀ (n : Nat) (l1 : Int32) (S : gh_St) (r : Int32 × gh_St), sX10_rush_2 N n l1 S = some r → gh_T (d + 2) fX10_rush 0 0 none false false (2, [(0, .ref 56), (1, .int l1)], [], (gh_mo S, 0, 0)) (some (.int r.1), (gh_mo r.2, 0, 0)) := by
  intro n
  induction n with
  | zero =>
    intro l1 S r h
    cases h
  | succ n ih =>
    intro l1 S r h
    rw [sX10_rush_2] at h
    refine gh_T_steps 3 (τ := (7, [(0, .ref 56), (1, .int l1)], [.int (S.1 56 19), .int l1], (gh_mo S, 0, 0))) (fun _ => rfl) ?_
    cases c2 : gh_cmp .ge l1 (S.1 56 19) with
    | true =>
      rw [c2, cond_true] at h
      refine gh_T_ic true rfl c2 ?_
      refine gh_T_steps 4 (τ := (28, [(2, .int 1), (1, .int 100000000), (0, .ref 56)], [], (gh_mo S, 0, 0))) (fun _ => rfl) ?_
      refine gh_T_weak (lv := [(0, .ref 56), (1, .int 100000000), (2, .int 1)]) ⟨rfl, rfl, rfl, trivial⟩ ?_
      exact kX10_rush_28 d N N 100000000 1 S _ h
    | false =>
      rw [c2, cond_false] at h
      refine gh_T_ic false rfl c2 ?_
      refine gh_T_steps 4 (τ := (16, [(0, .ref 56), (1, .int l1)], [.int l1, .int l1, .ref 85], (gh_mo S, 0, 0))) (fun _ => rfl) ?_
      obtain ⟨S1, hS1, h⟩ := gh_bi h
      refine gh_T_wa rfl rfl hS1 ?_
      refine gh_T_steps 2 (τ := (2, [(1, .int (l1 + 1)), (0, .ref 56)], [], (gh_mo S1, 0, 0))) (fun _ => rfl) ?_
      refine gh_T_weak (lv := [(0, .ref 56), (1, .int (l1 + 1))]) ⟨rfl, rfl, trivial⟩ ?_
      exact ih (l1 + 1) S1 _ h
def sX10_rush (N : Nat) (S : gh_St) : Option (Int32 × gh_St) :=
  sX10_rush_2 N N 0 S
set_option maxRecDepth 100000 in
theorem kX10_rush_e (d N : Nat) (S : gh_St) (r : Int32 × gh_St) (h : sX10_rush N S = some r) : gh_T (d + 2) fX10_rush 0 0 none false false (0, [(0, .ref 56)], [], (gh_mo S, 0, 0)) (some (.int r.1), (gh_mo r.2, 0, 0)) := by
  unfold sX10_rush at h
  refine gh_T_steps 2 (τ := (2, [(1, .int 0), (0, .ref 56)], [], (gh_mo S, 0, 0))) (fun _ => rfl) ?_
  refine gh_T_weak (lv := [(0, .ref 56), (1, .int 0)]) ⟨rfl, rfl, trivial⟩ ?_
  exact kX10_rush_2 d N N 0 S _ h
theorem kX10_rush (d N : Nat) (S : gh_St) (r : Int32 × gh_St) (h : sX10_rush N S = some r) : gh_Mx (d + 3) 143 [.ref 56] (gh_mo S) (some (.int r.1)) (gh_mo r.2) :=
  gh_Mx_of rfl rfl rfl rfl rfl rfl (kX10_rush_e d N S r h)
def sX10_served (N : Nat) (a1 : Int32) (a2 : Int32) (S : gh_St) : Option (Int32 × gh_St) :=
  (sX10_in N ((a1 : Int32).toInt64) 0 (((S.1 56 19) - (1 : Int32) : Int32).toInt64) S).bind fun q1 =>
  bif gh_cmp .eq q1.1 0 then
    (some ((-1), q1.2))
  else
    ((sX10_in N ((a2 : Int32).toInt64) 0 1 q1.2).bind fun q2 =>
    bif gh_cmp .ne q2.1 0 then
      ((sX10_rush N q2.2).bind fun q3 =>
      bif gh_cmp .ne a2 0 then
        ((sX10_emptyAt N a1 1 q3.2).bind fun q4 =>
        some (q4.1, q4.2))
      else
        ((gh_ra q3.2 86 7 a1).bind fun x5 =>
        some (x5, q3.2)))
    else
      (some ((-1), q2.2)))
set_option maxRecDepth 100000 in
theorem kX10_served_e (d N : Nat) (a1 : Int32) (a2 : Int32) (S : gh_St) (r : Int32 × gh_St) (h : sX10_served N a1 a2 S = some r) : gh_T (d + 3) fX10_served 0 0 none false false (0, [(0, .ref 56), (1, .int a1), (2, .int a2)], [], (gh_mo S, 0, 0)) (some (.int r.1), (gh_mo r.2, 0, 0)) := by
  unfold sX10_served at h
  refine gh_T_steps 8 (τ := (10, [(0, .ref 56), (1, .int a1), (2, .int a2)], [.long (((S.1 56 19) - (1 : Int32) : Int32).toInt64), .long 0, .long ((a1 : Int32).toInt64)], (gh_mo S, 0, 0))) (fun _ => rfl) ?_
  obtain ⟨q1, hq1, h⟩ := gh_bi h
  refine gh_T_is (As := [.long ((a1 : Int32).toInt64), .long 0, .long (((S.1 56 19) - (1 : Int32) : Int32).toInt64)]) (rest := []) (y := some (.int q1.1)) (M' := gh_mo q1.2) rfl rfl rfl rfl rfl rfl rfl ⟨Nat.le_refl _, Nat.le_refl _⟩ (kX10_in (d + 2) N ((a1 : Int32).toInt64) 0 (((S.1 56 19) - (1 : Int32) : Int32).toInt64) S q1 hq1) ?_
  cases c8 : gh_cmp .eq q1.1 0 with
  | true =>
    rw [c8, cond_true] at h
    refine gh_T_if true rfl c8 ?_
    refine gh_T_steps 1 (τ := (27, [(0, .ref 56), (1, .int a1), (2, .int a2)], [.int ((-1))], (gh_mo q1.2, 0, 0))) (fun _ => rfl) ?_
    cases h
    exact gh_T_ret (fun _ => rfl)
  | false =>
    rw [c8, cond_false] at h
    refine gh_T_if false rfl c8 ?_
    refine gh_T_steps 4 (τ := (20, [(0, .ref 56), (1, .int a1), (2, .int a2)], [.long 1, .long 0, .long ((a2 : Int32).toInt64)], (gh_mo q1.2, 0, 0))) (fun _ => rfl) ?_
    obtain ⟨q2, hq2, h⟩ := gh_bi h
    refine gh_T_is (As := [.long ((a2 : Int32).toInt64), .long 0, .long 1]) (rest := []) (y := some (.int q2.1)) (M' := gh_mo q2.2) rfl rfl rfl rfl rfl rfl rfl ⟨Nat.le_refl _, Nat.le_refl _⟩ (kX10_in (d + 2) N ((a2 : Int32).toInt64) 0 1 q1.2 q2 hq2) ?_
    cases c7 : gh_cmp .ne q2.1 0 with
    | true =>
      rw [c7, cond_true] at h
      refine gh_T_if true rfl c7 ?_
      refine gh_T_steps 1 (τ := (29, [(0, .ref 56), (1, .int a1), (2, .int a2)], [.ref 56], (gh_mo q2.2, 0, 0))) (fun _ => rfl) ?_
      obtain ⟨q3, hq3, h⟩ := gh_bi h
      refine gh_T_iv (As := []) (b := 56) (rest := []) (y := some (.int q3.1)) (M' := gh_mo q3.2) rfl rfl rfl rfl rfl rfl rfl rfl rfl ⟨Nat.le_refl _, Nat.le_refl _⟩ (kX10_rush d N q2.2 q3 hq3) ?_
      refine gh_T_steps 2 (τ := (34, [(3, .int q3.1), (0, .ref 56), (1, .int a1), (2, .int a2)], [.int a2], (gh_mo q3.2, 0, 0))) (fun _ => rfl) ?_
      cases c6 : gh_cmp .ne a2 0 with
      | true =>
        rw [c6, cond_true] at h
        refine gh_T_if true rfl c6 ?_
        refine gh_T_steps 3 (τ := (49, [(3, .int q3.1), (0, .ref 56), (1, .int a1), (2, .int a2)], [.int 1, .int a1, .ref 56], (gh_mo q3.2, 0, 0))) (fun _ => rfl) ?_
        obtain ⟨q4, hq4, h⟩ := gh_bi h
        refine gh_T_iv (As := [.int a1, .int 1]) (b := 56) (rest := []) (y := some (.int q4.1)) (M' := gh_mo q4.2) rfl rfl rfl rfl rfl rfl rfl rfl rfl ⟨Nat.le_refl _, Nat.le_refl _⟩ (kX10_emptyAt (d + 2) N a1 1 q3.2 q4 hq4) ?_
        cases h
        exact gh_T_ret (fun _ => rfl)
      | false =>
        rw [c6, cond_false] at h
        refine gh_T_if false rfl c6 ?_
        refine gh_T_steps 3 (τ := (42, [(3, .int q3.1), (0, .ref 56), (1, .int a1), (2, .int a2)], [.int a1, .ref 86], (gh_mo q3.2, 0, 0))) (fun _ => rfl) ?_
        obtain ⟨x5, hx5, h⟩ := gh_bi h
        refine gh_T_ra rfl rfl hx5 ?_
        refine gh_T_steps 1 (τ := (52, [(3, .int q3.1), (0, .ref 56), (1, .int a1), (2, .int a2)], [.int x5], (gh_mo q3.2, 0, 0))) (fun _ => rfl) ?_
        cases h
        exact gh_T_ret (fun _ => rfl)
    | false =>
      rw [c7, cond_false] at h
      refine gh_T_if false rfl c7 ?_
      refine gh_T_steps 1 (τ := (27, [(0, .ref 56), (1, .int a1), (2, .int a2)], [.int ((-1))], (gh_mo q2.2, 0, 0))) (fun _ => rfl) ?_
      cases h
      exact gh_T_ret (fun _ => rfl)
theorem kX10_served (d N : Nat) (a1 : Int32) (a2 : Int32) (S : gh_St) (r : Int32 × gh_St) (h : sX10_served N a1 a2 S = some r) : gh_Mx (d + 4) 144 [.ref 56, .int a1, .int a2] (gh_mo S) (some (.int r.1)) (gh_mo r.2) :=
  gh_Mx_of rfl rfl rfl rfl rfl rfl (kX10_served_e d N a1 a2 S r h)
def sX2_addHour_74 (N : Nat) (kc20 : Int32 → Int32 → Int32 → gh_St → Option (Int32 × gh_St)) (l1 : Int32) (l2 : Int32) (l3 : Int32) (l4 : Int32) (S : gh_St) : Option (Int32 × gh_St) :=
  (sX2_reachFrom N l4 l1 S).bind fun q1 =>
  kc20 l1 l2 (l3 + 1) q1
set_option maxRecDepth 100000 in
theorem kX2_addHour_74 (d N : Nat) (kc20 : Int32 → Int32 → Int32 → gh_St → Option (Int32 × gh_St)) (hkc20 : ∀ (l1 : Int32) (l2 : Int32) (l3 : Int32) (S : gh_St) (r : Int32 × gh_St), kc20 l1 l2 l3 S = some r → gh_T (d + 3) fX2_addHour 0 0 none true false (20, [(0, .ref 26), (1, .int l1), (2, .int l2), (3, .int l3)], [], (gh_mo S, 0, 0)) (some (.int r.1), (gh_mo r.2, 0, 0))) (l1 : Int32) (l2 : Int32) (l3 : Int32) (l4 : Int32) (S : gh_St) (r : Int32 × gh_St) (h : sX2_addHour_74 N kc20 l1 l2 l3 l4 S = some r) : gh_T (d + 3) fX2_addHour 0 0 none true false (74, [(0, .ref 26), (1, .int l1), (2, .int l2), (3, .int l3), (4, .int l4)], [], (gh_mo S, 0, 0)) (some (.int r.1), (gh_mo r.2, 0, 0)) := by
  unfold sX2_addHour_74 at h
  refine gh_T_steps 3 (τ := (78, [(0, .ref 26), (1, .int l1), (2, .int l2), (3, .int l3), (4, .int l4)], [.int l1, .int l4, .ref 26], (gh_mo S, 0, 0))) (fun _ => rfl) ?_
  obtain ⟨q1, hq1, h⟩ := gh_bi h
  refine gh_T_iv (As := [.int l4, .int l1]) (b := 26) (rest := []) (y := none) (M' := gh_mo q1) rfl rfl rfl rfl rfl rfl rfl rfl rfl ⟨Nat.le_refl _, Nat.le_refl _⟩ (kX2_reachFrom d N l4 l1 S q1 hq1) ?_
  refine gh_T_steps 2 (τ := (20, [(3, .int (l3 + 1)), (0, .ref 26), (1, .int l1), (2, .int l2), (4, .int l4)], [], (gh_mo q1, 0, 0))) (fun _ => rfl) ?_
  refine gh_T_weak (lv := [(0, .ref 26), (1, .int l1), (2, .int l2), (3, .int (l3 + 1))]) ⟨rfl, rfl, rfl, rfl, trivial⟩ ?_
  exact hkc20 l1 l2 (l3 + 1) q1 _ h
def sX2_addHour_71 (N : Nat) (kc20 : Int32 → Int32 → Int32 → gh_St → Option (Int32 × gh_St)) (l1 : Int32) (l3 : Int32) (l4 : Int32) (S : gh_St) : Option (Int32 × gh_St) :=
  sX2_addHour_74 N kc20 l1 l4 l3 l4 S
set_option maxRecDepth 100000 in
theorem kX2_addHour_71 (d N : Nat) (kc20 : Int32 → Int32 → Int32 → gh_St → Option (Int32 × gh_St)) (hkc20 : ∀ (l1 : Int32) (l2 : Int32) (l3 : Int32) (S : gh_St) (r : Int32 × gh_St), kc20 l1 l2 l3 S = some r → gh_T (d + 3) fX2_addHour 0 0 none true false (20, [(0, .ref 26), (1, .int l1), (2, .int l2), (3, .int l3)], [], (gh_mo S, 0, 0)) (some (.int r.1), (gh_mo r.2, 0, 0))) (l1 : Int32) (l3 : Int32) (l4 : Int32) (S : gh_St) (r : Int32 × gh_St) (h : sX2_addHour_71 N kc20 l1 l3 l4 S = some r) : gh_T (d + 3) fX2_addHour 0 0 none true false (71, [(0, .ref 26), (1, .int l1), (3, .int l3), (4, .int l4)], [], (gh_mo S, 0, 0)) (some (.int r.1), (gh_mo r.2, 0, 0)) := by
  unfold sX2_addHour_71 at h
  refine gh_T_steps 2 (τ := (74, [(2, .int l4), (0, .ref 26), (1, .int l1), (3, .int l3), (4, .int l4)], [], (gh_mo S, 0, 0))) (fun _ => rfl) ?_
  refine gh_T_weak (lv := [(0, .ref 26), (1, .int l1), (2, .int l4), (3, .int l3), (4, .int l4)]) ⟨rfl, rfl, rfl, rfl, rfl, trivial⟩ ?_
  exact kX2_addHour_74 d N kc20 hkc20 l1 l4 l3 l4 S _ h
def sX2_addHour_20 (N : Nat) : Nat → Int32 → Int32 → Int32 → gh_St → Option (Int32 × gh_St)
  | 0, _, _, _, _ => none
  | n + 1, l1, l2, l3, S =>
    bif gh_cmp .ge l3 (S.1 26 11) then
      (bif gh_cmp .ne l2 ((-1)) then
        ((gh_ra S 32 12 l2).bind fun x1 =>
        (gh_wa S 32 12 l2 (x1 + (1 : Int32))).bind fun S2 =>
        (sX2_shift N l2 S2).bind fun q3 =>
        some (1, q3))
      else
        (some (0, S)))
    else
      ((gh_ra S 33 12 l3).bind fun x5 =>
      (gh_ra S 32 12 x5).bind fun x6 =>
      bif gh_cmp .ge x6 (S.1 26 10) then
        (sX2_addHour_74 N (sX2_addHour_20 N n) l1 l2 l3 x5 S)
      else
        (bif gh_cmp .eq l2 ((-1)) then
          (sX2_addHour_71 N (sX2_addHour_20 N n) l1 l3 x5 S)
        else
          ((gh_ra S 28 12 x5).bind fun x7 =>
          (gh_ra S 28 12 l2).bind fun x8 =>
          bif gh_cmp .ge x7 x8 then
            (sX2_addHour_74 N (sX2_addHour_20 N n) l1 l2 l3 x5 S)
          else
            (sX2_addHour_71 N (sX2_addHour_20 N n) l1 l3 x5 S))))
set_option maxRecDepth 100000 in
theorem kX2_addHour_20 (d N : Nat) : ∀ (n : Nat) (l1 : Int32) (l2 : Int32) (l3 : Int32) (S : gh_St) (r : Int32 × gh_St), sX2_addHour_20 N n l1 l2 l3 S = some r → gh_T (d + 3) fX2_addHour 0 0 none true false (20, [(0, .ref 26), (1, .int l1), (2, .int l2), (3, .int l3)], [], (gh_mo S, 0, 0)) (some (.int r.1), (gh_mo r.2, 0, 0)) := by
  intro n
  induction n with
  | zero =>
    intro l1 l2 l3 S r h
    cases h
  | succ n ih =>
    intro l1 l2 l3 S r h
    rw [sX2_addHour_20] at h
    refine gh_T_steps 3 (τ := (25, [(0, .ref 26), (1, .int l1), (2, .int l2), (3, .int l3)], [.int (S.1 26 11), .int l3], (gh_mo S, 0, 0))) (fun _ => rfl) ?_
    cases c12 : gh_cmp .ge l3 (S.1 26 11) with
    | true =>
      rw [c12, cond_true] at h
      refine gh_T_ic true rfl c12 ?_
      refine gh_T_steps 2 (τ := (89, [(0, .ref 26), (1, .int l1), (2, .int l2), (3, .int l3)], [.int ((-1)), .int l2], (gh_mo S, 0, 0))) (fun _ => rfl) ?_
      cases c4 : gh_cmp .ne l2 ((-1)) with
      | true =>
        rw [c4, cond_true] at h
        refine gh_T_ic true rfl c4 ?_
        refine gh_T_steps 4 (τ := (100, [(0, .ref 26), (1, .int l1), (2, .int l2), (3, .int l3)], [.int l2, .ref 32, .int l2, .ref 32], (gh_mo S, 0, 0))) (fun _ => rfl) ?_
        obtain ⟨x1, hx1, h⟩ := gh_bi h
        refine gh_T_ra rfl rfl hx1 ?_
        refine gh_T_steps 2 (τ := (103, [(0, .ref 26), (1, .int l1), (2, .int l2), (3, .int l3)], [.int (x1 + (1 : Int32)), .int l2, .ref 32], (gh_mo S, 0, 0))) (fun _ => rfl) ?_
        obtain ⟨S2, hS2, h⟩ := gh_bi h
        refine gh_T_wa rfl rfl hS2 ?_
        refine gh_T_steps 2 (τ := (106, [(0, .ref 26), (1, .int l1), (2, .int l2), (3, .int l3)], [.int l2, .ref 26], (gh_mo S2, 0, 0))) (fun _ => rfl) ?_
        obtain ⟨q3, hq3, h⟩ := gh_bi h
        refine gh_T_iv (As := [.int l2]) (b := 26) (rest := []) (y := none) (M' := gh_mo q3) rfl rfl rfl rfl rfl rfl rfl rfl rfl ⟨Nat.le_refl _, Nat.le_refl _⟩ (kX2_shift (d + 2) N l2 S2 q3 hq3) ?_
        refine gh_T_steps 1 (τ := (110, [(0, .ref 26), (1, .int l1), (2, .int l2), (3, .int l3)], [.int 1], (gh_mo q3, 0, 0))) (fun _ => rfl) ?_
        cases h
        exact gh_T_ret (fun _ => rfl)
      | false =>
        rw [c4, cond_false] at h
        refine gh_T_ic false rfl c4 ?_
        refine gh_T_steps 1 (τ := (93, [(0, .ref 26), (1, .int l1), (2, .int l2), (3, .int l3)], [.int 0], (gh_mo S, 0, 0))) (fun _ => rfl) ?_
        cases h
        exact gh_T_ret (fun _ => rfl)
    | false =>
      rw [c12, cond_false] at h
      refine gh_T_ic false rfl c12 ?_
      refine gh_T_steps 3 (τ := (33, [(0, .ref 26), (1, .int l1), (2, .int l2), (3, .int l3)], [.int l3, .ref 33], (gh_mo S, 0, 0))) (fun _ => rfl) ?_
      obtain ⟨x5, hx5, h⟩ := gh_bi h
      refine gh_T_ra rfl rfl hx5 ?_
      refine gh_T_steps 4 (τ := (42, [(4, .int x5), (0, .ref 26), (1, .int l1), (2, .int l2), (3, .int l3)], [.int x5, .ref 32], (gh_mo S, 0, 0))) (fun _ => rfl) ?_
      obtain ⟨x6, hx6, h⟩ := gh_bi h
      refine gh_T_ra rfl rfl hx6 ?_
      refine gh_T_steps 2 (τ := (47, [(4, .int x5), (0, .ref 26), (1, .int l1), (2, .int l2), (3, .int l3)], [.int (S.1 26 10), .int x6], (gh_mo S, 0, 0))) (fun _ => rfl) ?_
      cases c11 : gh_cmp .ge x6 (S.1 26 10) with
      | true =>
        rw [c11, cond_true] at h
        refine gh_T_ic true rfl c11 ?_
        refine gh_T_weak (lv := [(0, .ref 26), (1, .int l1), (2, .int l2), (3, .int l3), (4, .int x5)]) ⟨rfl, rfl, rfl, rfl, rfl, trivial⟩ ?_
        exact kX2_addHour_74 d N (sX2_addHour_20 N n) ih l1 l2 l3 x5 S _ h
      | false =>
        rw [c11, cond_false] at h
        refine gh_T_ic false rfl c11 ?_
        refine gh_T_steps 2 (τ := (52, [(4, .int x5), (0, .ref 26), (1, .int l1), (2, .int l2), (3, .int l3)], [.int ((-1)), .int l2], (gh_mo S, 0, 0))) (fun _ => rfl) ?_
        cases c10 : gh_cmp .eq l2 ((-1)) with
        | true =>
          rw [c10, cond_true] at h
          refine gh_T_ic true rfl c10 ?_
          refine gh_T_weak (lv := [(0, .ref 26), (1, .int l1), (3, .int l3), (4, .int x5)]) ⟨rfl, rfl, rfl, rfl, trivial⟩ ?_
          exact kX2_addHour_71 d N (sX2_addHour_20 N n) ih l1 l3 x5 S _ h
        | false =>
          rw [c10, cond_false] at h
          refine gh_T_ic false rfl c10 ?_
          refine gh_T_steps 3 (τ := (61, [(4, .int x5), (0, .ref 26), (1, .int l1), (2, .int l2), (3, .int l3)], [.int x5, .ref 28], (gh_mo S, 0, 0))) (fun _ => rfl) ?_
          obtain ⟨x7, hx7, h⟩ := gh_bi h
          refine gh_T_ra rfl rfl hx7 ?_
          refine gh_T_steps 3 (τ := (67, [(4, .int x5), (0, .ref 26), (1, .int l1), (2, .int l2), (3, .int l3)], [.int l2, .ref 28, .int x7], (gh_mo S, 0, 0))) (fun _ => rfl) ?_
          obtain ⟨x8, hx8, h⟩ := gh_bi h
          refine gh_T_ra rfl rfl hx8 ?_
          cases c9 : gh_cmp .ge x7 x8 with
          | true =>
            rw [c9, cond_true] at h
            refine gh_T_ic true rfl c9 ?_
            refine gh_T_weak (lv := [(0, .ref 26), (1, .int l1), (2, .int l2), (3, .int l3), (4, .int x5)]) ⟨rfl, rfl, rfl, rfl, rfl, trivial⟩ ?_
            exact kX2_addHour_74 d N (sX2_addHour_20 N n) ih l1 l2 l3 x5 S _ h
          | false =>
            rw [c9, cond_false] at h
            refine gh_T_ic false rfl c9 ?_
            refine gh_T_weak (lv := [(0, .ref 26), (1, .int l1), (3, .int l3), (4, .int x5)]) ⟨rfl, rfl, rfl, rfl, trivial⟩ ?_
            exact kX2_addHour_71 d N (sX2_addHour_20 N n) ih l1 l3 x5 S _ h
def sX2_addHour (N : Nat) (a1 : Int32) (S : gh_St) : Option (Int32 × gh_St) :=
  (sX2_reachBy N a1 ((-1)) (gh_fI (gh_fI S 26 11 0) 26 12 0)).bind fun q1 =>
  sX2_addHour_20 N N a1 ((-1)) 0 q1
set_option maxRecDepth 100000 in
theorem kX2_addHour_e (d N : Nat) (a1 : Int32) (S : gh_St) (r : Int32 × gh_St) (h : sX2_addHour N a1 S = some r) : gh_T (d + 3) fX2_addHour 0 0 none true false (0, [(0, .ref 26), (1, .int a1)], [], (gh_mo S, 0, 0)) (some (.int r.1), (gh_mo r.2, 0, 0)) := by
  unfold sX2_addHour at h
  refine gh_T_steps 9 (τ := (13, [(0, .ref 26), (1, .int a1)], [.int ((-1)), .int a1, .ref 26], (gh_mo (gh_fI (gh_fI S 26 11 0) 26 12 0), 0, 0))) (fun _ => rfl) ?_
  obtain ⟨q1, hq1, h⟩ := gh_bi h
  refine gh_T_iv (As := [.int a1, .int ((-1))]) (b := 26) (rest := []) (y := none) (M' := gh_mo q1) rfl rfl rfl rfl rfl rfl rfl rfl rfl ⟨Nat.le_refl _, Nat.le_refl _⟩ (kX2_reachBy (d + 1) N a1 ((-1)) (gh_fI (gh_fI S 26 11 0) 26 12 0) q1 hq1) ?_
  refine gh_T_steps 4 (τ := (20, [(3, .int 0), (2, .int ((-1))), (0, .ref 26), (1, .int a1)], [], (gh_mo q1, 0, 0))) (fun _ => rfl) ?_
  refine gh_T_weak (lv := [(0, .ref 26), (1, .int a1), (2, .int ((-1))), (3, .int 0)]) ⟨rfl, rfl, rfl, rfl, trivial⟩ ?_
  exact kX2_addHour_20 d N N a1 ((-1)) 0 q1 _ h
theorem kX2_addHour (d N : Nat) (a1 : Int32) (S : gh_St) (r : Int32 × gh_St) (h : sX2_addHour N a1 S = some r) : gh_Mx (d + 4) 21 [.ref 26, .int a1] (gh_mo S) (some (.int r.1)) (gh_mo r.2) :=
  gh_Mx_of rfl rfl rfl rfl rfl rfl (kX2_addHour_e d N a1 S r h)
def sX2_makeFirst_70 (N : Nat) (kc2 : Int32 → gh_St → Option (gh_St)) (kc10 : Int32 → Int32 → gh_St → Option (gh_St)) (l1 : Int32) (l2 : Int32) (S : gh_St) : Option (gh_St) :=
  (gh_ra S 31 8 l1).bind fun x1 =>
  (gh_wa S 31 8 l1 (x1 &&& (((1 : Int32) <<< (l2 &&& 31)) ^^^ (-1 : Int32)))).bind fun S2 =>
  kc10 l1 (l2 + 1) S2
set_option maxRecDepth 100000 in
theorem kX2_makeFirst_70 (d N : Nat) (kc2 : Int32 → gh_St → Option (gh_St)) (hkc2 : ∀ (l1 : Int32) (S : gh_St) (r : gh_St), kc2 l1 S = some r → gh_T (d + 4) fX2_makeFirst 0 0 none false false (2, [(0, .ref 26), (1, .int l1)], [], (gh_mo S, 0, 0)) (none, (gh_mo r, 0, 0))) (kc10 : Int32 → Int32 → gh_St → Option (gh_St)) (hkc10 : ∀ (l1 : Int32) (l2 : Int32) (S : gh_St) (r : gh_St), kc10 l1 l2 S = some r → gh_T (d + 4) fX2_makeFirst 0 0 none false false (10, [(0, .ref 26), (1, .int l1), (2, .int l2)], [], (gh_mo S, 0, 0)) (none, (gh_mo r, 0, 0))) (l1 : Int32) (l2 : Int32) (S : gh_St) (r : gh_St) (h : sX2_makeFirst_70 N kc2 kc10 l1 l2 S = some r) : gh_T (d + 4) fX2_makeFirst 0 0 none false false (70, [(0, .ref 26), (1, .int l1), (2, .int l2)], [], (gh_mo S, 0, 0)) (none, (gh_mo r, 0, 0)) := by
  unfold sX2_makeFirst_70 at h
  refine gh_T_steps 4 (τ := (76, [(0, .ref 26), (1, .int l1), (2, .int l2)], [.int l1, .ref 31, .int l1, .ref 31], (gh_mo S, 0, 0))) (fun _ => rfl) ?_
  obtain ⟨x1, hx1, h⟩ := gh_bi h
  refine gh_T_ra rfl rfl hx1 ?_
  refine gh_T_steps 6 (τ := (83, [(0, .ref 26), (1, .int l1), (2, .int l2)], [.int (x1 &&& (((1 : Int32) <<< (l2 &&& 31)) ^^^ (-1 : Int32))), .int l1, .ref 31], (gh_mo S, 0, 0))) (fun _ => rfl) ?_
  obtain ⟨S2, hS2, h⟩ := gh_bi h
  refine gh_T_wa rfl rfl hS2 ?_
  refine gh_T_steps 2 (τ := (10, [(2, .int (l2 + 1)), (0, .ref 26), (1, .int l1)], [], (gh_mo S2, 0, 0))) (fun _ => rfl) ?_
  refine gh_T_weak (lv := [(0, .ref 26), (1, .int l1), (2, .int (l2 + 1))]) ⟨rfl, rfl, rfl, trivial⟩ ?_
  exact hkc10 l1 (l2 + 1) S2 _ h
def sX2_makeFirst_43 (N : Nat) (kc2 : Int32 → gh_St → Option (gh_St)) (kc10 : Int32 → Int32 → gh_St → Option (gh_St)) (l1 : Int32) (l2 : Int32) (t0 : Int32) (S : gh_St) : Option (gh_St) :=
  bif gh_cmp .eq t0 0 then
    (sX2_makeFirst_70 N kc2 kc10 l1 l2 S)
  else
    ((gh_ra S 31 8 l1).bind fun x1 =>
    (gh_ra S 36 8 l1).bind fun x2 =>
    bif gh_cmp .eq (x1 &&& x2) 0 then
      (sX2_makeFirst_70 N kc2 kc10 l1 l2 S)
    else
      ((sX2_exchange N l1 l2 S).bind fun q3 =>
      sX2_makeFirst_70 N kc2 kc10 l1 l2 q3))
set_option maxRecDepth 100000 in
theorem kX2_makeFirst_43 (d N : Nat) (kc2 : Int32 → gh_St → Option (gh_St)) (hkc2 : ∀ (l1 : Int32) (S : gh_St) (r : gh_St), kc2 l1 S = some r → gh_T (d + 4) fX2_makeFirst 0 0 none false false (2, [(0, .ref 26), (1, .int l1)], [], (gh_mo S, 0, 0)) (none, (gh_mo r, 0, 0))) (kc10 : Int32 → Int32 → gh_St → Option (gh_St)) (hkc10 : ∀ (l1 : Int32) (l2 : Int32) (S : gh_St) (r : gh_St), kc10 l1 l2 S = some r → gh_T (d + 4) fX2_makeFirst 0 0 none false false (10, [(0, .ref 26), (1, .int l1), (2, .int l2)], [], (gh_mo S, 0, 0)) (none, (gh_mo r, 0, 0))) (l1 : Int32) (l2 : Int32) (t0 : Int32) (S : gh_St) (r : gh_St) (h : sX2_makeFirst_43 N kc2 kc10 l1 l2 t0 S = some r) : gh_T (d + 4) fX2_makeFirst 0 0 none false false (43, [(0, .ref 26), (1, .int l1), (2, .int l2)], [.int t0], (gh_mo S, 0, 0)) (none, (gh_mo r, 0, 0)) := by
  unfold sX2_makeFirst_43 at h
  refine gh_T_steps 2 (τ := (45, [(3, .int t0), (0, .ref 26), (1, .int l1), (2, .int l2)], [.int t0], (gh_mo S, 0, 0))) (fun _ => rfl) ?_
  cases c5 : gh_cmp .eq t0 0 with
  | true =>
    rw [c5, cond_true] at h
    refine gh_T_if true rfl c5 ?_
    refine gh_T_weak (lv := [(0, .ref 26), (1, .int l1), (2, .int l2)]) ⟨rfl, rfl, rfl, trivial⟩ ?_
    exact kX2_makeFirst_70 d N kc2 hkc2 kc10 hkc10 l1 l2 S _ h
  | false =>
    rw [c5, cond_false] at h
    refine gh_T_if false rfl c5 ?_
    refine gh_T_steps 3 (τ := (53, [(3, .int t0), (0, .ref 26), (1, .int l1), (2, .int l2)], [.int l1, .ref 31], (gh_mo S, 0, 0))) (fun _ => rfl) ?_
    obtain ⟨x1, hx1, h⟩ := gh_bi h
    refine gh_T_ra rfl rfl hx1 ?_
    refine gh_T_steps 3 (τ := (59, [(3, .int t0), (0, .ref 26), (1, .int l1), (2, .int l2)], [.int l1, .ref 36, .int x1], (gh_mo S, 0, 0))) (fun _ => rfl) ?_
    obtain ⟨x2, hx2, h⟩ := gh_bi h
    refine gh_T_ra rfl rfl hx2 ?_
    refine gh_T_steps 1 (τ := (61, [(3, .int t0), (0, .ref 26), (1, .int l1), (2, .int l2)], [.int (x1 &&& x2)], (gh_mo S, 0, 0))) (fun _ => rfl) ?_
    cases c4 : gh_cmp .eq (x1 &&& x2) 0 with
    | true =>
      rw [c4, cond_true] at h
      refine gh_T_if true rfl c4 ?_
      refine gh_T_weak (lv := [(0, .ref 26), (1, .int l1), (2, .int l2)]) ⟨rfl, rfl, rfl, trivial⟩ ?_
      exact kX2_makeFirst_70 d N kc2 hkc2 kc10 hkc10 l1 l2 S _ h
    | false =>
      rw [c4, cond_false] at h
      refine gh_T_if false rfl c4 ?_
      refine gh_T_steps 3 (τ := (67, [(3, .int t0), (0, .ref 26), (1, .int l1), (2, .int l2)], [.int l2, .int l1, .ref 26], (gh_mo S, 0, 0))) (fun _ => rfl) ?_
      obtain ⟨q3, hq3, h⟩ := gh_bi h
      refine gh_T_iv (As := [.int l1, .int l2]) (b := 26) (rest := []) (y := none) (M' := gh_mo q3) rfl rfl rfl rfl rfl rfl rfl rfl rfl ⟨Nat.le_refl _, Nat.le_refl _⟩ (kX2_exchange d N l1 l2 S q3 hq3) ?_
      refine gh_T_weak (lv := [(0, .ref 26), (1, .int l1), (2, .int l2)]) ⟨rfl, rfl, rfl, trivial⟩ ?_
      exact kX2_makeFirst_70 d N kc2 hkc2 kc10 hkc10 l1 l2 q3 _ h
def sX2_makeFirst_10 (N : Nat) (kc2 : Int32 → gh_St → Option (gh_St)) : Nat → Int32 → Int32 → gh_St → Option (gh_St)
  | 0, _, _, _ => none
  | n + 1, l1, l2, S =>
    bif gh_cmp .ge l2 12 then
      (kc2 (l1 + 1) S)
    else
      ((gh_ra S 31 8 l1).bind fun x1 =>
      (gh_ra S 36 8 l1).bind fun x2 =>
      bif gh_cmp .eq ((x1 &&& (x2 ^^^ (-1 : Int32))) &&& ((1 : Int32) <<< (l2 &&& 31))) 0 then
        (sX2_makeFirst_43 N kc2 (sX2_makeFirst_10 N kc2 n) l1 l2 0 S)
      else
        (sX2_makeFirst_43 N kc2 (sX2_makeFirst_10 N kc2 n) l1 l2 1 S))
set_option maxRecDepth 100000 in
theorem kX2_makeFirst_10 (d N : Nat) (kc2 : Int32 → gh_St → Option (gh_St)) (hkc2 : ∀ (l1 : Int32) (S : gh_St) (r : gh_St), kc2 l1 S = some r → gh_T (d + 4) fX2_makeFirst 0 0 none false false (2, [(0, .ref 26), (1, .int l1)], [], (gh_mo S, 0, 0)) (none, (gh_mo r, 0, 0))) : ∀ (n : Nat) (l1 : Int32) (l2 : Int32) (S : gh_St) (r : gh_St), sX2_makeFirst_10 N kc2 n l1 l2 S = some r → gh_T (d + 4) fX2_makeFirst 0 0 none false false (10, [(0, .ref 26), (1, .int l1), (2, .int l2)], [], (gh_mo S, 0, 0)) (none, (gh_mo r, 0, 0)) := by
  intro n
  induction n with
  | zero =>
    intro l1 l2 S r h
    cases h
  | succ n ih =>
    intro l1 l2 S r h
    rw [sX2_makeFirst_10] at h
    refine gh_T_steps 2 (τ := (13, [(0, .ref 26), (1, .int l1), (2, .int l2)], [.int 12, .int l2], (gh_mo S, 0, 0))) (fun _ => rfl) ?_
    cases c4 : gh_cmp .ge l2 12 with
    | true =>
      rw [c4, cond_true] at h
      refine gh_T_ic true rfl c4 ?_
      refine gh_T_steps 2 (τ := (2, [(1, .int (l1 + 1)), (0, .ref 26), (2, .int l2)], [], (gh_mo S, 0, 0))) (fun _ => rfl) ?_
      refine gh_T_weak (lv := [(0, .ref 26), (1, .int (l1 + 1))]) ⟨rfl, rfl, trivial⟩ ?_
      exact hkc2 (l1 + 1) S _ h
    | false =>
      rw [c4, cond_false] at h
      refine gh_T_ic false rfl c4 ?_
      refine gh_T_steps 3 (τ := (21, [(0, .ref 26), (1, .int l1), (2, .int l2)], [.int l1, .ref 31], (gh_mo S, 0, 0))) (fun _ => rfl) ?_
      obtain ⟨x1, hx1, h⟩ := gh_bi h
      refine gh_T_ra rfl rfl hx1 ?_
      refine gh_T_steps 3 (τ := (27, [(0, .ref 26), (1, .int l1), (2, .int l2)], [.int l1, .ref 36, .int x1], (gh_mo S, 0, 0))) (fun _ => rfl) ?_
      obtain ⟨x2, hx2, h⟩ := gh_bi h
      refine gh_T_ra rfl rfl hx2 ?_
      refine gh_T_steps 7 (τ := (35, [(0, .ref 26), (1, .int l1), (2, .int l2)], [.int ((x1 &&& (x2 ^^^ (-1 : Int32))) &&& ((1 : Int32) <<< (l2 &&& 31)))], (gh_mo S, 0, 0))) (fun _ => rfl) ?_
      cases c3 : gh_cmp .eq ((x1 &&& (x2 ^^^ (-1 : Int32))) &&& ((1 : Int32) <<< (l2 &&& 31))) 0 with
      | true =>
        rw [c3, cond_true] at h
        refine gh_T_if true rfl c3 ?_
        refine gh_T_steps 1 (τ := (43, [(0, .ref 26), (1, .int l1), (2, .int l2)], [.int 0], (gh_mo S, 0, 0))) (fun _ => rfl) ?_
        exact kX2_makeFirst_43 d N kc2 hkc2 (sX2_makeFirst_10 N kc2 n) ih l1 l2 0 S _ h
      | false =>
        rw [c3, cond_false] at h
        refine gh_T_if false rfl c3 ?_
        refine gh_T_steps 2 (τ := (43, [(0, .ref 26), (1, .int l1), (2, .int l2)], [.int 1], (gh_mo S, 0, 0))) (fun _ => rfl) ?_
        exact kX2_makeFirst_43 d N kc2 hkc2 (sX2_makeFirst_10 N kc2 n) ih l1 l2 1 S _ h
def sX2_makeFirst_2 (N : Nat) : Nat → Int32 → gh_St → Option (gh_St)
  | 0, _, _ => none
  | n + 1, l1, S =>
    bif gh_cmp .ge l1 8 then
      (some S)
    else
      (sX2_makeFirst_10 N (sX2_makeFirst_2 N n) N l1 0 S)
set_option maxRecDepth 100000 in
theorem kX2_makeFirst_2 (d N : Nat) : ∀ (n : Nat) (l1 : Int32) (S : gh_St) (r : gh_St), sX2_makeFirst_2 N n l1 S = some r → gh_T (d + 4) fX2_makeFirst 0 0 none false false (2, [(0, .ref 26), (1, .int l1)], [], (gh_mo S, 0, 0)) (none, (gh_mo r, 0, 0)) := by
  intro n
  induction n with
  | zero =>
    intro l1 S r h
    cases h
  | succ n ih =>
    intro l1 S r h
    rw [sX2_makeFirst_2] at h
    refine gh_T_steps 2 (τ := (5, [(0, .ref 26), (1, .int l1)], [.int 8, .int l1], (gh_mo S, 0, 0))) (fun _ => rfl) ?_
    cases c1 : gh_cmp .ge l1 8 with
    | true =>
      rw [c1, cond_true] at h
      refine gh_T_ic true rfl c1 ?_
      cases h
      exact gh_T_ret (fun _ => rfl)
    | false =>
      rw [c1, cond_false] at h
      refine gh_T_ic false rfl c1 ?_
      refine gh_T_steps 2 (τ := (10, [(2, .int 0), (0, .ref 26), (1, .int l1)], [], (gh_mo S, 0, 0))) (fun _ => rfl) ?_
      refine gh_T_weak (lv := [(0, .ref 26), (1, .int l1), (2, .int 0)]) ⟨rfl, rfl, rfl, trivial⟩ ?_
      exact kX2_makeFirst_10 d N (sX2_makeFirst_2 N n) ih N l1 0 S _ h
def sX2_makeFirst (N : Nat) (S : gh_St) : Option (gh_St) :=
  sX2_makeFirst_2 N N 0 S
set_option maxRecDepth 100000 in
theorem kX2_makeFirst_e (d N : Nat) (S : gh_St) (r : gh_St) (h : sX2_makeFirst N S = some r) : gh_T (d + 4) fX2_makeFirst 0 0 none false false (0, [(0, .ref 26)], [], (gh_mo S, 0, 0)) (none, (gh_mo r, 0, 0)) := by
  unfold sX2_makeFirst at h
  refine gh_T_steps 2 (τ := (2, [(1, .int 0), (0, .ref 26)], [], (gh_mo S, 0, 0))) (fun _ => rfl) ?_
  refine gh_T_weak (lv := [(0, .ref 26), (1, .int 0)]) ⟨rfl, rfl, trivial⟩ ?_
  exact kX2_makeFirst_2 d N N 0 S _ h
theorem kX2_makeFirst (d N : Nat) (S : gh_St) (r : gh_St) (h : sX2_makeFirst N S = some r) : gh_Mx (d + 5) 26 [.ref 26] (gh_mo S) none (gh_mo r) :=
  gh_Mx_of rfl rfl rfl rfl rfl rfl (kX2_makeFirst_e d N S r h)
def sX4_find_126 (N : Nat) (kc75 : Int32 → Int32 → Int32 → Int32 → gh_St → Option (Int32 × gh_St)) (l1 : Int32) (l2 : Int32) (l4 : Int32) (l5 : Int32) (S : gh_St) : Option (Int32 × gh_St) :=
  kc75 l1 l2 l4 (l5 + 1) S
set_option maxRecDepth 100000 in
theorem kX4_find_126 (d N : Nat) (kc75 : Int32 → Int32 → Int32 → Int32 → gh_St → Option (Int32 × gh_St)) (hkc75 : ∀ (l1 : Int32) (l2 : Int32) (l4 : Int32) (l5 : Int32) (S : gh_St) (r : Int32 × gh_St), kc75 l1 l2 l4 l5 S = some r → gh_T (d + 3) fX4_find 0 0 none false false (75, [(0, .ref 11), (1, .int l1), (2, .int l2), (4, .int l4), (5, .int l5)], [], (gh_mo S, 0, 0)) (some (.int r.1), (gh_mo r.2, 0, 0))) (l1 : Int32) (l2 : Int32) (l4 : Int32) (l5 : Int32) (S : gh_St) (r : Int32 × gh_St) (h : sX4_find_126 N kc75 l1 l2 l4 l5 S = some r) : gh_T (d + 3) fX4_find 0 0 none false false (126, [(0, .ref 11), (1, .int l1), (2, .int l2), (4, .int l4), (5, .int l5)], [], (gh_mo S, 0, 0)) (some (.int r.1), (gh_mo r.2, 0, 0)) := by
  unfold sX4_find_126 at h
  refine gh_T_steps 2 (τ := (75, [(5, .int (l5 + 1)), (0, .ref 11), (1, .int l1), (2, .int l2), (4, .int l4)], [], (gh_mo S, 0, 0))) (fun _ => rfl) ?_
  refine gh_T_weak (lv := [(0, .ref 11), (1, .int l1), (2, .int l2), (4, .int l4), (5, .int (l5 + 1))]) ⟨rfl, rfl, rfl, rfl, rfl, trivial⟩ ?_
  exact hkc75 l1 l2 l4 (l5 + 1) S _ h
def sX4_find_75 (N : Nat) : Nat → Int32 → Int32 → Int32 → Int32 → gh_St → Option (Int32 × gh_St)
  | 0, _, _, _, _, _ => none
  | n + 1, l1, l2, l4, l5, S =>
    bif gh_cmp .gt l5 5 then
      (bif gh_cmp .ne (S.1 11 6) 0 then
        ((sX4_trace N l1 l2 S).bind fun q1 =>
        some (l4, q1))
      else
        (some ((-1), S)))
    else
      ((sX4_spread N l1 l2 l5 S).bind fun q3 =>
      (gh_ra q3 16 72 ((l5 * (12 : Int32)) + l2)).bind fun x4 =>
      bif gh_cmp .ge x4 l4 then
        (sX4_find_126 N (sX4_find_75 N n) l1 l2 l4 l5 q3)
      else
        ((gh_ra q3 16 72 ((l5 * (12 : Int32)) + l2)).bind fun x5 =>
        sX4_find_126 N (sX4_find_75 N n) l1 l2 x5 l5 (gh_fI q3 11 6 l5)))
set_option maxRecDepth 100000 in
theorem kX4_find_75 (d N : Nat) : ∀ (n : Nat) (l1 : Int32) (l2 : Int32) (l4 : Int32) (l5 : Int32) (S : gh_St) (r : Int32 × gh_St), sX4_find_75 N n l1 l2 l4 l5 S = some r → gh_T (d + 3) fX4_find 0 0 none false false (75, [(0, .ref 11), (1, .int l1), (2, .int l2), (4, .int l4), (5, .int l5)], [], (gh_mo S, 0, 0)) (some (.int r.1), (gh_mo r.2, 0, 0)) := by
  intro n
  induction n with
  | zero =>
    intro l1 l2 l4 l5 S r h
    cases h
  | succ n ih =>
    intro l1 l2 l4 l5 S r h
    rw [sX4_find_75] at h
    refine gh_T_steps 2 (τ := (78, [(0, .ref 11), (1, .int l1), (2, .int l2), (4, .int l4), (5, .int l5)], [.int 5, .int l5], (gh_mo S, 0, 0))) (fun _ => rfl) ?_
    cases c7 : gh_cmp .gt l5 5 with
    | true =>
      rw [c7, cond_true] at h
      refine gh_T_ic true rfl c7 ?_
      refine gh_T_steps 2 (τ := (136, [(0, .ref 11), (1, .int l1), (2, .int l2), (4, .int l4), (5, .int l5)], [.int (S.1 11 6)], (gh_mo S, 0, 0))) (fun _ => rfl) ?_
      cases c2 : gh_cmp .ne (S.1 11 6) 0 with
      | true =>
        rw [c2, cond_true] at h
        refine gh_T_if true rfl c2 ?_
        refine gh_T_steps 3 (τ := (144, [(0, .ref 11), (1, .int l1), (2, .int l2), (4, .int l4), (5, .int l5)], [.int l2, .int l1, .ref 11], (gh_mo S, 0, 0))) (fun _ => rfl) ?_
        obtain ⟨q1, hq1, h⟩ := gh_bi h
        refine gh_T_iv (As := [.int l1, .int l2]) (b := 11) (rest := []) (y := none) (M' := gh_mo q1) rfl rfl rfl rfl rfl rfl rfl rfl rfl ⟨Nat.le_refl _, Nat.le_refl _⟩ (kX4_trace d N l1 l2 S q1 hq1) ?_
        refine gh_T_steps 1 (τ := (149, [(0, .ref 11), (1, .int l1), (2, .int l2), (4, .int l4), (5, .int l5)], [.int l4], (gh_mo q1, 0, 0))) (fun _ => rfl) ?_
        cases h
        exact gh_T_ret (fun _ => rfl)
      | false =>
        rw [c2, cond_false] at h
        refine gh_T_if false rfl c2 ?_
        refine gh_T_steps 1 (τ := (140, [(0, .ref 11), (1, .int l1), (2, .int l2), (4, .int l4), (5, .int l5)], [.int ((-1))], (gh_mo S, 0, 0))) (fun _ => rfl) ?_
        cases h
        exact gh_T_ret (fun _ => rfl)
    | false =>
      rw [c7, cond_false] at h
      refine gh_T_ic false rfl c7 ?_
      refine gh_T_steps 4 (τ := (86, [(0, .ref 11), (1, .int l1), (2, .int l2), (4, .int l4), (5, .int l5)], [.int l5, .int l2, .int l1, .ref 11], (gh_mo S, 0, 0))) (fun _ => rfl) ?_
      obtain ⟨q3, hq3, h⟩ := gh_bi h
      refine gh_T_iv (As := [.int l1, .int l2, .int l5]) (b := 11) (rest := []) (y := none) (M' := gh_mo q3) rfl rfl rfl rfl rfl rfl rfl rfl rfl ⟨Nat.le_refl _, Nat.le_refl _⟩ (kX4_spread (d + 1) N l1 l2 l5 S q3 hq3) ?_
      refine gh_T_steps 7 (τ := (100, [(0, .ref 11), (1, .int l1), (2, .int l2), (4, .int l4), (5, .int l5)], [.int ((l5 * (12 : Int32)) + l2), .ref 16], (gh_mo q3, 0, 0))) (fun _ => rfl) ?_
      obtain ⟨x4, hx4, h⟩ := gh_bi h
      refine gh_T_ra rfl rfl hx4 ?_
      refine gh_T_steps 1 (τ := (103, [(0, .ref 11), (1, .int l1), (2, .int l2), (4, .int l4), (5, .int l5)], [.int l4, .int x4], (gh_mo q3, 0, 0))) (fun _ => rfl) ?_
      cases c6 : gh_cmp .ge x4 l4 with
      | true =>
        rw [c6, cond_true] at h
        refine gh_T_ic true rfl c6 ?_
        exact kX4_find_126 d N (sX4_find_75 N n) ih l1 l2 l4 l5 q3 _ h
      | false =>
        rw [c6, cond_false] at h
        refine gh_T_ic false rfl c6 ?_
        refine gh_T_steps 7 (τ := (117, [(0, .ref 11), (1, .int l1), (2, .int l2), (4, .int l4), (5, .int l5)], [.int ((l5 * (12 : Int32)) + l2), .ref 16], (gh_mo q3, 0, 0))) (fun _ => rfl) ?_
        obtain ⟨x5, hx5, h⟩ := gh_bi h
        refine gh_T_ra rfl rfl hx5 ?_
        refine gh_T_steps 4 (τ := (126, [(4, .int x5), (0, .ref 11), (1, .int l1), (2, .int l2), (5, .int l5)], [], (gh_mo (gh_fI q3 11 6 l5), 0, 0))) (fun _ => rfl) ?_
        refine gh_T_weak (lv := [(0, .ref 11), (1, .int l1), (2, .int l2), (4, .int x5), (5, .int l5)]) ⟨rfl, rfl, rfl, rfl, rfl, trivial⟩ ?_
        exact kX4_find_126 d N (sX4_find_75 N n) ih l1 l2 x5 l5 (gh_fI q3 11 6 l5) _ h
def sX4_find_36 (N : Nat) : Nat → Int32 → Int32 → Int32 → Int32 → gh_St → Option (Int32 × gh_St)
  | 0, _, _, _, _, _ => none
  | n + 1, l1, l2, l3, l4, S =>
    bif gh_cmp .ge l4 72 then
      ((gh_wa S 16 72 l3 0).bind fun S1 =>
      sX4_find_75 N N l1 l2 1000000 1 S1)
    else
      ((gh_wa S 16 72 l4 1000000).bind fun S2 =>
      (sX4_find_36 N n) l1 l2 l3 (l4 + 1) S2)
set_option maxRecDepth 100000 in
theorem kX4_find_36 (d N : Nat) : ∀ (n : Nat) (l1 : Int32) (l2 : Int32) (l3 : Int32) (l4 : Int32) (S : gh_St) (r : Int32 × gh_St), sX4_find_36 N n l1 l2 l3 l4 S = some r → gh_T (d + 3) fX4_find 0 0 none false false (36, [(0, .ref 11), (1, .int l1), (2, .int l2), (3, .int l3), (4, .int l4)], [], (gh_mo S, 0, 0)) (some (.int r.1), (gh_mo r.2, 0, 0)) := by
  intro n
  induction n with
  | zero =>
    intro l1 l2 l3 l4 S r h
    cases h
  | succ n ih =>
    intro l1 l2 l3 l4 S r h
    rw [sX4_find_36] at h
    refine gh_T_steps 4 (τ := (43, [(0, .ref 11), (1, .int l1), (2, .int l2), (3, .int l3), (4, .int l4)], [.int 72, .int l4], (gh_mo S, 0, 0))) (fun _ => rfl) ?_
    cases c3 : gh_cmp .ge l4 72 with
    | true =>
      rw [c3, cond_true] at h
      refine gh_T_ic true rfl c3 ?_
      refine gh_T_steps 4 (τ := (67, [(0, .ref 11), (1, .int l1), (2, .int l2), (3, .int l3), (4, .int l4)], [.int 0, .int l3, .ref 16], (gh_mo S, 0, 0))) (fun _ => rfl) ?_
      obtain ⟨S1, hS1, h⟩ := gh_bi h
      refine gh_T_wa rfl rfl hS1 ?_
      refine gh_T_steps 4 (τ := (75, [(5, .int 1), (4, .int 1000000), (0, .ref 11), (1, .int l1), (2, .int l2), (3, .int l3)], [], (gh_mo S1, 0, 0))) (fun _ => rfl) ?_
      refine gh_T_weak (lv := [(0, .ref 11), (1, .int l1), (2, .int l2), (4, .int 1000000), (5, .int 1)]) ⟨rfl, rfl, rfl, rfl, rfl, trivial⟩ ?_
      exact kX4_find_75 d N N l1 l2 1000000 1 S1 _ h
    | false =>
      rw [c3, cond_false] at h
      refine gh_T_ic false rfl c3 ?_
      refine gh_T_steps 4 (τ := (54, [(0, .ref 11), (1, .int l1), (2, .int l2), (3, .int l3), (4, .int l4)], [.int 1000000, .int l4, .ref 16], (gh_mo S, 0, 0))) (fun _ => rfl) ?_
      obtain ⟨S2, hS2, h⟩ := gh_bi h
      refine gh_T_wa rfl rfl hS2 ?_
      refine gh_T_steps 2 (τ := (36, [(4, .int (l4 + 1)), (0, .ref 11), (1, .int l1), (2, .int l2), (3, .int l3)], [], (gh_mo S2, 0, 0))) (fun _ => rfl) ?_
      refine gh_T_weak (lv := [(0, .ref 11), (1, .int l1), (2, .int l2), (3, .int l3), (4, .int (l4 + 1))]) ⟨rfl, rfl, rfl, rfl, rfl, trivial⟩ ?_
      exact ih l1 l2 l3 (l4 + 1) S2 _ h
def sX4_find (N : Nat) (a1 : Int32) (a2 : Int32) (a3 : Int32) (S : gh_St) : Option (Int32 × gh_St) :=
  (sX9_isKind N a1 (gh_fI S 11 6 0)).bind fun q1 =>
  bif gh_cmp .eq q1.1 0 then
    (some ((-1), q1.2))
  else
    ((sX9_isBin N a2 q1.2).bind fun q2 =>
    bif gh_cmp .eq q2.1 0 then
      (some ((-1), q2.2))
    else
      ((sX9_isBin N a3 q2.2).bind fun q3 =>
      bif gh_cmp .eq q3.1 0 then
        (some ((-1), q3.2))
      else
        (bif gh_cmp .ne a2 a3 then
          (sX4_find_36 N N a1 a2 a3 0 q3.2)
        else
          (some ((-1), q3.2)))))
set_option maxRecDepth 100000 in
theorem kX4_find_e (d N : Nat) (a1 : Int32) (a2 : Int32) (a3 : Int32) (S : gh_St) (r : Int32 × gh_St) (h : sX4_find N a1 a2 a3 S = some r) : gh_T (d + 3) fX4_find 0 0 none false false (0, [(0, .ref 11), (1, .int a1), (2, .int a2), (3, .int a3)], [], (gh_mo S, 0, 0)) (some (.int r.1), (gh_mo r.2, 0, 0)) := by
  unfold sX4_find at h
  refine gh_T_steps 4 (τ := (6, [(0, .ref 11), (1, .int a1), (2, .int a2), (3, .int a3)], [.int a1], (gh_mo (gh_fI S 11 6 0), 0, 0))) (fun _ => rfl) ?_
  obtain ⟨q1, hq1, h⟩ := gh_bi h
  refine gh_T_is (As := [.int a1]) (rest := []) (y := some (.int q1.1)) (M' := gh_mo q1.2) rfl rfl rfl rfl rfl rfl rfl ⟨Nat.le_refl _, Nat.le_refl _⟩ (kX9_isKind (d + 1) N a1 (gh_fI S 11 6 0) q1 hq1) ?_
  cases c7 : gh_cmp .eq q1.1 0 with
  | true =>
    rw [c7, cond_true] at h
    refine gh_T_if true rfl c7 ?_
    refine gh_T_steps 1 (τ := (32, [(0, .ref 11), (1, .int a1), (2, .int a2), (3, .int a3)], [.int ((-1))], (gh_mo q1.2, 0, 0))) (fun _ => rfl) ?_
    cases h
    exact gh_T_ret (fun _ => rfl)
  | false =>
    rw [c7, cond_false] at h
    refine gh_T_if false rfl c7 ?_
    refine gh_T_steps 1 (τ := (13, [(0, .ref 11), (1, .int a1), (2, .int a2), (3, .int a3)], [.int a2], (gh_mo q1.2, 0, 0))) (fun _ => rfl) ?_
    obtain ⟨q2, hq2, h⟩ := gh_bi h
    refine gh_T_is (As := [.int a2]) (rest := []) (y := some (.int q2.1)) (M' := gh_mo q2.2) rfl rfl rfl rfl rfl rfl rfl ⟨Nat.le_refl _, Nat.le_refl _⟩ (kX9_isBin (d + 1) N a2 q1.2 q2 hq2) ?_
    cases c6 : gh_cmp .eq q2.1 0 with
    | true =>
      rw [c6, cond_true] at h
      refine gh_T_if true rfl c6 ?_
      refine gh_T_steps 1 (τ := (32, [(0, .ref 11), (1, .int a1), (2, .int a2), (3, .int a3)], [.int ((-1))], (gh_mo q2.2, 0, 0))) (fun _ => rfl) ?_
      cases h
      exact gh_T_ret (fun _ => rfl)
    | false =>
      rw [c6, cond_false] at h
      refine gh_T_if false rfl c6 ?_
      refine gh_T_steps 1 (τ := (20, [(0, .ref 11), (1, .int a1), (2, .int a2), (3, .int a3)], [.int a3], (gh_mo q2.2, 0, 0))) (fun _ => rfl) ?_
      obtain ⟨q3, hq3, h⟩ := gh_bi h
      refine gh_T_is (As := [.int a3]) (rest := []) (y := some (.int q3.1)) (M' := gh_mo q3.2) rfl rfl rfl rfl rfl rfl rfl ⟨Nat.le_refl _, Nat.le_refl _⟩ (kX9_isBin (d + 1) N a3 q2.2 q3 hq3) ?_
      cases c5 : gh_cmp .eq q3.1 0 with
      | true =>
        rw [c5, cond_true] at h
        refine gh_T_if true rfl c5 ?_
        refine gh_T_steps 1 (τ := (32, [(0, .ref 11), (1, .int a1), (2, .int a2), (3, .int a3)], [.int ((-1))], (gh_mo q3.2, 0, 0))) (fun _ => rfl) ?_
        cases h
        exact gh_T_ret (fun _ => rfl)
      | false =>
        rw [c5, cond_false] at h
        refine gh_T_if false rfl c5 ?_
        refine gh_T_steps 2 (τ := (28, [(0, .ref 11), (1, .int a1), (2, .int a2), (3, .int a3)], [.int a3, .int a2], (gh_mo q3.2, 0, 0))) (fun _ => rfl) ?_
        cases c4 : gh_cmp .ne a2 a3 with
        | true =>
          rw [c4, cond_true] at h
          refine gh_T_ic true rfl c4 ?_
          refine gh_T_steps 2 (τ := (36, [(4, .int 0), (0, .ref 11), (1, .int a1), (2, .int a2), (3, .int a3)], [], (gh_mo q3.2, 0, 0))) (fun _ => rfl) ?_
          refine gh_T_weak (lv := [(0, .ref 11), (1, .int a1), (2, .int a2), (3, .int a3), (4, .int 0)]) ⟨rfl, rfl, rfl, rfl, rfl, trivial⟩ ?_
          exact kX4_find_36 d N N a1 a2 a3 0 q3.2 _ h
        | false =>
          rw [c4, cond_false] at h
          refine gh_T_ic false rfl c4 ?_
          refine gh_T_steps 1 (τ := (32, [(0, .ref 11), (1, .int a1), (2, .int a2), (3, .int a3)], [.int ((-1))], (gh_mo q3.2, 0, 0))) (fun _ => rfl) ?_
          cases h
          exact gh_T_ret (fun _ => rfl)
theorem kX4_find (d N : Nat) (a1 : Int32) (a2 : Int32) (a3 : Int32) (S : gh_St) (r : Int32 × gh_St) (h : sX4_find N a1 a2 a3 S = some r) : gh_Mx (d + 4) 39 [.ref 11, .int a1, .int a2, .int a3] (gh_mo S) (some (.int r.1)) (gh_mo r.2) :=
  gh_Mx_of rfl rfl rfl rfl rfl rfl (kX4_find_e d N a1 a2 a3 S r h)
def sX6_readNumber_5 (N : Nat) : Nat → gh_St → Option (gh_St)
  | 0, _ => none
  | n + 1, S =>
    bif gh_cmp .ge (S.1 45 3) (S.1 43 1) then
      (some S)
    else
      ((gh_ra S 44 200 (S.1 45 3)).bind fun x1 =>
      (sX6_isDigit N x1 S).bind fun q2 =>
      bif gh_cmp .eq q2.1 0 then
        (some q2.2)
      else
        ((gh_ra q2.2 44 200 (q2.2.1 45 3)).bind fun x3 =>
        (sX6_readNumber_5 N n)  (gh_fI (gh_fI q2.2 45 6 (gh_min 1000000 ((((q2.2.1 45 6) * (10 : Int32)) + x3) - (48 : Int32)))) 45 3 (((gh_fI q2.2 45 6 (gh_min 1000000 ((((q2.2.1 45 6) * (10 : Int32)) + x3) - (48 : Int32)))).1 45 3) + (1 : Int32)))))
set_option maxRecDepth 100000 in
theorem kX6_readNumber_5 (d N : Nat) : ∀ (n : Nat) (S : gh_St) (r : gh_St), sX6_readNumber_5 N n S = some r → gh_T (d + 2) fX6_readNumber 0 0 none false false (5, [(0, .ref 45), (1, .ref 43)], [], (gh_mo S, 0, 0)) (none, (gh_mo r, 0, 0)) := by
  intro n
  induction n with
  | zero =>
    intro S r h
    cases h
  | succ n ih =>
    intro S r h
    rw [sX6_readNumber_5] at h
    refine gh_T_steps 4 (τ := (13, [(0, .ref 45), (1, .ref 43)], [.int (S.1 43 1), .int (S.1 45 3)], (gh_mo S, 0, 0))) (fun _ => rfl) ?_
    cases c5 : gh_cmp .ge (S.1 45 3) (S.1 43 1) with
    | true =>
      rw [c5, cond_true] at h
      refine gh_T_ic true rfl c5 ?_
      cases h
      exact gh_T_ret (fun _ => rfl)
    | false =>
      rw [c5, cond_false] at h
      refine gh_T_ic false rfl c5 ?_
      refine gh_T_steps 4 (τ := (24, [(0, .ref 45), (1, .ref 43)], [.int (S.1 45 3), .ref 44], (gh_mo S, 0, 0))) (fun _ => rfl) ?_
      obtain ⟨x1, hx1, h⟩ := gh_bi h
      refine gh_T_ra rfl rfl hx1 ?_
      obtain ⟨q2, hq2, h⟩ := gh_bi h
      refine gh_T_is (As := [.int x1]) (rest := []) (y := some (.int q2.1)) (M' := gh_mo q2.2) rfl rfl rfl rfl rfl rfl rfl ⟨Nat.le_refl _, Nat.le_refl _⟩ (kX6_isDigit d N x1 S q2 hq2) ?_
      cases c4 : gh_cmp .eq q2.1 0 with
      | true =>
        rw [c4, cond_true] at h
        refine gh_T_if true rfl c4 ?_
        cases h
        exact gh_T_ret (fun _ => rfl)
      | false =>
        rw [c4, cond_false] at h
        refine gh_T_if false rfl c4 ?_
        refine gh_T_steps 10 (τ := (49, [(0, .ref 45), (1, .ref 43)], [.int (q2.2.1 45 3), .ref 44, .int ((q2.2.1 45 6) * (10 : Int32)), .int 1000000, .ref 45], (gh_mo q2.2, 0, 0))) (fun _ => rfl) ?_
        obtain ⟨x3, hx3, h⟩ := gh_bi h
        refine gh_T_ra rfl rfl hx3 ?_
        refine gh_T_steps 12 (τ := (5, [(0, .ref 45), (1, .ref 43)], [], (gh_mo (gh_fI (gh_fI q2.2 45 6 (gh_min 1000000 ((((q2.2.1 45 6) * (10 : Int32)) + x3) - (48 : Int32)))) 45 3 (((gh_fI q2.2 45 6 (gh_min 1000000 ((((q2.2.1 45 6) * (10 : Int32)) + x3) - (48 : Int32)))).1 45 3) + (1 : Int32))), 0, 0))) (fun _ => rfl) ?_
        exact ih  (gh_fI (gh_fI q2.2 45 6 (gh_min 1000000 ((((q2.2.1 45 6) * (10 : Int32)) + x3) - (48 : Int32)))) 45 3 (((gh_fI q2.2 45 6 (gh_min 1000000 ((((q2.2.1 45 6) * (10 : Int32)) + x3) - (48 : Int32)))).1 45 3) + (1 : Int32))) _ h
def sX6_readNumber (N : Nat) (S : gh_St) : Option (gh_St) :=
  sX6_readNumber_5 N N (gh_fI S 45 6 0)
set_option maxRecDepth 100000 in
theorem kX6_readNumber_e (d N : Nat) (S : gh_St) (r : gh_St) (h : sX6_readNumber N S = some r) : gh_T (d + 2) fX6_readNumber 0 0 none false false (0, [(0, .ref 45), (1, .ref 43)], [], (gh_mo S, 0, 0)) (none, (gh_mo r, 0, 0)) := by
  unfold sX6_readNumber at h
  refine gh_T_steps 3 (τ := (5, [(0, .ref 45), (1, .ref 43)], [], (gh_mo (gh_fI S 45 6 0), 0, 0))) (fun _ => rfl) ?_
  exact kX6_readNumber_5 d N N (gh_fI S 45 6 0) _ h
theorem kX6_readNumber (d N : Nat) (S : gh_St) (r : gh_St) (h : sX6_readNumber N S = some r) : gh_Mx (d + 3) 57 [.ref 45, .ref 43] (gh_mo S) none (gh_mo r) :=
  gh_Mx_of rfl rfl rfl rfl rfl rfl (kX6_readNumber_e d N S r h)
def sX6_faultHere (N : Nat) (b : Bool) (S : gh_St) : Option (Int32 × gh_St) :=
  bif gh_cmp .eq (S.1 45 7) 0 then
    ((sX6_isWord N false S).bind fun q2 =>
    bif gh_cmp .eq q2.1 0 then
      ((sX6_isWord N true q2.2).bind fun q3 =>
      bif gh_cmp .eq q3.1 0 then
        (some (1, q3.2))
      else
        (some (0, q3.2)))
    else
      ((sX5_isFull N b q2.2).bind fun q5 =>
      bif gh_cmp .eq q5.1 0 then
        (some (0, q5.2))
      else
        (some (4, q5.2))))
  else
    bif gh_cmp .eq (S.1 45 7) 1 then
    (bif gh_cmp .ne (S.1 45 5) 3 then
        (some (1, S))
      else
        ((sX6_faultOfFirst N b S).bind fun q9 =>
        some (q9.1, q9.2)))
  else
    bif gh_cmp .eq (S.1 45 7) 2 then
    (bif gh_cmp .ne (S.1 45 5) 3 then
          (some (1, S))
        else
          ((sX6_faultOfSecond N S).bind fun q12 =>
          some (q12.1, q12.2)))
  else
    (bif gh_cmp .ne (S.1 45 5) 4 then
          (some (1, S))
        else
          (some (0, S)))
set_option maxRecDepth 100000 in
theorem kX6_faultHere_e (d N : Nat) (b : Bool) (S : gh_St) (r : Int32 × gh_St) (h : sX6_faultHere N b S = some r) : gh_T (d + 4) fX6_faultHere 0 0 none false false (0, [(0, .ref 45), (1, .ref 43), (2, .ref (gh_pl b))], [], (gh_mo S, 0, 0)) (some (.int r.1), (gh_mo r.2, 0, 0)) := by
  unfold sX6_faultHere at h
  cases b with
  | false =>
    refine gh_T_steps 2 (τ := (4, [(0, .ref 45), (1, .ref 43), (2, .ref (gh_pl false))], [.int (S.1 45 7)], (gh_mo S, 0, 0))) (fun _ => rfl) ?_
    cases c1 : gh_cmp .eq (S.1 45 7) 0 with
    | true =>
      rw [c1, cond_true] at h
      refine gh_T_at 0 c1 (τ := (32, [(0, .ref 45), (1, .ref 43), (2, .ref (gh_pl false))], [], (gh_mo S, 0, 0))) (fun _ => rfl) ?_
      refine gh_T_steps 3 (τ := (36, [(0, .ref 45), (1, .ref 43), (2, .ref (gh_pl false))], [.ref (gh_wd false), .ref 43, .ref 45], (gh_mo S, 0, 0))) (fun _ => rfl) ?_
      obtain ⟨q2, hq2, h⟩ := gh_bi h
      refine gh_T_iv (As := [.ref 43, .ref (gh_wd false)]) (b := 45) (rest := []) (y := some (.int q2.1)) (M' := gh_mo q2.2) rfl rfl rfl rfl rfl rfl rfl rfl rfl ⟨Nat.le_refl _, Nat.le_refl _⟩ (kX6_isWord (d + 3) N false S q2 hq2) ?_
      cases c7 : gh_cmp .eq q2.1 0 with
      | true =>
        rw [c7, cond_true] at h
        refine gh_T_if true rfl c7 ?_
        refine gh_T_steps 3 (τ := (59, [(0, .ref 45), (1, .ref 43), (2, .ref (gh_pl false))], [.ref (gh_wd true), .ref 43, .ref 45], (gh_mo q2.2, 0, 0))) (fun _ => rfl) ?_
        obtain ⟨q3, hq3, h⟩ := gh_bi h
        refine gh_T_iv (As := [.ref 43, .ref (gh_wd true)]) (b := 45) (rest := []) (y := some (.int q3.1)) (M' := gh_mo q3.2) rfl rfl rfl rfl rfl rfl rfl rfl rfl ⟨Nat.le_refl _, Nat.le_refl _⟩ (kX6_isWord (d + 3) N true q2.2 q3 hq3) ?_
        cases c4 : gh_cmp .eq q3.1 0 with
        | true =>
          rw [c4, cond_true] at h
          refine gh_T_if true rfl c4 ?_
          refine gh_T_steps 1 (τ := (70, [(0, .ref 45), (1, .ref 43), (2, .ref (gh_pl false))], [.int 1], (gh_mo q3.2, 0, 0))) (fun _ => rfl) ?_
          cases h
          exact gh_T_ret (fun _ => rfl)
        | false =>
          rw [c4, cond_false] at h
          refine gh_T_if false rfl c4 ?_
          refine gh_T_steps 2 (τ := (70, [(0, .ref 45), (1, .ref 43), (2, .ref (gh_pl false))], [.int 0], (gh_mo q3.2, 0, 0))) (fun _ => rfl) ?_
          cases h
          exact gh_T_ret (fun _ => rfl)
      | false =>
        rw [c7, cond_false] at h
        refine gh_T_if false rfl c7 ?_
        refine gh_T_steps 1 (τ := (43, [(0, .ref 45), (1, .ref 43), (2, .ref (gh_pl false))], [.ref (gh_pl false)], (gh_mo q2.2, 0, 0))) (fun _ => rfl) ?_
        obtain ⟨q5, hq5, h⟩ := gh_bi h
        refine gh_T_iv (As := []) (b := gh_pl false) (rest := []) (y := some (.int q5.1)) (M' := gh_mo q5.2) rfl rfl rfl rfl rfl rfl rfl rfl rfl ⟨Nat.le_refl _, Nat.le_refl _⟩ (kX5_isFull (d + 3) N false q2.2 q5 hq5) ?_
        cases c6 : gh_cmp .eq q5.1 0 with
        | true =>
          rw [c6, cond_true] at h
          refine gh_T_if true rfl c6 ?_
          refine gh_T_steps 1 (τ := (54, [(0, .ref 45), (1, .ref 43), (2, .ref (gh_pl false))], [.int 0], (gh_mo q5.2, 0, 0))) (fun _ => rfl) ?_
          cases h
          exact gh_T_ret (fun _ => rfl)
        | false =>
          rw [c6, cond_false] at h
          refine gh_T_if false rfl c6 ?_
          refine gh_T_steps 2 (τ := (54, [(0, .ref 45), (1, .ref 43), (2, .ref (gh_pl false))], [.int 4], (gh_mo q5.2, 0, 0))) (fun _ => rfl) ?_
          cases h
          exact gh_T_ret (fun _ => rfl)
    | false =>
      rw [c1, cond_false] at h
      cases c8 : gh_cmp .eq (S.1 45 7) 1 with
      | true =>
        rw [c8, cond_true] at h
        refine gh_T_at 1 c8 (τ := (71, [(0, .ref 45), (1, .ref 43), (2, .ref (gh_pl false))], [], (gh_mo S, 0, 0))) (fun _ => rfl) ?_
        refine gh_T_steps 3 (τ := (76, [(0, .ref 45), (1, .ref 43), (2, .ref (gh_pl false))], [.int 3, .int (S.1 45 5)], (gh_mo S, 0, 0))) (fun _ => rfl) ?_
        cases c10 : gh_cmp .ne (S.1 45 5) 3 with
        | true =>
          rw [c10, cond_true] at h
          refine gh_T_ic true rfl c10 ?_
          refine gh_T_steps 1 (τ := (88, [(0, .ref 45), (1, .ref 43), (2, .ref (gh_pl false))], [.int 1], (gh_mo S, 0, 0))) (fun _ => rfl) ?_
          cases h
          exact gh_T_ret (fun _ => rfl)
        | false =>
          rw [c10, cond_false] at h
          refine gh_T_ic false rfl c10 ?_
          refine gh_T_steps 2 (τ := (81, [(0, .ref 45), (1, .ref 43), (2, .ref (gh_pl false))], [.ref (gh_pl false), .ref 45], (gh_mo S, 0, 0))) (fun _ => rfl) ?_
          obtain ⟨q9, hq9, h⟩ := gh_bi h
          refine gh_T_iv (As := [.ref (gh_pl false)]) (b := 45) (rest := []) (y := some (.int q9.1)) (M' := gh_mo q9.2) rfl rfl rfl rfl rfl rfl rfl rfl rfl ⟨Nat.le_refl _, Nat.le_refl _⟩ (kX6_faultOfFirst d N false S q9 hq9) ?_
          refine gh_T_steps 1 (τ := (88, [(0, .ref 45), (1, .ref 43), (2, .ref (gh_pl false))], [.int q9.1], (gh_mo q9.2, 0, 0))) (fun _ => rfl) ?_
          cases h
          exact gh_T_ret (fun _ => rfl)
      | false =>
        rw [c8, cond_false] at h
        cases c11 : gh_cmp .eq (S.1 45 7) 2 with
        | true =>
          rw [c11, cond_true] at h
          refine gh_T_at 2 c11 (τ := (89, [(0, .ref 45), (1, .ref 43), (2, .ref (gh_pl false))], [], (gh_mo S, 0, 0))) (fun _ => rfl) ?_
          refine gh_T_steps 3 (τ := (94, [(0, .ref 45), (1, .ref 43), (2, .ref (gh_pl false))], [.int 3, .int (S.1 45 5)], (gh_mo S, 0, 0))) (fun _ => rfl) ?_
          cases c13 : gh_cmp .ne (S.1 45 5) 3 with
          | true =>
            rw [c13, cond_true] at h
            refine gh_T_ic true rfl c13 ?_
            refine gh_T_steps 1 (τ := (105, [(0, .ref 45), (1, .ref 43), (2, .ref (gh_pl false))], [.int 1], (gh_mo S, 0, 0))) (fun _ => rfl) ?_
            cases h
            exact gh_T_ret (fun _ => rfl)
          | false =>
            rw [c13, cond_false] at h
            refine gh_T_ic false rfl c13 ?_
            refine gh_T_steps 1 (τ := (98, [(0, .ref 45), (1, .ref 43), (2, .ref (gh_pl false))], [.ref 45], (gh_mo S, 0, 0))) (fun _ => rfl) ?_
            obtain ⟨q12, hq12, h⟩ := gh_bi h
            refine gh_T_iv (As := []) (b := 45) (rest := []) (y := some (.int q12.1)) (M' := gh_mo q12.2) rfl rfl rfl rfl rfl rfl rfl rfl rfl ⟨Nat.le_refl _, Nat.le_refl _⟩ (kX6_faultOfSecond (d + 2) N S q12 hq12) ?_
            refine gh_T_steps 1 (τ := (105, [(0, .ref 45), (1, .ref 43), (2, .ref (gh_pl false))], [.int q12.1], (gh_mo q12.2, 0, 0))) (fun _ => rfl) ?_
            cases h
            exact gh_T_ret (fun _ => rfl)
        | false =>
          rw [c11, cond_false] at h
          refine gh_T_td (tgt := 106) 3 rfl rfl (by decide) ⟨⟨⟨trivial, c1⟩, c8⟩, c11⟩ (by decide) ?_
          refine gh_T_steps 3 (τ := (111, [(0, .ref 45), (1, .ref 43), (2, .ref (gh_pl false))], [.int 4, .int (S.1 45 5)], (gh_mo S, 0, 0))) (fun _ => rfl) ?_
          cases c14 : gh_cmp .ne (S.1 45 5) 4 with
          | true =>
            rw [c14, cond_true] at h
            refine gh_T_ic true rfl c14 ?_
            refine gh_T_steps 1 (τ := (119, [(0, .ref 45), (1, .ref 43), (2, .ref (gh_pl false))], [.int 1], (gh_mo S, 0, 0))) (fun _ => rfl) ?_
            cases h
            exact gh_T_ret (fun _ => rfl)
          | false =>
            rw [c14, cond_false] at h
            refine gh_T_ic false rfl c14 ?_
            refine gh_T_steps 2 (τ := (119, [(0, .ref 45), (1, .ref 43), (2, .ref (gh_pl false))], [.int 0], (gh_mo S, 0, 0))) (fun _ => rfl) ?_
            cases h
            exact gh_T_ret (fun _ => rfl)
  | true =>
    refine gh_T_steps 2 (τ := (4, [(0, .ref 45), (1, .ref 43), (2, .ref (gh_pl true))], [.int (S.1 45 7)], (gh_mo S, 0, 0))) (fun _ => rfl) ?_
    cases c1 : gh_cmp .eq (S.1 45 7) 0 with
    | true =>
      rw [c1, cond_true] at h
      refine gh_T_at 0 c1 (τ := (32, [(0, .ref 45), (1, .ref 43), (2, .ref (gh_pl true))], [], (gh_mo S, 0, 0))) (fun _ => rfl) ?_
      refine gh_T_steps 3 (τ := (36, [(0, .ref 45), (1, .ref 43), (2, .ref (gh_pl true))], [.ref (gh_wd false), .ref 43, .ref 45], (gh_mo S, 0, 0))) (fun _ => rfl) ?_
      obtain ⟨q2, hq2, h⟩ := gh_bi h
      refine gh_T_iv (As := [.ref 43, .ref (gh_wd false)]) (b := 45) (rest := []) (y := some (.int q2.1)) (M' := gh_mo q2.2) rfl rfl rfl rfl rfl rfl rfl rfl rfl ⟨Nat.le_refl _, Nat.le_refl _⟩ (kX6_isWord (d + 3) N false S q2 hq2) ?_
      cases c7 : gh_cmp .eq q2.1 0 with
      | true =>
        rw [c7, cond_true] at h
        refine gh_T_if true rfl c7 ?_
        refine gh_T_steps 3 (τ := (59, [(0, .ref 45), (1, .ref 43), (2, .ref (gh_pl true))], [.ref (gh_wd true), .ref 43, .ref 45], (gh_mo q2.2, 0, 0))) (fun _ => rfl) ?_
        obtain ⟨q3, hq3, h⟩ := gh_bi h
        refine gh_T_iv (As := [.ref 43, .ref (gh_wd true)]) (b := 45) (rest := []) (y := some (.int q3.1)) (M' := gh_mo q3.2) rfl rfl rfl rfl rfl rfl rfl rfl rfl ⟨Nat.le_refl _, Nat.le_refl _⟩ (kX6_isWord (d + 3) N true q2.2 q3 hq3) ?_
        cases c4 : gh_cmp .eq q3.1 0 with
        | true =>
          rw [c4, cond_true] at h
          refine gh_T_if true rfl c4 ?_
          refine gh_T_steps 1 (τ := (70, [(0, .ref 45), (1, .ref 43), (2, .ref (gh_pl true))], [.int 1], (gh_mo q3.2, 0, 0))) (fun _ => rfl) ?_
          cases h
          exact gh_T_ret (fun _ => rfl)
        | false =>
          rw [c4, cond_false] at h
          refine gh_T_if false rfl c4 ?_
          refine gh_T_steps 2 (τ := (70, [(0, .ref 45), (1, .ref 43), (2, .ref (gh_pl true))], [.int 0], (gh_mo q3.2, 0, 0))) (fun _ => rfl) ?_
          cases h
          exact gh_T_ret (fun _ => rfl)
      | false =>
        rw [c7, cond_false] at h
        refine gh_T_if false rfl c7 ?_
        refine gh_T_steps 1 (τ := (43, [(0, .ref 45), (1, .ref 43), (2, .ref (gh_pl true))], [.ref (gh_pl true)], (gh_mo q2.2, 0, 0))) (fun _ => rfl) ?_
        obtain ⟨q5, hq5, h⟩ := gh_bi h
        refine gh_T_iv (As := []) (b := gh_pl true) (rest := []) (y := some (.int q5.1)) (M' := gh_mo q5.2) rfl rfl rfl rfl rfl rfl rfl rfl rfl ⟨Nat.le_refl _, Nat.le_refl _⟩ (kX5_isFull (d + 3) N true q2.2 q5 hq5) ?_
        cases c6 : gh_cmp .eq q5.1 0 with
        | true =>
          rw [c6, cond_true] at h
          refine gh_T_if true rfl c6 ?_
          refine gh_T_steps 1 (τ := (54, [(0, .ref 45), (1, .ref 43), (2, .ref (gh_pl true))], [.int 0], (gh_mo q5.2, 0, 0))) (fun _ => rfl) ?_
          cases h
          exact gh_T_ret (fun _ => rfl)
        | false =>
          rw [c6, cond_false] at h
          refine gh_T_if false rfl c6 ?_
          refine gh_T_steps 2 (τ := (54, [(0, .ref 45), (1, .ref 43), (2, .ref (gh_pl true))], [.int 4], (gh_mo q5.2, 0, 0))) (fun _ => rfl) ?_
          cases h
          exact gh_T_ret (fun _ => rfl)
    | false =>
      rw [c1, cond_false] at h
      cases c8 : gh_cmp .eq (S.1 45 7) 1 with
      | true =>
        rw [c8, cond_true] at h
        refine gh_T_at 1 c8 (τ := (71, [(0, .ref 45), (1, .ref 43), (2, .ref (gh_pl true))], [], (gh_mo S, 0, 0))) (fun _ => rfl) ?_
        refine gh_T_steps 3 (τ := (76, [(0, .ref 45), (1, .ref 43), (2, .ref (gh_pl true))], [.int 3, .int (S.1 45 5)], (gh_mo S, 0, 0))) (fun _ => rfl) ?_
        cases c10 : gh_cmp .ne (S.1 45 5) 3 with
        | true =>
          rw [c10, cond_true] at h
          refine gh_T_ic true rfl c10 ?_
          refine gh_T_steps 1 (τ := (88, [(0, .ref 45), (1, .ref 43), (2, .ref (gh_pl true))], [.int 1], (gh_mo S, 0, 0))) (fun _ => rfl) ?_
          cases h
          exact gh_T_ret (fun _ => rfl)
        | false =>
          rw [c10, cond_false] at h
          refine gh_T_ic false rfl c10 ?_
          refine gh_T_steps 2 (τ := (81, [(0, .ref 45), (1, .ref 43), (2, .ref (gh_pl true))], [.ref (gh_pl true), .ref 45], (gh_mo S, 0, 0))) (fun _ => rfl) ?_
          obtain ⟨q9, hq9, h⟩ := gh_bi h
          refine gh_T_iv (As := [.ref (gh_pl true)]) (b := 45) (rest := []) (y := some (.int q9.1)) (M' := gh_mo q9.2) rfl rfl rfl rfl rfl rfl rfl rfl rfl ⟨Nat.le_refl _, Nat.le_refl _⟩ (kX6_faultOfFirst d N true S q9 hq9) ?_
          refine gh_T_steps 1 (τ := (88, [(0, .ref 45), (1, .ref 43), (2, .ref (gh_pl true))], [.int q9.1], (gh_mo q9.2, 0, 0))) (fun _ => rfl) ?_
          cases h
          exact gh_T_ret (fun _ => rfl)
      | false =>
        rw [c8, cond_false] at h
        cases c11 : gh_cmp .eq (S.1 45 7) 2 with
        | true =>
          rw [c11, cond_true] at h
          refine gh_T_at 2 c11 (τ := (89, [(0, .ref 45), (1, .ref 43), (2, .ref (gh_pl true))], [], (gh_mo S, 0, 0))) (fun _ => rfl) ?_
          refine gh_T_steps 3 (τ := (94, [(0, .ref 45), (1, .ref 43), (2, .ref (gh_pl true))], [.int 3, .int (S.1 45 5)], (gh_mo S, 0, 0))) (fun _ => rfl) ?_
          cases c13 : gh_cmp .ne (S.1 45 5) 3 with
          | true =>
            rw [c13, cond_true] at h
            refine gh_T_ic true rfl c13 ?_
            refine gh_T_steps 1 (τ := (105, [(0, .ref 45), (1, .ref 43), (2, .ref (gh_pl true))], [.int 1], (gh_mo S, 0, 0))) (fun _ => rfl) ?_
            cases h
            exact gh_T_ret (fun _ => rfl)
          | false =>
            rw [c13, cond_false] at h
            refine gh_T_ic false rfl c13 ?_
            refine gh_T_steps 1 (τ := (98, [(0, .ref 45), (1, .ref 43), (2, .ref (gh_pl true))], [.ref 45], (gh_mo S, 0, 0))) (fun _ => rfl) ?_
            obtain ⟨q12, hq12, h⟩ := gh_bi h
            refine gh_T_iv (As := []) (b := 45) (rest := []) (y := some (.int q12.1)) (M' := gh_mo q12.2) rfl rfl rfl rfl rfl rfl rfl rfl rfl ⟨Nat.le_refl _, Nat.le_refl _⟩ (kX6_faultOfSecond (d + 2) N S q12 hq12) ?_
            refine gh_T_steps 1 (τ := (105, [(0, .ref 45), (1, .ref 43), (2, .ref (gh_pl true))], [.int q12.1], (gh_mo q12.2, 0, 0))) (fun _ => rfl) ?_
            cases h
            exact gh_T_ret (fun _ => rfl)
        | false =>
          rw [c11, cond_false] at h
          refine gh_T_td (tgt := 106) 3 rfl rfl (by decide) ⟨⟨⟨trivial, c1⟩, c8⟩, c11⟩ (by decide) ?_
          refine gh_T_steps 3 (τ := (111, [(0, .ref 45), (1, .ref 43), (2, .ref (gh_pl true))], [.int 4, .int (S.1 45 5)], (gh_mo S, 0, 0))) (fun _ => rfl) ?_
          cases c14 : gh_cmp .ne (S.1 45 5) 4 with
          | true =>
            rw [c14, cond_true] at h
            refine gh_T_ic true rfl c14 ?_
            refine gh_T_steps 1 (τ := (119, [(0, .ref 45), (1, .ref 43), (2, .ref (gh_pl true))], [.int 1], (gh_mo S, 0, 0))) (fun _ => rfl) ?_
            cases h
            exact gh_T_ret (fun _ => rfl)
          | false =>
            rw [c14, cond_false] at h
            refine gh_T_ic false rfl c14 ?_
            refine gh_T_steps 2 (τ := (119, [(0, .ref 45), (1, .ref 43), (2, .ref (gh_pl true))], [.int 0], (gh_mo S, 0, 0))) (fun _ => rfl) ?_
            cases h
            exact gh_T_ret (fun _ => rfl)
theorem kX6_faultHere (d N : Nat) (b : Bool) (S : gh_St) (r : Int32 × gh_St) (h : sX6_faultHere N b S = some r) : gh_Mx (d + 5) 61 [.ref 45, .ref 43, .ref (gh_pl b)] (gh_mo S) (some (.int r.1)) (gh_mo r.2) :=
  gh_Mx_of rfl rfl rfl rfl rfl rfl (kX6_faultHere_e d N b S r h)
def sX9_way (N : Nat) (a1 : Int32) (a2 : Int32) (a3 : Int32) (S : gh_St) : Option (Int32 × gh_St) :=
  (sX4_find N a1 a2 a3 S).bind fun q1 =>
  some (q1.1, q1.2)
set_option maxRecDepth 100000 in
theorem kX9_way_e (d N : Nat) (a1 : Int32) (a2 : Int32) (a3 : Int32) (S : gh_St) (r : Int32 × gh_St) (h : sX9_way N a1 a2 a3 S = some r) : gh_T (d + 4) fX9_way 0 0 none false false (0, [(0, .ref 0), (1, .int a1), (2, .int a2), (3, .int a3)], [], (gh_mo S, 0, 0)) (some (.int r.1), (gh_mo r.2, 0, 0)) := by
  unfold sX9_way at h
  refine gh_T_steps 5 (τ := (7, [(0, .ref 0), (1, .int a1), (2, .int a2), (3, .int a3)], [.int a3, .int a2, .int a1, .ref 11], (gh_mo S, 0, 0))) (fun _ => rfl) ?_
  obtain ⟨q1, hq1, h⟩ := gh_bi h
  refine gh_T_iv (As := [.int a1, .int a2, .int a3]) (b := 11) (rest := []) (y := some (.int q1.1)) (M' := gh_mo q1.2) rfl rfl rfl rfl rfl rfl rfl rfl rfl ⟨Nat.le_refl _, Nat.le_refl _⟩ (kX4_find d N a1 a2 a3 S q1 hq1) ?_
  cases h
  exact gh_T_ret (fun _ => rfl)
theorem kX9_way (d N : Nat) (a1 : Int32) (a2 : Int32) (a3 : Int32) (S : gh_St) (r : Int32 × gh_St) (h : sX9_way N a1 a2 a3 S = some r) : gh_Mx (d + 5) 83 [.ref 0, .int a1, .int a2, .int a3] (gh_mo S) (some (.int r.1)) (gh_mo r.2) :=
  gh_Mx_of rfl rfl rfl rfl rfl rfl (kX9_way_e d N a1 a2 a3 S r h)
def sX9_wayLeg (N : Nat) (a1 : Int32) (a2 : Int32) (a3 : Int32) (a4 : Int32) (S : gh_St) : Option (Int32 × gh_St) :=
  (sX4_find N a1 a2 a3 S).bind fun q1 =>
  bif gh_cmp .eq q1.1 ((-1)) then
    (some ((-1), q1.2))
  else
    ((sX9_within N a4 0 ((q1.2.1 11 6) - (1 : Int32)) q1.2).bind fun q2 =>
    bif gh_cmp .ne q2.1 0 then
      ((gh_ra q2.2 17 5 a4).bind fun x3 =>
      some (x3, q2.2))
    else
      (some ((-1), q2.2)))
set_option maxRecDepth 100000 in
theorem kX9_wayLeg_e (d N : Nat) (a1 : Int32) (a2 : Int32) (a3 : Int32) (a4 : Int32) (S : gh_St) (r : Int32 × gh_St) (h : sX9_wayLeg N a1 a2 a3 a4 S = some r) : gh_T (d + 4) fX9_wayLeg 0 0 none false false (0, [(0, .ref 0), (1, .int a1), (2, .int a2), (3, .int a3), (4, .int a4)], [], (gh_mo S, 0, 0)) (some (.int r.1), (gh_mo r.2, 0, 0)) := by
  unfold sX9_wayLeg at h
  refine gh_T_steps 5 (τ := (7, [(0, .ref 0), (1, .int a1), (2, .int a2), (3, .int a3), (4, .int a4)], [.int a3, .int a2, .int a1, .ref 11], (gh_mo S, 0, 0))) (fun _ => rfl) ?_
  obtain ⟨q1, hq1, h⟩ := gh_bi h
  refine gh_T_iv (As := [.int a1, .int a2, .int a3]) (b := 11) (rest := []) (y := some (.int q1.1)) (M' := gh_mo q1.2) rfl rfl rfl rfl rfl rfl rfl rfl rfl ⟨Nat.le_refl _, Nat.le_refl _⟩ (kX4_find d N a1 a2 a3 S q1 hq1) ?_
  refine gh_T_steps 1 (τ := (11, [(0, .ref 0), (1, .int a1), (2, .int a2), (3, .int a3), (4, .int a4)], [.int ((-1)), .int q1.1], (gh_mo q1.2, 0, 0))) (fun _ => rfl) ?_
  cases c5 : gh_cmp .eq q1.1 ((-1)) with
  | true =>
    rw [c5, cond_true] at h
    refine gh_T_ic true rfl c5 ?_
    refine gh_T_steps 1 (τ := (33, [(0, .ref 0), (1, .int a1), (2, .int a2), (3, .int a3), (4, .int a4)], [.int ((-1))], (gh_mo q1.2, 0, 0))) (fun _ => rfl) ?_
    cases h
    exact gh_T_ret (fun _ => rfl)
  | false =>
    rw [c5, cond_false] at h
    refine gh_T_ic false rfl c5 ?_
    refine gh_T_steps 7 (τ := (26, [(0, .ref 0), (1, .int a1), (2, .int a2), (3, .int a3), (4, .int a4)], [.int ((q1.2.1 11 6) - (1 : Int32)), .int 0, .int a4], (gh_mo q1.2, 0, 0))) (fun _ => rfl) ?_
    obtain ⟨q2, hq2, h⟩ := gh_bi h
    refine gh_T_is (As := [.int a4, .int 0, .int ((q1.2.1 11 6) - (1 : Int32))]) (rest := []) (y := some (.int q2.1)) (M' := gh_mo q2.2) rfl rfl rfl rfl rfl rfl rfl ⟨Nat.le_refl _, Nat.le_refl _⟩ (kX9_within (d + 3) N a4 0 ((q1.2.1 11 6) - (1 : Int32)) q1.2 q2 hq2) ?_
    cases c4 : gh_cmp .ne q2.1 0 with
    | true =>
      rw [c4, cond_true] at h
      refine gh_T_if true rfl c4 ?_
      refine gh_T_steps 4 (τ := (43, [(0, .ref 0), (1, .int a1), (2, .int a2), (3, .int a3), (4, .int a4)], [.int a4, .ref 17], (gh_mo q2.2, 0, 0))) (fun _ => rfl) ?_
      obtain ⟨x3, hx3, h⟩ := gh_bi h
      refine gh_T_ra rfl rfl hx3 ?_
      cases h
      exact gh_T_ret (fun _ => rfl)
    | false =>
      rw [c4, cond_false] at h
      refine gh_T_if false rfl c4 ?_
      refine gh_T_steps 1 (τ := (33, [(0, .ref 0), (1, .int a1), (2, .int a2), (3, .int a3), (4, .int a4)], [.int ((-1))], (gh_mo q2.2, 0, 0))) (fun _ => rfl) ?_
      cases h
      exact gh_T_ret (fun _ => rfl)
theorem kX9_wayLeg (d N : Nat) (a1 : Int32) (a2 : Int32) (a3 : Int32) (a4 : Int32) (S : gh_St) (r : Int32 × gh_St) (h : sX9_wayLeg N a1 a2 a3 a4 S = some r) : gh_Mx (d + 5) 84 [.ref 0, .int a1, .int a2, .int a3, .int a4] (gh_mo S) (some (.int r.1)) (gh_mo r.2) :=
  gh_Mx_of rfl rfl rfl rfl rfl rfl (kX9_wayLeg_e d N a1 a2 a3 a4 S r h)
def sX9_move_91 (N : Nat) (l5 : Int32) (S : gh_St) : Option (Int32 × gh_St) :=
  some (l5, S)
set_option maxRecDepth 100000 in
theorem kX9_move_91 (d N : Nat) (l5 : Int32) (S : gh_St) (r : Int32 × gh_St) (h : sX9_move_91 N l5 S = some r) : gh_T (d + 4) fX9_move 0 0 none false false (91, [(5, .int l5)], [], (gh_mo S, 0, 0)) (some (.int r.1), (gh_mo r.2, 0, 0)) := by
  unfold sX9_move_91 at h
  refine gh_T_steps 1 (τ := (93, [(5, .int l5)], [.int l5], (gh_mo S, 0, 0))) (fun _ => rfl) ?_
  cases h
  exact gh_T_ret (fun _ => rfl)
def sX9_move (N : Nat) (a1 : Int32) (a2 : Int32) (a3 : Int32) (S : gh_St) : Option (Int32 × gh_St) :=
  (sX0_canTake N a1 a3 S).bind fun q1 =>
  bif gh_cmp .ne q1.1 0 then
    ((gh_ra q1.2 2 8 a1).bind fun x2 =>
    (sX0_canPut N a2 x2 a3 q1.2).bind fun q3 =>
    bif gh_cmp .ne q3.1 0 then
      ((sX4_find N x2 a1 a2 q3.2).bind fun q4 =>
      bif gh_cmp .eq q4.1 ((-1)) then
        (sX9_move_91 N q4.1 q4.2)
      else
        ((sX4_goBy N x2 q4.1 q4.2).bind fun q5 =>
        (sX0_take N a1 a3 q5).bind fun q6 =>
        (sX0_put N a2 x2 a3 q6.1 q6.2).bind fun q7 =>
        sX9_move_91 N q4.1 q7))
    else
      (some ((-1), q3.2)))
  else
    (some ((-1), q1.2))
set_option maxRecDepth 100000 in
theorem kX9_move_e (d N : Nat) (a1 : Int32) (a2 : Int32) (a3 : Int32) (S : gh_St) (r : Int32 × gh_St) (h : sX9_move N a1 a2 a3 S = some r) : gh_T (d + 4) fX9_move 0 0 none false false (0, [(0, .ref 0), (1, .int a1), (2, .int a2), (3, .int a3)], [], (gh_mo S, 0, 0)) (some (.int r.1), (gh_mo r.2, 0, 0)) := by
  unfold sX9_move at h
  refine gh_T_steps 4 (τ := (6, [(0, .ref 0), (1, .int a1), (2, .int a2), (3, .int a3)], [.int a3, .int a1, .ref 1], (gh_mo S, 0, 0))) (fun _ => rfl) ?_
  obtain ⟨q1, hq1, h⟩ := gh_bi h
  refine gh_T_iv (As := [.int a1, .int a3]) (b := 1) (rest := []) (y := some (.int q1.1)) (M' := gh_mo q1.2) rfl rfl rfl rfl rfl rfl rfl rfl rfl ⟨Nat.le_refl _, Nat.le_refl _⟩ (kX0_canTake (d + 1) N a1 a3 S q1 hq1) ?_
  cases c10 : gh_cmp .ne q1.1 0 with
  | true =>
    rw [c10, cond_true] at h
    refine gh_T_if true rfl c10 ?_
    refine gh_T_steps 4 (τ := (22, [(0, .ref 0), (1, .int a1), (2, .int a2), (3, .int a3)], [.int a1, .ref 2], (gh_mo q1.2, 0, 0))) (fun _ => rfl) ?_
    obtain ⟨x2, hx2, h⟩ := gh_bi h
    refine gh_T_ra rfl rfl hx2 ?_
    refine gh_T_steps 6 (τ := (33, [(4, .int x2), (0, .ref 0), (1, .int a1), (2, .int a2), (3, .int a3)], [.int a3, .int x2, .int a2, .ref 1], (gh_mo q1.2, 0, 0))) (fun _ => rfl) ?_
    obtain ⟨q3, hq3, h⟩ := gh_bi h
    refine gh_T_iv (As := [.int a2, .int x2, .int a3]) (b := 1) (rest := []) (y := some (.int q3.1)) (M' := gh_mo q3.2) rfl rfl rfl rfl rfl rfl rfl rfl rfl ⟨Nat.le_refl _, Nat.le_refl _⟩ (kX0_canPut (d + 1) N a2 x2 a3 q1.2 q3 hq3) ?_
    cases c9 : gh_cmp .ne q3.1 0 with
    | true =>
      rw [c9, cond_true] at h
      refine gh_T_if true rfl c9 ?_
      refine gh_T_steps 5 (τ := (49, [(4, .int x2), (0, .ref 0), (1, .int a1), (2, .int a2), (3, .int a3)], [.int a2, .int a1, .int x2, .ref 11], (gh_mo q3.2, 0, 0))) (fun _ => rfl) ?_
      obtain ⟨q4, hq4, h⟩ := gh_bi h
      refine gh_T_iv (As := [.int x2, .int a1, .int a2]) (b := 11) (rest := []) (y := some (.int q4.1)) (M' := gh_mo q4.2) rfl rfl rfl rfl rfl rfl rfl rfl rfl ⟨Nat.le_refl _, Nat.le_refl _⟩ (kX4_find d N x2 a1 a2 q3.2 q4 hq4) ?_
      refine gh_T_steps 3 (τ := (57, [(5, .int q4.1), (4, .int x2), (0, .ref 0), (1, .int a1), (2, .int a2), (3, .int a3)], [.int ((-1)), .int q4.1], (gh_mo q4.2, 0, 0))) (fun _ => rfl) ?_
      cases c8 : gh_cmp .eq q4.1 ((-1)) with
      | true =>
        rw [c8, cond_true] at h
        refine gh_T_ic true rfl c8 ?_
        refine gh_T_weak (lv := [(5, .int q4.1)]) ⟨rfl, trivial⟩ ?_
        exact kX9_move_91 d N q4.1 q4.2 _ h
      | false =>
        rw [c8, cond_false] at h
        refine gh_T_ic false rfl c8 ?_
        refine gh_T_steps 4 (τ := (68, [(5, .int q4.1), (4, .int x2), (0, .ref 0), (1, .int a1), (2, .int a2), (3, .int a3)], [.int q4.1, .int x2, .ref 11], (gh_mo q4.2, 0, 0))) (fun _ => rfl) ?_
        obtain ⟨q5, hq5, h⟩ := gh_bi h
        refine gh_T_iv (As := [.int x2, .int q4.1]) (b := 11) (rest := []) (y := none) (M' := gh_mo q5) rfl rfl rfl rfl rfl rfl rfl rfl rfl ⟨Nat.le_refl _, Nat.le_refl _⟩ (kX4_goBy (d + 3) N x2 q4.1 q4.2 q5 hq5) ?_
        refine gh_T_steps 9 (τ := (85, [(5, .int q4.1), (4, .int x2), (0, .ref 0), (1, .int a1), (2, .int a2), (3, .int a3)], [.int a3, .int a1, .ref 1, .int a3, .int x2, .int a2, .ref 1], (gh_mo q5, 0, 0))) (fun _ => rfl) ?_
        obtain ⟨q6, hq6, h⟩ := gh_bi h
        refine gh_T_iv (As := [.int a1, .int a3]) (b := 1) (rest := [.int a3, .int x2, .int a2, .ref 1]) (y := some (.long q6.1)) (M' := gh_mo q6.2) rfl rfl rfl rfl rfl rfl rfl rfl rfl ⟨Nat.le_refl _, Nat.le_refl _⟩ (kX0_take (d + 2) N a1 a3 q5 q6 hq6) ?_
        obtain ⟨q7, hq7, h⟩ := gh_bi h
        refine gh_T_iv (As := [.int a2, .int x2, .int a3, .long q6.1]) (b := 1) (rest := []) (y := none) (M' := gh_mo q7) rfl rfl rfl rfl rfl rfl rfl rfl rfl ⟨Nat.le_refl _, Nat.le_refl _⟩ (kX0_put (d + 3) N a2 x2 a3 q6.1 q6.2 q7 hq7) ?_
        refine gh_T_weak (lv := [(5, .int q4.1)]) ⟨rfl, trivial⟩ ?_
        exact kX9_move_91 d N q4.1 q7 _ h
    | false =>
      rw [c9, cond_false] at h
      refine gh_T_if false rfl c9 ?_
      refine gh_T_steps 1 (τ := (40, [(4, .int x2), (0, .ref 0), (1, .int a1), (2, .int a2), (3, .int a3)], [.int ((-1))], (gh_mo q3.2, 0, 0))) (fun _ => rfl) ?_
      cases h
      exact gh_T_ret (fun _ => rfl)
  | false =>
    rw [c10, cond_false] at h
    refine gh_T_if false rfl c10 ?_
    refine gh_T_steps 1 (τ := (13, [(0, .ref 0), (1, .int a1), (2, .int a2), (3, .int a3)], [.int ((-1))], (gh_mo q1.2, 0, 0))) (fun _ => rfl) ?_
    cases h
    exact gh_T_ret (fun _ => rfl)
theorem kX9_move (d N : Nat) (a1 : Int32) (a2 : Int32) (a3 : Int32) (S : gh_St) (r : Int32 × gh_St) (h : sX9_move N a1 a2 a3 S = some r) : gh_Mx (d + 5) 85 [.ref 0, .int a1, .int a2, .int a3] (gh_mo S) (some (.int r.1)) (gh_mo r.2) :=
  gh_Mx_of rfl rfl rfl rfl rfl rfl (kX9_move_e d N a1 a2 a3 S r h)
def sX9_dry (N : Nat) (a1 : Int32) (a2 : Int32) (a3 : Int32) (a4 : Int32) (S : gh_St) : Option (Int32 × gh_St) :=
  (sX0_canTake N a1 a3 S).bind fun q1 =>
  bif gh_cmp .eq q1.1 0 then
    (some ((-1), q1.2))
  else
    ((sX9_within N a4 0 300 q1.2).bind fun q2 =>
    bif gh_cmp .eq q2.1 0 then
      (some ((-1), q2.2))
    else
      ((sX0_moist N a1 q2.2).bind fun q3 =>
      bif gh_cmp .lt a4 q3.1 then
        ((gh_ra q3.2 2 8 a1).bind fun x4 =>
        (sX0_part N a1 a3 q3.2).bind fun q5 =>
        (gh_dj q5.1 (((1000 : Int32) - a4 : Int32).toInt64)).bind fun x6 =>
        bif gh_cmp .lt ((x6 : Int64).toInt32) 1 then
          (some ((-1), q5.2))
        else
          ((sX0_canPut N a2 x4 ((x6 : Int64).toInt32) q5.2).bind fun q7 =>
          bif gh_cmp .ne q7.1 0 then
            ((sX4_find N x4 a1 a2 q7.2).bind fun q8 =>
            bif gh_cmp .ne q8.1 ((-1)) then
              ((sX4_goBy N x4 q8.1 q8.2).bind fun q9 =>
              (sX0_take N a1 a3 q9).bind fun q10 =>
              (sX0_put N a2 x4 ((x6 : Int64).toInt32) q10.1 q10.2).bind fun q11 =>
              some ((x6 : Int64).toInt32, gh_fL q11 0 10 ((q11.2.1 0 10) + ((a3 - ((x6 : Int64).toInt32) : Int32).toInt64))))
            else
              (some ((-1), q8.2)))
          else
            (some ((-1), q7.2))))
      else
        (some ((-1), q3.2))))
set_option maxRecDepth 100000 in
theorem kX9_dry_e (d N : Nat) (a1 : Int32) (a2 : Int32) (a3 : Int32) (a4 : Int32) (S : gh_St) (r : Int32 × gh_St) (h : sX9_dry N a1 a2 a3 a4 S = some r) : gh_T (d + 4) fX9_dry 0 0 none false false (0, [(0, .ref 0), (1, .int a1), (2, .int a2), (3, .int a3), (4, .int a4)], [], (gh_mo S, 0, 0)) (some (.int r.1), (gh_mo r.2, 0, 0)) := by
  unfold sX9_dry at h
  refine gh_T_steps 4 (τ := (6, [(0, .ref 0), (1, .int a1), (2, .int a2), (3, .int a3), (4, .int a4)], [.int a3, .int a1, .ref 1], (gh_mo S, 0, 0))) (fun _ => rfl) ?_
  obtain ⟨q1, hq1, h⟩ := gh_bi h
  refine gh_T_iv (As := [.int a1, .int a3]) (b := 1) (rest := []) (y := some (.int q1.1)) (M' := gh_mo q1.2) rfl rfl rfl rfl rfl rfl rfl rfl rfl ⟨Nat.le_refl _, Nat.le_refl _⟩ (kX0_canTake (d + 1) N a1 a3 S q1 hq1) ?_
  cases c17 : gh_cmp .eq q1.1 0 with
  | true =>
    rw [c17, cond_true] at h
    refine gh_T_if true rfl c17 ?_
    refine gh_T_steps 1 (τ := (38, [(0, .ref 0), (1, .int a1), (2, .int a2), (3, .int a3), (4, .int a4)], [.int ((-1))], (gh_mo q1.2, 0, 0))) (fun _ => rfl) ?_
    cases h
    exact gh_T_ret (fun _ => rfl)
  | false =>
    rw [c17, cond_false] at h
    refine gh_T_if false rfl c17 ?_
    refine gh_T_steps 3 (τ := (18, [(0, .ref 0), (1, .int a1), (2, .int a2), (3, .int a3), (4, .int a4)], [.int 300, .int 0, .int a4], (gh_mo q1.2, 0, 0))) (fun _ => rfl) ?_
    obtain ⟨q2, hq2, h⟩ := gh_bi h
    refine gh_T_is (As := [.int a4, .int 0, .int 300]) (rest := []) (y := some (.int q2.1)) (M' := gh_mo q2.2) rfl rfl rfl rfl rfl rfl rfl ⟨Nat.le_refl _, Nat.le_refl _⟩ (kX9_within (d + 3) N a4 0 300 q1.2 q2 hq2) ?_
    cases c16 : gh_cmp .eq q2.1 0 with
    | true =>
      rw [c16, cond_true] at h
      refine gh_T_if true rfl c16 ?_
      refine gh_T_steps 1 (τ := (38, [(0, .ref 0), (1, .int a1), (2, .int a2), (3, .int a3), (4, .int a4)], [.int ((-1))], (gh_mo q2.2, 0, 0))) (fun _ => rfl) ?_
      cases h
      exact gh_T_ret (fun _ => rfl)
    | false =>
      rw [c16, cond_false] at h
      refine gh_T_if false rfl c16 ?_
      refine gh_T_steps 4 (τ := (31, [(0, .ref 0), (1, .int a1), (2, .int a2), (3, .int a3), (4, .int a4)], [.int a1, .ref 1, .int a4], (gh_mo q2.2, 0, 0))) (fun _ => rfl) ?_
      obtain ⟨q3, hq3, h⟩ := gh_bi h
      refine gh_T_iv (As := [.int a1]) (b := 1) (rest := [.int a4]) (y := some (.int q3.1)) (M' := gh_mo q3.2) rfl rfl rfl rfl rfl rfl rfl rfl rfl ⟨Nat.le_refl _, Nat.le_refl _⟩ (kX0_moist (d + 3) N a1 q2.2 q3 hq3) ?_
      cases c15 : gh_cmp .lt a4 q3.1 with
      | true =>
        rw [c15, cond_true] at h
        refine gh_T_ic true rfl c15 ?_
        refine gh_T_steps 4 (τ := (47, [(0, .ref 0), (1, .int a1), (2, .int a2), (3, .int a3), (4, .int a4)], [.int a1, .ref 2], (gh_mo q3.2, 0, 0))) (fun _ => rfl) ?_
        obtain ⟨x4, hx4, h⟩ := gh_bi h
        refine gh_T_ra rfl rfl hx4 ?_
        refine gh_T_steps 5 (τ := (56, [(5, .int x4), (0, .ref 0), (1, .int a1), (2, .int a2), (3, .int a3), (4, .int a4)], [.int a3, .int a1, .ref 1], (gh_mo q3.2, 0, 0))) (fun _ => rfl) ?_
        obtain ⟨q5, hq5, h⟩ := gh_bi h
        refine gh_T_iv (As := [.int a1, .int a3]) (b := 1) (rest := []) (y := some (.long q5.1)) (M' := gh_mo q5.2) rfl rfl rfl rfl rfl rfl rfl rfl rfl ⟨Nat.le_refl _, Nat.le_refl _⟩ (kX0_part (d + 3) N a1 a3 q3.2 q5 hq5) ?_
        refine gh_T_steps 4 (τ := (66, [(5, .int x4), (0, .ref 0), (1, .int a1), (2, .int a2), (3, .int a3), (4, .int a4)], [.long (((1000 : Int32) - a4 : Int32).toInt64), .long q5.1], (gh_mo q5.2, 0, 0))) (fun _ => rfl) ?_
        obtain ⟨x6, hx6, h⟩ := gh_bi h
        refine gh_T_dj rfl hx6 ?_
        refine gh_T_steps 4 (τ := (73, [(6, .int ((x6 : Int64).toInt32)), (5, .int x4), (0, .ref 0), (1, .int a1), (2, .int a2), (3, .int a3), (4, .int a4)], [.int 1, .int ((x6 : Int64).toInt32)], (gh_mo q5.2, 0, 0))) (fun _ => rfl) ?_
        cases c14 : gh_cmp .lt ((x6 : Int64).toInt32) 1 with
        | true =>
          rw [c14, cond_true] at h
          refine gh_T_ic true rfl c14 ?_
          refine gh_T_steps 1 (τ := (92, [(6, .int ((x6 : Int64).toInt32)), (5, .int x4), (0, .ref 0), (1, .int a1), (2, .int a2), (3, .int a3), (4, .int a4)], [.int ((-1))], (gh_mo q5.2, 0, 0))) (fun _ => rfl) ?_
          cases h
          exact gh_T_ret (fun _ => rfl)
        | false =>
          rw [c14, cond_false] at h
          refine gh_T_ic false rfl c14 ?_
          refine gh_T_steps 5 (τ := (85, [(6, .int ((x6 : Int64).toInt32)), (5, .int x4), (0, .ref 0), (1, .int a1), (2, .int a2), (3, .int a3), (4, .int a4)], [.int ((x6 : Int64).toInt32), .int x4, .int a2, .ref 1], (gh_mo q5.2, 0, 0))) (fun _ => rfl) ?_
          obtain ⟨q7, hq7, h⟩ := gh_bi h
          refine gh_T_iv (As := [.int a2, .int x4, .int ((x6 : Int64).toInt32)]) (b := 1) (rest := []) (y := some (.int q7.1)) (M' := gh_mo q7.2) rfl rfl rfl rfl rfl rfl rfl rfl rfl ⟨Nat.le_refl _, Nat.le_refl _⟩ (kX0_canPut (d + 1) N a2 x4 ((x6 : Int64).toInt32) q5.2 q7 hq7) ?_
          cases c13 : gh_cmp .ne q7.1 0 with
          | true =>
            rw [c13, cond_true] at h
            refine gh_T_if true rfl c13 ?_
            refine gh_T_steps 5 (τ := (101, [(6, .int ((x6 : Int64).toInt32)), (5, .int x4), (0, .ref 0), (1, .int a1), (2, .int a2), (3, .int a3), (4, .int a4)], [.int a2, .int a1, .int x4, .ref 11], (gh_mo q7.2, 0, 0))) (fun _ => rfl) ?_
            obtain ⟨q8, hq8, h⟩ := gh_bi h
            refine gh_T_iv (As := [.int x4, .int a1, .int a2]) (b := 11) (rest := []) (y := some (.int q8.1)) (M' := gh_mo q8.2) rfl rfl rfl rfl rfl rfl rfl rfl rfl ⟨Nat.le_refl _, Nat.le_refl _⟩ (kX4_find d N x4 a1 a2 q7.2 q8 hq8) ?_
            refine gh_T_steps 3 (τ := (109, [(7, .int q8.1), (6, .int ((x6 : Int64).toInt32)), (5, .int x4), (0, .ref 0), (1, .int a1), (2, .int a2), (3, .int a3), (4, .int a4)], [.int ((-1)), .int q8.1], (gh_mo q8.2, 0, 0))) (fun _ => rfl) ?_
            cases c12 : gh_cmp .ne q8.1 ((-1)) with
            | true =>
              rw [c12, cond_true] at h
              refine gh_T_ic true rfl c12 ?_
              refine gh_T_steps 4 (τ := (122, [(7, .int q8.1), (6, .int ((x6 : Int64).toInt32)), (5, .int x4), (0, .ref 0), (1, .int a1), (2, .int a2), (3, .int a3), (4, .int a4)], [.int q8.1, .int x4, .ref 11], (gh_mo q8.2, 0, 0))) (fun _ => rfl) ?_
              obtain ⟨q9, hq9, h⟩ := gh_bi h
              refine gh_T_iv (As := [.int x4, .int q8.1]) (b := 11) (rest := []) (y := none) (M' := gh_mo q9) rfl rfl rfl rfl rfl rfl rfl rfl rfl ⟨Nat.le_refl _, Nat.le_refl _⟩ (kX4_goBy (d + 3) N x4 q8.1 q8.2 q9 hq9) ?_
              refine gh_T_steps 9 (τ := (140, [(7, .int q8.1), (6, .int ((x6 : Int64).toInt32)), (5, .int x4), (0, .ref 0), (1, .int a1), (2, .int a2), (3, .int a3), (4, .int a4)], [.int a3, .int a1, .ref 1, .int ((x6 : Int64).toInt32), .int x4, .int a2, .ref 1], (gh_mo q9, 0, 0))) (fun _ => rfl) ?_
              obtain ⟨q10, hq10, h⟩ := gh_bi h
              refine gh_T_iv (As := [.int a1, .int a3]) (b := 1) (rest := [.int ((x6 : Int64).toInt32), .int x4, .int a2, .ref 1]) (y := some (.long q10.1)) (M' := gh_mo q10.2) rfl rfl rfl rfl rfl rfl rfl rfl rfl ⟨Nat.le_refl _, Nat.le_refl _⟩ (kX0_take (d + 2) N a1 a3 q9 q10 hq10) ?_
              obtain ⟨q11, hq11, h⟩ := gh_bi h
              refine gh_T_iv (As := [.int a2, .int x4, .int ((x6 : Int64).toInt32), .long q10.1]) (b := 1) (rest := []) (y := none) (M' := gh_mo q11) rfl rfl rfl rfl rfl rfl rfl rfl rfl ⟨Nat.le_refl _, Nat.le_refl _⟩ (kX0_put (d + 3) N a2 x4 ((x6 : Int64).toInt32) q10.1 q10.2 q11 hq11) ?_
              refine gh_T_steps 10 (τ := (162, [(7, .int q8.1), (6, .int ((x6 : Int64).toInt32)), (5, .int x4), (0, .ref 0), (1, .int a1), (2, .int a2), (3, .int a3), (4, .int a4)], [.int ((x6 : Int64).toInt32)], (gh_mo (gh_fL q11 0 10 ((q11.2.1 0 10) + ((a3 - ((x6 : Int64).toInt32) : Int32).toInt64))), 0, 0))) (fun _ => rfl) ?_
              cases h
              exact gh_T_ret (fun _ => rfl)
            | false =>
              rw [c12, cond_false] at h
              refine gh_T_ic false rfl c12 ?_
              refine gh_T_steps 1 (τ := (113, [(7, .int q8.1), (6, .int ((x6 : Int64).toInt32)), (5, .int x4), (0, .ref 0), (1, .int a1), (2, .int a2), (3, .int a3), (4, .int a4)], [.int ((-1))], (gh_mo q8.2, 0, 0))) (fun _ => rfl) ?_
              cases h
              exact gh_T_ret (fun _ => rfl)
          | false =>
            rw [c13, cond_false] at h
            refine gh_T_if false rfl c13 ?_
            refine gh_T_steps 1 (τ := (92, [(6, .int ((x6 : Int64).toInt32)), (5, .int x4), (0, .ref 0), (1, .int a1), (2, .int a2), (3, .int a3), (4, .int a4)], [.int ((-1))], (gh_mo q7.2, 0, 0))) (fun _ => rfl) ?_
            cases h
            exact gh_T_ret (fun _ => rfl)
      | false =>
        rw [c15, cond_false] at h
        refine gh_T_ic false rfl c15 ?_
        refine gh_T_steps 1 (τ := (38, [(0, .ref 0), (1, .int a1), (2, .int a2), (3, .int a3), (4, .int a4)], [.int ((-1))], (gh_mo q3.2, 0, 0))) (fun _ => rfl) ?_
        cases h
        exact gh_T_ret (fun _ => rfl)
theorem kX9_dry (d N : Nat) (a1 : Int32) (a2 : Int32) (a3 : Int32) (a4 : Int32) (S : gh_St) (r : Int32 × gh_St) (h : sX9_dry N a1 a2 a3 a4 S = some r) : gh_Mx (d + 5) 86 [.ref 0, .int a1, .int a2, .int a3, .int a4] (gh_mo S) (some (.int r.1)) (gh_mo r.2) :=
  gh_Mx_of rfl rfl rfl rfl rfl rfl (kX9_dry_e d N a1 a2 a3 a4 S r h)

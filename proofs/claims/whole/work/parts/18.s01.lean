def sX4_firstLeg_131 (N : Nat) (kc26 : Int32 → Int32 → Int32 → Int32 → Int32 → Int32 → gh_St → Option (Int32 × gh_St)) (l1 : Int32) (l2 : Int32) (l3 : Int32) (l5 : Int32) (l6 : Int32) (l7 : Int32) (S : gh_St) : Option (Int32 × gh_St) :=
  kc26 l1 l2 l3 l5 l6 (l7 + 1) S
set_option maxRecDepth 100000 in
theorem kX4_firstLeg_131 (d N : Nat) (kc26 : Int32 → Int32 → Int32 → Int32 → Int32 → Int32 → gh_St → Option (Int32 × gh_St)) (hkc26 : ∀ (l1 : Int32) (l2 : Int32) (l3 : Int32) (l5 : Int32) (l6 : Int32) (l7 : Int32) (S : gh_St) (r : Int32 × gh_St), kc26 l1 l2 l3 l5 l6 l7 S = some r → gh_T (d + 1) fX4_firstLeg 0 0 none false false (26, [(0, .ref 11), (1, .int l1), (2, .int l2), (3, .int l3), (5, .int l5), (6, .int l6), (7, .int l7)], [], (gh_mo S, 0, 0)) (some (.int r.1), (gh_mo r.2, 0, 0))) (l1 : Int32) (l2 : Int32) (l3 : Int32) (l5 : Int32) (l6 : Int32) (l7 : Int32) (S : gh_St) (r : Int32 × gh_St) (h : sX4_firstLeg_131 N kc26 l1 l2 l3 l5 l6 l7 S = some r) : gh_T (d + 1) fX4_firstLeg 0 0 none false false (131, [(0, .ref 11), (1, .int l1), (2, .int l2), (3, .int l3), (5, .int l5), (6, .int l6), (7, .int l7)], [], (gh_mo S, 0, 0)) (some (.int r.1), (gh_mo r.2, 0, 0)) := by
  unfold sX4_firstLeg_131 at h
  refine gh_T_steps 2 (τ := (26, [(7, .int (l7 + 1)), (0, .ref 11), (1, .int l1), (2, .int l2), (3, .int l3), (5, .int l5), (6, .int l6)], [], (gh_mo S, 0, 0))) (fun _ => rfl) ?_
  refine gh_T_weak (lv := [(0, .ref 11), (1, .int l1), (2, .int l2), (3, .int l3), (5, .int l5), (6, .int l6), (7, .int (l7 + 1))]) ⟨rfl, rfl, rfl, rfl, rfl, rfl, rfl, trivial⟩ ?_
  exact hkc26 l1 l2 l3 l5 l6 (l7 + 1) S _ h
def sX4_firstLeg_92 (N : Nat) (kc26 : Int32 → Int32 → Int32 → Int32 → Int32 → Int32 → gh_St → Option (Int32 × gh_St)) (l1 : Int32) (l2 : Int32) (l3 : Int32) (l5 : Int32) (l6 : Int32) (l7 : Int32) (l8 : Int32) (t0 : Int32) (S : gh_St) : Option (Int32 × gh_St) :=
  bif gh_cmp .eq t0 0 then
    (sX4_firstLeg_131 N kc26 l1 l2 l3 l5 l6 l7 S)
  else
    (bif gh_cmp .eq l8 l3 then
      (sX4_firstLeg_131 N kc26 l1 l2 l3 l5 l6 l7 S)
    else
      ((sX4_costOf N l7 l1 S).bind fun q1 =>
      (gh_ra q1.2 16 72 (l6 + l8)).bind fun x2 =>
      bif gh_cmp .ne (q1.1 + x2) l5 then
        (sX4_firstLeg_131 N kc26 l1 l2 l3 l5 l6 l7 q1.2)
      else
        (some (l7, q1.2))))
set_option maxRecDepth 100000 in
theorem kX4_firstLeg_92 (d N : Nat) (kc26 : Int32 → Int32 → Int32 → Int32 → Int32 → Int32 → gh_St → Option (Int32 × gh_St)) (hkc26 : ∀ (l1 : Int32) (l2 : Int32) (l3 : Int32) (l5 : Int32) (l6 : Int32) (l7 : Int32) (S : gh_St) (r : Int32 × gh_St), kc26 l1 l2 l3 l5 l6 l7 S = some r → gh_T (d + 1) fX4_firstLeg 0 0 none false false (26, [(0, .ref 11), (1, .int l1), (2, .int l2), (3, .int l3), (5, .int l5), (6, .int l6), (7, .int l7)], [], (gh_mo S, 0, 0)) (some (.int r.1), (gh_mo r.2, 0, 0))) (l1 : Int32) (l2 : Int32) (l3 : Int32) (l5 : Int32) (l6 : Int32) (l7 : Int32) (l8 : Int32) (t0 : Int32) (S : gh_St) (r : Int32 × gh_St) (h : sX4_firstLeg_92 N kc26 l1 l2 l3 l5 l6 l7 l8 t0 S = some r) : gh_T (d + 1) fX4_firstLeg 0 0 none false false (92, [(0, .ref 11), (1, .int l1), (2, .int l2), (3, .int l3), (5, .int l5), (6, .int l6), (7, .int l7), (8, .int l8)], [.int t0], (gh_mo S, 0, 0)) (some (.int r.1), (gh_mo r.2, 0, 0)) := by
  unfold sX4_firstLeg_92 at h
  refine gh_T_steps 2 (τ := (96, [(9, .int t0), (0, .ref 11), (1, .int l1), (2, .int l2), (3, .int l3), (5, .int l5), (6, .int l6), (7, .int l7), (8, .int l8)], [.int t0], (gh_mo S, 0, 0))) (fun _ => rfl) ?_
  cases c5 : gh_cmp .eq t0 0 with
  | true =>
    rw [c5, cond_true] at h
    refine gh_T_if true rfl c5 ?_
    refine gh_T_weak (lv := [(0, .ref 11), (1, .int l1), (2, .int l2), (3, .int l3), (5, .int l5), (6, .int l6), (7, .int l7)]) ⟨rfl, rfl, rfl, rfl, rfl, rfl, rfl, trivial⟩ ?_
    exact kX4_firstLeg_131 d N kc26 hkc26 l1 l2 l3 l5 l6 l7 S _ h
  | false =>
    rw [c5, cond_false] at h
    refine gh_T_if false rfl c5 ?_
    refine gh_T_steps 2 (τ := (102, [(9, .int t0), (0, .ref 11), (1, .int l1), (2, .int l2), (3, .int l3), (5, .int l5), (6, .int l6), (7, .int l7), (8, .int l8)], [.int l3, .int l8], (gh_mo S, 0, 0))) (fun _ => rfl) ?_
    cases c4 : gh_cmp .eq l8 l3 with
    | true =>
      rw [c4, cond_true] at h
      refine gh_T_ic true rfl c4 ?_
      refine gh_T_weak (lv := [(0, .ref 11), (1, .int l1), (2, .int l2), (3, .int l3), (5, .int l5), (6, .int l6), (7, .int l7)]) ⟨rfl, rfl, rfl, rfl, rfl, rfl, rfl, trivial⟩ ?_
      exact kX4_firstLeg_131 d N kc26 hkc26 l1 l2 l3 l5 l6 l7 S _ h
    | false =>
      rw [c4, cond_false] at h
      refine gh_T_ic false rfl c4 ?_
      refine gh_T_steps 3 (τ := (109, [(9, .int t0), (0, .ref 11), (1, .int l1), (2, .int l2), (3, .int l3), (5, .int l5), (6, .int l6), (7, .int l7), (8, .int l8)], [.int l1, .int l7, .ref 11], (gh_mo S, 0, 0))) (fun _ => rfl) ?_
      obtain ⟨q1, hq1, h⟩ := gh_bi h
      refine gh_T_iv (As := [.int l7, .int l1]) (b := 11) (rest := []) (y := some (.int q1.1)) (M' := gh_mo q1.2) rfl rfl rfl rfl rfl rfl rfl rfl rfl ⟨Nat.le_refl _, Nat.le_refl _⟩ (kX4_costOf d N l7 l1 S q1 hq1) ?_
      refine gh_T_steps 5 (τ := (121, [(9, .int t0), (0, .ref 11), (1, .int l1), (2, .int l2), (3, .int l3), (5, .int l5), (6, .int l6), (7, .int l7), (8, .int l8)], [.int (l6 + l8), .ref 16, .int q1.1], (gh_mo q1.2, 0, 0))) (fun _ => rfl) ?_
      obtain ⟨x2, hx2, h⟩ := gh_bi h
      refine gh_T_ra rfl rfl hx2 ?_
      refine gh_T_steps 2 (τ := (125, [(9, .int t0), (0, .ref 11), (1, .int l1), (2, .int l2), (3, .int l3), (5, .int l5), (6, .int l6), (7, .int l7), (8, .int l8)], [.int l5, .int (q1.1 + x2)], (gh_mo q1.2, 0, 0))) (fun _ => rfl) ?_
      cases c3 : gh_cmp .ne (q1.1 + x2) l5 with
      | true =>
        rw [c3, cond_true] at h
        refine gh_T_ic true rfl c3 ?_
        refine gh_T_weak (lv := [(0, .ref 11), (1, .int l1), (2, .int l2), (3, .int l3), (5, .int l5), (6, .int l6), (7, .int l7)]) ⟨rfl, rfl, rfl, rfl, rfl, rfl, rfl, trivial⟩ ?_
        exact kX4_firstLeg_131 d N kc26 hkc26 l1 l2 l3 l5 l6 l7 q1.2 _ h
      | false =>
        rw [c3, cond_false] at h
        refine gh_T_ic false rfl c3 ?_
        refine gh_T_steps 1 (τ := (130, [(9, .int t0), (0, .ref 11), (1, .int l1), (2, .int l2), (3, .int l3), (5, .int l5), (6, .int l6), (7, .int l7), (8, .int l8)], [.int l7], (gh_mo q1.2, 0, 0))) (fun _ => rfl) ?_
        cases h
        exact gh_T_ret (fun _ => rfl)
def sX4_firstLeg_87 (N : Nat) (kc26 : Int32 → Int32 → Int32 → Int32 → Int32 → Int32 → gh_St → Option (Int32 × gh_St)) (l1 : Int32) (l2 : Int32) (l3 : Int32) (l5 : Int32) (l6 : Int32) (l7 : Int32) (l8 : Int32) (S : gh_St) : Option (Int32 × gh_St) :=
  sX4_firstLeg_92 N kc26 l1 l2 l3 l5 l6 l7 l8 1 S
set_option maxRecDepth 100000 in
theorem kX4_firstLeg_87 (d N : Nat) (kc26 : Int32 → Int32 → Int32 → Int32 → Int32 → Int32 → gh_St → Option (Int32 × gh_St)) (hkc26 : ∀ (l1 : Int32) (l2 : Int32) (l3 : Int32) (l5 : Int32) (l6 : Int32) (l7 : Int32) (S : gh_St) (r : Int32 × gh_St), kc26 l1 l2 l3 l5 l6 l7 S = some r → gh_T (d + 1) fX4_firstLeg 0 0 none false false (26, [(0, .ref 11), (1, .int l1), (2, .int l2), (3, .int l3), (5, .int l5), (6, .int l6), (7, .int l7)], [], (gh_mo S, 0, 0)) (some (.int r.1), (gh_mo r.2, 0, 0))) (l1 : Int32) (l2 : Int32) (l3 : Int32) (l5 : Int32) (l6 : Int32) (l7 : Int32) (l8 : Int32) (S : gh_St) (r : Int32 × gh_St) (h : sX4_firstLeg_87 N kc26 l1 l2 l3 l5 l6 l7 l8 S = some r) : gh_T (d + 1) fX4_firstLeg 0 0 none false false (87, [(0, .ref 11), (1, .int l1), (2, .int l2), (3, .int l3), (5, .int l5), (6, .int l6), (7, .int l7), (8, .int l8)], [], (gh_mo S, 0, 0)) (some (.int r.1), (gh_mo r.2, 0, 0)) := by
  unfold sX4_firstLeg_87 at h
  refine gh_T_steps 2 (τ := (92, [(0, .ref 11), (1, .int l1), (2, .int l2), (3, .int l3), (5, .int l5), (6, .int l6), (7, .int l7), (8, .int l8)], [.int 1], (gh_mo S, 0, 0))) (fun _ => rfl) ?_
  exact kX4_firstLeg_92 d N kc26 hkc26 l1 l2 l3 l5 l6 l7 l8 1 S _ h
def sX4_firstLeg_63 (N : Nat) (kc26 : Int32 → Int32 → Int32 → Int32 → Int32 → Int32 → gh_St → Option (Int32 × gh_St)) (l1 : Int32) (l2 : Int32) (l3 : Int32) (l5 : Int32) (l6 : Int32) (l7 : Int32) (t0 : Int32) (S : gh_St) : Option (Int32 × gh_St) :=
  (gh_ra S 12 20 l7).bind fun x1 =>
  bif gh_cmp .eq x1 l2 then
    (sX4_firstLeg_87 N kc26 l1 l2 l3 l5 l6 l7 t0 S)
  else
    ((gh_ra S 13 20 l7).bind fun x2 =>
    bif gh_cmp .ne x2 l2 then
      (sX4_firstLeg_92 N kc26 l1 l2 l3 l5 l6 l7 t0 0 S)
    else
      (sX4_firstLeg_87 N kc26 l1 l2 l3 l5 l6 l7 t0 S))
set_option maxRecDepth 100000 in
theorem kX4_firstLeg_63 (d N : Nat) (kc26 : Int32 → Int32 → Int32 → Int32 → Int32 → Int32 → gh_St → Option (Int32 × gh_St)) (hkc26 : ∀ (l1 : Int32) (l2 : Int32) (l3 : Int32) (l5 : Int32) (l6 : Int32) (l7 : Int32) (S : gh_St) (r : Int32 × gh_St), kc26 l1 l2 l3 l5 l6 l7 S = some r → gh_T (d + 1) fX4_firstLeg 0 0 none false false (26, [(0, .ref 11), (1, .int l1), (2, .int l2), (3, .int l3), (5, .int l5), (6, .int l6), (7, .int l7)], [], (gh_mo S, 0, 0)) (some (.int r.1), (gh_mo r.2, 0, 0))) (l1 : Int32) (l2 : Int32) (l3 : Int32) (l5 : Int32) (l6 : Int32) (l7 : Int32) (t0 : Int32) (S : gh_St) (r : Int32 × gh_St) (h : sX4_firstLeg_63 N kc26 l1 l2 l3 l5 l6 l7 t0 S = some r) : gh_T (d + 1) fX4_firstLeg 0 0 none false false (63, [(0, .ref 11), (1, .int l1), (2, .int l2), (3, .int l3), (5, .int l5), (6, .int l6), (7, .int l7)], [.int t0], (gh_mo S, 0, 0)) (some (.int r.1), (gh_mo r.2, 0, 0)) := by
  unfold sX4_firstLeg_63 at h
  refine gh_T_steps 4 (τ := (71, [(8, .int t0), (0, .ref 11), (1, .int l1), (2, .int l2), (3, .int l3), (5, .int l5), (6, .int l6), (7, .int l7)], [.int l7, .ref 12], (gh_mo S, 0, 0))) (fun _ => rfl) ?_
  obtain ⟨x1, hx1, h⟩ := gh_bi h
  refine gh_T_ra rfl rfl hx1 ?_
  refine gh_T_steps 1 (τ := (73, [(8, .int t0), (0, .ref 11), (1, .int l1), (2, .int l2), (3, .int l3), (5, .int l5), (6, .int l6), (7, .int l7)], [.int l2, .int x1], (gh_mo S, 0, 0))) (fun _ => rfl) ?_
  cases c4 : gh_cmp .eq x1 l2 with
  | true =>
    rw [c4, cond_true] at h
    refine gh_T_ic true rfl c4 ?_
    refine gh_T_weak (lv := [(0, .ref 11), (1, .int l1), (2, .int l2), (3, .int l3), (5, .int l5), (6, .int l6), (7, .int l7), (8, .int t0)]) ⟨rfl, rfl, rfl, rfl, rfl, rfl, rfl, rfl, trivial⟩ ?_
    exact kX4_firstLeg_87 d N kc26 hkc26 l1 l2 l3 l5 l6 l7 t0 S _ h
  | false =>
    rw [c4, cond_false] at h
    refine gh_T_ic false rfl c4 ?_
    refine gh_T_steps 3 (τ := (82, [(8, .int t0), (0, .ref 11), (1, .int l1), (2, .int l2), (3, .int l3), (5, .int l5), (6, .int l6), (7, .int l7)], [.int l7, .ref 13], (gh_mo S, 0, 0))) (fun _ => rfl) ?_
    obtain ⟨x2, hx2, h⟩ := gh_bi h
    refine gh_T_ra rfl rfl hx2 ?_
    refine gh_T_steps 1 (τ := (84, [(8, .int t0), (0, .ref 11), (1, .int l1), (2, .int l2), (3, .int l3), (5, .int l5), (6, .int l6), (7, .int l7)], [.int l2, .int x2], (gh_mo S, 0, 0))) (fun _ => rfl) ?_
    cases c3 : gh_cmp .ne x2 l2 with
    | true =>
      rw [c3, cond_true] at h
      refine gh_T_ic true rfl c3 ?_
      refine gh_T_steps 1 (τ := (92, [(8, .int t0), (0, .ref 11), (1, .int l1), (2, .int l2), (3, .int l3), (5, .int l5), (6, .int l6), (7, .int l7)], [.int 0], (gh_mo S, 0, 0))) (fun _ => rfl) ?_
      refine gh_T_weak (lv := [(0, .ref 11), (1, .int l1), (2, .int l2), (3, .int l3), (5, .int l5), (6, .int l6), (7, .int l7), (8, .int t0)]) ⟨rfl, rfl, rfl, rfl, rfl, rfl, rfl, rfl, trivial⟩ ?_
      exact kX4_firstLeg_92 d N kc26 hkc26 l1 l2 l3 l5 l6 l7 t0 0 S _ h
    | false =>
      rw [c3, cond_false] at h
      refine gh_T_ic false rfl c3 ?_
      refine gh_T_weak (lv := [(0, .ref 11), (1, .int l1), (2, .int l2), (3, .int l3), (5, .int l5), (6, .int l6), (7, .int l7), (8, .int t0)]) ⟨rfl, rfl, rfl, rfl, rfl, rfl, rfl, rfl, trivial⟩ ?_
      exact kX4_firstLeg_87 d N kc26 hkc26 l1 l2 l3 l5 l6 l7 t0 S _ h
def sX4_firstLeg_26 (N : Nat) : Nat → Int32 → Int32 → Int32 → Int32 → Int32 → Int32 → gh_St → Option (Int32 × gh_St)
  | 0, _, _, _, _, _, _, _ => none
  | n + 1, l1, l2, l3, l5, l6, l7, S =>
    bif gh_cmp .ge l7 (S.1 11 7) then
      (some ((-1), S))
    else
      ((gh_ra S 12 20 l7).bind fun x1 =>
      bif gh_cmp .ne x1 l2 then
        ((gh_ra S 12 20 l7).bind fun x2 =>
        (gh_ra S 12 20 l7).bind fun x3 =>
        bif gh_cmp .eq x3 l2 then
          (sX4_firstLeg_87 N (sX4_firstLeg_26 N n) l1 l2 l3 l5 l6 l7 x2 S)
        else
          ((gh_ra S 13 20 l7).bind fun x4 =>
          bif gh_cmp .ne x4 l2 then
            (sX4_firstLeg_92 N (sX4_firstLeg_26 N n) l1 l2 l3 l5 l6 l7 x2 0 S)
          else
            (sX4_firstLeg_87 N (sX4_firstLeg_26 N n) l1 l2 l3 l5 l6 l7 x2 S)))
      else
        ((gh_ra S 13 20 l7).bind fun x7 =>
        sX4_firstLeg_63 N (sX4_firstLeg_26 N n) l1 l2 l3 l5 l6 l7 x7 S))
set_option maxRecDepth 100000 in
theorem kX4_firstLeg_26 (d N : Nat) : ∀ (n : Nat) (l1 : Int32) (l2 : Int32) (l3 : Int32) (l5 : Int32) (l6 : Int32) (l7 : Int32) (S : gh_St) (r : Int32 × gh_St), sX4_firstLeg_26 N n l1 l2 l3 l5 l6 l7 S = some r → gh_T (d + 1) fX4_firstLeg 0 0 none false false (26, [(0, .ref 11), (1, .int l1), (2, .int l2), (3, .int l3), (5, .int l5), (6, .int l6), (7, .int l7)], [], (gh_mo S, 0, 0)) (some (.int r.1), (gh_mo r.2, 0, 0)) := by
  intro n
  induction n with
  | zero =>
    intro l1 l2 l3 l5 l6 l7 S r h
    cases h
  | succ n ih =>
    intro l1 l2 l3 l5 l6 l7 S r h
    rw [sX4_firstLeg_26] at h
    refine gh_T_steps 3 (τ := (32, [(0, .ref 11), (1, .int l1), (2, .int l2), (3, .int l3), (5, .int l5), (6, .int l6), (7, .int l7)], [.int (S.1 11 7), .int l7], (gh_mo S, 0, 0))) (fun _ => rfl) ?_
    cases c9 : gh_cmp .ge l7 (S.1 11 7) with
    | true =>
      rw [c9, cond_true] at h
      refine gh_T_ic true rfl c9 ?_
      refine gh_T_steps 1 (τ := (138, [(0, .ref 11), (1, .int l1), (2, .int l2), (3, .int l3), (5, .int l5), (6, .int l6), (7, .int l7)], [.int ((-1))], (gh_mo S, 0, 0))) (fun _ => rfl) ?_
      cases h
      exact gh_T_ret (fun _ => rfl)
    | false =>
      rw [c9, cond_false] at h
      refine gh_T_ic false rfl c9 ?_
      refine gh_T_steps 3 (τ := (41, [(0, .ref 11), (1, .int l1), (2, .int l2), (3, .int l3), (5, .int l5), (6, .int l6), (7, .int l7)], [.int l7, .ref 12], (gh_mo S, 0, 0))) (fun _ => rfl) ?_
      obtain ⟨x1, hx1, h⟩ := gh_bi h
      refine gh_T_ra rfl rfl hx1 ?_
      refine gh_T_steps 1 (τ := (43, [(0, .ref 11), (1, .int l1), (2, .int l2), (3, .int l3), (5, .int l5), (6, .int l6), (7, .int l7)], [.int l2, .int x1], (gh_mo S, 0, 0))) (fun _ => rfl) ?_
      cases c8 : gh_cmp .ne x1 l2 with
      | true =>
        rw [c8, cond_true] at h
        refine gh_T_ic true rfl c8 ?_
        refine gh_T_steps 3 (τ := (62, [(0, .ref 11), (1, .int l1), (2, .int l2), (3, .int l3), (5, .int l5), (6, .int l6), (7, .int l7)], [.int l7, .ref 12], (gh_mo S, 0, 0))) (fun _ => rfl) ?_
        obtain ⟨x2, hx2, h⟩ := gh_bi h
        refine gh_T_ra rfl rfl hx2 ?_
        refine gh_T_steps 4 (τ := (71, [(8, .int x2), (0, .ref 11), (1, .int l1), (2, .int l2), (3, .int l3), (5, .int l5), (6, .int l6), (7, .int l7)], [.int l7, .ref 12], (gh_mo S, 0, 0))) (fun _ => rfl) ?_
        obtain ⟨x3, hx3, h⟩ := gh_bi h
        refine gh_T_ra rfl rfl hx3 ?_
        refine gh_T_steps 1 (τ := (73, [(8, .int x2), (0, .ref 11), (1, .int l1), (2, .int l2), (3, .int l3), (5, .int l5), (6, .int l6), (7, .int l7)], [.int l2, .int x3], (gh_mo S, 0, 0))) (fun _ => rfl) ?_
        cases c6 : gh_cmp .eq x3 l2 with
        | true =>
          rw [c6, cond_true] at h
          refine gh_T_ic true rfl c6 ?_
          refine gh_T_weak (lv := [(0, .ref 11), (1, .int l1), (2, .int l2), (3, .int l3), (5, .int l5), (6, .int l6), (7, .int l7), (8, .int x2)]) ⟨rfl, rfl, rfl, rfl, rfl, rfl, rfl, rfl, trivial⟩ ?_
          exact kX4_firstLeg_87 d N (sX4_firstLeg_26 N n) ih l1 l2 l3 l5 l6 l7 x2 S _ h
        | false =>
          rw [c6, cond_false] at h
          refine gh_T_ic false rfl c6 ?_
          refine gh_T_steps 3 (τ := (82, [(8, .int x2), (0, .ref 11), (1, .int l1), (2, .int l2), (3, .int l3), (5, .int l5), (6, .int l6), (7, .int l7)], [.int l7, .ref 13], (gh_mo S, 0, 0))) (fun _ => rfl) ?_
          obtain ⟨x4, hx4, h⟩ := gh_bi h
          refine gh_T_ra rfl rfl hx4 ?_
          refine gh_T_steps 1 (τ := (84, [(8, .int x2), (0, .ref 11), (1, .int l1), (2, .int l2), (3, .int l3), (5, .int l5), (6, .int l6), (7, .int l7)], [.int l2, .int x4], (gh_mo S, 0, 0))) (fun _ => rfl) ?_
          cases c5 : gh_cmp .ne x4 l2 with
          | true =>
            rw [c5, cond_true] at h
            refine gh_T_ic true rfl c5 ?_
            refine gh_T_steps 1 (τ := (92, [(8, .int x2), (0, .ref 11), (1, .int l1), (2, .int l2), (3, .int l3), (5, .int l5), (6, .int l6), (7, .int l7)], [.int 0], (gh_mo S, 0, 0))) (fun _ => rfl) ?_
            refine gh_T_weak (lv := [(0, .ref 11), (1, .int l1), (2, .int l2), (3, .int l3), (5, .int l5), (6, .int l6), (7, .int l7), (8, .int x2)]) ⟨rfl, rfl, rfl, rfl, rfl, rfl, rfl, rfl, trivial⟩ ?_
            exact kX4_firstLeg_92 d N (sX4_firstLeg_26 N n) ih l1 l2 l3 l5 l6 l7 x2 0 S _ h
          | false =>
            rw [c5, cond_false] at h
            refine gh_T_ic false rfl c5 ?_
            refine gh_T_weak (lv := [(0, .ref 11), (1, .int l1), (2, .int l2), (3, .int l3), (5, .int l5), (6, .int l6), (7, .int l7), (8, .int x2)]) ⟨rfl, rfl, rfl, rfl, rfl, rfl, rfl, rfl, trivial⟩ ?_
            exact kX4_firstLeg_87 d N (sX4_firstLeg_26 N n) ih l1 l2 l3 l5 l6 l7 x2 S _ h
      | false =>
        rw [c8, cond_false] at h
        refine gh_T_ic false rfl c8 ?_
        refine gh_T_steps 3 (τ := (52, [(0, .ref 11), (1, .int l1), (2, .int l2), (3, .int l3), (5, .int l5), (6, .int l6), (7, .int l7)], [.int l7, .ref 13], (gh_mo S, 0, 0))) (fun _ => rfl) ?_
        obtain ⟨x7, hx7, h⟩ := gh_bi h
        refine gh_T_ra rfl rfl hx7 ?_
        refine gh_T_steps 1 (τ := (63, [(0, .ref 11), (1, .int l1), (2, .int l2), (3, .int l3), (5, .int l5), (6, .int l6), (7, .int l7)], [.int x7], (gh_mo S, 0, 0))) (fun _ => rfl) ?_
        exact kX4_firstLeg_63 d N (sX4_firstLeg_26 N n) ih l1 l2 l3 l5 l6 l7 x7 S _ h
def sX4_firstLeg (N : Nat) (a1 : Int32) (a2 : Int32) (a3 : Int32) (a4 : Int32) (S : gh_St) : Option (Int32 × gh_St) :=
  (gh_ra S 16 72 ((a4 * (12 : Int32)) + a2)).bind fun x1 =>
  sX4_firstLeg_26 N N a1 a2 a3 x1 ((a4 - (1 : Int32)) * (12 : Int32)) 0 S
set_option maxRecDepth 100000 in
theorem kX4_firstLeg_e (d N : Nat) (a1 : Int32) (a2 : Int32) (a3 : Int32) (a4 : Int32) (S : gh_St) (r : Int32 × gh_St) (h : sX4_firstLeg N a1 a2 a3 a4 S = some r) : gh_T (d + 1) fX4_firstLeg 0 0 none false false (0, [(0, .ref 11), (1, .int a1), (2, .int a2), (3, .int a3), (4, .int a4)], [], (gh_mo S, 0, 0)) (some (.int r.1), (gh_mo r.2, 0, 0)) := by
  unfold sX4_firstLeg at h
  refine gh_T_steps 7 (τ := (11, [(0, .ref 11), (1, .int a1), (2, .int a2), (3, .int a3), (4, .int a4)], [.int ((a4 * (12 : Int32)) + a2), .ref 16], (gh_mo S, 0, 0))) (fun _ => rfl) ?_
  obtain ⟨x1, hx1, h⟩ := gh_bi h
  refine gh_T_ra rfl rfl hx1 ?_
  refine gh_T_steps 9 (τ := (26, [(7, .int 0), (6, .int ((a4 - (1 : Int32)) * (12 : Int32))), (5, .int x1), (0, .ref 11), (1, .int a1), (2, .int a2), (3, .int a3), (4, .int a4)], [], (gh_mo S, 0, 0))) (fun _ => rfl) ?_
  refine gh_T_weak (lv := [(0, .ref 11), (1, .int a1), (2, .int a2), (3, .int a3), (5, .int x1), (6, .int ((a4 - (1 : Int32)) * (12 : Int32))), (7, .int 0)]) ⟨rfl, rfl, rfl, rfl, rfl, rfl, rfl, trivial⟩ ?_
  exact kX4_firstLeg_26 d N N a1 a2 a3 x1 ((a4 - (1 : Int32)) * (12 : Int32)) 0 S _ h
theorem kX4_firstLeg (d N : Nat) (a1 : Int32) (a2 : Int32) (a3 : Int32) (a4 : Int32) (S : gh_St) (r : Int32 × gh_St) (h : sX4_firstLeg N a1 a2 a3 a4 S = some r) : gh_Mx (d + 2) 44 [.ref 11, .int a1, .int a2, .int a3, .int a4] (gh_mo S) (some (.int r.1)) (gh_mo r.2) :=
  gh_Mx_of rfl rfl rfl rfl rfl rfl (kX4_firstLeg_e d N a1 a2 a3 a4 S r h)
def sX4_goBy_2 (N : Nat) : Nat → Int32 → Int32 → Int32 → gh_St → Option (gh_St)
  | 0, _, _, _, _ => none
  | n + 1, l1, l2, l3, S =>
    bif gh_cmp .ge l3 (S.1 11 6) then
      (some (gh_fL S 11 9 ((S.2.1 11 9) + ((l2 : Int32).toInt64))))
    else
      ((gh_ra S 17 5 l3).bind fun x1 =>
      (gh_wa S 15 20 x1 l1).bind fun S2 =>
      (sX4_goBy_2 N n) l1 l2 (l3 + 1) S2)
set_option maxRecDepth 100000 in
theorem kX4_goBy_2 (d N : Nat) : ∀ (n : Nat) (l1 : Int32) (l2 : Int32) (l3 : Int32) (S : gh_St) (r : gh_St), sX4_goBy_2 N n l1 l2 l3 S = some r → gh_T d fX4_goBy 0 0 none false false (2, [(0, .ref 11), (1, .int l1), (2, .int l2), (3, .int l3)], [], (gh_mo S, 0, 0)) (none, (gh_mo r, 0, 0)) := by
  intro n
  induction n with
  | zero =>
    intro l1 l2 l3 S r h
    cases h
  | succ n ih =>
    intro l1 l2 l3 S r h
    rw [sX4_goBy_2] at h
    refine gh_T_steps 3 (τ := (7, [(0, .ref 11), (1, .int l1), (2, .int l2), (3, .int l3)], [.int (S.1 11 6), .int l3], (gh_mo S, 0, 0))) (fun _ => rfl) ?_
    cases c3 : gh_cmp .ge l3 (S.1 11 6) with
    | true =>
      rw [c3, cond_true] at h
      refine gh_T_ic true rfl c3 ?_
      refine gh_T_steps 7 (τ := (39, [(0, .ref 11), (1, .int l1), (2, .int l2), (3, .int l3)], [], (gh_mo (gh_fL S 11 9 ((S.2.1 11 9) + ((l2 : Int32).toInt64))), 0, 0))) (fun _ => rfl) ?_
      cases h
      exact gh_T_ret (fun _ => rfl)
    | false =>
      rw [c3, cond_false] at h
      refine gh_T_ic false rfl c3 ?_
      refine gh_T_steps 5 (τ := (19, [(0, .ref 11), (1, .int l1), (2, .int l2), (3, .int l3)], [.int l3, .ref 17, .ref 15], (gh_mo S, 0, 0))) (fun _ => rfl) ?_
      obtain ⟨x1, hx1, h⟩ := gh_bi h
      refine gh_T_ra rfl rfl hx1 ?_
      refine gh_T_steps 1 (τ := (21, [(0, .ref 11), (1, .int l1), (2, .int l2), (3, .int l3)], [.int l1, .int x1, .ref 15], (gh_mo S, 0, 0))) (fun _ => rfl) ?_
      obtain ⟨S2, hS2, h⟩ := gh_bi h
      refine gh_T_wa rfl rfl hS2 ?_
      refine gh_T_steps 2 (τ := (2, [(3, .int (l3 + 1)), (0, .ref 11), (1, .int l1), (2, .int l2)], [], (gh_mo S2, 0, 0))) (fun _ => rfl) ?_
      refine gh_T_weak (lv := [(0, .ref 11), (1, .int l1), (2, .int l2), (3, .int (l3 + 1))]) ⟨rfl, rfl, rfl, rfl, trivial⟩ ?_
      exact ih l1 l2 (l3 + 1) S2 _ h
def sX4_goBy (N : Nat) (a1 : Int32) (a2 : Int32) (S : gh_St) : Option (gh_St) :=
  sX4_goBy_2 N N a1 a2 0 S
set_option maxRecDepth 100000 in
theorem kX4_goBy_e (d N : Nat) (a1 : Int32) (a2 : Int32) (S : gh_St) (r : gh_St) (h : sX4_goBy N a1 a2 S = some r) : gh_T d fX4_goBy 0 0 none false false (0, [(0, .ref 11), (1, .int a1), (2, .int a2)], [], (gh_mo S, 0, 0)) (none, (gh_mo r, 0, 0)) := by
  unfold sX4_goBy at h
  refine gh_T_steps 2 (τ := (2, [(3, .int 0), (0, .ref 11), (1, .int a1), (2, .int a2)], [], (gh_mo S, 0, 0))) (fun _ => rfl) ?_
  refine gh_T_weak (lv := [(0, .ref 11), (1, .int a1), (2, .int a2), (3, .int 0)]) ⟨rfl, rfl, rfl, rfl, trivial⟩ ?_
  exact kX4_goBy_2 d N N a1 a2 0 S _ h
theorem kX4_goBy (d N : Nat) (a1 : Int32) (a2 : Int32) (S : gh_St) (r : gh_St) (h : sX4_goBy N a1 a2 S = some r) : gh_Mx (d + 1) 45 [.ref 11, .int a1, .int a2] (gh_mo S) none (gh_mo r) :=
  gh_Mx_of rfl rfl rfl rfl rfl rfl (kX4_goBy_e d N a1 a2 S r h)
def sX5_clear_7 (N : Nat) (b : Bool) : Nat → Int32 → gh_St → Option (gh_St)
  | 0, _, _ => none
  | n + 1, l1, S =>
    bif gh_cmp .ge l1 4 then
      (some S)
    else
      ((gh_wa S (gh_pl b + 1) 4 l1 0).bind fun S1 =>
      (gh_wa S1 (gh_pl b + 2) 4 l1 (vp_nar .boolean 0)).bind fun S2 =>
      (sX5_clear_7 N b n) (l1 + 1) S2)
set_option maxRecDepth 100000 in
theorem kX5_clear_7 (d N : Nat) (b : Bool) : ∀ (n : Nat) (l1 : Int32) (S : gh_St) (r : gh_St), sX5_clear_7 N b n l1 S = some r → gh_T d fX5_clear 0 0 none false false (7, [(0, .ref (gh_pl b)), (1, .int l1)], [], (gh_mo S, 0, 0)) (none, (gh_mo r, 0, 0)) := by
  cases b with
  | false =>
    intro n
    induction n with
    | zero =>
      intro l1 S r h
      cases h
    | succ n ih =>
      intro l1 S r h
      rw [sX5_clear_7] at h
      refine gh_T_steps 2 (τ := (9, [(0, .ref (gh_pl false)), (1, .int l1)], [.int 4, .int l1], (gh_mo S, 0, 0))) (fun _ => rfl) ?_
      cases c3 : gh_cmp .ge l1 4 with
      | true =>
        rw [c3, cond_true] at h
        refine gh_T_ic true rfl c3 ?_
        cases h
        exact gh_T_ret (fun _ => rfl)
      | false =>
        rw [c3, cond_false] at h
        refine gh_T_ic false rfl c3 ?_
        refine gh_T_steps 4 (τ := (18, [(0, .ref (gh_pl false)), (1, .int l1)], [.int 0, .int l1, .ref (gh_pl false + 1)], (gh_mo S, 0, 0))) (fun _ => rfl) ?_
        obtain ⟨S1, hS1, h⟩ := gh_bi h
        refine gh_T_wa rfl rfl hS1 ?_
        refine gh_T_steps 4 (τ := (25, [(0, .ref (gh_pl false)), (1, .int l1)], [.int 0, .int l1, .ref (gh_pl false + 2)], (gh_mo S1, 0, 0))) (fun _ => rfl) ?_
        obtain ⟨S2, hS2, h⟩ := gh_bi h
        refine gh_T_wz rfl rfl hS2 ?_
        refine gh_T_steps 2 (τ := (7, [(1, .int (l1 + 1)), (0, .ref (gh_pl false))], [], (gh_mo S2, 0, 0))) (fun _ => rfl) ?_
        refine gh_T_weak (lv := [(0, .ref (gh_pl false)), (1, .int (l1 + 1))]) ⟨rfl, rfl, trivial⟩ ?_
        exact ih (l1 + 1) S2 _ h
  | true =>
    intro n
    induction n with
    | zero =>
      intro l1 S r h
      cases h
    | succ n ih =>
      intro l1 S r h
      rw [sX5_clear_7] at h
      refine gh_T_steps 2 (τ := (9, [(0, .ref (gh_pl true)), (1, .int l1)], [.int 4, .int l1], (gh_mo S, 0, 0))) (fun _ => rfl) ?_
      cases c3 : gh_cmp .ge l1 4 with
      | true =>
        rw [c3, cond_true] at h
        refine gh_T_ic true rfl c3 ?_
        cases h
        exact gh_T_ret (fun _ => rfl)
      | false =>
        rw [c3, cond_false] at h
        refine gh_T_ic false rfl c3 ?_
        refine gh_T_steps 4 (τ := (18, [(0, .ref (gh_pl true)), (1, .int l1)], [.int 0, .int l1, .ref (gh_pl true + 1)], (gh_mo S, 0, 0))) (fun _ => rfl) ?_
        obtain ⟨S1, hS1, h⟩ := gh_bi h
        refine gh_T_wa rfl rfl hS1 ?_
        refine gh_T_steps 4 (τ := (25, [(0, .ref (gh_pl true)), (1, .int l1)], [.int 0, .int l1, .ref (gh_pl true + 2)], (gh_mo S1, 0, 0))) (fun _ => rfl) ?_
        obtain ⟨S2, hS2, h⟩ := gh_bi h
        refine gh_T_wz rfl rfl hS2 ?_
        refine gh_T_steps 2 (τ := (7, [(1, .int (l1 + 1)), (0, .ref (gh_pl true))], [], (gh_mo S2, 0, 0))) (fun _ => rfl) ?_
        refine gh_T_weak (lv := [(0, .ref (gh_pl true)), (1, .int (l1 + 1))]) ⟨rfl, rfl, trivial⟩ ?_
        exact ih (l1 + 1) S2 _ h
def sX5_clear (N : Nat) (b : Bool) (S : gh_St) : Option (gh_St) :=
  sX5_clear_7 N b N 0 (gh_fI S (gh_pl b) 4 0)
set_option maxRecDepth 100000 in
theorem kX5_clear_e (d N : Nat) (b : Bool) (S : gh_St) (r : gh_St) (h : sX5_clear N b S = some r) : gh_T d fX5_clear 0 0 none false false (0, [(0, .ref (gh_pl b))], [], (gh_mo S, 0, 0)) (none, (gh_mo r, 0, 0)) := by
  unfold sX5_clear at h
  cases b with
  | false =>
    refine gh_T_steps 5 (τ := (7, [(1, .int 0), (0, .ref (gh_pl false))], [], (gh_mo (gh_fI S (gh_pl false) 4 0), 0, 0))) (fun _ => rfl) ?_
    refine gh_T_weak (lv := [(0, .ref (gh_pl false)), (1, .int 0)]) ⟨rfl, rfl, trivial⟩ ?_
    exact kX5_clear_7 d N false N 0 (gh_fI S (gh_pl false) 4 0) _ h
  | true =>
    refine gh_T_steps 5 (τ := (7, [(1, .int 0), (0, .ref (gh_pl true))], [], (gh_mo (gh_fI S (gh_pl true) 4 0), 0, 0))) (fun _ => rfl) ?_
    refine gh_T_weak (lv := [(0, .ref (gh_pl true)), (1, .int 0)]) ⟨rfl, rfl, trivial⟩ ?_
    exact kX5_clear_7 d N true N 0 (gh_fI S (gh_pl true) 4 0) _ h
theorem kX5_clear (d N : Nat) (b : Bool) (S : gh_St) (r : gh_St) (h : sX5_clear N b S = some r) : gh_Mx (d + 1) 47 [.ref (gh_pl b)] (gh_mo S) none (gh_mo r) :=
  gh_Mx_of rfl rfl rfl rfl rfl rfl (kX5_clear_e d N b S r h)
def sX5_hasDock_2 (N : Nat) (b : Bool) : Nat → Int32 → Int32 → gh_St → Option (Int32 × gh_St)
  | 0, _, _, _ => none
  | n + 1, l1, l2, S =>
    bif gh_cmp .ge l2 (S.1 (gh_pl b) 4) then
      (some (0, S))
    else
      ((gh_ra S (gh_pl b + 3) 8 l2).bind fun x1 =>
      bif gh_cmp .ne x1 l1 then
        ((sX5_hasDock_2 N b n) l1 (l2 + 1) S)
      else
        (some (1, S)))
set_option maxRecDepth 100000 in
theorem kX5_hasDock_2 (d N : Nat) (b : Bool) : ∀ (n : Nat) (l1 : Int32) (l2 : Int32) (S : gh_St) (r : Int32 × gh_St), sX5_hasDock_2 N b n l1 l2 S = some r → gh_T d fX5_hasDock 0 0 none true false (2, [(0, .ref (gh_pl b)), (1, .int l1), (2, .int l2)], [], (gh_mo S, 0, 0)) (some (.int r.1), (gh_mo r.2, 0, 0)) := by
  cases b with
  | false =>
    intro n
    induction n with
    | zero =>
      intro l1 l2 S r h
      cases h
    | succ n ih =>
      intro l1 l2 S r h
      rw [sX5_hasDock_2] at h
      refine gh_T_steps 3 (τ := (7, [(0, .ref (gh_pl false)), (1, .int l1), (2, .int l2)], [.int (S.1 (gh_pl false) 4), .int l2], (gh_mo S, 0, 0))) (fun _ => rfl) ?_
      cases c3 : gh_cmp .ge l2 (S.1 (gh_pl false) 4) with
      | true =>
        rw [c3, cond_true] at h
        refine gh_T_ic true rfl c3 ?_
        refine gh_T_steps 1 (τ := (29, [(0, .ref (gh_pl false)), (1, .int l1), (2, .int l2)], [.int 0], (gh_mo S, 0, 0))) (fun _ => rfl) ?_
        cases h
        exact gh_T_ret (fun _ => rfl)
      | false =>
        rw [c3, cond_false] at h
        refine gh_T_ic false rfl c3 ?_
        refine gh_T_steps 3 (τ := (15, [(0, .ref (gh_pl false)), (1, .int l1), (2, .int l2)], [.int l2, .ref (gh_pl false + 3)], (gh_mo S, 0, 0))) (fun _ => rfl) ?_
        obtain ⟨x1, hx1, h⟩ := gh_bi h
        refine gh_T_ra rfl rfl hx1 ?_
        refine gh_T_steps 1 (τ := (17, [(0, .ref (gh_pl false)), (1, .int l1), (2, .int l2)], [.int l1, .int x1], (gh_mo S, 0, 0))) (fun _ => rfl) ?_
        cases c2 : gh_cmp .ne x1 l1 with
        | true =>
          rw [c2, cond_true] at h
          refine gh_T_ic true rfl c2 ?_
          refine gh_T_steps 2 (τ := (2, [(2, .int (l2 + 1)), (0, .ref (gh_pl false)), (1, .int l1)], [], (gh_mo S, 0, 0))) (fun _ => rfl) ?_
          refine gh_T_weak (lv := [(0, .ref (gh_pl false)), (1, .int l1), (2, .int (l2 + 1))]) ⟨rfl, rfl, rfl, trivial⟩ ?_
          exact ih l1 (l2 + 1) S _ h
        | false =>
          rw [c2, cond_false] at h
          refine gh_T_ic false rfl c2 ?_
          refine gh_T_steps 1 (τ := (21, [(0, .ref (gh_pl false)), (1, .int l1), (2, .int l2)], [.int 1], (gh_mo S, 0, 0))) (fun _ => rfl) ?_
          cases h
          exact gh_T_ret (fun _ => rfl)
  | true =>
    intro n
    induction n with
    | zero =>
      intro l1 l2 S r h
      cases h
    | succ n ih =>
      intro l1 l2 S r h
      rw [sX5_hasDock_2] at h
      refine gh_T_steps 3 (τ := (7, [(0, .ref (gh_pl true)), (1, .int l1), (2, .int l2)], [.int (S.1 (gh_pl true) 4), .int l2], (gh_mo S, 0, 0))) (fun _ => rfl) ?_
      cases c3 : gh_cmp .ge l2 (S.1 (gh_pl true) 4) with
      | true =>
        rw [c3, cond_true] at h
        refine gh_T_ic true rfl c3 ?_
        refine gh_T_steps 1 (τ := (29, [(0, .ref (gh_pl true)), (1, .int l1), (2, .int l2)], [.int 0], (gh_mo S, 0, 0))) (fun _ => rfl) ?_
        cases h
        exact gh_T_ret (fun _ => rfl)
      | false =>
        rw [c3, cond_false] at h
        refine gh_T_ic false rfl c3 ?_
        refine gh_T_steps 3 (τ := (15, [(0, .ref (gh_pl true)), (1, .int l1), (2, .int l2)], [.int l2, .ref (gh_pl true + 3)], (gh_mo S, 0, 0))) (fun _ => rfl) ?_
        obtain ⟨x1, hx1, h⟩ := gh_bi h
        refine gh_T_ra rfl rfl hx1 ?_
        refine gh_T_steps 1 (τ := (17, [(0, .ref (gh_pl true)), (1, .int l1), (2, .int l2)], [.int l1, .int x1], (gh_mo S, 0, 0))) (fun _ => rfl) ?_
        cases c2 : gh_cmp .ne x1 l1 with
        | true =>
          rw [c2, cond_true] at h
          refine gh_T_ic true rfl c2 ?_
          refine gh_T_steps 2 (τ := (2, [(2, .int (l2 + 1)), (0, .ref (gh_pl true)), (1, .int l1)], [], (gh_mo S, 0, 0))) (fun _ => rfl) ?_
          refine gh_T_weak (lv := [(0, .ref (gh_pl true)), (1, .int l1), (2, .int (l2 + 1))]) ⟨rfl, rfl, rfl, trivial⟩ ?_
          exact ih l1 (l2 + 1) S _ h
        | false =>
          rw [c2, cond_false] at h
          refine gh_T_ic false rfl c2 ?_
          refine gh_T_steps 1 (τ := (21, [(0, .ref (gh_pl true)), (1, .int l1), (2, .int l2)], [.int 1], (gh_mo S, 0, 0))) (fun _ => rfl) ?_
          cases h
          exact gh_T_ret (fun _ => rfl)
def sX5_hasDock (N : Nat) (b : Bool) (a1 : Int32) (S : gh_St) : Option (Int32 × gh_St) :=
  sX5_hasDock_2 N b N a1 0 S
set_option maxRecDepth 100000 in
theorem kX5_hasDock_e (d N : Nat) (b : Bool) (a1 : Int32) (S : gh_St) (r : Int32 × gh_St) (h : sX5_hasDock N b a1 S = some r) : gh_T d fX5_hasDock 0 0 none true false (0, [(0, .ref (gh_pl b)), (1, .int a1)], [], (gh_mo S, 0, 0)) (some (.int r.1), (gh_mo r.2, 0, 0)) := by
  unfold sX5_hasDock at h
  cases b with
  | false =>
    refine gh_T_steps 2 (τ := (2, [(2, .int 0), (0, .ref (gh_pl false)), (1, .int a1)], [], (gh_mo S, 0, 0))) (fun _ => rfl) ?_
    refine gh_T_weak (lv := [(0, .ref (gh_pl false)), (1, .int a1), (2, .int 0)]) ⟨rfl, rfl, rfl, trivial⟩ ?_
    exact kX5_hasDock_2 d N false N a1 0 S _ h
  | true =>
    refine gh_T_steps 2 (τ := (2, [(2, .int 0), (0, .ref (gh_pl true)), (1, .int a1)], [], (gh_mo S, 0, 0))) (fun _ => rfl) ?_
    refine gh_T_weak (lv := [(0, .ref (gh_pl true)), (1, .int a1), (2, .int 0)]) ⟨rfl, rfl, rfl, trivial⟩ ?_
    exact kX5_hasDock_2 d N true N a1 0 S _ h
theorem kX5_hasDock (d N : Nat) (b : Bool) (a1 : Int32) (S : gh_St) (r : Int32 × gh_St) (h : sX5_hasDock N b a1 S = some r) : gh_Mx (d + 1) 49 [.ref (gh_pl b), .int a1] (gh_mo S) (some (.int r.1)) (gh_mo r.2) :=
  gh_Mx_of rfl rfl rfl rfl rfl rfl (kX5_hasDock_e d N b a1 S r h)
def sX5_isFull (N : Nat) (b : Bool) (S : gh_St) : Option (Int32 × gh_St) :=
  bif gh_cmp .lt (S.1 (gh_pl b) 4) 8 then
    (some (0, S))
  else
    (some (1, S))
set_option maxRecDepth 100000 in
theorem kX5_isFull_e (d N : Nat) (b : Bool) (S : gh_St) (r : Int32 × gh_St) (h : sX5_isFull N b S = some r) : gh_T d fX5_isFull 0 0 none true false (0, [(0, .ref (gh_pl b))], [], (gh_mo S, 0, 0)) (some (.int r.1), (gh_mo r.2, 0, 0)) := by
  unfold sX5_isFull at h
  cases b with
  | false =>
    refine gh_T_steps 3 (τ := (6, [(0, .ref (gh_pl false))], [.int 8, .int (S.1 (gh_pl false) 4)], (gh_mo S, 0, 0))) (fun _ => rfl) ?_
    cases c1 : gh_cmp .lt (S.1 (gh_pl false) 4) 8 with
    | true =>
      rw [c1, cond_true] at h
      refine gh_T_ic true rfl c1 ?_
      refine gh_T_steps 1 (τ := (14, [(0, .ref (gh_pl false))], [.int 0], (gh_mo S, 0, 0))) (fun _ => rfl) ?_
      cases h
      exact gh_T_ret (fun _ => rfl)
    | false =>
      rw [c1, cond_false] at h
      refine gh_T_ic false rfl c1 ?_
      refine gh_T_steps 2 (τ := (14, [(0, .ref (gh_pl false))], [.int 1], (gh_mo S, 0, 0))) (fun _ => rfl) ?_
      cases h
      exact gh_T_ret (fun _ => rfl)
  | true =>
    refine gh_T_steps 3 (τ := (6, [(0, .ref (gh_pl true))], [.int 8, .int (S.1 (gh_pl true) 4)], (gh_mo S, 0, 0))) (fun _ => rfl) ?_
    cases c1 : gh_cmp .lt (S.1 (gh_pl true) 4) 8 with
    | true =>
      rw [c1, cond_true] at h
      refine gh_T_ic true rfl c1 ?_
      refine gh_T_steps 1 (τ := (14, [(0, .ref (gh_pl true))], [.int 0], (gh_mo S, 0, 0))) (fun _ => rfl) ?_
      cases h
      exact gh_T_ret (fun _ => rfl)
    | false =>
      rw [c1, cond_false] at h
      refine gh_T_ic false rfl c1 ?_
      refine gh_T_steps 2 (τ := (14, [(0, .ref (gh_pl true))], [.int 1], (gh_mo S, 0, 0))) (fun _ => rfl) ?_
      cases h
      exact gh_T_ret (fun _ => rfl)
theorem kX5_isFull (d N : Nat) (b : Bool) (S : gh_St) (r : Int32 × gh_St) (h : sX5_isFull N b S = some r) : gh_Mx (d + 1) 50 [.ref (gh_pl b)] (gh_mo S) (some (.int r.1)) (gh_mo r.2) :=
  gh_Mx_of rfl rfl rfl rfl rfl rfl (kX5_isFull_e d N b S r h)
def sX5_addDock (N : Nat) (b : Bool) (a1 : Int32) (a2 : Int32) (S : gh_St) : Option (gh_St) :=
  (sX5_isFull N b S).bind fun q1 =>
  bif gh_cmp .ne q1.1 0 then
    (some q1.2)
  else
    ((gh_wa q1.2 (gh_pl b + 3) 8 (q1.2.1 (gh_pl b) 4) a1).bind fun S2 =>
    (gh_wa S2 (gh_pl b + 4) 8 (S2.1 (gh_pl b) 4) a2).bind fun S3 =>
    some (gh_fI S3 (gh_pl b) 4 ((S3.1 (gh_pl b) 4) + (1 : Int32))))
set_option maxRecDepth 100000 in
theorem kX5_addDock_e (d N : Nat) (b : Bool) (a1 : Int32) (a2 : Int32) (S : gh_St) (r : gh_St) (h : sX5_addDock N b a1 a2 S = some r) : gh_T (d + 1) fX5_addDock 0 0 none false false (0, [(0, .ref (gh_pl b)), (1, .int a1), (2, .int a2)], [], (gh_mo S, 0, 0)) (none, (gh_mo r, 0, 0)) := by
  unfold sX5_addDock at h
  cases b with
  | false =>
    refine gh_T_steps 1 (τ := (1, [(0, .ref (gh_pl false)), (1, .int a1), (2, .int a2)], [.ref (gh_pl false)], (gh_mo S, 0, 0))) (fun _ => rfl) ?_
    obtain ⟨q1, hq1, h⟩ := gh_bi h
    refine gh_T_iv (As := []) (b := gh_pl false) (rest := []) (y := some (.int q1.1)) (M' := gh_mo q1.2) rfl rfl rfl rfl rfl rfl rfl rfl rfl ⟨Nat.le_refl _, Nat.le_refl _⟩ (kX5_isFull d N false S q1 hq1) ?_
    cases c4 : gh_cmp .ne q1.1 0 with
    | true =>
      rw [c4, cond_true] at h
      refine gh_T_if true rfl c4 ?_
      cases h
      exact gh_T_ret (fun _ => rfl)
    | false =>
      rw [c4, cond_false] at h
      refine gh_T_if false rfl c4 ?_
      refine gh_T_steps 5 (τ := (16, [(0, .ref (gh_pl false)), (1, .int a1), (2, .int a2)], [.int a1, .int (q1.2.1 (gh_pl false) 4), .ref (gh_pl false + 3)], (gh_mo q1.2, 0, 0))) (fun _ => rfl) ?_
      obtain ⟨S2, hS2, h⟩ := gh_bi h
      refine gh_T_wa rfl rfl hS2 ?_
      refine gh_T_steps 5 (τ := (26, [(0, .ref (gh_pl false)), (1, .int a1), (2, .int a2)], [.int a2, .int (S2.1 (gh_pl false) 4), .ref (gh_pl false + 4)], (gh_mo S2, 0, 0))) (fun _ => rfl) ?_
      obtain ⟨S3, hS3, h⟩ := gh_bi h
      refine gh_T_wa rfl rfl hS3 ?_
      refine gh_T_steps 6 (τ := (37, [(0, .ref (gh_pl false)), (1, .int a1), (2, .int a2)], [], (gh_mo (gh_fI S3 (gh_pl false) 4 ((S3.1 (gh_pl false) 4) + (1 : Int32))), 0, 0))) (fun _ => rfl) ?_
      cases h
      exact gh_T_ret (fun _ => rfl)
  | true =>
    refine gh_T_steps 1 (τ := (1, [(0, .ref (gh_pl true)), (1, .int a1), (2, .int a2)], [.ref (gh_pl true)], (gh_mo S, 0, 0))) (fun _ => rfl) ?_
    obtain ⟨q1, hq1, h⟩ := gh_bi h
    refine gh_T_iv (As := []) (b := gh_pl true) (rest := []) (y := some (.int q1.1)) (M' := gh_mo q1.2) rfl rfl rfl rfl rfl rfl rfl rfl rfl ⟨Nat.le_refl _, Nat.le_refl _⟩ (kX5_isFull d N true S q1 hq1) ?_
    cases c4 : gh_cmp .ne q1.1 0 with
    | true =>
      rw [c4, cond_true] at h
      refine gh_T_if true rfl c4 ?_
      cases h
      exact gh_T_ret (fun _ => rfl)
    | false =>
      rw [c4, cond_false] at h
      refine gh_T_if false rfl c4 ?_
      refine gh_T_steps 5 (τ := (16, [(0, .ref (gh_pl true)), (1, .int a1), (2, .int a2)], [.int a1, .int (q1.2.1 (gh_pl true) 4), .ref (gh_pl true + 3)], (gh_mo q1.2, 0, 0))) (fun _ => rfl) ?_
      obtain ⟨S2, hS2, h⟩ := gh_bi h
      refine gh_T_wa rfl rfl hS2 ?_
      refine gh_T_steps 5 (τ := (26, [(0, .ref (gh_pl true)), (1, .int a1), (2, .int a2)], [.int a2, .int (S2.1 (gh_pl true) 4), .ref (gh_pl true + 4)], (gh_mo S2, 0, 0))) (fun _ => rfl) ?_
      obtain ⟨S3, hS3, h⟩ := gh_bi h
      refine gh_T_wa rfl rfl hS3 ?_
      refine gh_T_steps 6 (τ := (37, [(0, .ref (gh_pl true)), (1, .int a1), (2, .int a2)], [], (gh_mo (gh_fI S3 (gh_pl true) 4 ((S3.1 (gh_pl true) 4) + (1 : Int32))), 0, 0))) (fun _ => rfl) ?_
      cases h
      exact gh_T_ret (fun _ => rfl)
theorem kX5_addDock (d N : Nat) (b : Bool) (a1 : Int32) (a2 : Int32) (S : gh_St) (r : gh_St) (h : sX5_addDock N b a1 a2 S = some r) : gh_Mx (d + 2) 52 [.ref (gh_pl b), .int a1, .int a2] (gh_mo S) none (gh_mo r) :=
  gh_Mx_of rfl rfl rfl rfl rfl rfl (kX5_addDock_e d N b a1 a2 S r h)
def sX5_value_54 (N : Nat) (b : Bool) (kc22 : Int32 → Int64 → Int32 → Int32 → gh_St → Option (Int32 × gh_St)) (l2 : Int32) (l4 : Int64) (l6 : Int32) (l7 : Int32) (S : gh_St) : Option (Int32 × gh_St) :=
  kc22 l2 l4 l6 (l7 + 1) S
set_option maxRecDepth 100000 in
theorem kX5_value_54 (d N : Nat) (b : Bool) (kc22 : Int32 → Int64 → Int32 → Int32 → gh_St → Option (Int32 × gh_St)) (hkc22 : ∀ (l2 : Int32) (l4 : Int64) (l6 : Int32) (l7 : Int32) (S : gh_St) (r : Int32 × gh_St), kc22 l2 l4 l6 l7 S = some r → gh_T d fX5_value 0 0 none false false (22, [(0, .ref (gh_pl b)), (2, .int l2), (4, .long l4), (6, .int l6), (7, .int l7)], [], (gh_mo S, 0, 0)) (some (.int r.1), (gh_mo r.2, 0, 0))) (l2 : Int32) (l4 : Int64) (l6 : Int32) (l7 : Int32) (S : gh_St) (r : Int32 × gh_St) (h : sX5_value_54 N b kc22 l2 l4 l6 l7 S = some r) : gh_T d fX5_value 0 0 none false false (54, [(0, .ref (gh_pl b)), (2, .int l2), (4, .long l4), (6, .int l6), (7, .int l7)], [], (gh_mo S, 0, 0)) (some (.int r.1), (gh_mo r.2, 0, 0)) := by
  unfold sX5_value_54 at h
  cases b with
  | false =>
    refine gh_T_steps 2 (τ := (22, [(7, .int (l7 + 1)), (0, .ref (gh_pl false)), (2, .int l2), (4, .long l4), (6, .int l6)], [], (gh_mo S, 0, 0))) (fun _ => rfl) ?_
    refine gh_T_weak (lv := [(0, .ref (gh_pl false)), (2, .int l2), (4, .long l4), (6, .int l6), (7, .int (l7 + 1))]) ⟨rfl, rfl, rfl, rfl, rfl, trivial⟩ ?_
    exact hkc22 l2 l4 l6 (l7 + 1) S _ h
  | true =>
    refine gh_T_steps 2 (τ := (22, [(7, .int (l7 + 1)), (0, .ref (gh_pl true)), (2, .int l2), (4, .long l4), (6, .int l6)], [], (gh_mo S, 0, 0))) (fun _ => rfl) ?_
    refine gh_T_weak (lv := [(0, .ref (gh_pl true)), (2, .int l2), (4, .long l4), (6, .int l6), (7, .int (l7 + 1))]) ⟨rfl, rfl, rfl, rfl, rfl, trivial⟩ ?_
    exact hkc22 l2 l4 l6 (l7 + 1) S _ h
def sX5_value_22 (N : Nat) (b : Bool) : Nat → Int32 → Int64 → Int32 → Int32 → gh_St → Option (Int32 × gh_St)
  | 0, _, _, _, _, _ => none
  | n + 1, l2, l4, l6, l7, S =>
    bif gh_cmp .ge l7 (S.1 (gh_pl b) 4) then
      ((gh_dj (l4 * ((gh_min 100 l6 : Int32).toInt64)) 100).bind fun x1 =>
      some ((l4 - x1 : Int64).toInt32, S))
    else
      ((gh_ra S (gh_pl b + 3) 8 l7).bind fun x2 =>
      bif gh_cmp .le l2 x2 then
        (sX5_value_54 N b (sX5_value_22 N b n) l2 l4 l6 l7 S)
      else
        ((gh_ra S (gh_pl b + 4) 8 l7).bind fun x3 =>
        sX5_value_54 N b (sX5_value_22 N b n) l2 l4 (l6 + x3) l7 S))
set_option maxRecDepth 100000 in
theorem kX5_value_22 (d N : Nat) (b : Bool) : ∀ (n : Nat) (l2 : Int32) (l4 : Int64) (l6 : Int32) (l7 : Int32) (S : gh_St) (r : Int32 × gh_St), sX5_value_22 N b n l2 l4 l6 l7 S = some r → gh_T d fX5_value 0 0 none false false (22, [(0, .ref (gh_pl b)), (2, .int l2), (4, .long l4), (6, .int l6), (7, .int l7)], [], (gh_mo S, 0, 0)) (some (.int r.1), (gh_mo r.2, 0, 0)) := by
  cases b with
  | false =>
    intro n
    induction n with
    | zero =>
      intro l2 l4 l6 l7 S r h
      cases h
    | succ n ih =>
      intro l2 l4 l6 l7 S r h
      rw [sX5_value_22] at h
      refine gh_T_steps 3 (τ := (28, [(0, .ref (gh_pl false)), (2, .int l2), (4, .long l4), (6, .int l6), (7, .int l7)], [.int (S.1 (gh_pl false) 4), .int l7], (gh_mo S, 0, 0))) (fun _ => rfl) ?_
      cases c5 : gh_cmp .ge l7 (S.1 (gh_pl false) 4) with
      | true =>
        rw [c5, cond_true] at h
        refine gh_T_ic true rfl c5 ?_
        refine gh_T_steps 8 (τ := (76, [(0, .ref (gh_pl false)), (2, .int l2), (4, .long l4), (6, .int l6), (7, .int l7)], [.long 100, .long (l4 * ((gh_min 100 l6 : Int32).toInt64)), .long l4], (gh_mo S, 0, 0))) (fun _ => rfl) ?_
        obtain ⟨x1, hx1, h⟩ := gh_bi h
        refine gh_T_dj rfl hx1 ?_
        refine gh_T_steps 2 (τ := (79, [(0, .ref (gh_pl false)), (2, .int l2), (4, .long l4), (6, .int l6), (7, .int l7)], [.int ((l4 - x1 : Int64).toInt32)], (gh_mo S, 0, 0))) (fun _ => rfl) ?_
        cases h
        exact gh_T_ret (fun _ => rfl)
      | false =>
        rw [c5, cond_false] at h
        refine gh_T_ic false rfl c5 ?_
        refine gh_T_steps 4 (τ := (38, [(0, .ref (gh_pl false)), (2, .int l2), (4, .long l4), (6, .int l6), (7, .int l7)], [.int l7, .ref (gh_pl false + 3), .int l2], (gh_mo S, 0, 0))) (fun _ => rfl) ?_
        obtain ⟨x2, hx2, h⟩ := gh_bi h
        refine gh_T_ra rfl rfl hx2 ?_
        cases c4 : gh_cmp .le l2 x2 with
        | true =>
          rw [c4, cond_true] at h
          refine gh_T_ic true rfl c4 ?_
          exact kX5_value_54 d N false (sX5_value_22 N false n) ih l2 l4 l6 l7 S _ h
        | false =>
          rw [c4, cond_false] at h
          refine gh_T_ic false rfl c4 ?_
          refine gh_T_steps 4 (τ := (50, [(0, .ref (gh_pl false)), (2, .int l2), (4, .long l4), (6, .int l6), (7, .int l7)], [.int l7, .ref (gh_pl false + 4), .int l6], (gh_mo S, 0, 0))) (fun _ => rfl) ?_
          obtain ⟨x3, hx3, h⟩ := gh_bi h
          refine gh_T_ra rfl rfl hx3 ?_
          refine gh_T_steps 2 (τ := (54, [(6, .int (l6 + x3)), (0, .ref (gh_pl false)), (2, .int l2), (4, .long l4), (7, .int l7)], [], (gh_mo S, 0, 0))) (fun _ => rfl) ?_
          refine gh_T_weak (lv := [(0, .ref (gh_pl false)), (2, .int l2), (4, .long l4), (6, .int (l6 + x3)), (7, .int l7)]) ⟨rfl, rfl, rfl, rfl, rfl, trivial⟩ ?_
          exact kX5_value_54 d N false (sX5_value_22 N false n) ih l2 l4 (l6 + x3) l7 S _ h
  | true =>
    intro n
    induction n with
    | zero =>
      intro l2 l4 l6 l7 S r h
      cases h
    | succ n ih =>
      intro l2 l4 l6 l7 S r h
      rw [sX5_value_22] at h
      refine gh_T_steps 3 (τ := (28, [(0, .ref (gh_pl true)), (2, .int l2), (4, .long l4), (6, .int l6), (7, .int l7)], [.int (S.1 (gh_pl true) 4), .int l7], (gh_mo S, 0, 0))) (fun _ => rfl) ?_
      cases c5 : gh_cmp .ge l7 (S.1 (gh_pl true) 4) with
      | true =>
        rw [c5, cond_true] at h
        refine gh_T_ic true rfl c5 ?_
        refine gh_T_steps 8 (τ := (76, [(0, .ref (gh_pl true)), (2, .int l2), (4, .long l4), (6, .int l6), (7, .int l7)], [.long 100, .long (l4 * ((gh_min 100 l6 : Int32).toInt64)), .long l4], (gh_mo S, 0, 0))) (fun _ => rfl) ?_
        obtain ⟨x1, hx1, h⟩ := gh_bi h
        refine gh_T_dj rfl hx1 ?_
        refine gh_T_steps 2 (τ := (79, [(0, .ref (gh_pl true)), (2, .int l2), (4, .long l4), (6, .int l6), (7, .int l7)], [.int ((l4 - x1 : Int64).toInt32)], (gh_mo S, 0, 0))) (fun _ => rfl) ?_
        cases h
        exact gh_T_ret (fun _ => rfl)
      | false =>
        rw [c5, cond_false] at h
        refine gh_T_ic false rfl c5 ?_
        refine gh_T_steps 4 (τ := (38, [(0, .ref (gh_pl true)), (2, .int l2), (4, .long l4), (6, .int l6), (7, .int l7)], [.int l7, .ref (gh_pl true + 3), .int l2], (gh_mo S, 0, 0))) (fun _ => rfl) ?_
        obtain ⟨x2, hx2, h⟩ := gh_bi h
        refine gh_T_ra rfl rfl hx2 ?_
        cases c4 : gh_cmp .le l2 x2 with
        | true =>
          rw [c4, cond_true] at h
          refine gh_T_ic true rfl c4 ?_
          exact kX5_value_54 d N true (sX5_value_22 N true n) ih l2 l4 l6 l7 S _ h
        | false =>
          rw [c4, cond_false] at h
          refine gh_T_ic false rfl c4 ?_
          refine gh_T_steps 4 (τ := (50, [(0, .ref (gh_pl true)), (2, .int l2), (4, .long l4), (6, .int l6), (7, .int l7)], [.int l7, .ref (gh_pl true + 4), .int l6], (gh_mo S, 0, 0))) (fun _ => rfl) ?_
          obtain ⟨x3, hx3, h⟩ := gh_bi h
          refine gh_T_ra rfl rfl hx3 ?_
          refine gh_T_steps 2 (τ := (54, [(6, .int (l6 + x3)), (0, .ref (gh_pl true)), (2, .int l2), (4, .long l4), (7, .int l7)], [], (gh_mo S, 0, 0))) (fun _ => rfl) ?_
          refine gh_T_weak (lv := [(0, .ref (gh_pl true)), (2, .int l2), (4, .long l4), (6, .int (l6 + x3)), (7, .int l7)]) ⟨rfl, rfl, rfl, rfl, rfl, trivial⟩ ?_
          exact kX5_value_54 d N true (sX5_value_22 N true n) ih l2 l4 (l6 + x3) l7 S _ h
def sX5_value (N : Nat) (b : Bool) (a1 : Int32) (a2 : Int32) (a3 : Int32) (S : gh_St) : Option (Int32 × gh_St) :=
  (gh_ra S (gh_pl b + 1) 4 a1).bind fun x1 =>
  (gh_dj (((a3 : Int32).toInt64) * ((x1 : Int32).toInt64)) 1000000).bind fun x2 =>
  sX5_value_22 N b N a2 x2 0 0 S
set_option maxRecDepth 100000 in
theorem kX5_value_e (d N : Nat) (b : Bool) (a1 : Int32) (a2 : Int32) (a3 : Int32) (S : gh_St) (r : Int32 × gh_St) (h : sX5_value N b a1 a2 a3 S = some r) : gh_T d fX5_value 0 0 none false false (0, [(0, .ref (gh_pl b)), (1, .int a1), (2, .int a2), (3, .int a3)], [], (gh_mo S, 0, 0)) (some (.int r.1), (gh_mo r.2, 0, 0)) := by
  unfold sX5_value at h
  cases b with
  | false =>
    refine gh_T_steps 5 (τ := (7, [(0, .ref (gh_pl false)), (1, .int a1), (2, .int a2), (3, .int a3)], [.int a1, .ref (gh_pl false + 1), .long ((a3 : Int32).toInt64)], (gh_mo S, 0, 0))) (fun _ => rfl) ?_
    obtain ⟨x1, hx1, h⟩ := gh_bi h
    refine gh_T_ra rfl rfl hx1 ?_
    refine gh_T_steps 3 (τ := (13, [(0, .ref (gh_pl false)), (1, .int a1), (2, .int a2), (3, .int a3)], [.long 1000000, .long (((a3 : Int32).toInt64) * ((x1 : Int32).toInt64))], (gh_mo S, 0, 0))) (fun _ => rfl) ?_
    obtain ⟨x2, hx2, h⟩ := gh_bi h
    refine gh_T_dj rfl hx2 ?_
    refine gh_T_steps 5 (τ := (22, [(7, .int 0), (6, .int 0), (4, .long x2), (0, .ref (gh_pl false)), (1, .int a1), (2, .int a2), (3, .int a3)], [], (gh_mo S, 0, 0))) (fun _ => rfl) ?_
    refine gh_T_weak (lv := [(0, .ref (gh_pl false)), (2, .int a2), (4, .long x2), (6, .int 0), (7, .int 0)]) ⟨rfl, rfl, rfl, rfl, rfl, trivial⟩ ?_
    exact kX5_value_22 d N false N a2 x2 0 0 S _ h
  | true =>
    refine gh_T_steps 5 (τ := (7, [(0, .ref (gh_pl true)), (1, .int a1), (2, .int a2), (3, .int a3)], [.int a1, .ref (gh_pl true + 1), .long ((a3 : Int32).toInt64)], (gh_mo S, 0, 0))) (fun _ => rfl) ?_
    obtain ⟨x1, hx1, h⟩ := gh_bi h
    refine gh_T_ra rfl rfl hx1 ?_
    refine gh_T_steps 3 (τ := (13, [(0, .ref (gh_pl true)), (1, .int a1), (2, .int a2), (3, .int a3)], [.long 1000000, .long (((a3 : Int32).toInt64) * ((x1 : Int32).toInt64))], (gh_mo S, 0, 0))) (fun _ => rfl) ?_
    obtain ⟨x2, hx2, h⟩ := gh_bi h
    refine gh_T_dj rfl hx2 ?_
    refine gh_T_steps 5 (τ := (22, [(7, .int 0), (6, .int 0), (4, .long x2), (0, .ref (gh_pl true)), (1, .int a1), (2, .int a2), (3, .int a3)], [], (gh_mo S, 0, 0))) (fun _ => rfl) ?_
    refine gh_T_weak (lv := [(0, .ref (gh_pl true)), (2, .int a2), (4, .long x2), (6, .int 0), (7, .int 0)]) ⟨rfl, rfl, rfl, rfl, rfl, trivial⟩ ?_
    exact kX5_value_22 d N true N a2 x2 0 0 S _ h
theorem kX5_value (d N : Nat) (b : Bool) (a1 : Int32) (a2 : Int32) (a3 : Int32) (S : gh_St) (r : Int32 × gh_St) (h : sX5_value N b a1 a2 a3 S = some r) : gh_Mx (d + 1) 53 [.ref (gh_pl b), .int a1, .int a2, .int a3] (gh_mo S) (some (.int r.1)) (gh_mo r.2) :=
  gh_Mx_of rfl rfl rfl rfl rfl rfl (kX5_value_e d N b a1 a2 a3 S r h)
def sX6_isWord_28 (N : Nat) (wb : Bool) : Nat → Int32 → gh_St → Option (Int32 × gh_St)
  | 0, _, _ => none
  | n + 1, l3, S =>
    bif gh_cmp .ge l3 (gh_wl wb) then
      (some (1, S))
    else
      ((gh_ra S 44 200 ((S.1 45 4) + l3)).bind fun x1 =>
      (gh_ch wb l3).bind fun x2 =>
      bif gh_cmp .eq x1 x2 then
        ((sX6_isWord_28 N wb n) (l3 + 1) S)
      else
        (some (0, S)))
set_option maxRecDepth 100000 in
theorem kX6_isWord_28 (d N : Nat) (wb : Bool) : ∀ (n : Nat) (l3 : Int32) (S : gh_St) (r : Int32 × gh_St), sX6_isWord_28 N wb n l3 S = some r → gh_T d fX6_isWord 0 0 none true false (28, [(0, .ref 45), (1, .ref 43), (2, .ref (gh_wd wb)), (3, .int l3)], [], (gh_mo S, 0, 0)) (some (.int r.1), (gh_mo r.2, 0, 0)) := by
  cases wb with
  | false =>
    intro n
    induction n with
    | zero =>
      intro l3 S r h
      cases h
    | succ n ih =>
      intro l3 S r h
      rw [sX6_isWord_28] at h
      refine gh_T_steps 3 (τ := (33, [(0, .ref 45), (1, .ref 43), (2, .ref (gh_wd false)), (3, .int l3)], [.int (gh_wl false), .int l3], (gh_mo S, 0, 0))) (fun _ => rfl) ?_
      cases c4 : gh_cmp .ge l3 (gh_wl false) with
      | true =>
        rw [c4, cond_true] at h
        refine gh_T_ic true rfl c4 ?_
        refine gh_T_steps 1 (τ := (64, [(0, .ref 45), (1, .ref 43), (2, .ref (gh_wd false)), (3, .int l3)], [.int 1], (gh_mo S, 0, 0))) (fun _ => rfl) ?_
        cases h
        exact gh_T_ret (fun _ => rfl)
      | false =>
        rw [c4, cond_false] at h
        refine gh_T_ic false rfl c4 ?_
        refine gh_T_steps 6 (τ := (46, [(0, .ref 45), (1, .ref 43), (2, .ref (gh_wd false)), (3, .int l3)], [.int ((S.1 45 4) + l3), .ref 44], (gh_mo S, 0, 0))) (fun _ => rfl) ?_
        obtain ⟨x1, hx1, h⟩ := gh_bi h
        refine gh_T_ra rfl rfl hx1 ?_
        refine gh_T_steps 2 (τ := (49, [(0, .ref 45), (1, .ref 43), (2, .ref (gh_wd false)), (3, .int l3)], [.int l3, .ref (gh_wd false), .int x1], (gh_mo S, 0, 0))) (fun _ => rfl) ?_
        obtain ⟨x2, hx2, h⟩ := gh_bi h
        refine gh_T_ch rfl hx2 rfl ?_
        cases c3 : gh_cmp .eq x1 x2 with
        | true =>
          rw [c3, cond_true] at h
          refine gh_T_ic true rfl c3 ?_
          refine gh_T_steps 2 (τ := (28, [(3, .int (l3 + 1)), (0, .ref 45), (1, .ref 43), (2, .ref (gh_wd false))], [], (gh_mo S, 0, 0))) (fun _ => rfl) ?_
          refine gh_T_weak (lv := [(0, .ref 45), (1, .ref 43), (2, .ref (gh_wd false)), (3, .int (l3 + 1))]) ⟨rfl, rfl, rfl, rfl, trivial⟩ ?_
          exact ih (l3 + 1) S _ h
        | false =>
          rw [c3, cond_false] at h
          refine gh_T_ic false rfl c3 ?_
          refine gh_T_steps 1 (τ := (56, [(0, .ref 45), (1, .ref 43), (2, .ref (gh_wd false)), (3, .int l3)], [.int 0], (gh_mo S, 0, 0))) (fun _ => rfl) ?_
          cases h
          exact gh_T_ret (fun _ => rfl)
  | true =>
    intro n
    induction n with
    | zero =>
      intro l3 S r h
      cases h
    | succ n ih =>
      intro l3 S r h
      rw [sX6_isWord_28] at h
      refine gh_T_steps 3 (τ := (33, [(0, .ref 45), (1, .ref 43), (2, .ref (gh_wd true)), (3, .int l3)], [.int (gh_wl true), .int l3], (gh_mo S, 0, 0))) (fun _ => rfl) ?_
      cases c4 : gh_cmp .ge l3 (gh_wl true) with
      | true =>
        rw [c4, cond_true] at h
        refine gh_T_ic true rfl c4 ?_
        refine gh_T_steps 1 (τ := (64, [(0, .ref 45), (1, .ref 43), (2, .ref (gh_wd true)), (3, .int l3)], [.int 1], (gh_mo S, 0, 0))) (fun _ => rfl) ?_
        cases h
        exact gh_T_ret (fun _ => rfl)
      | false =>
        rw [c4, cond_false] at h
        refine gh_T_ic false rfl c4 ?_
        refine gh_T_steps 6 (τ := (46, [(0, .ref 45), (1, .ref 43), (2, .ref (gh_wd true)), (3, .int l3)], [.int ((S.1 45 4) + l3), .ref 44], (gh_mo S, 0, 0))) (fun _ => rfl) ?_
        obtain ⟨x1, hx1, h⟩ := gh_bi h
        refine gh_T_ra rfl rfl hx1 ?_
        refine gh_T_steps 2 (τ := (49, [(0, .ref 45), (1, .ref 43), (2, .ref (gh_wd true)), (3, .int l3)], [.int l3, .ref (gh_wd true), .int x1], (gh_mo S, 0, 0))) (fun _ => rfl) ?_
        obtain ⟨x2, hx2, h⟩ := gh_bi h
        refine gh_T_ch rfl hx2 rfl ?_
        cases c3 : gh_cmp .eq x1 x2 with
        | true =>
          rw [c3, cond_true] at h
          refine gh_T_ic true rfl c3 ?_
          refine gh_T_steps 2 (τ := (28, [(3, .int (l3 + 1)), (0, .ref 45), (1, .ref 43), (2, .ref (gh_wd true))], [], (gh_mo S, 0, 0))) (fun _ => rfl) ?_
          refine gh_T_weak (lv := [(0, .ref 45), (1, .ref 43), (2, .ref (gh_wd true)), (3, .int (l3 + 1))]) ⟨rfl, rfl, rfl, rfl, trivial⟩ ?_
          exact ih (l3 + 1) S _ h
        | false =>
          rw [c3, cond_false] at h
          refine gh_T_ic false rfl c3 ?_
          refine gh_T_steps 1 (τ := (56, [(0, .ref 45), (1, .ref 43), (2, .ref (gh_wd true)), (3, .int l3)], [.int 0], (gh_mo S, 0, 0))) (fun _ => rfl) ?_
          cases h
          exact gh_T_ret (fun _ => rfl)
def sX6_isWord (N : Nat) (wb : Bool) (S : gh_St) : Option (Int32 × gh_St) :=
  bif gh_cmp .ne (S.1 45 5) 2 then
    (some (0, S))
  else
    (bif gh_cmp .eq ((S.1 45 3) - (S.1 45 4)) (gh_wl wb) then
      (sX6_isWord_28 N wb N 0 S)
    else
      (some (0, S)))
set_option maxRecDepth 100000 in
theorem kX6_isWord_e (d N : Nat) (wb : Bool) (S : gh_St) (r : Int32 × gh_St) (h : sX6_isWord N wb S = some r) : gh_T d fX6_isWord 0 0 none true false (0, [(0, .ref 45), (1, .ref 43), (2, .ref (gh_wd wb))], [], (gh_mo S, 0, 0)) (some (.int r.1), (gh_mo r.2, 0, 0)) := by
  unfold sX6_isWord at h
  cases wb with
  | false =>
    refine gh_T_steps 3 (τ := (5, [(0, .ref 45), (1, .ref 43), (2, .ref (gh_wd false))], [.int 2, .int (S.1 45 5)], (gh_mo S, 0, 0))) (fun _ => rfl) ?_
    cases c2 : gh_cmp .ne (S.1 45 5) 2 with
    | true =>
      rw [c2, cond_true] at h
      refine gh_T_ic true rfl c2 ?_
      refine gh_T_steps 1 (τ := (25, [(0, .ref 45), (1, .ref 43), (2, .ref (gh_wd false))], [.int 0], (gh_mo S, 0, 0))) (fun _ => rfl) ?_
      cases h
      exact gh_T_ret (fun _ => rfl)
    | false =>
      rw [c2, cond_false] at h
      refine gh_T_ic false rfl c2 ?_
      refine gh_T_steps 7 (τ := (21, [(0, .ref 45), (1, .ref 43), (2, .ref (gh_wd false))], [.int (gh_wl false), .int ((S.1 45 3) - (S.1 45 4))], (gh_mo S, 0, 0))) (fun _ => rfl) ?_
      cases c1 : gh_cmp .eq ((S.1 45 3) - (S.1 45 4)) (gh_wl false) with
      | true =>
        rw [c1, cond_true] at h
        refine gh_T_ic true rfl c1 ?_
        refine gh_T_steps 2 (τ := (28, [(3, .int 0), (0, .ref 45), (1, .ref 43), (2, .ref (gh_wd false))], [], (gh_mo S, 0, 0))) (fun _ => rfl) ?_
        refine gh_T_weak (lv := [(0, .ref 45), (1, .ref 43), (2, .ref (gh_wd false)), (3, .int 0)]) ⟨rfl, rfl, rfl, rfl, trivial⟩ ?_
        exact kX6_isWord_28 d N false N 0 S _ h
      | false =>
        rw [c1, cond_false] at h
        refine gh_T_ic false rfl c1 ?_
        refine gh_T_steps 1 (τ := (25, [(0, .ref 45), (1, .ref 43), (2, .ref (gh_wd false))], [.int 0], (gh_mo S, 0, 0))) (fun _ => rfl) ?_
        cases h
        exact gh_T_ret (fun _ => rfl)
  | true =>
    refine gh_T_steps 3 (τ := (5, [(0, .ref 45), (1, .ref 43), (2, .ref (gh_wd true))], [.int 2, .int (S.1 45 5)], (gh_mo S, 0, 0))) (fun _ => rfl) ?_
    cases c2 : gh_cmp .ne (S.1 45 5) 2 with
    | true =>
      rw [c2, cond_true] at h
      refine gh_T_ic true rfl c2 ?_
      refine gh_T_steps 1 (τ := (25, [(0, .ref 45), (1, .ref 43), (2, .ref (gh_wd true))], [.int 0], (gh_mo S, 0, 0))) (fun _ => rfl) ?_
      cases h
      exact gh_T_ret (fun _ => rfl)
    | false =>
      rw [c2, cond_false] at h
      refine gh_T_ic false rfl c2 ?_
      refine gh_T_steps 7 (τ := (21, [(0, .ref 45), (1, .ref 43), (2, .ref (gh_wd true))], [.int (gh_wl true), .int ((S.1 45 3) - (S.1 45 4))], (gh_mo S, 0, 0))) (fun _ => rfl) ?_
      cases c1 : gh_cmp .eq ((S.1 45 3) - (S.1 45 4)) (gh_wl true) with
      | true =>
        rw [c1, cond_true] at h
        refine gh_T_ic true rfl c1 ?_
        refine gh_T_steps 2 (τ := (28, [(3, .int 0), (0, .ref 45), (1, .ref 43), (2, .ref (gh_wd true))], [], (gh_mo S, 0, 0))) (fun _ => rfl) ?_
        refine gh_T_weak (lv := [(0, .ref 45), (1, .ref 43), (2, .ref (gh_wd true)), (3, .int 0)]) ⟨rfl, rfl, rfl, rfl, trivial⟩ ?_
        exact kX6_isWord_28 d N true N 0 S _ h
      | false =>
        rw [c1, cond_false] at h
        refine gh_T_ic false rfl c1 ?_
        refine gh_T_steps 1 (τ := (25, [(0, .ref 45), (1, .ref 43), (2, .ref (gh_wd true))], [.int 0], (gh_mo S, 0, 0))) (fun _ => rfl) ?_
        cases h
        exact gh_T_ret (fun _ => rfl)
theorem kX6_isWord (d N : Nat) (wb : Bool) (S : gh_St) (r : Int32 × gh_St) (h : sX6_isWord N wb S = some r) : gh_Mx (d + 1) 60 [.ref 45, .ref 43, .ref (gh_wd wb)] (gh_mo S) (some (.int r.1)) (gh_mo r.2) :=
  gh_Mx_of rfl rfl rfl rfl rfl rfl (kX6_isWord_e d N wb S r h)
def sX7_sortIn_48 (N : Nat) (l1 : Int32) (l2 : Int32) (S : gh_St) : Option (gh_St) :=
  (gh_wa S 22 7 l2 l1).bind fun S1 =>
  some S1
set_option maxRecDepth 100000 in
theorem kX7_sortIn_48 (d N : Nat) (l1 : Int32) (l2 : Int32) (S : gh_St) (r : gh_St) (h : sX7_sortIn_48 N l1 l2 S = some r) : gh_T d fX7_sortIn 0 0 none false false (48, [(0, .ref 18), (1, .int l1), (2, .int l2)], [], (gh_mo S, 0, 0)) (none, (gh_mo r, 0, 0)) := by
  unfold sX7_sortIn_48 at h
  refine gh_T_steps 4 (τ := (54, [(0, .ref 18), (1, .int l1), (2, .int l2)], [.int l1, .int l2, .ref 22], (gh_mo S, 0, 0))) (fun _ => rfl) ?_
  obtain ⟨S1, hS1, h⟩ := gh_bi h
  refine gh_T_wa rfl rfl hS1 ?_
  cases h
  exact gh_T_ret (fun _ => rfl)
def sX7_sortIn_2 (N : Nat) : Nat → Int32 → Int32 → gh_St → Option (gh_St)
  | 0, _, _, _ => none
  | n + 1, l1, l2, S =>
    bif gh_cmp .le l2 0 then
      (sX7_sortIn_48 N l1 l2 S)
    else
      ((gh_ra S 22 7 (l2 - (1 : Int32))).bind fun x1 =>
      (gh_ra S 21 7 x1).bind fun x2 =>
      (gh_ra S 21 7 l1).bind fun x3 =>
      bif gh_cmp .ge x2 x3 then
        (sX7_sortIn_48 N l1 l2 S)
      else
        ((gh_ra S 22 7 (l2 - (1 : Int32))).bind fun x4 =>
        (gh_wa S 22 7 l2 x4).bind fun S5 =>
        (sX7_sortIn_2 N n) l1 (l2 + (-1)) S5))
set_option maxRecDepth 100000 in
theorem kX7_sortIn_2 (d N : Nat) : ∀ (n : Nat) (l1 : Int32) (l2 : Int32) (S : gh_St) (r : gh_St), sX7_sortIn_2 N n l1 l2 S = some r → gh_T d fX7_sortIn 0 0 none false false (2, [(0, .ref 18), (1, .int l1), (2, .int l2)], [], (gh_mo S, 0, 0)) (none, (gh_mo r, 0, 0)) := by
  intro n
  induction n with
  | zero =>
    intro l1 l2 S r h
    cases h
  | succ n ih =>
    intro l1 l2 S r h
    rw [sX7_sortIn_2] at h
    refine gh_T_steps 1 (τ := (3, [(0, .ref 18), (1, .int l1), (2, .int l2)], [.int l2], (gh_mo S, 0, 0))) (fun _ => rfl) ?_
    cases c7 : gh_cmp .le l2 0 with
    | true =>
      rw [c7, cond_true] at h
      refine gh_T_if true rfl c7 ?_
      exact kX7_sortIn_48 d N l1 l2 S _ h
    | false =>
      rw [c7, cond_false] at h
      refine gh_T_if false rfl c7 ?_
      refine gh_T_steps 7 (τ := (17, [(0, .ref 18), (1, .int l1), (2, .int l2)], [.int (l2 - (1 : Int32)), .ref 22, .ref 21], (gh_mo S, 0, 0))) (fun _ => rfl) ?_
      obtain ⟨x1, hx1, h⟩ := gh_bi h
      refine gh_T_ra rfl rfl hx1 ?_
      obtain ⟨x2, hx2, h⟩ := gh_bi h
      refine gh_T_ra rfl rfl hx2 ?_
      refine gh_T_steps 3 (τ := (24, [(0, .ref 18), (1, .int l1), (2, .int l2)], [.int l1, .ref 21, .int x2], (gh_mo S, 0, 0))) (fun _ => rfl) ?_
      obtain ⟨x3, hx3, h⟩ := gh_bi h
      refine gh_T_ra rfl rfl hx3 ?_
      cases c6 : gh_cmp .ge x2 x3 with
      | true =>
        rw [c6, cond_true] at h
        refine gh_T_ic true rfl c6 ?_
        exact kX7_sortIn_48 d N l1 l2 S _ h
      | false =>
        rw [c6, cond_false] at h
        refine gh_T_ic false rfl c6 ?_
        refine gh_T_steps 8 (τ := (40, [(0, .ref 18), (1, .int l1), (2, .int l2)], [.int (l2 - (1 : Int32)), .ref 22, .int l2, .ref 22], (gh_mo S, 0, 0))) (fun _ => rfl) ?_
        obtain ⟨x4, hx4, h⟩ := gh_bi h
        refine gh_T_ra rfl rfl hx4 ?_
        obtain ⟨S5, hS5, h⟩ := gh_bi h
        refine gh_T_wa rfl rfl hS5 ?_
        refine gh_T_steps 2 (τ := (2, [(2, .int (l2 + (-1))), (0, .ref 18), (1, .int l1)], [], (gh_mo S5, 0, 0))) (fun _ => rfl) ?_
        refine gh_T_weak (lv := [(0, .ref 18), (1, .int l1), (2, .int (l2 + (-1)))]) ⟨rfl, rfl, rfl, trivial⟩ ?_
        exact ih l1 (l2 + (-1)) S5 _ h
def sX7_sortIn (N : Nat) (a1 : Int32) (S : gh_St) : Option (gh_St) :=
  sX7_sortIn_2 N N a1 a1 S
set_option maxRecDepth 100000 in
theorem kX7_sortIn_e (d N : Nat) (a1 : Int32) (S : gh_St) (r : gh_St) (h : sX7_sortIn N a1 S = some r) : gh_T d fX7_sortIn 0 0 none false false (0, [(0, .ref 18), (1, .int a1)], [], (gh_mo S, 0, 0)) (none, (gh_mo r, 0, 0)) := by
  unfold sX7_sortIn at h
  refine gh_T_steps 2 (τ := (2, [(2, .int a1), (0, .ref 18), (1, .int a1)], [], (gh_mo S, 0, 0))) (fun _ => rfl) ?_
  refine gh_T_weak (lv := [(0, .ref 18), (1, .int a1), (2, .int a1)]) ⟨rfl, rfl, rfl, trivial⟩ ?_
  exact kX7_sortIn_2 d N N a1 a1 S _ h
theorem kX7_sortIn (d N : Nat) (a1 : Int32) (S : gh_St) (r : gh_St) (h : sX7_sortIn N a1 S = some r) : gh_Mx (d + 1) 67 [.ref 18, .int a1] (gh_mo S) none (gh_mo r) :=
  gh_Mx_of rfl rfl rfl rfl rfl rfl (kX7_sortIn_e d N a1 S r h)
def sX7_setPit (N : Nat) (a1 : Int32) (a2 : Int32) (S : gh_St) : Option (gh_St) :=
  some (gh_fI (gh_fI (gh_fI S 18 8 a1) 18 9 a2) 18 11 0)
set_option maxRecDepth 100000 in
theorem kX7_setPit_e (d N : Nat) (a1 : Int32) (a2 : Int32) (S : gh_St) (r : gh_St) (h : sX7_setPit N a1 a2 S = some r) : gh_T d fX7_setPit 0 0 none false false (0, [(0, .ref 18), (1, .int a1), (2, .int a2)], [], (gh_mo S, 0, 0)) (none, (gh_mo r, 0, 0)) := by
  unfold sX7_setPit at h
  refine gh_T_steps 9 (τ := (15, [(0, .ref 18), (1, .int a1), (2, .int a2)], [], (gh_mo (gh_fI (gh_fI (gh_fI S 18 8 a1) 18 9 a2) 18 11 0), 0, 0))) (fun _ => rfl) ?_
  cases h
  exact gh_T_ret (fun _ => rfl)
theorem kX7_setPit (d N : Nat) (a1 : Int32) (a2 : Int32) (S : gh_St) (r : gh_St) (h : sX7_setPit N a1 a2 S = some r) : gh_Mx (d + 1) 68 [.ref 18, .int a1, .int a2] (gh_mo S) none (gh_mo r) :=
  gh_Mx_of rfl rfl rfl rfl rfl rfl (kX7_setPit_e d N a1 a2 S r h)
def sX7_clear (N : Nat) (S : gh_St) : Option (Int32 × gh_St) :=
  some (S.1 18 7, gh_fI (gh_fI (gh_fI S 18 7 0) 18 10 0) 18 11 1)
set_option maxRecDepth 100000 in
theorem kX7_clear_e (d N : Nat) (S : gh_St) (r : Int32 × gh_St) (h : sX7_clear N S = some r) : gh_T d fX7_clear 0 0 none false false (0, [(0, .ref 18)], [], (gh_mo S, 0, 0)) (some (.int r.1), (gh_mo r.2, 0, 0)) := by
  unfold sX7_clear at h
  refine gh_T_steps 13 (τ := (21, [(1, .int (S.1 18 7)), (0, .ref 18)], [.int (S.1 18 7)], (gh_mo (gh_fI (gh_fI (gh_fI S 18 7 0) 18 10 0) 18 11 1), 0, 0))) (fun _ => rfl) ?_
  cases h
  exact gh_T_ret (fun _ => rfl)
theorem kX7_clear (d N : Nat) (S : gh_St) (r : Int32 × gh_St) (h : sX7_clear N S = some r) : gh_Mx (d + 1) 69 [.ref 18] (gh_mo S) (some (.int r.1)) (gh_mo r.2) :=
  gh_Mx_of rfl rfl rfl rfl rfl rfl (kX7_clear_e d N S r h)
def sX7_takes_31 (N : Nat) (t0 : Int32) (S : gh_St) : Option (Int32 × gh_St) :=
  bif gh_cmp .eq t0 0 then
    (some (S.1 18 8, S))
  else
    (some ((S.1 18 8) + (S.1 18 9), S))
set_option maxRecDepth 100000 in
theorem kX7_takes_31 (d N : Nat) (t0 : Int32) (S : gh_St) (r : Int32 × gh_St) (h : sX7_takes_31 N t0 S = some r) : gh_T d fX7_takes 0 0 none false false (31, [(0, .ref 18)], [.int t0], (gh_mo S, 0, 0)) (some (.int r.1), (gh_mo r.2, 0, 0)) := by
  unfold sX7_takes_31 at h
  refine gh_T_steps 2 (τ := (33, [(3, .int t0), (0, .ref 18)], [.int t0], (gh_mo S, 0, 0))) (fun _ => rfl) ?_
  cases c1 : gh_cmp .eq t0 0 with
  | true =>
    rw [c1, cond_true] at h
    refine gh_T_if true rfl c1 ?_
    refine gh_T_steps 2 (τ := (52, [(3, .int t0), (0, .ref 18)], [.int (S.1 18 8)], (gh_mo S, 0, 0))) (fun _ => rfl) ?_
    cases h
    exact gh_T_ret (fun _ => rfl)
  | false =>
    rw [c1, cond_false] at h
    refine gh_T_if false rfl c1 ?_
    refine gh_T_steps 6 (τ := (52, [(3, .int t0), (0, .ref 18)], [.int ((S.1 18 8) + (S.1 18 9))], (gh_mo S, 0, 0))) (fun _ => rfl) ?_
    cases h
    exact gh_T_ret (fun _ => rfl)
def sX7_takes_30 (N : Nat) (S : gh_St) : Option (Int32 × gh_St) :=
  sX7_takes_31 N 0 S
set_option maxRecDepth 100000 in
theorem kX7_takes_30 (d N : Nat) (S : gh_St) (r : Int32 × gh_St) (h : sX7_takes_30 N S = some r) : gh_T d fX7_takes 0 0 none false false (30, [(0, .ref 18)], [], (gh_mo S, 0, 0)) (some (.int r.1), (gh_mo r.2, 0, 0)) := by
  unfold sX7_takes_30 at h
  refine gh_T_steps 1 (τ := (31, [(0, .ref 18)], [.int 0], (gh_mo S, 0, 0))) (fun _ => rfl) ?_
  exact kX7_takes_31 d N 0 S _ h
def sX7_takes (N : Nat) (a1 : Int32) (a2 : Int32) (S : gh_St) : Option (Int32 × gh_St) :=
  bif gh_cmp .le a1 0 then
    (sX7_takes_30 N S)
  else
    ((gh_ra S 23 7 (a1 - (1 : Int32))).bind fun x1 =>
    (gh_ra S 20 7 x1).bind fun x2 =>
    (gh_ra S 20 7 a2).bind fun x3 =>
    bif gh_cmp .eq x2 x3 then
      (sX7_takes_30 N S)
    else
      (sX7_takes_31 N 1 S))
set_option maxRecDepth 100000 in
theorem kX7_takes_e (d N : Nat) (a1 : Int32) (a2 : Int32) (S : gh_St) (r : Int32 × gh_St) (h : sX7_takes N a1 a2 S = some r) : gh_T d fX7_takes 0 0 none false false (0, [(0, .ref 18), (1, .int a1), (2, .int a2)], [], (gh_mo S, 0, 0)) (some (.int r.1), (gh_mo r.2, 0, 0)) := by
  unfold sX7_takes at h
  refine gh_T_steps 1 (τ := (1, [(0, .ref 18), (1, .int a1), (2, .int a2)], [.int a1], (gh_mo S, 0, 0))) (fun _ => rfl) ?_
  cases c5 : gh_cmp .le a1 0 with
  | true =>
    rw [c5, cond_true] at h
    refine gh_T_if true rfl c5 ?_
    refine gh_T_weak (lv := [(0, .ref 18)]) ⟨rfl, trivial⟩ ?_
    exact kX7_takes_30 d N S _ h
  | false =>
    rw [c5, cond_false] at h
    refine gh_T_if false rfl c5 ?_
    refine gh_T_steps 7 (τ := (15, [(0, .ref 18), (1, .int a1), (2, .int a2)], [.int (a1 - (1 : Int32)), .ref 23, .ref 20], (gh_mo S, 0, 0))) (fun _ => rfl) ?_
    obtain ⟨x1, hx1, h⟩ := gh_bi h
    refine gh_T_ra rfl rfl hx1 ?_
    obtain ⟨x2, hx2, h⟩ := gh_bi h
    refine gh_T_ra rfl rfl hx2 ?_
    refine gh_T_steps 3 (τ := (22, [(0, .ref 18), (1, .int a1), (2, .int a2)], [.int a2, .ref 20, .int x2], (gh_mo S, 0, 0))) (fun _ => rfl) ?_
    obtain ⟨x3, hx3, h⟩ := gh_bi h
    refine gh_T_ra rfl rfl hx3 ?_
    cases c4 : gh_cmp .eq x2 x3 with
    | true =>
      rw [c4, cond_true] at h
      refine gh_T_ic true rfl c4 ?_
      refine gh_T_weak (lv := [(0, .ref 18)]) ⟨rfl, trivial⟩ ?_
      exact kX7_takes_30 d N S _ h
    | false =>
      rw [c4, cond_false] at h
      refine gh_T_ic false rfl c4 ?_
      refine gh_T_steps 2 (τ := (31, [(0, .ref 18), (1, .int a1), (2, .int a2)], [.int 1], (gh_mo S, 0, 0))) (fun _ => rfl) ?_
      refine gh_T_weak (lv := [(0, .ref 18)]) ⟨rfl, trivial⟩ ?_
      exact kX7_takes_31 d N 1 S _ h
theorem kX7_takes (d N : Nat) (a1 : Int32) (a2 : Int32) (S : gh_St) (r : Int32 × gh_St) (h : sX7_takes N a1 a2 S = some r) : gh_Mx (d + 1) 72 [.ref 18, .int a1, .int a2] (gh_mo S) (some (.int r.1)) (gh_mo r.2) :=
  gh_Mx_of rfl rfl rfl rfl rfl rfl (kX7_takes_e d N a1 a2 S r h)
def sX7_atLeast_94 (N : Nat) (kc11 : Int32 → Int32 → Int32 → Int32 → Int32 → Int32 → gh_St → Option (Int32 × gh_St)) (l1 : Int32) (l2 : Int32) (l3 : Int32) (l4 : Int32) (l5 : Int32) (l6 : Int32) (S : gh_St) : Option (Int32 × gh_St) :=
  kc11 l1 l2 l3 l4 l5 (l6 + 1) S
set_option maxRecDepth 100000 in
theorem kX7_atLeast_94 (d N : Nat) (kc11 : Int32 → Int32 → Int32 → Int32 → Int32 → Int32 → gh_St → Option (Int32 × gh_St)) (hkc11 : ∀ (l1 : Int32) (l2 : Int32) (l3 : Int32) (l4 : Int32) (l5 : Int32) (l6 : Int32) (S : gh_St) (r : Int32 × gh_St), kc11 l1 l2 l3 l4 l5 l6 S = some r → gh_T d fX7_atLeast 0 0 none false false (11, [(0, .ref 18), (1, .int l1), (2, .int l2), (3, .int l3), (4, .int l4), (5, .int l5), (6, .int l6)], [], (gh_mo S, 0, 0)) (some (.int r.1), (gh_mo r.2, 0, 0))) (l1 : Int32) (l2 : Int32) (l3 : Int32) (l4 : Int32) (l5 : Int32) (l6 : Int32) (S : gh_St) (r : Int32 × gh_St) (h : sX7_atLeast_94 N kc11 l1 l2 l3 l4 l5 l6 S = some r) : gh_T d fX7_atLeast 0 0 none false false (94, [(0, .ref 18), (1, .int l1), (2, .int l2), (3, .int l3), (4, .int l4), (5, .int l5), (6, .int l6)], [], (gh_mo S, 0, 0)) (some (.int r.1), (gh_mo r.2, 0, 0)) := by
  unfold sX7_atLeast_94 at h
  refine gh_T_steps 2 (τ := (11, [(6, .int (l6 + 1)), (0, .ref 18), (1, .int l1), (2, .int l2), (3, .int l3), (4, .int l4), (5, .int l5)], [], (gh_mo S, 0, 0))) (fun _ => rfl) ?_
  refine gh_T_weak (lv := [(0, .ref 18), (1, .int l1), (2, .int l2), (3, .int l3), (4, .int l4), (5, .int l5), (6, .int (l6 + 1))]) ⟨rfl, rfl, rfl, rfl, rfl, rfl, rfl, trivial⟩ ?_
  exact hkc11 l1 l2 l3 l4 l5 (l6 + 1) S _ h
def sX7_atLeast_11 (N : Nat) : Nat → Int32 → Int32 → Int32 → Int32 → Int32 → Int32 → gh_St → Option (Int32 × gh_St)
  | 0, _, _, _, _, _, _, _ => none
  | n + 1, l1, l2, l3, l4, l5, l6, S =>
    bif gh_cmp .ge l6 (S.1 18 7) then
      (some (gh_max l3 l4, S))
    else
      ((gh_ra S 22 7 l6).bind fun x1 =>
      bif gh_cmp .ne ((l1 >>> (x1 &&& 31)) &&& (1 : Int32)) 0 then
        (sX7_atLeast_94 N (sX7_atLeast_11 N n) l1 l2 l3 l4 l5 l6 S)
      else
        ((gh_ra S 19 7 x1).bind fun x2 =>
        (gh_ra S 21 7 x1).bind fun x3 =>
        (gh_ra S 19 7 x1).bind fun x4 =>
        (gh_ra S 21 7 x1).bind fun x5 =>
        sX7_atLeast_94 N (sX7_atLeast_11 N n) l1 l2 (l3 + ((l5 - x2) * x3)) (l4 + ((gh_max 0 (l2 - x4)) * x5)) (l5 + (S.1 18 8)) l6 S))
set_option maxRecDepth 100000 in
theorem kX7_atLeast_11 (d N : Nat) : ∀ (n : Nat) (l1 : Int32) (l2 : Int32) (l3 : Int32) (l4 : Int32) (l5 : Int32) (l6 : Int32) (S : gh_St) (r : Int32 × gh_St), sX7_atLeast_11 N n l1 l2 l3 l4 l5 l6 S = some r → gh_T d fX7_atLeast 0 0 none false false (11, [(0, .ref 18), (1, .int l1), (2, .int l2), (3, .int l3), (4, .int l4), (5, .int l5), (6, .int l6)], [], (gh_mo S, 0, 0)) (some (.int r.1), (gh_mo r.2, 0, 0)) := by
  intro n
  induction n with
  | zero =>
    intro l1 l2 l3 l4 l5 l6 S r h
    cases h
  | succ n ih =>
    intro l1 l2 l3 l4 l5 l6 S r h
    rw [sX7_atLeast_11] at h
    refine gh_T_steps 3 (τ := (17, [(0, .ref 18), (1, .int l1), (2, .int l2), (3, .int l3), (4, .int l4), (5, .int l5), (6, .int l6)], [.int (S.1 18 7), .int l6], (gh_mo S, 0, 0))) (fun _ => rfl) ?_
    cases c7 : gh_cmp .ge l6 (S.1 18 7) with
    | true =>
      rw [c7, cond_true] at h
      refine gh_T_ic true rfl c7 ?_
      refine gh_T_steps 3 (τ := (106, [(0, .ref 18), (1, .int l1), (2, .int l2), (3, .int l3), (4, .int l4), (5, .int l5), (6, .int l6)], [.int (gh_max l3 l4)], (gh_mo S, 0, 0))) (fun _ => rfl) ?_
      cases h
      exact gh_T_ret (fun _ => rfl)
    | false =>
      rw [c7, cond_false] at h
      refine gh_T_ic false rfl c7 ?_
      refine gh_T_steps 3 (τ := (26, [(0, .ref 18), (1, .int l1), (2, .int l2), (3, .int l3), (4, .int l4), (5, .int l5), (6, .int l6)], [.int l6, .ref 22], (gh_mo S, 0, 0))) (fun _ => rfl) ?_
      obtain ⟨x1, hx1, h⟩ := gh_bi h
      refine gh_T_ra rfl rfl hx1 ?_
      refine gh_T_steps 6 (τ := (35, [(7, .int x1), (0, .ref 18), (1, .int l1), (2, .int l2), (3, .int l3), (4, .int l4), (5, .int l5), (6, .int l6)], [.int ((l1 >>> (x1 &&& 31)) &&& (1 : Int32))], (gh_mo S, 0, 0))) (fun _ => rfl) ?_
      cases c6 : gh_cmp .ne ((l1 >>> (x1 &&& 31)) &&& (1 : Int32)) 0 with
      | true =>
        rw [c6, cond_true] at h
        refine gh_T_if true rfl c6 ?_
        refine gh_T_weak (lv := [(0, .ref 18), (1, .int l1), (2, .int l2), (3, .int l3), (4, .int l4), (5, .int l5), (6, .int l6)]) ⟨rfl, rfl, rfl, rfl, rfl, rfl, rfl, trivial⟩ ?_
        exact kX7_atLeast_94 d N (sX7_atLeast_11 N n) ih l1 l2 l3 l4 l5 l6 S _ h
      | false =>
        rw [c6, cond_false] at h
        refine gh_T_if false rfl c6 ?_
        refine gh_T_steps 5 (τ := (47, [(7, .int x1), (0, .ref 18), (1, .int l1), (2, .int l2), (3, .int l3), (4, .int l4), (5, .int l5), (6, .int l6)], [.int x1, .ref 19, .int l5, .int l3], (gh_mo S, 0, 0))) (fun _ => rfl) ?_
        obtain ⟨x2, hx2, h⟩ := gh_bi h
        refine gh_T_ra rfl rfl hx2 ?_
        refine gh_T_steps 4 (τ := (55, [(7, .int x1), (0, .ref 18), (1, .int l1), (2, .int l2), (3, .int l3), (4, .int l4), (5, .int l5), (6, .int l6)], [.int x1, .ref 21, .int (l5 - x2), .int l3], (gh_mo S, 0, 0))) (fun _ => rfl) ?_
        obtain ⟨x3, hx3, h⟩ := gh_bi h
        refine gh_T_ra rfl rfl hx3 ?_
        refine gh_T_steps 9 (τ := (69, [(3, .int (l3 + ((l5 - x2) * x3))), (7, .int x1), (0, .ref 18), (1, .int l1), (2, .int l2), (4, .int l4), (5, .int l5), (6, .int l6)], [.int x1, .ref 19, .int l2, .int 0, .int l4], (gh_mo S, 0, 0))) (fun _ => rfl) ?_
        obtain ⟨x4, hx4, h⟩ := gh_bi h
        refine gh_T_ra rfl rfl hx4 ?_
        refine gh_T_steps 5 (τ := (80, [(3, .int (l3 + ((l5 - x2) * x3))), (7, .int x1), (0, .ref 18), (1, .int l1), (2, .int l2), (4, .int l4), (5, .int l5), (6, .int l6)], [.int x1, .ref 21, .int (gh_max 0 (l2 - x4)), .int l4], (gh_mo S, 0, 0))) (fun _ => rfl) ?_
        obtain ⟨x5, hx5, h⟩ := gh_bi h
        refine gh_T_ra rfl rfl hx5 ?_
        refine gh_T_steps 8 (τ := (94, [(5, .int (l5 + (S.1 18 8))), (4, .int (l4 + ((gh_max 0 (l2 - x4)) * x5))), (3, .int (l3 + ((l5 - x2) * x3))), (7, .int x1), (0, .ref 18), (1, .int l1), (2, .int l2), (6, .int l6)], [], (gh_mo S, 0, 0))) (fun _ => rfl) ?_
        refine gh_T_weak (lv := [(0, .ref 18), (1, .int l1), (2, .int l2), (3, .int (l3 + ((l5 - x2) * x3))), (4, .int (l4 + ((gh_max 0 (l2 - x4)) * x5))), (5, .int (l5 + (S.1 18 8))), (6, .int l6)]) ⟨rfl, rfl, rfl, rfl, rfl, rfl, rfl, trivial⟩ ?_
        exact kX7_atLeast_94 d N (sX7_atLeast_11 N n) ih l1 l2 (l3 + ((l5 - x2) * x3)) (l4 + ((gh_max 0 (l2 - x4)) * x5)) (l5 + (S.1 18 8)) l6 S _ h
def sX7_atLeast (N : Nat) (a1 : Int32) (a2 : Int32) (S : gh_St) : Option (Int32 × gh_St) :=
  sX7_atLeast_11 N N a1 a2 0 0 a2 0 S
set_option maxRecDepth 100000 in
theorem kX7_atLeast_e (d N : Nat) (a1 : Int32) (a2 : Int32) (S : gh_St) (r : Int32 × gh_St) (h : sX7_atLeast N a1 a2 S = some r) : gh_T d fX7_atLeast 0 0 none false false (0, [(0, .ref 18), (1, .int a1), (2, .int a2)], [], (gh_mo S, 0, 0)) (some (.int r.1), (gh_mo r.2, 0, 0)) := by
  unfold sX7_atLeast at h
  refine gh_T_steps 8 (τ := (11, [(6, .int 0), (5, .int a2), (4, .int 0), (3, .int 0), (0, .ref 18), (1, .int a1), (2, .int a2)], [], (gh_mo S, 0, 0))) (fun _ => rfl) ?_
  refine gh_T_weak (lv := [(0, .ref 18), (1, .int a1), (2, .int a2), (3, .int 0), (4, .int 0), (5, .int a2), (6, .int 0)]) ⟨rfl, rfl, rfl, rfl, rfl, rfl, rfl, trivial⟩ ?_
  exact kX7_atLeast_11 d N N a1 a2 0 0 a2 0 S _ h
theorem kX7_atLeast (d N : Nat) (a1 : Int32) (a2 : Int32) (S : gh_St) (r : Int32 × gh_St) (h : sX7_atLeast N a1 a2 S = some r) : gh_Mx (d + 1) 73 [.ref 18, .int a1, .int a2] (gh_mo S) (some (.int r.1)) (gh_mo r.2) :=
  gh_Mx_of rfl rfl rfl rfl rfl rfl (kX7_atLeast_e d N a1 a2 S r h)
def sX7_setEmpty_4 (N : Nat) : Nat → Int32 → Int32 → gh_St → Option (gh_St)
  | 0, _, _, _ => none
  | n + 1, l1, l2, S =>
    bif gh_cmp .ge l2 (S.1 18 7) then
      (some S)
    else
      ((gh_ra S 24 7 l2).bind fun x1 =>
      (gh_wa S 23 7 l2 x1).bind fun S2 =>
      (gh_ra S2 19 7 x1).bind fun x3 =>
      (sX7_takes N l2 x1 S2).bind fun q4 =>
      (gh_wa q4.2 25 7 l2 ((gh_max l1 x3) + q4.1)).bind fun S5 =>
      (sX7_setEmpty_4 N n) ((gh_max l1 x3) + q4.1) (l2 + 1) S5)
set_option maxRecDepth 100000 in
theorem kX7_setEmpty_4 (d N : Nat) : ∀ (n : Nat) (l1 : Int32) (l2 : Int32) (S : gh_St) (r : gh_St), sX7_setEmpty_4 N n l1 l2 S = some r → gh_T (d + 1) fX7_setEmpty 0 0 none false false (4, [(0, .ref 18), (1, .int l1), (2, .int l2)], [], (gh_mo S, 0, 0)) (none, (gh_mo r, 0, 0)) := by
  intro n
  induction n with
  | zero =>
    intro l1 l2 S r h
    cases h
  | succ n ih =>
    intro l1 l2 S r h
    rw [sX7_setEmpty_4] at h
    refine gh_T_steps 3 (τ := (9, [(0, .ref 18), (1, .int l1), (2, .int l2)], [.int (S.1 18 7), .int l2], (gh_mo S, 0, 0))) (fun _ => rfl) ?_
    cases c6 : gh_cmp .ge l2 (S.1 18 7) with
    | true =>
      rw [c6, cond_true] at h
      refine gh_T_ic true rfl c6 ?_
      cases h
      exact gh_T_ret (fun _ => rfl)
    | false =>
      rw [c6, cond_false] at h
      refine gh_T_ic false rfl c6 ?_
      refine gh_T_steps 3 (τ := (17, [(0, .ref 18), (1, .int l1), (2, .int l2)], [.int l2, .ref 24], (gh_mo S, 0, 0))) (fun _ => rfl) ?_
      obtain ⟨x1, hx1, h⟩ := gh_bi h
      refine gh_T_ra rfl rfl hx1 ?_
      refine gh_T_steps 5 (τ := (25, [(3, .int x1), (0, .ref 18), (1, .int l1), (2, .int l2)], [.int x1, .int l2, .ref 23], (gh_mo S, 0, 0))) (fun _ => rfl) ?_
      obtain ⟨S2, hS2, h⟩ := gh_bi h
      refine gh_T_wa rfl rfl hS2 ?_
      refine gh_T_steps 4 (τ := (32, [(3, .int x1), (0, .ref 18), (1, .int l1), (2, .int l2)], [.int x1, .ref 19, .int l1], (gh_mo S2, 0, 0))) (fun _ => rfl) ?_
      obtain ⟨x3, hx3, h⟩ := gh_bi h
      refine gh_T_ra rfl rfl hx3 ?_
      refine gh_T_steps 4 (τ := (39, [(3, .int x1), (0, .ref 18), (1, .int l1), (2, .int l2)], [.int x1, .int l2, .ref 18, .int (gh_max l1 x3)], (gh_mo S2, 0, 0))) (fun _ => rfl) ?_
      obtain ⟨q4, hq4, h⟩ := gh_bi h
      refine gh_T_iv (As := [.int l2, .int x1]) (b := 18) (rest := [.int (gh_max l1 x3)]) (y := some (.int q4.1)) (M' := gh_mo q4.2) rfl rfl rfl rfl rfl rfl rfl rfl rfl ⟨Nat.le_refl _, Nat.le_refl _⟩ (kX7_takes d N l2 x1 S2 q4 hq4) ?_
      refine gh_T_steps 6 (τ := (50, [(1, .int ((gh_max l1 x3) + q4.1)), (3, .int x1), (0, .ref 18), (2, .int l2)], [.int ((gh_max l1 x3) + q4.1), .int l2, .ref 25], (gh_mo q4.2, 0, 0))) (fun _ => rfl) ?_
      obtain ⟨S5, hS5, h⟩ := gh_bi h
      refine gh_T_wa rfl rfl hS5 ?_
      refine gh_T_steps 2 (τ := (4, [(2, .int (l2 + 1)), (1, .int ((gh_max l1 x3) + q4.1)), (3, .int x1), (0, .ref 18)], [], (gh_mo S5, 0, 0))) (fun _ => rfl) ?_
      refine gh_T_weak (lv := [(0, .ref 18), (1, .int ((gh_max l1 x3) + q4.1)), (2, .int (l2 + 1))]) ⟨rfl, rfl, rfl, trivial⟩ ?_
      exact ih ((gh_max l1 x3) + q4.1) (l2 + 1) S5 _ h
def sX7_setEmpty (N : Nat) (S : gh_St) : Option (gh_St) :=
  sX7_setEmpty_4 N N 0 0 S
set_option maxRecDepth 100000 in
theorem kX7_setEmpty_e (d N : Nat) (S : gh_St) (r : gh_St) (h : sX7_setEmpty N S = some r) : gh_T (d + 1) fX7_setEmpty 0 0 none false false (0, [(0, .ref 18)], [], (gh_mo S, 0, 0)) (none, (gh_mo r, 0, 0)) := by
  unfold sX7_setEmpty at h
  refine gh_T_steps 4 (τ := (4, [(2, .int 0), (1, .int 0), (0, .ref 18)], [], (gh_mo S, 0, 0))) (fun _ => rfl) ?_
  refine gh_T_weak (lv := [(0, .ref 18), (1, .int 0), (2, .int 0)]) ⟨rfl, rfl, rfl, trivial⟩ ?_
  exact kX7_setEmpty_4 d N N 0 0 S _ h
theorem kX7_setEmpty (d N : Nat) (S : gh_St) (r : gh_St) (h : sX7_setEmpty N S = some r) : gh_Mx (d + 2) 74 [.ref 18] (gh_mo S) none (gh_mo r) :=
  gh_Mx_of rfl rfl rfl rfl rfl rfl (kX7_setEmpty_e d N S r h)
def sX8_hasRoom (N : Nat) (a1 : Int32) (S : gh_St) : Option (Int32 × gh_St) :=
  bif gh_cmp .gt ((S.1 43 1) + a1) 200 then
    (some (0, S))
  else
    (some (1, S))
set_option maxRecDepth 100000 in
theorem kX8_hasRoom_e (d N : Nat) (a1 : Int32) (S : gh_St) (r : Int32 × gh_St) (h : sX8_hasRoom N a1 S = some r) : gh_T d fX8_hasRoom 0 0 none true false (0, [(0, .ref 43), (1, .int a1)], [], (gh_mo S, 0, 0)) (some (.int r.1), (gh_mo r.2, 0, 0)) := by
  unfold sX8_hasRoom at h
  refine gh_T_steps 5 (τ := (9, [(0, .ref 43), (1, .int a1)], [.int 200, .int ((S.1 43 1) + a1)], (gh_mo S, 0, 0))) (fun _ => rfl) ?_
  cases c1 : gh_cmp .gt ((S.1 43 1) + a1) 200 with
  | true =>
    rw [c1, cond_true] at h
    refine gh_T_ic true rfl c1 ?_
    refine gh_T_steps 1 (τ := (17, [(0, .ref 43), (1, .int a1)], [.int 0], (gh_mo S, 0, 0))) (fun _ => rfl) ?_
    cases h
    exact gh_T_ret (fun _ => rfl)
  | false =>
    rw [c1, cond_false] at h
    refine gh_T_ic false rfl c1 ?_
    refine gh_T_steps 2 (τ := (17, [(0, .ref 43), (1, .int a1)], [.int 1], (gh_mo S, 0, 0))) (fun _ => rfl) ?_
    cases h
    exact gh_T_ret (fun _ => rfl)
theorem kX8_hasRoom (d N : Nat) (a1 : Int32) (S : gh_St) (r : Int32 × gh_St) (h : sX8_hasRoom N a1 S = some r) : gh_Mx (d + 1) 76 [.ref 43, .int a1] (gh_mo S) (some (.int r.1)) (gh_mo r.2) :=
  gh_Mx_of rfl rfl rfl rfl rfl rfl (kX8_hasRoom_e d N a1 S r h)
def sX8_put_12 (N : Nat) : Nat → Int32 → Int32 → gh_St → Option (gh_St)
  | 0, _, _, _ => none
  | n + 1, l1, l2, S =>
    bif gh_cmp .lt l2 0 then
      (some S)
    else
      ((gh_wa S 44 200 (S.1 43 1) ((((l1 : Int32).toUInt32 >>> ((l2 : Int32).toUInt32 &&& Int32.toUInt32 31)).toInt32) &&& (255 : Int32))).bind fun S1 =>
      (sX8_put_12 N n) l1 (l2 + (-8)) (gh_fI S1 43 1 ((S1.1 43 1) + (1 : Int32))))
set_option maxRecDepth 100000 in
theorem kX8_put_12 (d N : Nat) : ∀ (n : Nat) (l1 : Int32) (l2 : Int32) (S : gh_St) (r : gh_St), sX8_put_12 N n l1 l2 S = some r → gh_T (d + 1) fX8_put 0 0 none false false (12, [(0, .ref 43), (1, .int l1), (2, .int l2)], [], (gh_mo S, 0, 0)) (none, (gh_mo r, 0, 0)) := by
  intro n
  induction n with
  | zero =>
    intro l1 l2 S r h
    cases h
  | succ n ih =>
    intro l1 l2 S r h
    rw [sX8_put_12] at h
    refine gh_T_steps 1 (τ := (13, [(0, .ref 43), (1, .int l1), (2, .int l2)], [.int l2], (gh_mo S, 0, 0))) (fun _ => rfl) ?_
    cases c2 : gh_cmp .lt l2 0 with
    | true =>
      rw [c2, cond_true] at h
      refine gh_T_if true rfl c2 ?_
      cases h
      exact gh_T_ret (fun _ => rfl)
    | false =>
      rw [c2, cond_false] at h
      refine gh_T_if false rfl c2 ?_
      refine gh_T_steps 9 (τ := (31, [(0, .ref 43), (1, .int l1), (2, .int l2)], [.int ((((l1 : Int32).toUInt32 >>> ((l2 : Int32).toUInt32 &&& Int32.toUInt32 31)).toInt32) &&& (255 : Int32)), .int (S.1 43 1), .ref 44], (gh_mo S, 0, 0))) (fun _ => rfl) ?_
      obtain ⟨S1, hS1, h⟩ := gh_bi h
      refine gh_T_wa rfl rfl hS1 ?_
      refine gh_T_steps 8 (τ := (12, [(2, .int (l2 + (-8))), (0, .ref 43), (1, .int l1)], [], (gh_mo (gh_fI S1 43 1 ((S1.1 43 1) + (1 : Int32))), 0, 0))) (fun _ => rfl) ?_
      refine gh_T_weak (lv := [(0, .ref 43), (1, .int l1), (2, .int (l2 + (-8)))]) ⟨rfl, rfl, rfl, trivial⟩ ?_
      exact ih l1 (l2 + (-8)) (gh_fI S1 43 1 ((S1.1 43 1) + (1 : Int32))) _ h
def sX8_put (N : Nat) (a1 : Int32) (S : gh_St) : Option (gh_St) :=
  (sX8_hasRoom N 4 S).bind fun q1 =>
  bif gh_cmp .ne q1.1 0 then
    (sX8_put_12 N N a1 24 q1.2)
  else
    (some q1.2)
set_option maxRecDepth 100000 in
theorem kX8_put_e (d N : Nat) (a1 : Int32) (S : gh_St) (r : gh_St) (h : sX8_put N a1 S = some r) : gh_T (d + 1) fX8_put 0 0 none false false (0, [(0, .ref 43), (1, .int a1)], [], (gh_mo S, 0, 0)) (none, (gh_mo r, 0, 0)) := by
  unfold sX8_put at h
  refine gh_T_steps 2 (τ := (2, [(0, .ref 43), (1, .int a1)], [.int 4, .ref 43], (gh_mo S, 0, 0))) (fun _ => rfl) ?_
  obtain ⟨q1, hq1, h⟩ := gh_bi h
  refine gh_T_iv (As := [.int 4]) (b := 43) (rest := []) (y := some (.int q1.1)) (M' := gh_mo q1.2) rfl rfl rfl rfl rfl rfl rfl rfl rfl ⟨Nat.le_refl _, Nat.le_refl _⟩ (kX8_hasRoom d N 4 S q1 hq1) ?_
  cases c2 : gh_cmp .ne q1.1 0 with
  | true =>
    rw [c2, cond_true] at h
    refine gh_T_if true rfl c2 ?_
    refine gh_T_steps 2 (τ := (12, [(2, .int 24), (0, .ref 43), (1, .int a1)], [], (gh_mo q1.2, 0, 0))) (fun _ => rfl) ?_
    refine gh_T_weak (lv := [(0, .ref 43), (1, .int a1), (2, .int 24)]) ⟨rfl, rfl, rfl, trivial⟩ ?_
    exact kX8_put_12 d N N a1 24 q1.2 _ h
  | false =>
    rw [c2, cond_false] at h
    refine gh_T_if false rfl c2 ?_
    cases h
    exact gh_T_ret (fun _ => rfl)
theorem kX8_put (d N : Nat) (a1 : Int32) (S : gh_St) (r : gh_St) (h : sX8_put N a1 S = some r) : gh_Mx (d + 2) 77 [.ref 43, .int a1] (gh_mo S) none (gh_mo r) :=
  gh_Mx_of rfl rfl rfl rfl rfl rfl (kX8_put_e d N a1 S r h)
def sX9_gone (N : Nat) (S : gh_St) : Option (Int32 × gh_St) :=
  (sX7_clear N S).bind fun q1 =>
  some (q1.1, q1.2)
set_option maxRecDepth 100000 in
theorem kX9_gone_e (d N : Nat) (S : gh_St) (r : Int32 × gh_St) (h : sX9_gone N S = some r) : gh_T (d + 1) fX9_gone 0 0 none false false (0, [(0, .ref 0)], [], (gh_mo S, 0, 0)) (some (.int r.1), (gh_mo r.2, 0, 0)) := by
  unfold sX9_gone at h
  refine gh_T_steps 2 (τ := (4, [(0, .ref 0)], [.ref 18], (gh_mo S, 0, 0))) (fun _ => rfl) ?_
  obtain ⟨q1, hq1, h⟩ := gh_bi h
  refine gh_T_iv (As := []) (b := 18) (rest := []) (y := some (.int q1.1)) (M' := gh_mo q1.2) rfl rfl rfl rfl rfl rfl rfl rfl rfl ⟨Nat.le_refl _, Nat.le_refl _⟩ (kX7_clear d N S q1 hq1) ?_
  cases h
  exact gh_T_ret (fun _ => rfl)
theorem kX9_gone (d N : Nat) (S : gh_St) (r : Int32 × gh_St) (h : sX9_gone N S = some r) : gh_Mx (d + 2) 94 [.ref 0] (gh_mo S) (some (.int r.1)) (gh_mo r.2) :=
  gh_Mx_of rfl rfl rfl rfl rfl rfl (kX9_gone_e d N S r h)
def sX9_feed (N : Nat) (a1 : Int32) (a2 : Int32) (a3 : Int32) (a4 : Int32) (a5 : Int32) (S : gh_St) : Option (Int32 × gh_St) :=
  (sX8_hasRoom N 20 S).bind fun q1 =>
  bif gh_cmp .ne q1.1 0 then
    ((sX8_put N a1 q1.2).bind fun q2 =>
    (sX8_put N a2 q2).bind fun q3 =>
    (sX8_put N a3 q3).bind fun q4 =>
    (sX8_put N a4 q4).bind fun q5 =>
    (sX8_put N a5 q5).bind fun q6 =>
    some (q6.1 43 1, q6))
  else
    (some ((-1), q1.2))
set_option maxRecDepth 100000 in
theorem kX9_feed_e (d N : Nat) (a1 : Int32) (a2 : Int32) (a3 : Int32) (a4 : Int32) (a5 : Int32) (S : gh_St) (r : Int32 × gh_St) (h : sX9_feed N a1 a2 a3 a4 a5 S = some r) : gh_T (d + 2) fX9_feed 0 0 none false false (0, [(0, .ref 0), (1, .int a1), (2, .int a2), (3, .int a3), (4, .int a4), (5, .int a5)], [], (gh_mo S, 0, 0)) (some (.int r.1), (gh_mo r.2, 0, 0)) := by
  unfold sX9_feed at h
  refine gh_T_steps 3 (τ := (6, [(0, .ref 0), (1, .int a1), (2, .int a2), (3, .int a3), (4, .int a4), (5, .int a5)], [.int 20, .ref 43], (gh_mo S, 0, 0))) (fun _ => rfl) ?_
  obtain ⟨q1, hq1, h⟩ := gh_bi h
  refine gh_T_iv (As := [.int 20]) (b := 43) (rest := []) (y := some (.int q1.1)) (M' := gh_mo q1.2) rfl rfl rfl rfl rfl rfl rfl rfl rfl ⟨Nat.le_refl _, Nat.le_refl _⟩ (kX8_hasRoom (d + 1) N 20 S q1 hq1) ?_
  cases c7 : gh_cmp .ne q1.1 0 with
  | true =>
    rw [c7, cond_true] at h
    refine gh_T_if true rfl c7 ?_
    refine gh_T_steps 3 (τ := (19, [(0, .ref 0), (1, .int a1), (2, .int a2), (3, .int a3), (4, .int a4), (5, .int a5)], [.int a1, .ref 43], (gh_mo q1.2, 0, 0))) (fun _ => rfl) ?_
    obtain ⟨q2, hq2, h⟩ := gh_bi h
    refine gh_T_iv (As := [.int a1]) (b := 43) (rest := []) (y := none) (M' := gh_mo q2) rfl rfl rfl rfl rfl rfl rfl rfl rfl ⟨Nat.le_refl _, Nat.le_refl _⟩ (kX8_put d N a1 q1.2 q2 hq2) ?_
    refine gh_T_steps 3 (τ := (27, [(0, .ref 0), (1, .int a1), (2, .int a2), (3, .int a3), (4, .int a4), (5, .int a5)], [.int a2, .ref 43], (gh_mo q2, 0, 0))) (fun _ => rfl) ?_
    obtain ⟨q3, hq3, h⟩ := gh_bi h
    refine gh_T_iv (As := [.int a2]) (b := 43) (rest := []) (y := none) (M' := gh_mo q3) rfl rfl rfl rfl rfl rfl rfl rfl rfl ⟨Nat.le_refl _, Nat.le_refl _⟩ (kX8_put d N a2 q2 q3 hq3) ?_
    refine gh_T_steps 3 (τ := (35, [(0, .ref 0), (1, .int a1), (2, .int a2), (3, .int a3), (4, .int a4), (5, .int a5)], [.int a3, .ref 43], (gh_mo q3, 0, 0))) (fun _ => rfl) ?_
    obtain ⟨q4, hq4, h⟩ := gh_bi h
    refine gh_T_iv (As := [.int a3]) (b := 43) (rest := []) (y := none) (M' := gh_mo q4) rfl rfl rfl rfl rfl rfl rfl rfl rfl ⟨Nat.le_refl _, Nat.le_refl _⟩ (kX8_put d N a3 q3 q4 hq4) ?_
    refine gh_T_steps 3 (τ := (44, [(0, .ref 0), (1, .int a1), (2, .int a2), (3, .int a3), (4, .int a4), (5, .int a5)], [.int a4, .ref 43], (gh_mo q4, 0, 0))) (fun _ => rfl) ?_
    obtain ⟨q5, hq5, h⟩ := gh_bi h
    refine gh_T_iv (As := [.int a4]) (b := 43) (rest := []) (y := none) (M' := gh_mo q5) rfl rfl rfl rfl rfl rfl rfl rfl rfl ⟨Nat.le_refl _, Nat.le_refl _⟩ (kX8_put d N a4 q4 q5 hq5) ?_
    refine gh_T_steps 3 (τ := (53, [(0, .ref 0), (1, .int a1), (2, .int a2), (3, .int a3), (4, .int a4), (5, .int a5)], [.int a5, .ref 43], (gh_mo q5, 0, 0))) (fun _ => rfl) ?_
    obtain ⟨q6, hq6, h⟩ := gh_bi h
    refine gh_T_iv (As := [.int a5]) (b := 43) (rest := []) (y := none) (M' := gh_mo q6) rfl rfl rfl rfl rfl rfl rfl rfl rfl ⟨Nat.le_refl _, Nat.le_refl _⟩ (kX8_put d N a5 q5 q6 hq6) ?_
    refine gh_T_steps 3 (τ := (63, [(0, .ref 0), (1, .int a1), (2, .int a2), (3, .int a3), (4, .int a4), (5, .int a5)], [.int (q6.1 43 1)], (gh_mo q6, 0, 0))) (fun _ => rfl) ?_
    cases h
    exact gh_T_ret (fun _ => rfl)
  | false =>
    rw [c7, cond_false] at h
    refine gh_T_if false rfl c7 ?_
    refine gh_T_steps 1 (τ := (13, [(0, .ref 0), (1, .int a1), (2, .int a2), (3, .int a3), (4, .int a4), (5, .int a5)], [.int ((-1))], (gh_mo q1.2, 0, 0))) (fun _ => rfl) ?_
    cases h
    exact gh_T_ret (fun _ => rfl)
theorem kX9_feed (d N : Nat) (a1 : Int32) (a2 : Int32) (a3 : Int32) (a4 : Int32) (a5 : Int32) (S : gh_St) (r : Int32 × gh_St) (h : sX9_feed N a1 a2 a3 a4 a5 S = some r) : gh_Mx (d + 3) 101 [.ref 0, .int a1, .int a2, .int a3, .int a4, .int a5] (gh_mo S) (some (.int r.1)) (gh_mo r.2) :=
  gh_Mx_of rfl rfl rfl rfl rfl rfl (kX9_feed_e d N a1 a2 a3 a4 a5 S r h)
def sX9_fault (N : Nat) (a1 : Int32) (S : gh_St) : Option (Int32 × gh_St) :=
  bif gh_cmp .ne (S.1 45 0) 0 then
    (bif gh_cmp .eq a1 0 then
      (some (S.1 45 1, S))
    else
      bif gh_cmp .eq a1 1 then
      (some (S.1 45 2, S))
    else
      (some ((-1), S)))
  else
    (some ((-1), S))
set_option maxRecDepth 100000 in
theorem kX9_fault_e (d N : Nat) (a1 : Int32) (S : gh_St) (r : Int32 × gh_St) (h : sX9_fault N a1 S = some r) : gh_T d fX9_fault 0 0 none false false (0, [(0, .ref 0), (1, .int a1)], [], (gh_mo S, 0, 0)) (some (.int r.1), (gh_mo r.2, 0, 0)) := by
  unfold sX9_fault at h
  refine gh_T_steps 3 (τ := (7, [(0, .ref 0), (1, .int a1)], [.int (S.1 45 0)], (gh_mo S, 0, 0))) (fun _ => rfl) ?_
  cases c3 : gh_cmp .ne (S.1 45 0) 0 with
  | true =>
    rw [c3, cond_true] at h
    refine gh_T_if true rfl c3 ?_
    refine gh_T_steps 1 (τ := (13, [(0, .ref 0), (1, .int a1)], [.int a1], (gh_mo S, 0, 0))) (fun _ => rfl) ?_
    cases c1 : gh_cmp .eq a1 0 with
    | true =>
      rw [c1, cond_true] at h
      refine gh_T_at 0 c1 (τ := (40, [(0, .ref 0), (1, .int a1)], [], (gh_mo S, 0, 0))) (fun _ => rfl) ?_
      refine gh_T_steps 3 (τ := (47, [(0, .ref 0), (1, .int a1)], [.int (S.1 45 1)], (gh_mo S, 0, 0))) (fun _ => rfl) ?_
      cases h
      exact gh_T_ret (fun _ => rfl)
    | false =>
      rw [c1, cond_false] at h
      cases c2 : gh_cmp .eq a1 1 with
      | true =>
        rw [c2, cond_true] at h
        refine gh_T_at 1 c2 (τ := (48, [(0, .ref 0), (1, .int a1)], [], (gh_mo S, 0, 0))) (fun _ => rfl) ?_
        refine gh_T_steps 3 (τ := (55, [(0, .ref 0), (1, .int a1)], [.int (S.1 45 2)], (gh_mo S, 0, 0))) (fun _ => rfl) ?_
        cases h
        exact gh_T_ret (fun _ => rfl)
      | false =>
        rw [c2, cond_false] at h
        refine gh_T_ld (tgt := 56) rfl ⟨⟨trivial, c1⟩, c2⟩ (by decide) ?_
        refine gh_T_steps 1 (τ := (57, [(0, .ref 0), (1, .int a1)], [.int ((-1))], (gh_mo S, 0, 0))) (fun _ => rfl) ?_
        cases h
        exact gh_T_ret (fun _ => rfl)
  | false =>
    rw [c3, cond_false] at h
    refine gh_T_if false rfl c3 ?_
    refine gh_T_steps 1 (τ := (11, [(0, .ref 0), (1, .int a1)], [.int ((-1))], (gh_mo S, 0, 0))) (fun _ => rfl) ?_
    cases h
    exact gh_T_ret (fun _ => rfl)
theorem kX9_fault (d N : Nat) (a1 : Int32) (S : gh_St) (r : Int32 × gh_St) (h : sX9_fault N a1 S = some r) : gh_Mx (d + 1) 104 [.ref 0, .int a1] (gh_mo S) (some (.int r.1)) (gh_mo r.2) :=
  gh_Mx_of rfl rfl rfl rfl rfl rfl (kX9_fault_e d N a1 S r h)

def sX10_blends_48 (N : Nat) (kc5 : Int32 → Int64 → Int32 → gh_St → Option (Int64 × gh_St)) (l1 : Int32) (l4 : Int32) (t0 : Int64) (t1 : Int64) (S : gh_St) : Option (Int64 × gh_St) :=
  kc5 l1 (t1 + t0) (l4 + 1) S
set_option maxRecDepth 100000 in
theorem kX10_blends_48 (d N : Nat) (kc5 : Int32 → Int64 → Int32 → gh_St → Option (Int64 × gh_St)) (hkc5 : ∀ (l1 : Int32) (l2 : Int64) (l4 : Int32) (S : gh_St) (r : Int64 × gh_St), kc5 l1 l2 l4 S = some r → gh_T (d + 1) fX10_blends 0 0 none false false (5, [(0, .ref 56), (1, .int l1), (2, .long l2), (4, .int l4)], [], (gh_mo S, 0, 0)) (some (.long r.1), (gh_mo r.2, 0, 0))) (l1 : Int32) (l4 : Int32) (t0 : Int64) (t1 : Int64) (S : gh_St) (r : Int64 × gh_St) (h : sX10_blends_48 N kc5 l1 l4 t0 t1 S = some r) : gh_T (d + 1) fX10_blends 0 0 none false false (48, [(0, .ref 56), (1, .int l1), (4, .int l4)], [.long t0, .long t1], (gh_mo S, 0, 0)) (some (.long r.1), (gh_mo r.2, 0, 0)) := by
  unfold sX10_blends_48 at h
  refine gh_T_steps 4 (τ := (5, [(4, .int (l4 + 1)), (2, .long (t1 + t0)), (0, .ref 56), (1, .int l1)], [], (gh_mo S, 0, 0))) (fun _ => rfl) ?_
  refine gh_T_weak (lv := [(0, .ref 56), (1, .int l1), (2, .long (t1 + t0)), (4, .int (l4 + 1))]) ⟨rfl, rfl, rfl, rfl, trivial⟩ ?_
  exact hkc5 l1 (t1 + t0) (l4 + 1) S _ h
def sX10_blends_5 (N : Nat) : Nat → Int32 → Int64 → Int32 → gh_St → Option (Int64 × gh_St)
  | 0, _, _, _, _ => none
  | n + 1, l1, l2, l4, S =>
    bif gh_cmp .ge l4 l1 then
      (some (l2, S))
    else
      ((gh_ra S 93 4 l4).bind fun x1 =>
      bif gh_cmp .ne x1 0 then
        ((gh_ra S 94 4 l4).bind fun x2 =>
        (gh_ra S 93 4 l4).bind fun x3 =>
        (sX10_dryOf N x2 ((1000 : Int32) * x3) S).bind fun q4 =>
        sX10_blends_48 N (sX10_blends_5 N n) l1 l4 q4.1 l2 q4.2)
      else
        (sX10_blends_48 N (sX10_blends_5 N n) l1 l4 0 l2 S))
set_option maxRecDepth 100000 in
theorem kX10_blends_5 (d N : Nat) : ∀ (n : Nat) (l1 : Int32) (l2 : Int64) (l4 : Int32) (S : gh_St) (r : Int64 × gh_St), sX10_blends_5 N n l1 l2 l4 S = some r → gh_T (d + 1) fX10_blends 0 0 none false false (5, [(0, .ref 56), (1, .int l1), (2, .long l2), (4, .int l4)], [], (gh_mo S, 0, 0)) (some (.long r.1), (gh_mo r.2, 0, 0)) := by
  intro n
  induction n with
  | zero =>
    intro l1 l2 l4 S r h
    cases h
  | succ n ih =>
    intro l1 l2 l4 S r h
    rw [sX10_blends_5] at h
    refine gh_T_steps 2 (τ := (8, [(0, .ref 56), (1, .int l1), (2, .long l2), (4, .int l4)], [.int l1, .int l4], (gh_mo S, 0, 0))) (fun _ => rfl) ?_
    cases c6 : gh_cmp .ge l4 l1 with
    | true =>
      rw [c6, cond_true] at h
      refine gh_T_ic true rfl c6 ?_
      refine gh_T_steps 1 (τ := (57, [(0, .ref 56), (1, .int l1), (2, .long l2), (4, .int l4)], [.long l2], (gh_mo S, 0, 0))) (fun _ => rfl) ?_
      cases h
      exact gh_T_ret (fun _ => rfl)
    | false =>
      rw [c6, cond_false] at h
      refine gh_T_ic false rfl c6 ?_
      refine gh_T_steps 4 (τ := (18, [(0, .ref 56), (1, .int l1), (2, .long l2), (4, .int l4)], [.int l4, .ref 93, .long l2], (gh_mo S, 0, 0))) (fun _ => rfl) ?_
      obtain ⟨x1, hx1, h⟩ := gh_bi h
      refine gh_T_ra rfl rfl hx1 ?_
      cases c5 : gh_cmp .ne x1 0 with
      | true =>
        rw [c5, cond_true] at h
        refine gh_T_if true rfl c5 ?_
        refine gh_T_steps 4 (τ := (33, [(0, .ref 56), (1, .int l1), (2, .long l2), (4, .int l4)], [.int l4, .ref 94, .ref 56, .long l2], (gh_mo S, 0, 0))) (fun _ => rfl) ?_
        obtain ⟨x2, hx2, h⟩ := gh_bi h
        refine gh_T_ra rfl rfl hx2 ?_
        refine gh_T_steps 4 (τ := (43, [(0, .ref 56), (1, .int l1), (2, .long l2), (4, .int l4)], [.int l4, .ref 93, .int 1000, .int x2, .ref 56, .long l2], (gh_mo S, 0, 0))) (fun _ => rfl) ?_
        obtain ⟨x3, hx3, h⟩ := gh_bi h
        refine gh_T_ra rfl rfl hx3 ?_
        refine gh_T_steps 1 (τ := (45, [(0, .ref 56), (1, .int l1), (2, .long l2), (4, .int l4)], [.int ((1000 : Int32) * x3), .int x2, .ref 56, .long l2], (gh_mo S, 0, 0))) (fun _ => rfl) ?_
        obtain ⟨q4, hq4, h⟩ := gh_bi h
        refine gh_T_iv (As := [.int x2, .int ((1000 : Int32) * x3)]) (b := 56) (rest := [.long l2]) (y := some (.long q4.1)) (M' := gh_mo q4.2) rfl rfl rfl rfl rfl rfl rfl rfl rfl ⟨Nat.le_refl _, Nat.le_refl _⟩ (kX10_dryOf d N x2 ((1000 : Int32) * x3) S q4 hq4) ?_
        refine gh_T_weak (lv := [(0, .ref 56), (1, .int l1), (4, .int l4)]) ⟨rfl, rfl, rfl, trivial⟩ ?_
        exact kX10_blends_48 d N (sX10_blends_5 N n) ih l1 l4 q4.1 l2 q4.2 _ h
      | false =>
        rw [c5, cond_false] at h
        refine gh_T_if false rfl c5 ?_
        refine gh_T_steps 2 (τ := (48, [(0, .ref 56), (1, .int l1), (2, .long l2), (4, .int l4)], [.long 0, .long l2], (gh_mo S, 0, 0))) (fun _ => rfl) ?_
        refine gh_T_weak (lv := [(0, .ref 56), (1, .int l1), (4, .int l4)]) ⟨rfl, rfl, rfl, trivial⟩ ?_
        exact kX10_blends_48 d N (sX10_blends_5 N n) ih l1 l4 0 l2 S _ h
def sX10_blends (N : Nat) (a1 : Int32) (S : gh_St) : Option (Int64 × gh_St) :=
  sX10_blends_5 N N a1 0 0 S
set_option maxRecDepth 100000 in
theorem kX10_blends_e (d N : Nat) (a1 : Int32) (S : gh_St) (r : Int64 × gh_St) (h : sX10_blends N a1 S = some r) : gh_T (d + 1) fX10_blends 0 0 none false false (0, [(0, .ref 56), (1, .int a1)], [], (gh_mo S, 0, 0)) (some (.long r.1), (gh_mo r.2, 0, 0)) := by
  unfold sX10_blends at h
  refine gh_T_steps 4 (τ := (5, [(4, .int 0), (2, .long 0), (0, .ref 56), (1, .int a1)], [], (gh_mo S, 0, 0))) (fun _ => rfl) ?_
  refine gh_T_weak (lv := [(0, .ref 56), (1, .int a1), (2, .long 0), (4, .int 0)]) ⟨rfl, rfl, rfl, rfl, trivial⟩ ?_
  exact kX10_blends_5 d N N a1 0 0 S _ h
theorem kX10_blends (d N : Nat) (a1 : Int32) (S : gh_St) (r : Int64 × gh_St) (h : sX10_blends N a1 S = some r) : gh_Mx (d + 2) 155 [.ref 56, .int a1] (gh_mo S) (some (.long r.1)) (gh_mo r.2) :=
  gh_Mx_of rfl rfl rfl rfl rfl rfl (kX10_blends_e d N a1 S r h)
def sX10_isThere (N : Nat) (a1 : Int32) (a2 : Int32) (S : gh_St) : Option (Int32 × gh_St) :=
  (gh_ra S 94 4 a1).bind fun x1 =>
  (gh_ra S 59 8 x1).bind fun x2 =>
  bif gh_cmp .gt ((1000 : Int32) * a2) x2 then
    (some (0, S))
  else
    (some (1, S))
set_option maxRecDepth 100000 in
theorem kX10_isThere_e (d N : Nat) (a1 : Int32) (a2 : Int32) (S : gh_St) (r : Int32 × gh_St) (h : sX10_isThere N a1 a2 S = some r) : gh_T d fX10_isThere 0 0 none true false (0, [(0, .ref 56), (1, .int a1), (2, .int a2)], [], (gh_mo S, 0, 0)) (some (.int r.1), (gh_mo r.2, 0, 0)) := by
  unfold sX10_isThere at h
  refine gh_T_steps 8 (τ := (14, [(0, .ref 56), (1, .int a1), (2, .int a2)], [.int a1, .ref 94, .ref 59, .int ((1000 : Int32) * a2)], (gh_mo S, 0, 0))) (fun _ => rfl) ?_
  obtain ⟨x1, hx1, h⟩ := gh_bi h
  refine gh_T_ra rfl rfl hx1 ?_
  obtain ⟨x2, hx2, h⟩ := gh_bi h
  refine gh_T_ra rfl rfl hx2 ?_
  cases c3 : gh_cmp .gt ((1000 : Int32) * a2) x2 with
  | true =>
    rw [c3, cond_true] at h
    refine gh_T_ic true rfl c3 ?_
    refine gh_T_steps 1 (τ := (24, [(0, .ref 56), (1, .int a1), (2, .int a2)], [.int 0], (gh_mo S, 0, 0))) (fun _ => rfl) ?_
    cases h
    exact gh_T_ret (fun _ => rfl)
  | false =>
    rw [c3, cond_false] at h
    refine gh_T_ic false rfl c3 ?_
    refine gh_T_steps 2 (τ := (24, [(0, .ref 56), (1, .int a1), (2, .int a2)], [.int 1], (gh_mo S, 0, 0))) (fun _ => rfl) ?_
    cases h
    exact gh_T_ret (fun _ => rfl)
theorem kX10_isThere (d N : Nat) (a1 : Int32) (a2 : Int32) (S : gh_St) (r : Int32 × gh_St) (h : sX10_isThere N a1 a2 S = some r) : gh_Mx (d + 1) 156 [.ref 56, .int a1, .int a2] (gh_mo S) (some (.int r.1)) (gh_mo r.2) :=
  gh_Mx_of rfl rfl rfl rfl rfl rfl (kX10_isThere_e d N a1 a2 S r h)
def sX10_blend_114 (N : Nat) (kc54 : Int32 → Int32 → Int32 → Int32 → Int32 → Int32 → gh_St → Option (Int64 × gh_St)) (l1 : Int32) (l2 : Int32) (l3 : Int32) (l4 : Int32) (l5 : Int32) (l6 : Int32) (S : gh_St) : Option (Int64 × gh_St) :=
  kc54 l1 l2 l3 l4 l5 (l6 + 1) S
set_option maxRecDepth 100000 in
theorem kX10_blend_114 (d N : Nat) (kc54 : Int32 → Int32 → Int32 → Int32 → Int32 → Int32 → gh_St → Option (Int64 × gh_St)) (hkc54 : ∀ (l1 : Int32) (l2 : Int32) (l3 : Int32) (l4 : Int32) (l5 : Int32) (l6 : Int32) (S : gh_St) (r : Int64 × gh_St), kc54 l1 l2 l3 l4 l5 l6 S = some r → gh_T (d + 2) fX10_blend 0 0 none false false (54, [(0, .ref 56), (1, .int l1), (2, .int l2), (3, .int l3), (4, .int l4), (5, .int l5), (6, .int l6)], [], (gh_mo S, 0, 0)) (some (.long r.1), (gh_mo r.2, 0, 0))) (l1 : Int32) (l2 : Int32) (l3 : Int32) (l4 : Int32) (l5 : Int32) (l6 : Int32) (S : gh_St) (r : Int64 × gh_St) (h : sX10_blend_114 N kc54 l1 l2 l3 l4 l5 l6 S = some r) : gh_T (d + 2) fX10_blend 0 0 none false false (114, [(0, .ref 56), (1, .int l1), (2, .int l2), (3, .int l3), (4, .int l4), (5, .int l5), (6, .int l6)], [], (gh_mo S, 0, 0)) (some (.long r.1), (gh_mo r.2, 0, 0)) := by
  unfold sX10_blend_114 at h
  refine gh_T_steps 2 (τ := (54, [(6, .int (l6 + 1)), (0, .ref 56), (1, .int l1), (2, .int l2), (3, .int l3), (4, .int l4), (5, .int l5)], [], (gh_mo S, 0, 0))) (fun _ => rfl) ?_
  refine gh_T_weak (lv := [(0, .ref 56), (1, .int l1), (2, .int l2), (3, .int l3), (4, .int l4), (5, .int l5), (6, .int (l6 + 1))]) ⟨rfl, rfl, rfl, rfl, rfl, rfl, rfl, trivial⟩ ?_
  exact hkc54 l1 l2 l3 l4 l5 (l6 + 1) S _ h
def sX10_blend_398 (N : Nat) (kc167 : Int32 → Int32 → Int32 → Int64 → Int32 → gh_St → Option (Int64 × gh_St)) (l3 : Int32) (l4 : Int32) (l5 : Int32) (l6 : Int64) (l9 : Int32) (S : gh_St) : Option (Int64 × gh_St) :=
  kc167 l3 l4 l5 l6 (l9 + (-1)) S
set_option maxRecDepth 100000 in
theorem kX10_blend_398 (d N : Nat) (kc167 : Int32 → Int32 → Int32 → Int64 → Int32 → gh_St → Option (Int64 × gh_St)) (hkc167 : ∀ (l3 : Int32) (l4 : Int32) (l5 : Int32) (l6 : Int64) (l9 : Int32) (S : gh_St) (r : Int64 × gh_St), kc167 l3 l4 l5 l6 l9 S = some r → gh_T (d + 2) fX10_blend 0 0 none false false (167, [(0, .ref 56), (3, .int l3), (4, .int l4), (5, .int l5), (6, .long l6), (9, .int l9)], [], (gh_mo S, 0, 0)) (some (.long r.1), (gh_mo r.2, 0, 0))) (l3 : Int32) (l4 : Int32) (l5 : Int32) (l6 : Int64) (l9 : Int32) (S : gh_St) (r : Int64 × gh_St) (h : sX10_blend_398 N kc167 l3 l4 l5 l6 l9 S = some r) : gh_T (d + 2) fX10_blend 0 0 none false false (398, [(0, .ref 56), (3, .int l3), (4, .int l4), (5, .int l5), (6, .long l6), (9, .int l9)], [], (gh_mo S, 0, 0)) (some (.long r.1), (gh_mo r.2, 0, 0)) := by
  unfold sX10_blend_398 at h
  refine gh_T_steps 2 (τ := (167, [(9, .int (l9 + (-1))), (0, .ref 56), (3, .int l3), (4, .int l4), (5, .int l5), (6, .long l6)], [], (gh_mo S, 0, 0))) (fun _ => rfl) ?_
  refine gh_T_weak (lv := [(0, .ref 56), (3, .int l3), (4, .int l4), (5, .int l5), (6, .long l6), (9, .int (l9 + (-1)))]) ⟨rfl, rfl, rfl, rfl, rfl, rfl, trivial⟩ ?_
  exact hkc167 l3 l4 l5 l6 (l9 + (-1)) S _ h
def sX10_blend_366 (N : Nat) (kc167 : Int32 → Int32 → Int32 → Int64 → Int32 → gh_St → Option (Int64 × gh_St)) : Nat → Int32 → Int32 → Int32 → Int64 → Int32 → Int32 → gh_St → Option (Int64 × gh_St)
  | 0, _, _, _, _, _, _, _ => none
  | n + 1, l3, l4, l5, l6, l9, l15, S =>
    bif gh_cmp .ge l15 l5 then
      (sX10_blend_398 N kc167 l3 l4 l5 l6 l9 S)
    else
      ((gh_ra S 94 4 l15).bind fun x1 =>
      (gh_ra S 93 4 l15).bind fun x2 =>
      (gh_wa S 95 8 x1 x2).bind fun S3 =>
      (sX10_blend_366 N kc167 n) l3 l4 l5 l6 l9 (l15 + 1) S3)
set_option maxRecDepth 100000 in
theorem kX10_blend_366 (d N : Nat) (kc167 : Int32 → Int32 → Int32 → Int64 → Int32 → gh_St → Option (Int64 × gh_St)) (hkc167 : ∀ (l3 : Int32) (l4 : Int32) (l5 : Int32) (l6 : Int64) (l9 : Int32) (S : gh_St) (r : Int64 × gh_St), kc167 l3 l4 l5 l6 l9 S = some r → gh_T (d + 2) fX10_blend 0 0 none false false (167, [(0, .ref 56), (3, .int l3), (4, .int l4), (5, .int l5), (6, .long l6), (9, .int l9)], [], (gh_mo S, 0, 0)) (some (.long r.1), (gh_mo r.2, 0, 0))) : ∀ (n : Nat) (l3 : Int32) (l4 : Int32) (l5 : Int32) (l6 : Int64) (l9 : Int32) (l15 : Int32) (S : gh_St) (r : Int64 × gh_St), sX10_blend_366 N kc167 n l3 l4 l5 l6 l9 l15 S = some r → gh_T (d + 2) fX10_blend 0 0 none false false (366, [(0, .ref 56), (3, .int l3), (4, .int l4), (5, .int l5), (6, .long l6), (9, .int l9), (15, .int l15)], [], (gh_mo S, 0, 0)) (some (.long r.1), (gh_mo r.2, 0, 0)) := by
  intro n
  induction n with
  | zero =>
    intro l3 l4 l5 l6 l9 l15 S r h
    cases h
  | succ n ih =>
    intro l3 l4 l5 l6 l9 l15 S r h
    rw [sX10_blend_366] at h
    refine gh_T_steps 2 (τ := (370, [(0, .ref 56), (3, .int l3), (4, .int l4), (5, .int l5), (6, .long l6), (9, .int l9), (15, .int l15)], [.int l5, .int l15], (gh_mo S, 0, 0))) (fun _ => rfl) ?_
    cases c4 : gh_cmp .ge l15 l5 with
    | true =>
      rw [c4, cond_true] at h
      refine gh_T_ic true rfl c4 ?_
      refine gh_T_weak (lv := [(0, .ref 56), (3, .int l3), (4, .int l4), (5, .int l5), (6, .long l6), (9, .int l9)]) ⟨rfl, rfl, rfl, rfl, rfl, rfl, trivial⟩ ?_
      exact kX10_blend_398 d N kc167 hkc167 l3 l4 l5 l6 l9 S _ h
    | false =>
      rw [c4, cond_false] at h
      refine gh_T_ic false rfl c4 ?_
      refine gh_T_steps 5 (τ := (383, [(0, .ref 56), (3, .int l3), (4, .int l4), (5, .int l5), (6, .long l6), (9, .int l9), (15, .int l15)], [.int l15, .ref 94, .ref 95], (gh_mo S, 0, 0))) (fun _ => rfl) ?_
      obtain ⟨x1, hx1, h⟩ := gh_bi h
      refine gh_T_ra rfl rfl hx1 ?_
      refine gh_T_steps 3 (τ := (390, [(0, .ref 56), (3, .int l3), (4, .int l4), (5, .int l5), (6, .long l6), (9, .int l9), (15, .int l15)], [.int l15, .ref 93, .int x1, .ref 95], (gh_mo S, 0, 0))) (fun _ => rfl) ?_
      obtain ⟨x2, hx2, h⟩ := gh_bi h
      refine gh_T_ra rfl rfl hx2 ?_
      obtain ⟨S3, hS3, h⟩ := gh_bi h
      refine gh_T_wa rfl rfl hS3 ?_
      refine gh_T_steps 2 (τ := (366, [(15, .int (l15 + 1)), (0, .ref 56), (3, .int l3), (4, .int l4), (5, .int l5), (6, .long l6), (9, .int l9)], [], (gh_mo S3, 0, 0))) (fun _ => rfl) ?_
      refine gh_T_weak (lv := [(0, .ref 56), (3, .int l3), (4, .int l4), (5, .int l5), (6, .long l6), (9, .int l9), (15, .int (l15 + 1))]) ⟨rfl, rfl, rfl, rfl, rfl, rfl, rfl, trivial⟩ ?_
      exact ih l3 l4 l5 l6 l9 (l15 + 1) S3 _ h
def sX10_blend_342 (N : Nat) (kc167 : Int32 → Int32 → Int32 → Int64 → Int32 → gh_St → Option (Int64 × gh_St)) : Nat → Int32 → Int32 → Int32 → Int64 → Int32 → Int32 → gh_St → Option (Int64 × gh_St)
  | 0, _, _, _, _, _, _, _ => none
  | n + 1, l3, l4, l5, l6, l9, l15, S =>
    bif gh_cmp .ge l15 8 then
      (sX10_blend_366 N kc167 N l3 l4 l5 l6 l9 0 S)
    else
      ((gh_wa S 95 8 l15 0).bind fun S1 =>
      (sX10_blend_342 N kc167 n) l3 l4 l5 l6 l9 (l15 + 1) S1)
set_option maxRecDepth 100000 in
theorem kX10_blend_342 (d N : Nat) (kc167 : Int32 → Int32 → Int32 → Int64 → Int32 → gh_St → Option (Int64 × gh_St)) (hkc167 : ∀ (l3 : Int32) (l4 : Int32) (l5 : Int32) (l6 : Int64) (l9 : Int32) (S : gh_St) (r : Int64 × gh_St), kc167 l3 l4 l5 l6 l9 S = some r → gh_T (d + 2) fX10_blend 0 0 none false false (167, [(0, .ref 56), (3, .int l3), (4, .int l4), (5, .int l5), (6, .long l6), (9, .int l9)], [], (gh_mo S, 0, 0)) (some (.long r.1), (gh_mo r.2, 0, 0))) : ∀ (n : Nat) (l3 : Int32) (l4 : Int32) (l5 : Int32) (l6 : Int64) (l9 : Int32) (l15 : Int32) (S : gh_St) (r : Int64 × gh_St), sX10_blend_342 N kc167 n l3 l4 l5 l6 l9 l15 S = some r → gh_T (d + 2) fX10_blend 0 0 none false false (342, [(0, .ref 56), (3, .int l3), (4, .int l4), (5, .int l5), (6, .long l6), (9, .int l9), (15, .int l15)], [], (gh_mo S, 0, 0)) (some (.long r.1), (gh_mo r.2, 0, 0)) := by
  intro n
  induction n with
  | zero =>
    intro l3 l4 l5 l6 l9 l15 S r h
    cases h
  | succ n ih =>
    intro l3 l4 l5 l6 l9 l15 S r h
    rw [sX10_blend_342] at h
    refine gh_T_steps 2 (τ := (346, [(0, .ref 56), (3, .int l3), (4, .int l4), (5, .int l5), (6, .long l6), (9, .int l9), (15, .int l15)], [.int 8, .int l15], (gh_mo S, 0, 0))) (fun _ => rfl) ?_
    cases c2 : gh_cmp .ge l15 8 with
    | true =>
      rw [c2, cond_true] at h
      refine gh_T_ic true rfl c2 ?_
      refine gh_T_steps 2 (τ := (366, [(15, .int 0), (0, .ref 56), (3, .int l3), (4, .int l4), (5, .int l5), (6, .long l6), (9, .int l9)], [], (gh_mo S, 0, 0))) (fun _ => rfl) ?_
      refine gh_T_weak (lv := [(0, .ref 56), (3, .int l3), (4, .int l4), (5, .int l5), (6, .long l6), (9, .int l9), (15, .int 0)]) ⟨rfl, rfl, rfl, rfl, rfl, rfl, rfl, trivial⟩ ?_
      exact kX10_blend_366 d N kc167 hkc167 N l3 l4 l5 l6 l9 0 S _ h
    | false =>
      rw [c2, cond_false] at h
      refine gh_T_ic false rfl c2 ?_
      refine gh_T_steps 4 (τ := (356, [(0, .ref 56), (3, .int l3), (4, .int l4), (5, .int l5), (6, .long l6), (9, .int l9), (15, .int l15)], [.int 0, .int l15, .ref 95], (gh_mo S, 0, 0))) (fun _ => rfl) ?_
      obtain ⟨S1, hS1, h⟩ := gh_bi h
      refine gh_T_wa rfl rfl hS1 ?_
      refine gh_T_steps 2 (τ := (342, [(15, .int (l15 + 1)), (0, .ref 56), (3, .int l3), (4, .int l4), (5, .int l5), (6, .long l6), (9, .int l9)], [], (gh_mo S1, 0, 0))) (fun _ => rfl) ?_
      refine gh_T_weak (lv := [(0, .ref 56), (3, .int l3), (4, .int l4), (5, .int l5), (6, .long l6), (9, .int l9), (15, .int (l15 + 1))]) ⟨rfl, rfl, rfl, rfl, rfl, rfl, rfl, trivial⟩ ?_
      exact ih l3 l4 l5 l6 l9 (l15 + 1) S1 _ h
def sX10_blend_335 (N : Nat) (kc167 : Int32 → Int32 → Int32 → Int64 → Int32 → gh_St → Option (Int64 × gh_St)) (l3 : Int32) (l4 : Int32) (l5 : Int32) (l9 : Int32) (l13 : Int64) (S : gh_St) : Option (Int64 × gh_St) :=
  sX10_blend_342 N kc167 N l3 l4 l5 l13 l9 0 S
set_option maxRecDepth 100000 in
theorem kX10_blend_335 (d N : Nat) (kc167 : Int32 → Int32 → Int32 → Int64 → Int32 → gh_St → Option (Int64 × gh_St)) (hkc167 : ∀ (l3 : Int32) (l4 : Int32) (l5 : Int32) (l6 : Int64) (l9 : Int32) (S : gh_St) (r : Int64 × gh_St), kc167 l3 l4 l5 l6 l9 S = some r → gh_T (d + 2) fX10_blend 0 0 none false false (167, [(0, .ref 56), (3, .int l3), (4, .int l4), (5, .int l5), (6, .long l6), (9, .int l9)], [], (gh_mo S, 0, 0)) (some (.long r.1), (gh_mo r.2, 0, 0))) (l3 : Int32) (l4 : Int32) (l5 : Int32) (l9 : Int32) (l13 : Int64) (S : gh_St) (r : Int64 × gh_St) (h : sX10_blend_335 N kc167 l3 l4 l5 l9 l13 S = some r) : gh_T (d + 2) fX10_blend 0 0 none false false (335, [(0, .ref 56), (3, .int l3), (4, .int l4), (5, .int l5), (9, .int l9), (13, .long l13)], [], (gh_mo S, 0, 0)) (some (.long r.1), (gh_mo r.2, 0, 0)) := by
  unfold sX10_blend_335 at h
  refine gh_T_steps 4 (τ := (342, [(15, .int 0), (6, .long l13), (0, .ref 56), (3, .int l3), (4, .int l4), (5, .int l5), (9, .int l9), (13, .long l13)], [], (gh_mo S, 0, 0))) (fun _ => rfl) ?_
  refine gh_T_weak (lv := [(0, .ref 56), (3, .int l3), (4, .int l4), (5, .int l5), (6, .long l13), (9, .int l9), (15, .int 0)]) ⟨rfl, rfl, rfl, rfl, rfl, rfl, rfl, trivial⟩ ?_
  exact kX10_blend_342 d N kc167 hkc167 N l3 l4 l5 l13 l9 0 S _ h
def sX10_blend_291 (N : Nat) (kc167 : Int32 → Int32 → Int32 → Int64 → Int32 → gh_St → Option (Int64 × gh_St)) (l3 : Int32) (l4 : Int32) (l5 : Int32) (l6 : Int64) (l9 : Int32) (l12 : Int32) (S : gh_St) : Option (Int64 × gh_St) :=
  bif gh_cmp .eq l12 0 then
    (sX10_blend_398 N kc167 l3 l4 l5 l6 l9 S)
  else
    ((sX10_blends N l5 S).bind fun q1 =>
    (sX10_moistOf N q1.1 ((1000 : Int64) * ((l3 : Int32).toInt64)) q1.2).bind fun q2 =>
    bif gh_cmp .gt q2.1 l4 then
      (sX10_blend_398 N kc167 l3 l4 l5 l6 l9 q2.2)
    else
      (bif gh_cmp .lt (lg_cmp l6 (0 : Int64)) 0 then
        (sX10_blend_335 N kc167 l3 l4 l5 l9 q1.1 q2.2)
      else
        (bif gh_cmp .ge (lg_cmp q1.1 l6) 0 then
          (sX10_blend_398 N kc167 l3 l4 l5 l6 l9 q2.2)
        else
          (sX10_blend_335 N kc167 l3 l4 l5 l9 q1.1 q2.2))))
set_option maxRecDepth 100000 in
theorem kX10_blend_291 (d N : Nat) (kc167 : Int32 → Int32 → Int32 → Int64 → Int32 → gh_St → Option (Int64 × gh_St)) (hkc167 : ∀ (l3 : Int32) (l4 : Int32) (l5 : Int32) (l6 : Int64) (l9 : Int32) (S : gh_St) (r : Int64 × gh_St), kc167 l3 l4 l5 l6 l9 S = some r → gh_T (d + 2) fX10_blend 0 0 none false false (167, [(0, .ref 56), (3, .int l3), (4, .int l4), (5, .int l5), (6, .long l6), (9, .int l9)], [], (gh_mo S, 0, 0)) (some (.long r.1), (gh_mo r.2, 0, 0))) (l3 : Int32) (l4 : Int32) (l5 : Int32) (l6 : Int64) (l9 : Int32) (l12 : Int32) (S : gh_St) (r : Int64 × gh_St) (h : sX10_blend_291 N kc167 l3 l4 l5 l6 l9 l12 S = some r) : gh_T (d + 2) fX10_blend 0 0 none false false (291, [(0, .ref 56), (3, .int l3), (4, .int l4), (5, .int l5), (6, .long l6), (9, .int l9), (12, .int l12)], [], (gh_mo S, 0, 0)) (some (.long r.1), (gh_mo r.2, 0, 0)) := by
  unfold sX10_blend_291 at h
  refine gh_T_steps 1 (τ := (293, [(0, .ref 56), (3, .int l3), (4, .int l4), (5, .int l5), (6, .long l6), (9, .int l9), (12, .int l12)], [.int l12], (gh_mo S, 0, 0))) (fun _ => rfl) ?_
  cases c6 : gh_cmp .eq l12 0 with
  | true =>
    rw [c6, cond_true] at h
    refine gh_T_if true rfl c6 ?_
    refine gh_T_weak (lv := [(0, .ref 56), (3, .int l3), (4, .int l4), (5, .int l5), (6, .long l6), (9, .int l9)]) ⟨rfl, rfl, rfl, rfl, rfl, rfl, trivial⟩ ?_
    exact kX10_blend_398 d N kc167 hkc167 l3 l4 l5 l6 l9 S _ h
  | false =>
    rw [c6, cond_false] at h
    refine gh_T_if false rfl c6 ?_
    refine gh_T_steps 2 (τ := (299, [(0, .ref 56), (3, .int l3), (4, .int l4), (5, .int l5), (6, .long l6), (9, .int l9), (12, .int l12)], [.int l5, .ref 56], (gh_mo S, 0, 0))) (fun _ => rfl) ?_
    obtain ⟨q1, hq1, h⟩ := gh_bi h
    refine gh_T_iv (As := [.int l5]) (b := 56) (rest := []) (y := some (.long q1.1)) (M' := gh_mo q1.2) rfl rfl rfl rfl rfl rfl rfl rfl rfl ⟨Nat.le_refl _, Nat.le_refl _⟩ (kX10_blends d N l5 S q1 hq1) ?_
    refine gh_T_steps 6 (τ := (312, [(13, .long q1.1), (0, .ref 56), (3, .int l3), (4, .int l4), (5, .int l5), (6, .long l6), (9, .int l9), (12, .int l12)], [.long ((1000 : Int64) * ((l3 : Int32).toInt64)), .long q1.1], (gh_mo q1.2, 0, 0))) (fun _ => rfl) ?_
    obtain ⟨q2, hq2, h⟩ := gh_bi h
    refine gh_T_is (As := [.long q1.1, .long ((1000 : Int64) * ((l3 : Int32).toInt64))]) (rest := []) (y := some (.int q2.1)) (M' := gh_mo q2.2) rfl rfl rfl rfl rfl rfl rfl ⟨Nat.le_refl _, Nat.le_refl _⟩ (kX10_moistOf (d + 1) N q1.1 ((1000 : Int64) * ((l3 : Int32).toInt64)) q1.2 q2 hq2) ?_
    refine gh_T_steps 1 (τ := (317, [(13, .long q1.1), (0, .ref 56), (3, .int l3), (4, .int l4), (5, .int l5), (6, .long l6), (9, .int l9), (12, .int l12)], [.int l4, .int q2.1], (gh_mo q2.2, 0, 0))) (fun _ => rfl) ?_
    cases c5 : gh_cmp .gt q2.1 l4 with
    | true =>
      rw [c5, cond_true] at h
      refine gh_T_ic true rfl c5 ?_
      refine gh_T_weak (lv := [(0, .ref 56), (3, .int l3), (4, .int l4), (5, .int l5), (6, .long l6), (9, .int l9)]) ⟨rfl, rfl, rfl, rfl, rfl, rfl, trivial⟩ ?_
      exact kX10_blend_398 d N kc167 hkc167 l3 l4 l5 l6 l9 q2.2 _ h
    | false =>
      rw [c5, cond_false] at h
      refine gh_T_ic false rfl c5 ?_
      refine gh_T_steps 3 (τ := (324, [(13, .long q1.1), (0, .ref 56), (3, .int l3), (4, .int l4), (5, .int l5), (6, .long l6), (9, .int l9), (12, .int l12)], [.int (lg_cmp l6 (0 : Int64))], (gh_mo q2.2, 0, 0))) (fun _ => rfl) ?_
      cases c4 : gh_cmp .lt (lg_cmp l6 (0 : Int64)) 0 with
      | true =>
        rw [c4, cond_true] at h
        refine gh_T_if true rfl c4 ?_
        refine gh_T_weak (lv := [(0, .ref 56), (3, .int l3), (4, .int l4), (5, .int l5), (9, .int l9), (13, .long q1.1)]) ⟨rfl, rfl, rfl, rfl, rfl, rfl, trivial⟩ ?_
        exact kX10_blend_335 d N kc167 hkc167 l3 l4 l5 l9 q1.1 q2.2 _ h
      | false =>
        rw [c4, cond_false] at h
        refine gh_T_if false rfl c4 ?_
        refine gh_T_steps 3 (τ := (332, [(13, .long q1.1), (0, .ref 56), (3, .int l3), (4, .int l4), (5, .int l5), (6, .long l6), (9, .int l9), (12, .int l12)], [.int (lg_cmp q1.1 l6)], (gh_mo q2.2, 0, 0))) (fun _ => rfl) ?_
        cases c3 : gh_cmp .ge (lg_cmp q1.1 l6) 0 with
        | true =>
          rw [c3, cond_true] at h
          refine gh_T_if true rfl c3 ?_
          refine gh_T_weak (lv := [(0, .ref 56), (3, .int l3), (4, .int l4), (5, .int l5), (6, .long l6), (9, .int l9)]) ⟨rfl, rfl, rfl, rfl, rfl, rfl, trivial⟩ ?_
          exact kX10_blend_398 d N kc167 hkc167 l3 l4 l5 l6 l9 q2.2 _ h
        | false =>
          rw [c3, cond_false] at h
          refine gh_T_if false rfl c3 ?_
          refine gh_T_weak (lv := [(0, .ref 56), (3, .int l3), (4, .int l4), (5, .int l5), (9, .int l9), (13, .long q1.1)]) ⟨rfl, rfl, rfl, rfl, rfl, rfl, trivial⟩ ?_
          exact kX10_blend_335 d N kc167 hkc167 l3 l4 l5 l9 q1.1 q2.2 _ h
def sX10_blend_258 (N : Nat) (kc167 : Int32 → Int32 → Int32 → Int64 → Int32 → gh_St → Option (Int64 × gh_St)) : Nat → Int32 → Int32 → Int32 → Int64 → Int32 → Int32 → Int32 → gh_St → Option (Int64 × gh_St)
  | 0, _, _, _, _, _, _, _, _ => none
  | n + 1, l3, l4, l5, l6, l9, l12, l13, S =>
    bif gh_cmp .ge l13 l5 then
      (sX10_blend_291 N kc167 l3 l4 l5 l6 l9 l12 S)
    else
      (bif gh_cmp .eq l12 0 then
        (sX10_blend_291 N kc167 l3 l4 l5 l6 l9 l12 S)
      else
        ((gh_ra S 93 4 l13).bind fun x1 =>
        (sX10_isThere N l13 x1 S).bind fun q2 =>
        (sX10_blend_258 N kc167 n) l3 l4 l5 l6 l9 q2.1 (l13 + 1) q2.2))
set_option maxRecDepth 100000 in
theorem kX10_blend_258 (d N : Nat) (kc167 : Int32 → Int32 → Int32 → Int64 → Int32 → gh_St → Option (Int64 × gh_St)) (hkc167 : ∀ (l3 : Int32) (l4 : Int32) (l5 : Int32) (l6 : Int64) (l9 : Int32) (S : gh_St) (r : Int64 × gh_St), kc167 l3 l4 l5 l6 l9 S = some r → gh_T (d + 2) fX10_blend 0 0 none false false (167, [(0, .ref 56), (3, .int l3), (4, .int l4), (5, .int l5), (6, .long l6), (9, .int l9)], [], (gh_mo S, 0, 0)) (some (.long r.1), (gh_mo r.2, 0, 0))) : ∀ (n : Nat) (l3 : Int32) (l4 : Int32) (l5 : Int32) (l6 : Int64) (l9 : Int32) (l12 : Int32) (l13 : Int32) (S : gh_St) (r : Int64 × gh_St), sX10_blend_258 N kc167 n l3 l4 l5 l6 l9 l12 l13 S = some r → gh_T (d + 2) fX10_blend 0 0 none false false (258, [(0, .ref 56), (3, .int l3), (4, .int l4), (5, .int l5), (6, .long l6), (9, .int l9), (12, .int l12), (13, .int l13)], [], (gh_mo S, 0, 0)) (some (.long r.1), (gh_mo r.2, 0, 0)) := by
  intro n
  induction n with
  | zero =>
    intro l3 l4 l5 l6 l9 l12 l13 S r h
    cases h
  | succ n ih =>
    intro l3 l4 l5 l6 l9 l12 l13 S r h
    rw [sX10_blend_258] at h
    refine gh_T_steps 2 (τ := (262, [(0, .ref 56), (3, .int l3), (4, .int l4), (5, .int l5), (6, .long l6), (9, .int l9), (12, .int l12), (13, .int l13)], [.int l5, .int l13], (gh_mo S, 0, 0))) (fun _ => rfl) ?_
    cases c4 : gh_cmp .ge l13 l5 with
    | true =>
      rw [c4, cond_true] at h
      refine gh_T_ic true rfl c4 ?_
      refine gh_T_weak (lv := [(0, .ref 56), (3, .int l3), (4, .int l4), (5, .int l5), (6, .long l6), (9, .int l9), (12, .int l12)]) ⟨rfl, rfl, rfl, rfl, rfl, rfl, rfl, trivial⟩ ?_
      exact kX10_blend_291 d N kc167 hkc167 l3 l4 l5 l6 l9 l12 S _ h
    | false =>
      rw [c4, cond_false] at h
      refine gh_T_ic false rfl c4 ?_
      refine gh_T_steps 1 (τ := (267, [(0, .ref 56), (3, .int l3), (4, .int l4), (5, .int l5), (6, .long l6), (9, .int l9), (12, .int l12), (13, .int l13)], [.int l12], (gh_mo S, 0, 0))) (fun _ => rfl) ?_
      cases c3 : gh_cmp .eq l12 0 with
      | true =>
        rw [c3, cond_true] at h
        refine gh_T_if true rfl c3 ?_
        refine gh_T_weak (lv := [(0, .ref 56), (3, .int l3), (4, .int l4), (5, .int l5), (6, .long l6), (9, .int l9), (12, .int l12)]) ⟨rfl, rfl, rfl, rfl, rfl, rfl, rfl, trivial⟩ ?_
        exact kX10_blend_291 d N kc167 hkc167 l3 l4 l5 l6 l9 l12 S _ h
      | false =>
        rw [c3, cond_false] at h
        refine gh_T_if false rfl c3 ?_
        refine gh_T_steps 5 (τ := (279, [(0, .ref 56), (3, .int l3), (4, .int l4), (5, .int l5), (6, .long l6), (9, .int l9), (12, .int l12), (13, .int l13)], [.int l13, .ref 93, .int l13, .ref 56], (gh_mo S, 0, 0))) (fun _ => rfl) ?_
        obtain ⟨x1, hx1, h⟩ := gh_bi h
        refine gh_T_ra rfl rfl hx1 ?_
        obtain ⟨q2, hq2, h⟩ := gh_bi h
        refine gh_T_iv (As := [.int l13, .int x1]) (b := 56) (rest := []) (y := some (.int q2.1)) (M' := gh_mo q2.2) rfl rfl rfl rfl rfl rfl rfl rfl rfl ⟨Nat.le_refl _, Nat.le_refl _⟩ (kX10_isThere (d + 1) N l13 x1 S q2 hq2) ?_
        refine gh_T_steps 3 (τ := (258, [(13, .int (l13 + 1)), (12, .int q2.1), (0, .ref 56), (3, .int l3), (4, .int l4), (5, .int l5), (6, .long l6), (9, .int l9)], [], (gh_mo q2.2, 0, 0))) (fun _ => rfl) ?_
        refine gh_T_weak (lv := [(0, .ref 56), (3, .int l3), (4, .int l4), (5, .int l5), (6, .long l6), (9, .int l9), (12, .int q2.1), (13, .int (l13 + 1))]) ⟨rfl, rfl, rfl, rfl, rfl, rfl, rfl, rfl, trivial⟩ ?_
        exact ih l3 l4 l5 l6 l9 q2.1 (l13 + 1) q2.2 _ h
def sX10_blend_253 (N : Nat) (kc167 : Int32 → Int32 → Int32 → Int64 → Int32 → gh_St → Option (Int64 × gh_St)) (l3 : Int32) (l4 : Int32) (l5 : Int32) (l6 : Int64) (l9 : Int32) (t0 : Int32) (S : gh_St) : Option (Int64 × gh_St) :=
  sX10_blend_258 N kc167 N l3 l4 l5 l6 l9 t0 0 S
set_option maxRecDepth 100000 in
theorem kX10_blend_253 (d N : Nat) (kc167 : Int32 → Int32 → Int32 → Int64 → Int32 → gh_St → Option (Int64 × gh_St)) (hkc167 : ∀ (l3 : Int32) (l4 : Int32) (l5 : Int32) (l6 : Int64) (l9 : Int32) (S : gh_St) (r : Int64 × gh_St), kc167 l3 l4 l5 l6 l9 S = some r → gh_T (d + 2) fX10_blend 0 0 none false false (167, [(0, .ref 56), (3, .int l3), (4, .int l4), (5, .int l5), (6, .long l6), (9, .int l9)], [], (gh_mo S, 0, 0)) (some (.long r.1), (gh_mo r.2, 0, 0))) (l3 : Int32) (l4 : Int32) (l5 : Int32) (l6 : Int64) (l9 : Int32) (t0 : Int32) (S : gh_St) (r : Int64 × gh_St) (h : sX10_blend_253 N kc167 l3 l4 l5 l6 l9 t0 S = some r) : gh_T (d + 2) fX10_blend 0 0 none false false (253, [(0, .ref 56), (3, .int l3), (4, .int l4), (5, .int l5), (6, .long l6), (9, .int l9)], [.int t0], (gh_mo S, 0, 0)) (some (.long r.1), (gh_mo r.2, 0, 0)) := by
  unfold sX10_blend_253 at h
  refine gh_T_steps 3 (τ := (258, [(13, .int 0), (12, .int t0), (0, .ref 56), (3, .int l3), (4, .int l4), (5, .int l5), (6, .long l6), (9, .int l9)], [], (gh_mo S, 0, 0))) (fun _ => rfl) ?_
  refine gh_T_weak (lv := [(0, .ref 56), (3, .int l3), (4, .int l4), (5, .int l5), (6, .long l6), (9, .int l9), (12, .int t0), (13, .int 0)]) ⟨rfl, rfl, rfl, rfl, rfl, rfl, rfl, rfl, trivial⟩ ?_
  exact kX10_blend_258 d N kc167 hkc167 N l3 l4 l5 l6 l9 t0 0 S _ h
def sX10_blend_185 (N : Nat) (kc167 : Int32 → Int32 → Int32 → Int64 → Int32 → gh_St → Option (Int64 × gh_St)) : Nat → Int32 → Int32 → Int32 → Int64 → Int32 → Int32 → Int32 → Int32 → gh_St → Option (Int64 × gh_St)
  | 0, _, _, _, _, _, _, _, _, _ => none
  | n + 1, l3, l4, l5, l6, l9, l10, l11, l12, S =>
    bif gh_cmp .lt l12 0 then
      ((gh_wa S 93 4 (l5 - (1 : Int32)) (l3 - l11)).bind fun S1 =>
      bif gh_cmp .gt l11 l3 then
        (sX10_blend_253 N kc167 l3 l4 l5 l6 l9 0 S1)
      else
        (sX10_blend_253 N kc167 l3 l4 l5 l6 l9 1 S1))
    else
      ((gh_re l10 (l3 + (1 : Int32))).bind fun x3 =>
      (gh_wa S 93 4 l12 x3).bind fun S4 =>
      (gh_di l10 (l3 + (1 : Int32))).bind fun x5 =>
      (gh_ra S4 93 4 l12).bind fun x6 =>
      (sX10_blend_185 N kc167 n) l3 l4 l5 l6 l9 x5 (l11 + x6) (l12 + (-1)) S4)
set_option maxRecDepth 100000 in
theorem kX10_blend_185 (d N : Nat) (kc167 : Int32 → Int32 → Int32 → Int64 → Int32 → gh_St → Option (Int64 × gh_St)) (hkc167 : ∀ (l3 : Int32) (l4 : Int32) (l5 : Int32) (l6 : Int64) (l9 : Int32) (S : gh_St) (r : Int64 × gh_St), kc167 l3 l4 l5 l6 l9 S = some r → gh_T (d + 2) fX10_blend 0 0 none false false (167, [(0, .ref 56), (3, .int l3), (4, .int l4), (5, .int l5), (6, .long l6), (9, .int l9)], [], (gh_mo S, 0, 0)) (some (.long r.1), (gh_mo r.2, 0, 0))) : ∀ (n : Nat) (l3 : Int32) (l4 : Int32) (l5 : Int32) (l6 : Int64) (l9 : Int32) (l10 : Int32) (l11 : Int32) (l12 : Int32) (S : gh_St) (r : Int64 × gh_St), sX10_blend_185 N kc167 n l3 l4 l5 l6 l9 l10 l11 l12 S = some r → gh_T (d + 2) fX10_blend 0 0 none false false (185, [(0, .ref 56), (3, .int l3), (4, .int l4), (5, .int l5), (6, .long l6), (9, .int l9), (10, .int l10), (11, .int l11), (12, .int l12)], [], (gh_mo S, 0, 0)) (some (.long r.1), (gh_mo r.2, 0, 0)) := by
  intro n
  induction n with
  | zero =>
    intro l3 l4 l5 l6 l9 l10 l11 l12 S r h
    cases h
  | succ n ih =>
    intro l3 l4 l5 l6 l9 l10 l11 l12 S r h
    rw [sX10_blend_185] at h
    refine gh_T_steps 1 (τ := (187, [(0, .ref 56), (3, .int l3), (4, .int l4), (5, .int l5), (6, .long l6), (9, .int l9), (10, .int l10), (11, .int l11), (12, .int l12)], [.int l12], (gh_mo S, 0, 0))) (fun _ => rfl) ?_
    cases c7 : gh_cmp .lt l12 0 with
    | true =>
      rw [c7, cond_true] at h
      refine gh_T_if true rfl c7 ?_
      refine gh_T_steps 8 (τ := (241, [(0, .ref 56), (3, .int l3), (4, .int l4), (5, .int l5), (6, .long l6), (9, .int l9), (10, .int l10), (11, .int l11), (12, .int l12)], [.int (l3 - l11), .int (l5 - (1 : Int32)), .ref 93], (gh_mo S, 0, 0))) (fun _ => rfl) ?_
      obtain ⟨S1, hS1, h⟩ := gh_bi h
      refine gh_T_wa rfl rfl hS1 ?_
      refine gh_T_steps 2 (τ := (245, [(0, .ref 56), (3, .int l3), (4, .int l4), (5, .int l5), (6, .long l6), (9, .int l9), (10, .int l10), (11, .int l11), (12, .int l12)], [.int l3, .int l11], (gh_mo S1, 0, 0))) (fun _ => rfl) ?_
      cases c2 : gh_cmp .gt l11 l3 with
      | true =>
        rw [c2, cond_true] at h
        refine gh_T_ic true rfl c2 ?_
        refine gh_T_steps 1 (τ := (253, [(0, .ref 56), (3, .int l3), (4, .int l4), (5, .int l5), (6, .long l6), (9, .int l9), (10, .int l10), (11, .int l11), (12, .int l12)], [.int 0], (gh_mo S1, 0, 0))) (fun _ => rfl) ?_
        refine gh_T_weak (lv := [(0, .ref 56), (3, .int l3), (4, .int l4), (5, .int l5), (6, .long l6), (9, .int l9)]) ⟨rfl, rfl, rfl, rfl, rfl, rfl, trivial⟩ ?_
        exact kX10_blend_253 d N kc167 hkc167 l3 l4 l5 l6 l9 0 S1 _ h
      | false =>
        rw [c2, cond_false] at h
        refine gh_T_ic false rfl c2 ?_
        refine gh_T_steps 2 (τ := (253, [(0, .ref 56), (3, .int l3), (4, .int l4), (5, .int l5), (6, .long l6), (9, .int l9), (10, .int l10), (11, .int l11), (12, .int l12)], [.int 1], (gh_mo S1, 0, 0))) (fun _ => rfl) ?_
        refine gh_T_weak (lv := [(0, .ref 56), (3, .int l3), (4, .int l4), (5, .int l5), (6, .long l6), (9, .int l9)]) ⟨rfl, rfl, rfl, rfl, rfl, rfl, trivial⟩ ?_
        exact kX10_blend_253 d N kc167 hkc167 l3 l4 l5 l6 l9 1 S1 _ h
    | false =>
      rw [c7, cond_false] at h
      refine gh_T_if false rfl c7 ?_
      refine gh_T_steps 7 (τ := (201, [(0, .ref 56), (3, .int l3), (4, .int l4), (5, .int l5), (6, .long l6), (9, .int l9), (10, .int l10), (11, .int l11), (12, .int l12)], [.int (l3 + (1 : Int32)), .int l10, .int l12, .ref 93], (gh_mo S, 0, 0))) (fun _ => rfl) ?_
      obtain ⟨x3, hx3, h⟩ := gh_bi h
      refine gh_T_re rfl hx3 ?_
      obtain ⟨S4, hS4, h⟩ := gh_bi h
      refine gh_T_wa rfl rfl hS4 ?_
      refine gh_T_steps 4 (τ := (208, [(0, .ref 56), (3, .int l3), (4, .int l4), (5, .int l5), (6, .long l6), (9, .int l9), (10, .int l10), (11, .int l11), (12, .int l12)], [.int (l3 + (1 : Int32)), .int l10], (gh_mo S4, 0, 0))) (fun _ => rfl) ?_
      obtain ⟨x5, hx5, h⟩ := gh_bi h
      refine gh_T_di rfl hx5 ?_
      refine gh_T_steps 5 (τ := (219, [(10, .int x5), (0, .ref 56), (3, .int l3), (4, .int l4), (5, .int l5), (6, .long l6), (9, .int l9), (11, .int l11), (12, .int l12)], [.int l12, .ref 93, .int l11], (gh_mo S4, 0, 0))) (fun _ => rfl) ?_
      obtain ⟨x6, hx6, h⟩ := gh_bi h
      refine gh_T_ra rfl rfl hx6 ?_
      refine gh_T_steps 4 (τ := (185, [(12, .int (l12 + (-1))), (11, .int (l11 + x6)), (10, .int x5), (0, .ref 56), (3, .int l3), (4, .int l4), (5, .int l5), (6, .long l6), (9, .int l9)], [], (gh_mo S4, 0, 0))) (fun _ => rfl) ?_
      refine gh_T_weak (lv := [(0, .ref 56), (3, .int l3), (4, .int l4), (5, .int l5), (6, .long l6), (9, .int l9), (10, .int x5), (11, .int (l11 + x6)), (12, .int (l12 + (-1)))]) ⟨rfl, rfl, rfl, rfl, rfl, rfl, rfl, rfl, rfl, trivial⟩ ?_
      exact ih l3 l4 l5 l6 l9 x5 (l11 + x6) (l12 + (-1)) S4 _ h
def sX10_blend_446 (N : Nat) (l6 : Int64) (S : gh_St) : Option (Int64 × gh_St) :=
  some (l6, S)
set_option maxRecDepth 100000 in
theorem kX10_blend_446 (d N : Nat) (l6 : Int64) (S : gh_St) (r : Int64 × gh_St) (h : sX10_blend_446 N l6 S = some r) : gh_T (d + 2) fX10_blend 0 0 none false false (446, [(6, .long l6)], [], (gh_mo S, 0, 0)) (some (.long r.1), (gh_mo r.2, 0, 0)) := by
  unfold sX10_blend_446 at h
  refine gh_T_steps 1 (τ := (448, [(6, .long l6)], [.long l6], (gh_mo S, 0, 0))) (fun _ => rfl) ?_
  cases h
  exact gh_T_ret (fun _ => rfl)
def sX10_blend_419 (N : Nat) : Nat → Int64 → Int32 → gh_St → Option (Int64 × gh_St)
  | 0, _, _, _ => none
  | n + 1, l6, l9, S =>
    bif gh_cmp .ge l9 8 then
      (sX10_blend_446 N l6 S)
    else
      ((gh_ra S 95 8 l9).bind fun x1 =>
      (gh_wa S 92 8 l9 x1).bind fun S2 =>
      (sX10_blend_419 N n) l6 (l9 + 1) S2)
set_option maxRecDepth 100000 in
theorem kX10_blend_419 (d N : Nat) : ∀ (n : Nat) (l6 : Int64) (l9 : Int32) (S : gh_St) (r : Int64 × gh_St), sX10_blend_419 N n l6 l9 S = some r → gh_T (d + 2) fX10_blend 0 0 none false false (419, [(0, .ref 56), (6, .long l6), (9, .int l9)], [], (gh_mo S, 0, 0)) (some (.long r.1), (gh_mo r.2, 0, 0)) := by
  intro n
  induction n with
  | zero =>
    intro l6 l9 S r h
    cases h
  | succ n ih =>
    intro l6 l9 S r h
    rw [sX10_blend_419] at h
    refine gh_T_steps 2 (τ := (423, [(0, .ref 56), (6, .long l6), (9, .int l9)], [.int 8, .int l9], (gh_mo S, 0, 0))) (fun _ => rfl) ?_
    cases c3 : gh_cmp .ge l9 8 with
    | true =>
      rw [c3, cond_true] at h
      refine gh_T_ic true rfl c3 ?_
      refine gh_T_weak (lv := [(6, .long l6)]) ⟨rfl, trivial⟩ ?_
      exact kX10_blend_446 d N l6 S _ h
    | false =>
      rw [c3, cond_false] at h
      refine gh_T_ic false rfl c3 ?_
      refine gh_T_steps 6 (τ := (438, [(0, .ref 56), (6, .long l6), (9, .int l9)], [.int l9, .ref 95, .int l9, .ref 92], (gh_mo S, 0, 0))) (fun _ => rfl) ?_
      obtain ⟨x1, hx1, h⟩ := gh_bi h
      refine gh_T_ra rfl rfl hx1 ?_
      obtain ⟨S2, hS2, h⟩ := gh_bi h
      refine gh_T_wa rfl rfl hS2 ?_
      refine gh_T_steps 2 (τ := (419, [(9, .int (l9 + 1)), (0, .ref 56), (6, .long l6)], [], (gh_mo S2, 0, 0))) (fun _ => rfl) ?_
      refine gh_T_weak (lv := [(0, .ref 56), (6, .long l6), (9, .int (l9 + 1))]) ⟨rfl, rfl, rfl, trivial⟩ ?_
      exact ih l6 (l9 + 1) S2 _ h
def sX10_blend_167 (N : Nat) : Nat → Int32 → Int32 → Int32 → Int64 → Int32 → gh_St → Option (Int64 × gh_St)
  | 0, _, _, _, _, _, _ => none
  | n + 1, l3, l4, l5, l6, l9, S =>
    bif gh_cmp .lt l9 0 then
      (bif gh_cmp .lt (lg_cmp l6 (0 : Int64)) 0 then
        (sX10_blend_446 N l6 S)
      else
        (sX10_blend_419 N N l6 0 (gh_fI S 56 62 1)))
    else
      (sX10_blend_185 N (sX10_blend_167 N n) N l3 l4 l5 l6 l9 l9 0 (l5 - (2 : Int32)) S)
set_option maxRecDepth 100000 in
theorem kX10_blend_167 (d N : Nat) : ∀ (n : Nat) (l3 : Int32) (l4 : Int32) (l5 : Int32) (l6 : Int64) (l9 : Int32) (S : gh_St) (r : Int64 × gh_St), sX10_blend_167 N n l3 l4 l5 l6 l9 S = some r → gh_T (d + 2) fX10_blend 0 0 none false false (167, [(0, .ref 56), (3, .int l3), (4, .int l4), (5, .int l5), (6, .long l6), (9, .int l9)], [], (gh_mo S, 0, 0)) (some (.long r.1), (gh_mo r.2, 0, 0)) := by
  intro n
  induction n with
  | zero =>
    intro l3 l4 l5 l6 l9 S r h
    cases h
  | succ n ih =>
    intro l3 l4 l5 l6 l9 S r h
    rw [sX10_blend_167] at h
    refine gh_T_steps 1 (τ := (169, [(0, .ref 56), (3, .int l3), (4, .int l4), (5, .int l5), (6, .long l6), (9, .int l9)], [.int l9], (gh_mo S, 0, 0))) (fun _ => rfl) ?_
    cases c2 : gh_cmp .lt l9 0 with
    | true =>
      rw [c2, cond_true] at h
      refine gh_T_if true rfl c2 ?_
      refine gh_T_steps 3 (τ := (408, [(0, .ref 56), (3, .int l3), (4, .int l4), (5, .int l5), (6, .long l6), (9, .int l9)], [.int (lg_cmp l6 (0 : Int64))], (gh_mo S, 0, 0))) (fun _ => rfl) ?_
      cases c1 : gh_cmp .lt (lg_cmp l6 (0 : Int64)) 0 with
      | true =>
        rw [c1, cond_true] at h
        refine gh_T_if true rfl c1 ?_
        refine gh_T_weak (lv := [(6, .long l6)]) ⟨rfl, trivial⟩ ?_
        exact kX10_blend_446 d N l6 S _ h
      | false =>
        rw [c1, cond_false] at h
        refine gh_T_if false rfl c1 ?_
        refine gh_T_steps 5 (τ := (419, [(9, .int 0), (0, .ref 56), (3, .int l3), (4, .int l4), (5, .int l5), (6, .long l6)], [], (gh_mo (gh_fI S 56 62 1), 0, 0))) (fun _ => rfl) ?_
        refine gh_T_weak (lv := [(0, .ref 56), (6, .long l6), (9, .int 0)]) ⟨rfl, rfl, rfl, trivial⟩ ?_
        exact kX10_blend_419 d N N l6 0 (gh_fI S 56 62 1) _ h
    | false =>
      rw [c2, cond_false] at h
      refine gh_T_if false rfl c2 ?_
      refine gh_T_steps 8 (τ := (185, [(12, .int (l5 - (2 : Int32))), (11, .int 0), (10, .int l9), (0, .ref 56), (3, .int l3), (4, .int l4), (5, .int l5), (6, .long l6), (9, .int l9)], [], (gh_mo S, 0, 0))) (fun _ => rfl) ?_
      refine gh_T_weak (lv := [(0, .ref 56), (3, .int l3), (4, .int l4), (5, .int l5), (6, .long l6), (9, .int l9), (10, .int l9), (11, .int 0), (12, .int (l5 - (2 : Int32)))]) ⟨rfl, rfl, rfl, rfl, rfl, rfl, rfl, rfl, rfl, trivial⟩ ?_
      exact kX10_blend_185 d N (sX10_blend_167 N n) ih N l3 l4 l5 l6 l9 l9 0 (l5 - (2 : Int32)) S _ h
def sX10_blend_140 (N : Nat) : Nat → Int32 → Int32 → Int32 → Int64 → Int32 → Int32 → gh_St → Option (Int64 × gh_St)
  | 0, _, _, _, _, _, _, _ => none
  | n + 1, l3, l4, l5, l6, l8, l9, S =>
    bif gh_cmp .ge l9 l5 then
      (sX10_blend_167 N N l3 l4 l5 l6 (l8 - (1 : Int32)) S)
    else
      ((sX10_blend_140 N n) l3 l4 l5 l6 (l8 * (l3 + (1 : Int32))) (l9 + 1) S)
set_option maxRecDepth 100000 in
theorem kX10_blend_140 (d N : Nat) : ∀ (n : Nat) (l3 : Int32) (l4 : Int32) (l5 : Int32) (l6 : Int64) (l8 : Int32) (l9 : Int32) (S : gh_St) (r : Int64 × gh_St), sX10_blend_140 N n l3 l4 l5 l6 l8 l9 S = some r → gh_T (d + 2) fX10_blend 0 0 none false false (140, [(0, .ref 56), (3, .int l3), (4, .int l4), (5, .int l5), (6, .long l6), (8, .int l8), (9, .int l9)], [], (gh_mo S, 0, 0)) (some (.long r.1), (gh_mo r.2, 0, 0)) := by
  intro n
  induction n with
  | zero =>
    intro l3 l4 l5 l6 l8 l9 S r h
    cases h
  | succ n ih =>
    intro l3 l4 l5 l6 l8 l9 S r h
    rw [sX10_blend_140] at h
    refine gh_T_steps 2 (τ := (144, [(0, .ref 56), (3, .int l3), (4, .int l4), (5, .int l5), (6, .long l6), (8, .int l8), (9, .int l9)], [.int l5, .int l9], (gh_mo S, 0, 0))) (fun _ => rfl) ?_
    cases c1 : gh_cmp .ge l9 l5 with
    | true =>
      rw [c1, cond_true] at h
      refine gh_T_ic true rfl c1 ?_
      refine gh_T_steps 4 (τ := (167, [(9, .int (l8 - (1 : Int32))), (0, .ref 56), (3, .int l3), (4, .int l4), (5, .int l5), (6, .long l6), (8, .int l8)], [], (gh_mo S, 0, 0))) (fun _ => rfl) ?_
      refine gh_T_weak (lv := [(0, .ref 56), (3, .int l3), (4, .int l4), (5, .int l5), (6, .long l6), (9, .int (l8 - (1 : Int32)))]) ⟨rfl, rfl, rfl, rfl, rfl, rfl, trivial⟩ ?_
      exact kX10_blend_167 d N N l3 l4 l5 l6 (l8 - (1 : Int32)) S _ h
    | false =>
      rw [c1, cond_false] at h
      refine gh_T_ic false rfl c1 ?_
      refine gh_T_steps 8 (τ := (140, [(9, .int (l9 + 1)), (8, .int (l8 * (l3 + (1 : Int32)))), (0, .ref 56), (3, .int l3), (4, .int l4), (5, .int l5), (6, .long l6)], [], (gh_mo S, 0, 0))) (fun _ => rfl) ?_
      refine gh_T_weak (lv := [(0, .ref 56), (3, .int l3), (4, .int l4), (5, .int l5), (6, .long l6), (8, .int (l8 * (l3 + (1 : Int32)))), (9, .int (l9 + 1))]) ⟨rfl, rfl, rfl, rfl, rfl, rfl, rfl, trivial⟩ ?_
      exact ih l3 l4 l5 l6 (l8 * (l3 + (1 : Int32))) (l9 + 1) S _ h
def sX10_blend_135 (N : Nat) (l3 : Int32) (l4 : Int32) (l5 : Int32) (l6 : Int64) (t0 : Int32) (S : gh_St) : Option (Int64 × gh_St) :=
  sX10_blend_140 N N l3 l4 l5 l6 t0 1 S
set_option maxRecDepth 100000 in
theorem kX10_blend_135 (d N : Nat) (l3 : Int32) (l4 : Int32) (l5 : Int32) (l6 : Int64) (t0 : Int32) (S : gh_St) (r : Int64 × gh_St) (h : sX10_blend_135 N l3 l4 l5 l6 t0 S = some r) : gh_T (d + 2) fX10_blend 0 0 none false false (135, [(0, .ref 56), (3, .int l3), (4, .int l4), (5, .int l5), (6, .long l6)], [.int t0], (gh_mo S, 0, 0)) (some (.long r.1), (gh_mo r.2, 0, 0)) := by
  unfold sX10_blend_135 at h
  refine gh_T_steps 3 (τ := (140, [(9, .int 1), (8, .int t0), (0, .ref 56), (3, .int l3), (4, .int l4), (5, .int l5), (6, .long l6)], [], (gh_mo S, 0, 0))) (fun _ => rfl) ?_
  refine gh_T_weak (lv := [(0, .ref 56), (3, .int l3), (4, .int l4), (5, .int l5), (6, .long l6), (8, .int t0), (9, .int 1)]) ⟨rfl, rfl, rfl, rfl, rfl, rfl, rfl, trivial⟩ ?_
  exact kX10_blend_140 d N N l3 l4 l5 l6 t0 1 S _ h
def sX10_blend_54 (N : Nat) : Nat → Int32 → Int32 → Int32 → Int32 → Int32 → Int32 → gh_St → Option (Int64 × gh_St)
  | 0, _, _, _, _, _, _, _ => none
  | n + 1, l1, l2, l3, l4, l5, l6, S =>
    bif gh_cmp .ge l6 8 then
      (bif gh_cmp .ne l5 0 then
        (sX10_blend_135 N l3 l4 l5 ((-1)) 1 S)
      else
        (sX10_blend_135 N l3 l4 l5 ((-1)) 0 S))
    else
      (bif gh_cmp .ne ((l2 >>> (l6 &&& 31)) &&& (1 : Int32)) 1 then
        (sX10_blend_114 N (sX10_blend_54 N n) l1 l2 l3 l4 l5 l6 S)
      else
        ((gh_ra S 59 8 l6).bind fun x2 =>
        bif gh_cmp .le x2 0 then
          (sX10_blend_114 N (sX10_blend_54 N n) l1 l2 l3 l4 l5 l6 S)
        else
          ((gh_ra S 58 8 l6).bind fun x3 =>
          bif gh_cmp .ne x3 l1 then
            (sX10_blend_114 N (sX10_blend_54 N n) l1 l2 l3 l4 l5 l6 S)
          else
            (bif gh_cmp .ne l5 4 then
              ((gh_wa S 94 4 l5 l6).bind fun S4 =>
              sX10_blend_114 N (sX10_blend_54 N n) l1 l2 l3 l4 (l5 + 1) l6 S4)
            else
              (some ((-1), S))))))
set_option maxRecDepth 100000 in
theorem kX10_blend_54 (d N : Nat) : ∀ (n : Nat) (l1 : Int32) (l2 : Int32) (l3 : Int32) (l4 : Int32) (l5 : Int32) (l6 : Int32) (S : gh_St) (r : Int64 × gh_St), sX10_blend_54 N n l1 l2 l3 l4 l5 l6 S = some r → gh_T (d + 2) fX10_blend 0 0 none false false (54, [(0, .ref 56), (1, .int l1), (2, .int l2), (3, .int l3), (4, .int l4), (5, .int l5), (6, .int l6)], [], (gh_mo S, 0, 0)) (some (.long r.1), (gh_mo r.2, 0, 0)) := by
  intro n
  induction n with
  | zero =>
    intro l1 l2 l3 l4 l5 l6 S r h
    cases h
  | succ n ih =>
    intro l1 l2 l3 l4 l5 l6 S r h
    rw [sX10_blend_54] at h
    refine gh_T_steps 2 (τ := (58, [(0, .ref 56), (1, .int l1), (2, .int l2), (3, .int l3), (4, .int l4), (5, .int l5), (6, .int l6)], [.int 8, .int l6], (gh_mo S, 0, 0))) (fun _ => rfl) ?_
    cases c9 : gh_cmp .ge l6 8 with
    | true =>
      rw [c9, cond_true] at h
      refine gh_T_ic true rfl c9 ?_
      refine gh_T_steps 3 (τ := (127, [(6, .long ((-1))), (0, .ref 56), (1, .int l1), (2, .int l2), (3, .int l3), (4, .int l4), (5, .int l5)], [.int l5], (gh_mo S, 0, 0))) (fun _ => rfl) ?_
      cases c1 : gh_cmp .ne l5 0 with
      | true =>
        rw [c1, cond_true] at h
        refine gh_T_if true rfl c1 ?_
        refine gh_T_steps 1 (τ := (135, [(6, .long ((-1))), (0, .ref 56), (1, .int l1), (2, .int l2), (3, .int l3), (4, .int l4), (5, .int l5)], [.int 1], (gh_mo S, 0, 0))) (fun _ => rfl) ?_
        refine gh_T_weak (lv := [(0, .ref 56), (3, .int l3), (4, .int l4), (5, .int l5), (6, .long ((-1)))]) ⟨rfl, rfl, rfl, rfl, rfl, trivial⟩ ?_
        exact kX10_blend_135 d N l3 l4 l5 ((-1)) 1 S _ h
      | false =>
        rw [c1, cond_false] at h
        refine gh_T_if false rfl c1 ?_
        refine gh_T_steps 2 (τ := (135, [(6, .long ((-1))), (0, .ref 56), (1, .int l1), (2, .int l2), (3, .int l3), (4, .int l4), (5, .int l5)], [.int 0], (gh_mo S, 0, 0))) (fun _ => rfl) ?_
        refine gh_T_weak (lv := [(0, .ref 56), (3, .int l3), (4, .int l4), (5, .int l5), (6, .long ((-1)))]) ⟨rfl, rfl, rfl, rfl, rfl, trivial⟩ ?_
        exact kX10_blend_135 d N l3 l4 l5 ((-1)) 0 S _ h
    | false =>
      rw [c9, cond_false] at h
      refine gh_T_ic false rfl c9 ?_
      refine gh_T_steps 6 (τ := (68, [(0, .ref 56), (1, .int l1), (2, .int l2), (3, .int l3), (4, .int l4), (5, .int l5), (6, .int l6)], [.int 1, .int ((l2 >>> (l6 &&& 31)) &&& (1 : Int32))], (gh_mo S, 0, 0))) (fun _ => rfl) ?_
      cases c8 : gh_cmp .ne ((l2 >>> (l6 &&& 31)) &&& (1 : Int32)) 1 with
      | true =>
        rw [c8, cond_true] at h
        refine gh_T_ic true rfl c8 ?_
        exact kX10_blend_114 d N (sX10_blend_54 N n) ih l1 l2 l3 l4 l5 l6 S _ h
      | false =>
        rw [c8, cond_false] at h
        refine gh_T_ic false rfl c8 ?_
        refine gh_T_steps 3 (τ := (77, [(0, .ref 56), (1, .int l1), (2, .int l2), (3, .int l3), (4, .int l4), (5, .int l5), (6, .int l6)], [.int l6, .ref 59], (gh_mo S, 0, 0))) (fun _ => rfl) ?_
        obtain ⟨x2, hx2, h⟩ := gh_bi h
        refine gh_T_ra rfl rfl hx2 ?_
        cases c7 : gh_cmp .le x2 0 with
        | true =>
          rw [c7, cond_true] at h
          refine gh_T_if true rfl c7 ?_
          exact kX10_blend_114 d N (sX10_blend_54 N n) ih l1 l2 l3 l4 l5 l6 S _ h
        | false =>
          rw [c7, cond_false] at h
          refine gh_T_if false rfl c7 ?_
          refine gh_T_steps 3 (τ := (87, [(0, .ref 56), (1, .int l1), (2, .int l2), (3, .int l3), (4, .int l4), (5, .int l5), (6, .int l6)], [.int l6, .ref 58], (gh_mo S, 0, 0))) (fun _ => rfl) ?_
          obtain ⟨x3, hx3, h⟩ := gh_bi h
          refine gh_T_ra rfl rfl hx3 ?_
          refine gh_T_steps 1 (τ := (89, [(0, .ref 56), (1, .int l1), (2, .int l2), (3, .int l3), (4, .int l4), (5, .int l5), (6, .int l6)], [.int l1, .int x3], (gh_mo S, 0, 0))) (fun _ => rfl) ?_
          cases c6 : gh_cmp .ne x3 l1 with
          | true =>
            rw [c6, cond_true] at h
            refine gh_T_ic true rfl c6 ?_
            exact kX10_blend_114 d N (sX10_blend_54 N n) ih l1 l2 l3 l4 l5 l6 S _ h
          | false =>
            rw [c6, cond_false] at h
            refine gh_T_ic false rfl c6 ?_
            refine gh_T_steps 2 (τ := (95, [(0, .ref 56), (1, .int l1), (2, .int l2), (3, .int l3), (4, .int l4), (5, .int l5), (6, .int l6)], [.int 4, .int l5], (gh_mo S, 0, 0))) (fun _ => rfl) ?_
            cases c5 : gh_cmp .ne l5 4 with
            | true =>
              rw [c5, cond_true] at h
              refine gh_T_ic true rfl c5 ?_
              refine gh_T_steps 4 (τ := (110, [(0, .ref 56), (1, .int l1), (2, .int l2), (3, .int l3), (4, .int l4), (5, .int l5), (6, .int l6)], [.int l6, .int l5, .ref 94], (gh_mo S, 0, 0))) (fun _ => rfl) ?_
              obtain ⟨S4, hS4, h⟩ := gh_bi h
              refine gh_T_wa rfl rfl hS4 ?_
              refine gh_T_steps 1 (τ := (114, [(5, .int (l5 + 1)), (0, .ref 56), (1, .int l1), (2, .int l2), (3, .int l3), (4, .int l4), (6, .int l6)], [], (gh_mo S4, 0, 0))) (fun _ => rfl) ?_
              refine gh_T_weak (lv := [(0, .ref 56), (1, .int l1), (2, .int l2), (3, .int l3), (4, .int l4), (5, .int (l5 + 1)), (6, .int l6)]) ⟨rfl, rfl, rfl, rfl, rfl, rfl, rfl, trivial⟩ ?_
              exact kX10_blend_114 d N (sX10_blend_54 N n) ih l1 l2 l3 l4 (l5 + 1) l6 S4 _ h
            | false =>
              rw [c5, cond_false] at h
              refine gh_T_ic false rfl c5 ?_
              refine gh_T_steps 1 (τ := (101, [(0, .ref 56), (1, .int l1), (2, .int l2), (3, .int l3), (4, .int l4), (5, .int l5), (6, .int l6)], [.long ((-1))], (gh_mo S, 0, 0))) (fun _ => rfl) ?_
              cases h
              exact gh_T_ret (fun _ => rfl)
def sX10_blend (N : Nat) (a1 : Int32) (a2 : Int32) (a3 : Int32) (a4 : Int32) (S : gh_St) : Option (Int64 × gh_St) :=
  (sX10_isKind N a1 S).bind fun q1 =>
  bif gh_cmp .eq q1.1 0 then
    (some ((-1), q1.2))
  else
    ((sX10_in N ((a2 : Int32).toInt64) 1 255 q1.2).bind fun q2 =>
    bif gh_cmp .eq q2.1 0 then
      (some ((-1), q2.2))
    else
      ((sX10_in N ((a3 : Int32).toInt64) 1 20 q2.2).bind fun q3 =>
      bif gh_cmp .eq q3.1 0 then
        (some ((-1), q3.2))
      else
        ((sX10_in N ((a4 : Int32).toInt64) 0 1000 q3.2).bind fun q4 =>
        bif gh_cmp .ne q4.1 0 then
          (sX10_blend_54 N N a1 a2 a3 a4 0 0 q4.2)
        else
          (some ((-1), q4.2)))))
set_option maxRecDepth 100000 in
theorem kX10_blend_e (d N : Nat) (a1 : Int32) (a2 : Int32) (a3 : Int32) (a4 : Int32) (S : gh_St) (r : Int64 × gh_St) (h : sX10_blend N a1 a2 a3 a4 S = some r) : gh_T (d + 2) fX10_blend 0 0 none false false (0, [(0, .ref 56), (1, .int a1), (2, .int a2), (3, .int a3), (4, .int a4)], [], (gh_mo S, 0, 0)) (some (.long r.1), (gh_mo r.2, 0, 0)) := by
  unfold sX10_blend at h
  refine gh_T_steps 1 (τ := (1, [(0, .ref 56), (1, .int a1), (2, .int a2), (3, .int a3), (4, .int a4)], [.int a1], (gh_mo S, 0, 0))) (fun _ => rfl) ?_
  obtain ⟨q1, hq1, h⟩ := gh_bi h
  refine gh_T_is (As := [.int a1]) (rest := []) (y := some (.int q1.1)) (M' := gh_mo q1.2) rfl rfl rfl rfl rfl rfl rfl ⟨Nat.le_refl _, Nat.le_refl _⟩ (kX10_isKind d N a1 S q1 hq1) ?_
  cases c8 : gh_cmp .eq q1.1 0 with
  | true =>
    rw [c8, cond_true] at h
    refine gh_T_if true rfl c8 ?_
    refine gh_T_steps 1 (τ := (47, [(0, .ref 56), (1, .int a1), (2, .int a2), (3, .int a3), (4, .int a4)], [.long ((-1))], (gh_mo q1.2, 0, 0))) (fun _ => rfl) ?_
    cases h
    exact gh_T_ret (fun _ => rfl)
  | false =>
    rw [c8, cond_false] at h
    refine gh_T_if false rfl c8 ?_
    refine gh_T_steps 4 (τ := (13, [(0, .ref 56), (1, .int a1), (2, .int a2), (3, .int a3), (4, .int a4)], [.long 255, .long 1, .long ((a2 : Int32).toInt64)], (gh_mo q1.2, 0, 0))) (fun _ => rfl) ?_
    obtain ⟨q2, hq2, h⟩ := gh_bi h
    refine gh_T_is (As := [.long ((a2 : Int32).toInt64), .long 1, .long 255]) (rest := []) (y := some (.int q2.1)) (M' := gh_mo q2.2) rfl rfl rfl rfl rfl rfl rfl ⟨Nat.le_refl _, Nat.le_refl _⟩ (kX10_in (d + 1) N ((a2 : Int32).toInt64) 1 255 q1.2 q2 hq2) ?_
    cases c7 : gh_cmp .eq q2.1 0 with
    | true =>
      rw [c7, cond_true] at h
      refine gh_T_if true rfl c7 ?_
      refine gh_T_steps 1 (τ := (47, [(0, .ref 56), (1, .int a1), (2, .int a2), (3, .int a3), (4, .int a4)], [.long ((-1))], (gh_mo q2.2, 0, 0))) (fun _ => rfl) ?_
      cases h
      exact gh_T_ret (fun _ => rfl)
    | false =>
      rw [c7, cond_false] at h
      refine gh_T_if false rfl c7 ?_
      refine gh_T_steps 4 (τ := (25, [(0, .ref 56), (1, .int a1), (2, .int a2), (3, .int a3), (4, .int a4)], [.long 20, .long 1, .long ((a3 : Int32).toInt64)], (gh_mo q2.2, 0, 0))) (fun _ => rfl) ?_
      obtain ⟨q3, hq3, h⟩ := gh_bi h
      refine gh_T_is (As := [.long ((a3 : Int32).toInt64), .long 1, .long 20]) (rest := []) (y := some (.int q3.1)) (M' := gh_mo q3.2) rfl rfl rfl rfl rfl rfl rfl ⟨Nat.le_refl _, Nat.le_refl _⟩ (kX10_in (d + 1) N ((a3 : Int32).toInt64) 1 20 q2.2 q3 hq3) ?_
      cases c6 : gh_cmp .eq q3.1 0 with
      | true =>
        rw [c6, cond_true] at h
        refine gh_T_if true rfl c6 ?_
        refine gh_T_steps 1 (τ := (47, [(0, .ref 56), (1, .int a1), (2, .int a2), (3, .int a3), (4, .int a4)], [.long ((-1))], (gh_mo q3.2, 0, 0))) (fun _ => rfl) ?_
        cases h
        exact gh_T_ret (fun _ => rfl)
      | false =>
        rw [c6, cond_false] at h
        refine gh_T_if false rfl c6 ?_
        refine gh_T_steps 4 (τ := (38, [(0, .ref 56), (1, .int a1), (2, .int a2), (3, .int a3), (4, .int a4)], [.long 1000, .long 0, .long ((a4 : Int32).toInt64)], (gh_mo q3.2, 0, 0))) (fun _ => rfl) ?_
        obtain ⟨q4, hq4, h⟩ := gh_bi h
        refine gh_T_is (As := [.long ((a4 : Int32).toInt64), .long 0, .long 1000]) (rest := []) (y := some (.int q4.1)) (M' := gh_mo q4.2) rfl rfl rfl rfl rfl rfl rfl ⟨Nat.le_refl _, Nat.le_refl _⟩ (kX10_in (d + 1) N ((a4 : Int32).toInt64) 0 1000 q3.2 q4 hq4) ?_
        cases c5 : gh_cmp .ne q4.1 0 with
        | true =>
          rw [c5, cond_true] at h
          refine gh_T_if true rfl c5 ?_
          refine gh_T_steps 4 (τ := (54, [(6, .int 0), (5, .int 0), (0, .ref 56), (1, .int a1), (2, .int a2), (3, .int a3), (4, .int a4)], [], (gh_mo q4.2, 0, 0))) (fun _ => rfl) ?_
          refine gh_T_weak (lv := [(0, .ref 56), (1, .int a1), (2, .int a2), (3, .int a3), (4, .int a4), (5, .int 0), (6, .int 0)]) ⟨rfl, rfl, rfl, rfl, rfl, rfl, rfl, trivial⟩ ?_
          exact kX10_blend_54 d N N a1 a2 a3 a4 0 0 q4.2 _ h
        | false =>
          rw [c5, cond_false] at h
          refine gh_T_if false rfl c5 ?_
          refine gh_T_steps 1 (τ := (47, [(0, .ref 56), (1, .int a1), (2, .int a2), (3, .int a3), (4, .int a4)], [.long ((-1))], (gh_mo q4.2, 0, 0))) (fun _ => rfl) ?_
          cases h
          exact gh_T_ret (fun _ => rfl)
theorem kX10_blend (d N : Nat) (a1 : Int32) (a2 : Int32) (a3 : Int32) (a4 : Int32) (S : gh_St) (r : Int64 × gh_St) (h : sX10_blend N a1 a2 a3 a4 S = some r) : gh_Mx (d + 3) 157 [.ref 56, .int a1, .int a2, .int a3, .int a4] (gh_mo S) (some (.long r.1)) (gh_mo r.2) :=
  gh_Mx_of rfl rfl rfl rfl rfl rfl (kX10_blend_e d N a1 a2 a3 a4 S r h)
def sX10_blended (N : Nat) (a1 : Int32) (S : gh_St) : Option (Int32 × gh_St) :=
  (sX10_isBin N a1 S).bind fun q1 =>
  bif gh_cmp .eq q1.1 0 then
    (some ((-1), q1.2))
  else
    (bif gh_cmp .eq (q1.2.1 56 62) 0 then
      (some ((-1), q1.2))
    else
      ((gh_ra q1.2 92 8 a1).bind fun x2 =>
      some (x2, q1.2)))
set_option maxRecDepth 100000 in
theorem kX10_blended_e (d N : Nat) (a1 : Int32) (S : gh_St) (r : Int32 × gh_St) (h : sX10_blended N a1 S = some r) : gh_T (d + 2) fX10_blended 0 0 none false false (0, [(0, .ref 56), (1, .int a1)], [], (gh_mo S, 0, 0)) (some (.int r.1), (gh_mo r.2, 0, 0)) := by
  unfold sX10_blended at h
  refine gh_T_steps 1 (τ := (1, [(0, .ref 56), (1, .int a1)], [.int a1], (gh_mo S, 0, 0))) (fun _ => rfl) ?_
  obtain ⟨q1, hq1, h⟩ := gh_bi h
  refine gh_T_is (As := [.int a1]) (rest := []) (y := some (.int q1.1)) (M' := gh_mo q1.2) rfl rfl rfl rfl rfl rfl rfl ⟨Nat.le_refl _, Nat.le_refl _⟩ (kX10_isBin d N a1 S q1 hq1) ?_
  cases c4 : gh_cmp .eq q1.1 0 with
  | true =>
    rw [c4, cond_true] at h
    refine gh_T_if true rfl c4 ?_
    refine gh_T_steps 1 (τ := (24, [(0, .ref 56), (1, .int a1)], [.int ((-1))], (gh_mo q1.2, 0, 0))) (fun _ => rfl) ?_
    cases h
    exact gh_T_ret (fun _ => rfl)
  | false =>
    rw [c4, cond_false] at h
    refine gh_T_if false rfl c4 ?_
    refine gh_T_steps 2 (τ := (11, [(0, .ref 56), (1, .int a1)], [.int (q1.2.1 56 62)], (gh_mo q1.2, 0, 0))) (fun _ => rfl) ?_
    cases c3 : gh_cmp .eq (q1.2.1 56 62) 0 with
    | true =>
      rw [c3, cond_true] at h
      refine gh_T_if true rfl c3 ?_
      refine gh_T_steps 1 (τ := (24, [(0, .ref 56), (1, .int a1)], [.int ((-1))], (gh_mo q1.2, 0, 0))) (fun _ => rfl) ?_
      cases h
      exact gh_T_ret (fun _ => rfl)
    | false =>
      rw [c3, cond_false] at h
      refine gh_T_if false rfl c3 ?_
      refine gh_T_steps 3 (τ := (19, [(0, .ref 56), (1, .int a1)], [.int a1, .ref 92], (gh_mo q1.2, 0, 0))) (fun _ => rfl) ?_
      obtain ⟨x2, hx2, h⟩ := gh_bi h
      refine gh_T_ra rfl rfl hx2 ?_
      refine gh_T_steps 1 (τ := (24, [(0, .ref 56), (1, .int a1)], [.int x2], (gh_mo q1.2, 0, 0))) (fun _ => rfl) ?_
      cases h
      exact gh_T_ret (fun _ => rfl)
theorem kX10_blended (d N : Nat) (a1 : Int32) (S : gh_St) (r : Int32 × gh_St) (h : sX10_blended N a1 S = some r) : gh_Mx (d + 3) 158 [.ref 56, .int a1] (gh_mo S) (some (.int r.1)) (gh_mo r.2) :=
  gh_Mx_of rfl rfl rfl rfl rfl rfl (kX10_blended_e d N a1 S r h)
def sX10_put (N : Nat) (a1 : Int32) (S : gh_St) : Option (gh_St) :=
  (gh_wa S 76 200 (S.1 56 31) (vp_nar .byte ((a1 >>> ((24 : Int32) &&& 31) : Int32).toInt8.toInt32))).bind fun S1 =>
  (gh_wa S1 76 200 ((S1.1 56 31) + (1 : Int32)) (vp_nar .byte ((a1 >>> ((16 : Int32) &&& 31) : Int32).toInt8.toInt32))).bind fun S2 =>
  (gh_wa S2 76 200 ((S2.1 56 31) + (2 : Int32)) (vp_nar .byte ((a1 >>> ((8 : Int32) &&& 31) : Int32).toInt8.toInt32))).bind fun S3 =>
  (gh_wa S3 76 200 ((S3.1 56 31) + (3 : Int32)) (vp_nar .byte ((a1 : Int32).toInt8.toInt32))).bind fun S4 =>
  some (gh_fI S4 56 31 ((S4.1 56 31) + (4 : Int32)))
set_option maxRecDepth 100000 in
theorem kX10_put_e (d N : Nat) (a1 : Int32) (S : gh_St) (r : gh_St) (h : sX10_put N a1 S = some r) : gh_T d fX10_put 0 0 none false false (0, [(0, .ref 56), (1, .int a1)], [], (gh_mo S, 0, 0)) (none, (gh_mo r, 0, 0)) := by
  unfold sX10_put at h
  refine gh_T_steps 8 (τ := (13, [(0, .ref 56), (1, .int a1)], [.int ((a1 >>> ((24 : Int32) &&& 31) : Int32).toInt8.toInt32), .int (S.1 56 31), .ref 76], (gh_mo S, 0, 0))) (fun _ => rfl) ?_
  obtain ⟨S1, hS1, h⟩ := gh_bi h
  refine gh_T_wb rfl rfl hS1 ?_
  refine gh_T_steps 10 (τ := (29, [(0, .ref 56), (1, .int a1)], [.int ((a1 >>> ((16 : Int32) &&& 31) : Int32).toInt8.toInt32), .int ((S1.1 56 31) + (1 : Int32)), .ref 76], (gh_mo S1, 0, 0))) (fun _ => rfl) ?_
  obtain ⟨S2, hS2, h⟩ := gh_bi h
  refine gh_T_wb rfl rfl hS2 ?_
  refine gh_T_steps 10 (τ := (45, [(0, .ref 56), (1, .int a1)], [.int ((a1 >>> ((8 : Int32) &&& 31) : Int32).toInt8.toInt32), .int ((S2.1 56 31) + (2 : Int32)), .ref 76], (gh_mo S2, 0, 0))) (fun _ => rfl) ?_
  obtain ⟨S3, hS3, h⟩ := gh_bi h
  refine gh_T_wb rfl rfl hS3 ?_
  refine gh_T_steps 8 (τ := (58, [(0, .ref 56), (1, .int a1)], [.int ((a1 : Int32).toInt8.toInt32), .int ((S3.1 56 31) + (3 : Int32)), .ref 76], (gh_mo S3, 0, 0))) (fun _ => rfl) ?_
  obtain ⟨S4, hS4, h⟩ := gh_bi h
  refine gh_T_wb rfl rfl hS4 ?_
  refine gh_T_steps 6 (τ := (69, [(0, .ref 56), (1, .int a1)], [], (gh_mo (gh_fI S4 56 31 ((S4.1 56 31) + (4 : Int32))), 0, 0))) (fun _ => rfl) ?_
  cases h
  exact gh_T_ret (fun _ => rfl)
theorem kX10_put (d N : Nat) (a1 : Int32) (S : gh_St) (r : gh_St) (h : sX10_put N a1 S = some r) : gh_Mx (d + 1) 159 [.ref 56, .int a1] (gh_mo S) none (gh_mo r) :=
  gh_Mx_of rfl rfl rfl rfl rfl rfl (kX10_put_e d N a1 S r h)
def sX10_feed (N : Nat) (a1 : Int32) (a2 : Int32) (a3 : Int32) (a4 : Int32) (a5 : Int32) (S : gh_St) : Option (Int32 × gh_St) :=
  bif gh_cmp .le ((S.1 56 31) + (20 : Int32)) 200 then
    ((sX10_put N a1 S).bind fun q1 =>
    (sX10_put N a2 q1).bind fun q2 =>
    (sX10_put N a3 q2).bind fun q3 =>
    (sX10_put N a4 q3).bind fun q4 =>
    (sX10_put N a5 q4).bind fun q5 =>
    some (q5.1 56 31, q5))
  else
    (some ((-1), S))
set_option maxRecDepth 100000 in
theorem kX10_feed_e (d N : Nat) (a1 : Int32) (a2 : Int32) (a3 : Int32) (a4 : Int32) (a5 : Int32) (S : gh_St) (r : Int32 × gh_St) (h : sX10_feed N a1 a2 a3 a4 a5 S = some r) : gh_T (d + 1) fX10_feed 0 0 none false false (0, [(0, .ref 56), (1, .int a1), (2, .int a2), (3, .int a3), (4, .int a4), (5, .int a5)], [], (gh_mo S, 0, 0)) (some (.int r.1), (gh_mo r.2, 0, 0)) := by
  unfold sX10_feed at h
  refine gh_T_steps 5 (τ := (10, [(0, .ref 56), (1, .int a1), (2, .int a2), (3, .int a3), (4, .int a4), (5, .int a5)], [.int 200, .int ((S.1 56 31) + (20 : Int32))], (gh_mo S, 0, 0))) (fun _ => rfl) ?_
  cases c6 : gh_cmp .le ((S.1 56 31) + (20 : Int32)) 200 with
  | true =>
    rw [c6, cond_true] at h
    refine gh_T_ic true rfl c6 ?_
    refine gh_T_steps 2 (τ := (17, [(0, .ref 56), (1, .int a1), (2, .int a2), (3, .int a3), (4, .int a4), (5, .int a5)], [.int a1, .ref 56], (gh_mo S, 0, 0))) (fun _ => rfl) ?_
    obtain ⟨q1, hq1, h⟩ := gh_bi h
    refine gh_T_iv (As := [.int a1]) (b := 56) (rest := []) (y := none) (M' := gh_mo q1) rfl rfl rfl rfl rfl rfl rfl rfl rfl ⟨Nat.le_refl _, Nat.le_refl _⟩ (kX10_put d N a1 S q1 hq1) ?_
    refine gh_T_steps 2 (τ := (22, [(0, .ref 56), (1, .int a1), (2, .int a2), (3, .int a3), (4, .int a4), (5, .int a5)], [.int a2, .ref 56], (gh_mo q1, 0, 0))) (fun _ => rfl) ?_
    obtain ⟨q2, hq2, h⟩ := gh_bi h
    refine gh_T_iv (As := [.int a2]) (b := 56) (rest := []) (y := none) (M' := gh_mo q2) rfl rfl rfl rfl rfl rfl rfl rfl rfl ⟨Nat.le_refl _, Nat.le_refl _⟩ (kX10_put d N a2 q1 q2 hq2) ?_
    refine gh_T_steps 2 (τ := (27, [(0, .ref 56), (1, .int a1), (2, .int a2), (3, .int a3), (4, .int a4), (5, .int a5)], [.int a3, .ref 56], (gh_mo q2, 0, 0))) (fun _ => rfl) ?_
    obtain ⟨q3, hq3, h⟩ := gh_bi h
    refine gh_T_iv (As := [.int a3]) (b := 56) (rest := []) (y := none) (M' := gh_mo q3) rfl rfl rfl rfl rfl rfl rfl rfl rfl ⟨Nat.le_refl _, Nat.le_refl _⟩ (kX10_put d N a3 q2 q3 hq3) ?_
    refine gh_T_steps 2 (τ := (33, [(0, .ref 56), (1, .int a1), (2, .int a2), (3, .int a3), (4, .int a4), (5, .int a5)], [.int a4, .ref 56], (gh_mo q3, 0, 0))) (fun _ => rfl) ?_
    obtain ⟨q4, hq4, h⟩ := gh_bi h
    refine gh_T_iv (As := [.int a4]) (b := 56) (rest := []) (y := none) (M' := gh_mo q4) rfl rfl rfl rfl rfl rfl rfl rfl rfl ⟨Nat.le_refl _, Nat.le_refl _⟩ (kX10_put d N a4 q3 q4 hq4) ?_
    refine gh_T_steps 2 (τ := (39, [(0, .ref 56), (1, .int a1), (2, .int a2), (3, .int a3), (4, .int a4), (5, .int a5)], [.int a5, .ref 56], (gh_mo q4, 0, 0))) (fun _ => rfl) ?_
    obtain ⟨q5, hq5, h⟩ := gh_bi h
    refine gh_T_iv (As := [.int a5]) (b := 56) (rest := []) (y := none) (M' := gh_mo q5) rfl rfl rfl rfl rfl rfl rfl rfl rfl ⟨Nat.le_refl _, Nat.le_refl _⟩ (kX10_put d N a5 q4 q5 hq5) ?_
    refine gh_T_steps 2 (τ := (46, [(0, .ref 56), (1, .int a1), (2, .int a2), (3, .int a3), (4, .int a4), (5, .int a5)], [.int (q5.1 56 31)], (gh_mo q5, 0, 0))) (fun _ => rfl) ?_
    cases h
    exact gh_T_ret (fun _ => rfl)
  | false =>
    rw [c6, cond_false] at h
    refine gh_T_ic false rfl c6 ?_
    refine gh_T_steps 1 (τ := (14, [(0, .ref 56), (1, .int a1), (2, .int a2), (3, .int a3), (4, .int a4), (5, .int a5)], [.int ((-1))], (gh_mo S, 0, 0))) (fun _ => rfl) ?_
    cases h
    exact gh_T_ret (fun _ => rfl)
theorem kX10_feed (d N : Nat) (a1 : Int32) (a2 : Int32) (a3 : Int32) (a4 : Int32) (a5 : Int32) (S : gh_St) (r : Int32 × gh_St) (h : sX10_feed N a1 a2 a3 a4 a5 S = some r) : gh_Mx (d + 2) 160 [.ref 56, .int a1, .int a2, .int a3, .int a4, .int a5] (gh_mo S) (some (.int r.1)) (gh_mo r.2) :=
  gh_Mx_of rfl rfl rfl rfl rfl rfl (kX10_feed_e d N a1 a2 a3 a4 a5 S r h)
def sX10_end (N : Nat) (a1 : Int32) (S : gh_St) : Option (Int32 × gh_St) :=
  (sX10_in N ((a1 : Int32).toInt64) 0 ((S.1 56 31 : Int32).toInt64) S).bind fun q1 =>
  bif gh_cmp .ne q1.1 0 then
    (some (a1, gh_fI q1.2 56 31 a1))
  else
    (some ((-1), q1.2))
set_option maxRecDepth 100000 in
theorem kX10_end_e (d N : Nat) (a1 : Int32) (S : gh_St) (r : Int32 × gh_St) (h : sX10_end N a1 S = some r) : gh_T (d + 1) fX10_end 0 0 none false false (0, [(0, .ref 56), (1, .int a1)], [], (gh_mo S, 0, 0)) (some (.int r.1), (gh_mo r.2, 0, 0)) := by
  unfold sX10_end at h
  refine gh_T_steps 6 (τ := (8, [(0, .ref 56), (1, .int a1)], [.long ((S.1 56 31 : Int32).toInt64), .long 0, .long ((a1 : Int32).toInt64)], (gh_mo S, 0, 0))) (fun _ => rfl) ?_
  obtain ⟨q1, hq1, h⟩ := gh_bi h
  refine gh_T_is (As := [.long ((a1 : Int32).toInt64), .long 0, .long ((S.1 56 31 : Int32).toInt64)]) (rest := []) (y := some (.int q1.1)) (M' := gh_mo q1.2) rfl rfl rfl rfl rfl rfl rfl ⟨Nat.le_refl _, Nat.le_refl _⟩ (kX10_in d N ((a1 : Int32).toInt64) 0 ((S.1 56 31 : Int32).toInt64) S q1 hq1) ?_
  cases c2 : gh_cmp .ne q1.1 0 with
  | true =>
    rw [c2, cond_true] at h
    refine gh_T_if true rfl c2 ?_
    refine gh_T_steps 4 (τ := (22, [(0, .ref 56), (1, .int a1)], [.int a1], (gh_mo (gh_fI q1.2 56 31 a1), 0, 0))) (fun _ => rfl) ?_
    cases h
    exact gh_T_ret (fun _ => rfl)
  | false =>
    rw [c2, cond_false] at h
    refine gh_T_if false rfl c2 ?_
    refine gh_T_steps 1 (τ := (15, [(0, .ref 56), (1, .int a1)], [.int ((-1))], (gh_mo q1.2, 0, 0))) (fun _ => rfl) ?_
    cases h
    exact gh_T_ret (fun _ => rfl)
theorem kX10_end (d N : Nat) (a1 : Int32) (S : gh_St) (r : Int32 × gh_St) (h : sX10_end N a1 S = some r) : gh_Mx (d + 2) 161 [.ref 56, .int a1] (gh_mo S) (some (.int r.1)) (gh_mo r.2) :=
  gh_Mx_of rfl rfl rfl rfl rfl rfl (kX10_end_e d N a1 S r h)
def sX10_isLetter_28 (N : Nat) (S : gh_St) : Option (Int32 × gh_St) :=
  some (1, S)
set_option maxRecDepth 100000 in
theorem kX10_isLetter_28 (d N : Nat) (S : gh_St) (r : Int32 × gh_St) (h : sX10_isLetter_28 N S = some r) : gh_T (d + 1) fX10_isLetter 0 0 none true false (28, [], [], (gh_mo S, 0, 0)) (some (.int r.1), (gh_mo r.2, 0, 0)) := by
  unfold sX10_isLetter_28 at h
  refine gh_T_steps 2 (τ := (33, [], [.int 1], (gh_mo S, 0, 0))) (fun _ => rfl) ?_
  cases h
  exact gh_T_ret (fun _ => rfl)
def sX10_isLetter (N : Nat) (a0 : Int32) (S : gh_St) : Option (Int32 × gh_St) :=
  (sX10_in N ((a0 : Int32).toInt64) 97 122 S).bind fun q1 =>
  bif gh_cmp .ne q1.1 0 then
    (sX10_isLetter_28 N q1.2)
  else
    ((sX10_in N ((a0 : Int32).toInt64) 65 90 q1.2).bind fun q2 =>
    bif gh_cmp .eq q2.1 0 then
      (some (0, q2.2))
    else
      (sX10_isLetter_28 N q2.2))
set_option maxRecDepth 100000 in
theorem kX10_isLetter_e (d N : Nat) (a0 : Int32) (S : gh_St) (r : Int32 × gh_St) (h : sX10_isLetter N a0 S = some r) : gh_T (d + 1) fX10_isLetter 0 0 none true false (0, [(0, .int a0)], [], (gh_mo S, 0, 0)) (some (.int r.1), (gh_mo r.2, 0, 0)) := by
  unfold sX10_isLetter at h
  refine gh_T_steps 4 (τ := (8, [(0, .int a0)], [.long 122, .long 97, .long ((a0 : Int32).toInt64)], (gh_mo S, 0, 0))) (fun _ => rfl) ?_
  obtain ⟨q1, hq1, h⟩ := gh_bi h
  refine gh_T_is (As := [.long ((a0 : Int32).toInt64), .long 97, .long 122]) (rest := []) (y := some (.int q1.1)) (M' := gh_mo q1.2) rfl rfl rfl rfl rfl rfl rfl ⟨Nat.le_refl _, Nat.le_refl _⟩ (kX10_in d N ((a0 : Int32).toInt64) 97 122 S q1 hq1) ?_
  cases c4 : gh_cmp .ne q1.1 0 with
  | true =>
    rw [c4, cond_true] at h
    refine gh_T_if true rfl c4 ?_
    refine gh_T_weak (lv := []) trivial ?_
    exact kX10_isLetter_28 d N q1.2 _ h
  | false =>
    rw [c4, cond_false] at h
    refine gh_T_if false rfl c4 ?_
    refine gh_T_steps 4 (τ := (22, [(0, .int a0)], [.long 90, .long 65, .long ((a0 : Int32).toInt64)], (gh_mo q1.2, 0, 0))) (fun _ => rfl) ?_
    obtain ⟨q2, hq2, h⟩ := gh_bi h
    refine gh_T_is (As := [.long ((a0 : Int32).toInt64), .long 65, .long 90]) (rest := []) (y := some (.int q2.1)) (M' := gh_mo q2.2) rfl rfl rfl rfl rfl rfl rfl ⟨Nat.le_refl _, Nat.le_refl _⟩ (kX10_in d N ((a0 : Int32).toInt64) 65 90 q1.2 q2 hq2) ?_
    cases c3 : gh_cmp .eq q2.1 0 with
    | true =>
      rw [c3, cond_true] at h
      refine gh_T_if true rfl c3 ?_
      refine gh_T_steps 1 (τ := (33, [(0, .int a0)], [.int 0], (gh_mo q2.2, 0, 0))) (fun _ => rfl) ?_
      cases h
      exact gh_T_ret (fun _ => rfl)
    | false =>
      rw [c3, cond_false] at h
      refine gh_T_if false rfl c3 ?_
      refine gh_T_weak (lv := []) trivial ?_
      exact kX10_isLetter_28 d N q2.2 _ h
theorem kX10_isLetter (d N : Nat) (a0 : Int32) (S : gh_St) (r : Int32 × gh_St) (h : sX10_isLetter N a0 S = some r) : gh_Mx (d + 2) 162 [.int a0] (gh_mo S) (some (.int r.1)) (gh_mo r.2) :=
  gh_Mx_of rfl rfl rfl rfl rfl rfl (kX10_isLetter_e d N a0 S r h)
def sX10_wordOf (N : Nat) (a0 : Int64) (S : gh_St) : Option (Int32 × gh_St) :=
  bif gh_cmp .ne (lg_cmp a0 (818583781 : Int64)) 0 then
    (bif gh_cmp .ne (lg_cmp a0 (9631979 : Int64)) 0 then
      (some ((-1), S))
    else
      (some (1, S)))
  else
    (some (0, S))
set_option maxRecDepth 100000 in
theorem kX10_wordOf_e (d N : Nat) (a0 : Int64) (S : gh_St) (r : Int32 × gh_St) (h : sX10_wordOf N a0 S = some r) : gh_T d fX10_wordOf 0 0 none false false (0, [(0, .long a0)], [], (gh_mo S, 0, 0)) (some (.int r.1), (gh_mo r.2, 0, 0)) := by
  unfold sX10_wordOf at h
  refine gh_T_steps 3 (τ := (5, [(0, .long a0)], [.int (lg_cmp a0 (818583781 : Int64))], (gh_mo S, 0, 0))) (fun _ => rfl) ?_
  cases c2 : gh_cmp .ne (lg_cmp a0 (818583781 : Int64)) 0 with
  | true =>
    rw [c2, cond_true] at h
    refine gh_T_if true rfl c2 ?_
    refine gh_T_steps 3 (τ := (17, [(0, .long a0)], [.int (lg_cmp a0 (9631979 : Int64))], (gh_mo S, 0, 0))) (fun _ => rfl) ?_
    cases c1 : gh_cmp .ne (lg_cmp a0 (9631979 : Int64)) 0 with
    | true =>
      rw [c1, cond_true] at h
      refine gh_T_if true rfl c1 ?_
      refine gh_T_steps 1 (τ := (25, [(0, .long a0)], [.int ((-1))], (gh_mo S, 0, 0))) (fun _ => rfl) ?_
      cases h
      exact gh_T_ret (fun _ => rfl)
    | false =>
      rw [c1, cond_false] at h
      refine gh_T_if false rfl c1 ?_
      refine gh_T_steps 2 (τ := (25, [(0, .long a0)], [.int 1], (gh_mo S, 0, 0))) (fun _ => rfl) ?_
      cases h
      exact gh_T_ret (fun _ => rfl)
  | false =>
    rw [c2, cond_false] at h
    refine gh_T_if false rfl c2 ?_
    refine gh_T_steps 2 (τ := (25, [(0, .long a0)], [.int 0], (gh_mo S, 0, 0))) (fun _ => rfl) ?_
    cases h
    exact gh_T_ret (fun _ => rfl)
theorem kX10_wordOf (d N : Nat) (a0 : Int64) (S : gh_St) (r : Int32 × gh_St) (h : sX10_wordOf N a0 S = some r) : gh_Mx (d + 1) 163 [.long a0] (gh_mo S) (some (.int r.1)) (gh_mo r.2) :=
  gh_Mx_of rfl rfl rfl rfl rfl rfl (kX10_wordOf_e d N a0 S r h)
def sX10_next_133 (N : Nat) (kc79 : Int32 → Int64 → Int32 → gh_St → Option (gh_St)) (l1 : Int32) (l5 : Int32) (t0 : Int64) (S : gh_St) : Option (gh_St) :=
  kc79 l1 t0 (l5 + 1) (gh_fI S 56 32 ((S.1 56 32) + (1 : Int32)))
set_option maxRecDepth 100000 in
theorem kX10_next_133 (d N : Nat) (kc79 : Int32 → Int64 → Int32 → gh_St → Option (gh_St)) (hkc79 : ∀ (l1 : Int32) (l3 : Int64) (l5 : Int32) (S : gh_St) (r : gh_St), kc79 l1 l3 l5 S = some r → gh_T (d + 2) fX10_next 0 0 none false false (79, [(0, .ref 56), (1, .int l1), (3, .long l3), (5, .int l5)], [], (gh_mo S, 0, 0)) (none, (gh_mo r, 0, 0))) (l1 : Int32) (l5 : Int32) (t0 : Int64) (S : gh_St) (r : gh_St) (h : sX10_next_133 N kc79 l1 l5 t0 S = some r) : gh_T (d + 2) fX10_next 0 0 none false false (133, [(0, .ref 56), (1, .int l1), (5, .int l5)], [.long t0], (gh_mo S, 0, 0)) (none, (gh_mo r, 0, 0)) := by
  unfold sX10_next_133 at h
  refine gh_T_steps 9 (τ := (79, [(5, .int (l5 + 1)), (3, .long t0), (0, .ref 56), (1, .int l1)], [], (gh_mo (gh_fI S 56 32 ((S.1 56 32) + (1 : Int32))), 0, 0))) (fun _ => rfl) ?_
  refine gh_T_weak (lv := [(0, .ref 56), (1, .int l1), (3, .long t0), (5, .int (l5 + 1))]) ⟨rfl, rfl, rfl, rfl, trivial⟩ ?_
  exact hkc79 l1 t0 (l5 + 1) (gh_fI S 56 32 ((S.1 56 32) + (1 : Int32))) _ h
def sX10_next_181 (N : Nat) (t0 : Int32) (S : gh_St) : Option (gh_St) :=
  some (gh_fI S 56 34 t0)
set_option maxRecDepth 100000 in
theorem kX10_next_181 (d N : Nat) (t0 : Int32) (S : gh_St) (r : gh_St) (h : sX10_next_181 N t0 S = some r) : gh_T (d + 2) fX10_next 0 0 none false false (181, [], [.int t0, .ref 56], (gh_mo S, 0, 0)) (none, (gh_mo r, 0, 0)) := by
  unfold sX10_next_181 at h
  refine gh_T_steps 2 (τ := (320, [], [], (gh_mo (gh_fI S 56 34 t0), 0, 0))) (fun _ => rfl) ?_
  cases h
  exact gh_T_ret (fun _ => rfl)
def sX10_next_165 (N : Nat) (t0 : Int32) (S : gh_St) : Option (gh_St) :=
  bif gh_cmp .ge ((gh_fI S 56 35 t0).1 56 35) 0 then
    (sX10_next_181 N 1 (gh_fI S 56 35 t0))
  else
    (sX10_next_181 N 4 (gh_fI S 56 35 t0))
set_option maxRecDepth 100000 in
theorem kX10_next_165 (d N : Nat) (t0 : Int32) (S : gh_St) (r : gh_St) (h : sX10_next_165 N t0 S = some r) : gh_T (d + 2) fX10_next 0 0 none false false (165, [(0, .ref 56)], [.int t0, .ref 56], (gh_mo S, 0, 0)) (none, (gh_mo r, 0, 0)) := by
  unfold sX10_next_165 at h
  refine gh_T_steps 4 (τ := (173, [(0, .ref 56)], [.int ((gh_fI S 56 35 t0).1 56 35), .ref 56], (gh_mo (gh_fI S 56 35 t0), 0, 0))) (fun _ => rfl) ?_
  cases c1 : gh_cmp .ge ((gh_fI S 56 35 t0).1 56 35) 0 with
  | true =>
    rw [c1, cond_true] at h
    refine gh_T_if true rfl c1 ?_
    refine gh_T_steps 1 (τ := (181, [(0, .ref 56)], [.int 1, .ref 56], (gh_mo (gh_fI S 56 35 t0), 0, 0))) (fun _ => rfl) ?_
    refine gh_T_weak (lv := []) trivial ?_
    exact kX10_next_181 d N 1 (gh_fI S 56 35 t0) _ h
  | false =>
    rw [c1, cond_false] at h
    refine gh_T_if false rfl c1 ?_
    refine gh_T_steps 2 (τ := (181, [(0, .ref 56)], [.int 4, .ref 56], (gh_mo (gh_fI S 56 35 t0), 0, 0))) (fun _ => rfl) ?_
    refine gh_T_weak (lv := []) trivial ?_
    exact kX10_next_181 d N 4 (gh_fI S 56 35 t0) _ h
def sX10_next_150 (N : Nat) (l3 : Int64) (l5 : Int32) (S : gh_St) : Option (gh_St) :=
  bif gh_cmp .le l5 5 then
    ((sX10_wordOf N l3 S).bind fun q1 =>
    sX10_next_165 N q1.1 q1.2)
  else
    (sX10_next_165 N ((-1)) S)
set_option maxRecDepth 100000 in
theorem kX10_next_150 (d N : Nat) (l3 : Int64) (l5 : Int32) (S : gh_St) (r : gh_St) (h : sX10_next_150 N l3 l5 S = some r) : gh_T (d + 2) fX10_next 0 0 none false false (150, [(0, .ref 56), (3, .long l3), (5, .int l5)], [], (gh_mo S, 0, 0)) (none, (gh_mo r, 0, 0)) := by
  unfold sX10_next_150 at h
  refine gh_T_steps 3 (τ := (154, [(0, .ref 56), (3, .long l3), (5, .int l5)], [.int 5, .int l5, .ref 56], (gh_mo S, 0, 0))) (fun _ => rfl) ?_
  cases c2 : gh_cmp .le l5 5 with
  | true =>
    rw [c2, cond_true] at h
    refine gh_T_ic true rfl c2 ?_
    refine gh_T_steps 1 (τ := (162, [(0, .ref 56), (3, .long l3), (5, .int l5)], [.long l3, .ref 56], (gh_mo S, 0, 0))) (fun _ => rfl) ?_
    obtain ⟨q1, hq1, h⟩ := gh_bi h
    refine gh_T_is (As := [.long l3]) (rest := [.ref 56]) (y := some (.int q1.1)) (M' := gh_mo q1.2) rfl rfl rfl rfl rfl rfl rfl ⟨Nat.le_refl _, Nat.le_refl _⟩ (kX10_wordOf (d + 1) N l3 S q1 hq1) ?_
    refine gh_T_weak (lv := [(0, .ref 56)]) ⟨rfl, trivial⟩ ?_
    exact kX10_next_165 d N q1.1 q1.2 _ h
  | false =>
    rw [c2, cond_false] at h
    refine gh_T_ic false rfl c2 ?_
    refine gh_T_steps 2 (τ := (165, [(0, .ref 56), (3, .long l3), (5, .int l5)], [.int ((-1)), .ref 56], (gh_mo S, 0, 0))) (fun _ => rfl) ?_
    refine gh_T_weak (lv := [(0, .ref 56)]) ⟨rfl, trivial⟩ ?_
    exact kX10_next_165 d N ((-1)) S _ h
def sX10_next_79 (N : Nat) : Nat → Int32 → Int64 → Int32 → gh_St → Option (gh_St)
  | 0, _, _, _, _ => none
  | n + 1, l1, l3, l5, S =>
    bif gh_cmp .ge (S.1 56 32) l1 then
      (sX10_next_150 N l3 l5 S)
    else
      ((gh_ra S 76 200 (S.1 56 32)).bind fun x1 =>
      (sX10_isLetter N x1 S).bind fun q2 =>
      bif gh_cmp .eq q2.1 0 then
        (sX10_next_150 N l3 l5 q2.2)
      else
        (bif gh_cmp .ge l5 8 then
          (sX10_next_133 N (sX10_next_79 N n) l1 l5 l3 q2.2)
        else
          ((gh_ra q2.2 76 200 (q2.2.1 56 32)).bind fun x3 =>
          sX10_next_133 N (sX10_next_79 N n) l1 l5 ((((64 : Int64) * l3) + ((x3 : Int32).toInt64)) - (64 : Int64)) q2.2)))
set_option maxRecDepth 100000 in
theorem kX10_next_79 (d N : Nat) : ∀ (n : Nat) (l1 : Int32) (l3 : Int64) (l5 : Int32) (S : gh_St) (r : gh_St), sX10_next_79 N n l1 l3 l5 S = some r → gh_T (d + 2) fX10_next 0 0 none false false (79, [(0, .ref 56), (1, .int l1), (3, .long l3), (5, .int l5)], [], (gh_mo S, 0, 0)) (none, (gh_mo r, 0, 0)) := by
  intro n
  induction n with
  | zero =>
    intro l1 l3 l5 S r h
    cases h
  | succ n ih =>
    intro l1 l3 l5 S r h
    rw [sX10_next_79] at h
    refine gh_T_steps 3 (τ := (84, [(0, .ref 56), (1, .int l1), (3, .long l3), (5, .int l5)], [.int l1, .int (S.1 56 32)], (gh_mo S, 0, 0))) (fun _ => rfl) ?_
    cases c6 : gh_cmp .ge (S.1 56 32) l1 with
    | true =>
      rw [c6, cond_true] at h
      refine gh_T_ic true rfl c6 ?_
      refine gh_T_weak (lv := [(0, .ref 56), (3, .long l3), (5, .int l5)]) ⟨rfl, rfl, rfl, trivial⟩ ?_
      exact kX10_next_150 d N l3 l5 S _ h
    | false =>
      rw [c6, cond_false] at h
      refine gh_T_ic false rfl c6 ?_
      refine gh_T_steps 4 (τ := (95, [(0, .ref 56), (1, .int l1), (3, .long l3), (5, .int l5)], [.int (S.1 56 32), .ref 76], (gh_mo S, 0, 0))) (fun _ => rfl) ?_
      obtain ⟨x1, hx1, h⟩ := gh_bi h
      refine gh_T_rb rfl (Or.inl rfl) rfl hx1 ?_
      obtain ⟨q2, hq2, h⟩ := gh_bi h
      refine gh_T_is (As := [.int x1]) (rest := []) (y := some (.int q2.1)) (M' := gh_mo q2.2) rfl rfl rfl rfl rfl rfl rfl ⟨Nat.le_refl _, Nat.le_refl _⟩ (kX10_isLetter d N x1 S q2 hq2) ?_
      cases c5 : gh_cmp .eq q2.1 0 with
      | true =>
        rw [c5, cond_true] at h
        refine gh_T_if true rfl c5 ?_
        refine gh_T_weak (lv := [(0, .ref 56), (3, .long l3), (5, .int l5)]) ⟨rfl, rfl, rfl, trivial⟩ ?_
        exact kX10_next_150 d N l3 l5 q2.2 _ h
      | false =>
        rw [c5, cond_false] at h
        refine gh_T_if false rfl c5 ?_
        refine gh_T_steps 2 (τ := (106, [(0, .ref 56), (1, .int l1), (3, .long l3), (5, .int l5)], [.int 8, .int l5], (gh_mo q2.2, 0, 0))) (fun _ => rfl) ?_
        cases c4 : gh_cmp .ge l5 8 with
        | true =>
          rw [c4, cond_true] at h
          refine gh_T_ic true rfl c4 ?_
          refine gh_T_steps 1 (τ := (133, [(0, .ref 56), (1, .int l1), (3, .long l3), (5, .int l5)], [.long l3], (gh_mo q2.2, 0, 0))) (fun _ => rfl) ?_
          refine gh_T_weak (lv := [(0, .ref 56), (1, .int l1), (5, .int l5)]) ⟨rfl, rfl, rfl, trivial⟩ ?_
          exact kX10_next_133 d N (sX10_next_79 N n) ih l1 l5 l3 q2.2 _ h
        | false =>
          rw [c4, cond_false] at h
          refine gh_T_ic false rfl c4 ?_
          refine gh_T_steps 7 (τ := (122, [(0, .ref 56), (1, .int l1), (3, .long l3), (5, .int l5)], [.int (q2.2.1 56 32), .ref 76, .long ((64 : Int64) * l3)], (gh_mo q2.2, 0, 0))) (fun _ => rfl) ?_
          obtain ⟨x3, hx3, h⟩ := gh_bi h
          refine gh_T_rb rfl (Or.inl rfl) rfl hx3 ?_
          refine gh_T_steps 5 (τ := (133, [(0, .ref 56), (1, .int l1), (3, .long l3), (5, .int l5)], [.long ((((64 : Int64) * l3) + ((x3 : Int32).toInt64)) - (64 : Int64))], (gh_mo q2.2, 0, 0))) (fun _ => rfl) ?_
          refine gh_T_weak (lv := [(0, .ref 56), (1, .int l1), (5, .int l5)]) ⟨rfl, rfl, rfl, trivial⟩ ?_
          exact kX10_next_133 d N (sX10_next_79 N n) ih l1 l5 ((((64 : Int64) * l3) + ((x3 : Int32).toInt64)) - (64 : Int64)) q2.2 _ h
def sX10_next_279 (N : Nat) (kc211 : Int32 → gh_St → Option (gh_St)) (l1 : Int32) (t0 : Int32) (S : gh_St) : Option (gh_St) :=
  kc211 l1 (gh_fI (gh_fI S 56 35 t0) 56 32 (((gh_fI S 56 35 t0).1 56 32) + (1 : Int32)))
set_option maxRecDepth 100000 in
theorem kX10_next_279 (d N : Nat) (kc211 : Int32 → gh_St → Option (gh_St)) (hkc211 : ∀ (l1 : Int32) (S : gh_St) (r : gh_St), kc211 l1 S = some r → gh_T (d + 2) fX10_next 0 0 none false false (211, [(0, .ref 56), (1, .int l1)], [], (gh_mo S, 0, 0)) (none, (gh_mo r, 0, 0))) (l1 : Int32) (t0 : Int32) (S : gh_St) (r : gh_St) (h : sX10_next_279 N kc211 l1 t0 S = some r) : gh_T (d + 2) fX10_next 0 0 none false false (279, [(0, .ref 56), (1, .int l1)], [.int t0, .ref 56], (gh_mo S, 0, 0)) (none, (gh_mo r, 0, 0)) := by
  unfold sX10_next_279 at h
  refine gh_T_steps 8 (τ := (211, [(0, .ref 56), (1, .int l1)], [], (gh_mo (gh_fI (gh_fI S 56 35 t0) 56 32 (((gh_fI S 56 35 t0).1 56 32) + (1 : Int32))), 0, 0))) (fun _ => rfl) ?_
  exact hkc211 l1 (gh_fI (gh_fI S 56 35 t0) 56 32 (((gh_fI S 56 35 t0).1 56 32) + (1 : Int32))) _ h
def sX10_next_211 (N : Nat) : Nat → Int32 → gh_St → Option (gh_St)
  | 0, _, _ => none
  | n + 1, l1, S =>
    bif gh_cmp .ge (S.1 56 32) l1 then
      (some S)
    else
      ((gh_ra S 76 200 (S.1 56 32)).bind fun x1 =>
      (sX10_in N ((x1 : Int32).toInt64) 48 57 S).bind fun q2 =>
      bif gh_cmp .eq q2.1 0 then
        (some q2.2)
      else
        (bif gh_cmp .le (q2.2.1 56 35) 99999 then
          ((gh_ra q2.2 76 200 (q2.2.1 56 32)).bind fun x3 =>
          sX10_next_279 N (sX10_next_211 N n) l1 ((((10 : Int32) * (q2.2.1 56 35)) + x3) - (48 : Int32)) q2.2)
        else
          (sX10_next_279 N (sX10_next_211 N n) l1 (q2.2.1 56 35) q2.2)))
set_option maxRecDepth 100000 in
theorem kX10_next_211 (d N : Nat) : ∀ (n : Nat) (l1 : Int32) (S : gh_St) (r : gh_St), sX10_next_211 N n l1 S = some r → gh_T (d + 2) fX10_next 0 0 none false false (211, [(0, .ref 56), (1, .int l1)], [], (gh_mo S, 0, 0)) (none, (gh_mo r, 0, 0)) := by
  intro n
  induction n with
  | zero =>
    intro l1 S r h
    cases h
  | succ n ih =>
    intro l1 S r h
    rw [sX10_next_211] at h
    refine gh_T_steps 3 (τ := (216, [(0, .ref 56), (1, .int l1)], [.int l1, .int (S.1 56 32)], (gh_mo S, 0, 0))) (fun _ => rfl) ?_
    cases c6 : gh_cmp .ge (S.1 56 32) l1 with
    | true =>
      rw [c6, cond_true] at h
      refine gh_T_ic true rfl c6 ?_
      cases h
      exact gh_T_ret (fun _ => rfl)
    | false =>
      rw [c6, cond_false] at h
      refine gh_T_ic false rfl c6 ?_
      refine gh_T_steps 4 (τ := (227, [(0, .ref 56), (1, .int l1)], [.int (S.1 56 32), .ref 76], (gh_mo S, 0, 0))) (fun _ => rfl) ?_
      obtain ⟨x1, hx1, h⟩ := gh_bi h
      refine gh_T_rb rfl (Or.inl rfl) rfl hx1 ?_
      refine gh_T_steps 3 (τ := (235, [(0, .ref 56), (1, .int l1)], [.long 57, .long 48, .long ((x1 : Int32).toInt64)], (gh_mo S, 0, 0))) (fun _ => rfl) ?_
      obtain ⟨q2, hq2, h⟩ := gh_bi h
      refine gh_T_is (As := [.long ((x1 : Int32).toInt64), .long 48, .long 57]) (rest := []) (y := some (.int q2.1)) (M' := gh_mo q2.2) rfl rfl rfl rfl rfl rfl rfl ⟨Nat.le_refl _, Nat.le_refl _⟩ (kX10_in (d + 1) N ((x1 : Int32).toInt64) 48 57 S q2 hq2) ?_
      cases c5 : gh_cmp .eq q2.1 0 with
      | true =>
        rw [c5, cond_true] at h
        refine gh_T_if true rfl c5 ?_
        cases h
        exact gh_T_ret (fun _ => rfl)
      | false =>
        rw [c5, cond_false] at h
        refine gh_T_if false rfl c5 ?_
        refine gh_T_steps 4 (τ := (249, [(0, .ref 56), (1, .int l1)], [.int 99999, .int (q2.2.1 56 35), .ref 56], (gh_mo q2.2, 0, 0))) (fun _ => rfl) ?_
        cases c4 : gh_cmp .le (q2.2.1 56 35) 99999 with
        | true =>
          rw [c4, cond_true] at h
          refine gh_T_ic true rfl c4 ?_
          refine gh_T_steps 8 (τ := (274, [(0, .ref 56), (1, .int l1)], [.int (q2.2.1 56 32), .ref 76, .int ((10 : Int32) * (q2.2.1 56 35)), .ref 56], (gh_mo q2.2, 0, 0))) (fun _ => rfl) ?_
          obtain ⟨x3, hx3, h⟩ := gh_bi h
          refine gh_T_rb rfl (Or.inl rfl) rfl hx3 ?_
          refine gh_T_steps 3 (τ := (279, [(0, .ref 56), (1, .int l1)], [.int ((((10 : Int32) * (q2.2.1 56 35)) + x3) - (48 : Int32)), .ref 56], (gh_mo q2.2, 0, 0))) (fun _ => rfl) ?_
          exact kX10_next_279 d N (sX10_next_211 N n) ih l1 ((((10 : Int32) * (q2.2.1 56 35)) + x3) - (48 : Int32)) q2.2 _ h
        | false =>
          rw [c4, cond_false] at h
          refine gh_T_ic false rfl c4 ?_
          refine gh_T_steps 3 (τ := (279, [(0, .ref 56), (1, .int l1)], [.int (q2.2.1 56 35), .ref 56], (gh_mo q2.2, 0, 0))) (fun _ => rfl) ?_
          exact kX10_next_279 d N (sX10_next_211 N n) ih l1 (q2.2.1 56 35) q2.2 _ h
def sX10_next_317 (N : Nat) (t0 : Int32) (S : gh_St) : Option (gh_St) :=
  some (gh_fI S 56 34 t0)
set_option maxRecDepth 100000 in
theorem kX10_next_317 (d N : Nat) (t0 : Int32) (S : gh_St) (r : gh_St) (h : sX10_next_317 N t0 S = some r) : gh_T (d + 2) fX10_next 0 0 none false false (317, [], [.int t0, .ref 56], (gh_mo S, 0, 0)) (none, (gh_mo r, 0, 0)) := by
  unfold sX10_next_317 at h
  refine gh_T_steps 1 (τ := (320, [], [], (gh_mo (gh_fI S 56 34 t0), 0, 0))) (fun _ => rfl) ?_
  cases h
  exact gh_T_ret (fun _ => rfl)
def sX10_next_35 (N : Nat) (l1 : Int32) (S : gh_St) : Option (gh_St) :=
  bif gh_cmp .ne ((gh_fI S 56 33 (S.1 56 32)).1 56 32) l1 then
    ((gh_ra (gh_fI S 56 33 (S.1 56 32)) 76 200 ((gh_fI S 56 33 (S.1 56 32)).1 56 32)).bind fun x1 =>
    (sX10_isLetter N x1 (gh_fI S 56 33 (S.1 56 32))).bind fun q2 =>
    bif gh_cmp .eq q2.1 0 then
      ((sX10_in N ((x1 : Int32).toInt64) 48 57 q2.2).bind fun q3 =>
      bif gh_cmp .eq q3.1 0 then
        (bif gh_cmp .ne x1 59 then
          (sX10_next_317 N 4 (gh_fI q3.2 56 32 ((q3.2.1 56 32) + (1 : Int32))))
        else
          (sX10_next_317 N 3 (gh_fI q3.2 56 32 ((q3.2.1 56 32) + (1 : Int32)))))
      else
        (sX10_next_211 N N l1 (gh_fI (gh_fI q3.2 56 34 2) 56 35 0)))
    else
      (sX10_next_79 N N l1 0 0 q2.2))
  else
    (some (gh_fI (gh_fI S 56 33 (S.1 56 32)) 56 34 0))
set_option maxRecDepth 100000 in
theorem kX10_next_35 (d N : Nat) (l1 : Int32) (S : gh_St) (r : gh_St) (h : sX10_next_35 N l1 S = some r) : gh_T (d + 2) fX10_next 0 0 none false false (35, [(0, .ref 56), (1, .int l1)], [], (gh_mo S, 0, 0)) (none, (gh_mo r, 0, 0)) := by
  unfold sX10_next_35 at h
  refine gh_T_steps 7 (τ := (48, [(0, .ref 56), (1, .int l1)], [.int l1, .int ((gh_fI S 56 33 (S.1 56 32)).1 56 32)], (gh_mo (gh_fI S 56 33 (S.1 56 32)), 0, 0))) (fun _ => rfl) ?_
  cases c7 : gh_cmp .ne ((gh_fI S 56 33 (S.1 56 32)).1 56 32) l1 with
  | true =>
    rw [c7, cond_true] at h
    refine gh_T_ic true rfl c7 ?_
    refine gh_T_steps 4 (τ := (65, [(0, .ref 56), (1, .int l1)], [.int ((gh_fI S 56 33 (S.1 56 32)).1 56 32), .ref 76], (gh_mo (gh_fI S 56 33 (S.1 56 32)), 0, 0))) (fun _ => rfl) ?_
    obtain ⟨x1, hx1, h⟩ := gh_bi h
    refine gh_T_rb rfl (Or.inl rfl) rfl hx1 ?_
    refine gh_T_steps 2 (τ := (68, [(2, .int x1), (0, .ref 56), (1, .int l1)], [.int x1], (gh_mo (gh_fI S 56 33 (S.1 56 32)), 0, 0))) (fun _ => rfl) ?_
    obtain ⟨q2, hq2, h⟩ := gh_bi h
    refine gh_T_is (As := [.int x1]) (rest := []) (y := some (.int q2.1)) (M' := gh_mo q2.2) rfl rfl rfl rfl rfl rfl rfl ⟨Nat.le_refl _, Nat.le_refl _⟩ (kX10_isLetter d N x1 (gh_fI S 56 33 (S.1 56 32)) q2 hq2) ?_
    cases c6 : gh_cmp .eq q2.1 0 with
    | true =>
      rw [c6, cond_true] at h
      refine gh_T_if true rfl c6 ?_
      refine gh_T_steps 4 (τ := (195, [(2, .int x1), (0, .ref 56), (1, .int l1)], [.long 57, .long 48, .long ((x1 : Int32).toInt64)], (gh_mo q2.2, 0, 0))) (fun _ => rfl) ?_
      obtain ⟨q3, hq3, h⟩ := gh_bi h
      refine gh_T_is (As := [.long ((x1 : Int32).toInt64), .long 48, .long 57]) (rest := []) (y := some (.int q3.1)) (M' := gh_mo q3.2) rfl rfl rfl rfl rfl rfl rfl ⟨Nat.le_refl _, Nat.le_refl _⟩ (kX10_in (d + 1) N ((x1 : Int32).toInt64) 48 57 q2.2 q3 hq3) ?_
      cases c5 : gh_cmp .eq q3.1 0 with
      | true =>
        rw [c5, cond_true] at h
        refine gh_T_if true rfl c5 ?_
        refine gh_T_steps 9 (τ := (309, [(2, .int x1), (0, .ref 56), (1, .int l1)], [.int 59, .int x1, .ref 56], (gh_mo (gh_fI q3.2 56 32 ((q3.2.1 56 32) + (1 : Int32))), 0, 0))) (fun _ => rfl) ?_
        cases c4 : gh_cmp .ne x1 59 with
        | true =>
          rw [c4, cond_true] at h
          refine gh_T_ic true rfl c4 ?_
          refine gh_T_steps 1 (τ := (317, [(2, .int x1), (0, .ref 56), (1, .int l1)], [.int 4, .ref 56], (gh_mo (gh_fI q3.2 56 32 ((q3.2.1 56 32) + (1 : Int32))), 0, 0))) (fun _ => rfl) ?_
          refine gh_T_weak (lv := []) trivial ?_
          exact kX10_next_317 d N 4 (gh_fI q3.2 56 32 ((q3.2.1 56 32) + (1 : Int32))) _ h
        | false =>
          rw [c4, cond_false] at h
          refine gh_T_ic false rfl c4 ?_
          refine gh_T_steps 2 (τ := (317, [(2, .int x1), (0, .ref 56), (1, .int l1)], [.int 3, .ref 56], (gh_mo (gh_fI q3.2 56 32 ((q3.2.1 56 32) + (1 : Int32))), 0, 0))) (fun _ => rfl) ?_
          refine gh_T_weak (lv := []) trivial ?_
          exact kX10_next_317 d N 3 (gh_fI q3.2 56 32 ((q3.2.1 56 32) + (1 : Int32))) _ h
      | false =>
        rw [c5, cond_false] at h
        refine gh_T_if false rfl c5 ?_
        refine gh_T_steps 6 (τ := (211, [(2, .int x1), (0, .ref 56), (1, .int l1)], [], (gh_mo (gh_fI (gh_fI q3.2 56 34 2) 56 35 0), 0, 0))) (fun _ => rfl) ?_
        refine gh_T_weak (lv := [(0, .ref 56), (1, .int l1)]) ⟨rfl, rfl, trivial⟩ ?_
        exact kX10_next_211 d N N l1 (gh_fI (gh_fI q3.2 56 34 2) 56 35 0) _ h
    | false =>
      rw [c6, cond_false] at h
      refine gh_T_if false rfl c6 ?_
      refine gh_T_steps 4 (τ := (79, [(5, .int 0), (3, .long 0), (2, .int x1), (0, .ref 56), (1, .int l1)], [], (gh_mo q2.2, 0, 0))) (fun _ => rfl) ?_
      refine gh_T_weak (lv := [(0, .ref 56), (1, .int l1), (3, .long 0), (5, .int 0)]) ⟨rfl, rfl, rfl, rfl, trivial⟩ ?_
      exact kX10_next_79 d N N l1 0 0 q2.2 _ h
  | false =>
    rw [c7, cond_false] at h
    refine gh_T_ic false rfl c7 ?_
    refine gh_T_steps 3 (τ := (56, [(0, .ref 56), (1, .int l1)], [], (gh_mo (gh_fI (gh_fI S 56 33 (S.1 56 32)) 56 34 0), 0, 0))) (fun _ => rfl) ?_
    cases h
    exact gh_T_ret (fun _ => rfl)
def sX10_next_0h (N : Nat) : Nat → Int32 → gh_St → Option (gh_St)
  | 0, _, _ => none
  | n + 1, l1, S =>
    bif gh_cmp .ge (S.1 56 32) l1 then
      (sX10_next_35 N l1 S)
    else
      ((gh_ra S 76 200 (S.1 56 32)).bind fun x1 =>
      bif gh_cmp .ne x1 32 then
        (sX10_next_35 N l1 S)
      else
        ((sX10_next_0h N n) l1 (gh_fI S 56 32 ((S.1 56 32) + (1 : Int32)))))
set_option maxRecDepth 100000 in
theorem kX10_next_0h (d N : Nat) : ∀ (n : Nat) (l1 : Int32) (S : gh_St) (r : gh_St), sX10_next_0h N n l1 S = some r → gh_T (d + 2) fX10_next 0 0 none false false (0, [(0, .ref 56), (1, .int l1)], [], (gh_mo S, 0, 0)) (none, (gh_mo r, 0, 0)) := by
  intro n
  induction n with
  | zero =>
    intro l1 S r h
    cases h
  | succ n ih =>
    intro l1 S r h
    rw [sX10_next_0h] at h
    refine gh_T_steps 3 (τ := (5, [(0, .ref 56), (1, .int l1)], [.int l1, .int (S.1 56 32)], (gh_mo S, 0, 0))) (fun _ => rfl) ?_
    cases c3 : gh_cmp .ge (S.1 56 32) l1 with
    | true =>
      rw [c3, cond_true] at h
      refine gh_T_ic true rfl c3 ?_
      exact kX10_next_35 d N l1 S _ h
    | false =>
      rw [c3, cond_false] at h
      refine gh_T_ic false rfl c3 ?_
      refine gh_T_steps 4 (τ := (16, [(0, .ref 56), (1, .int l1)], [.int (S.1 56 32), .ref 76], (gh_mo S, 0, 0))) (fun _ => rfl) ?_
      obtain ⟨x1, hx1, h⟩ := gh_bi h
      refine gh_T_rb rfl (Or.inl rfl) rfl hx1 ?_
      refine gh_T_steps 1 (τ := (19, [(0, .ref 56), (1, .int l1)], [.int 32, .int x1], (gh_mo S, 0, 0))) (fun _ => rfl) ?_
      cases c2 : gh_cmp .ne x1 32 with
      | true =>
        rw [c2, cond_true] at h
        refine gh_T_ic true rfl c2 ?_
        exact kX10_next_35 d N l1 S _ h
      | false =>
        rw [c2, cond_false] at h
        refine gh_T_ic false rfl c2 ?_
        refine gh_T_steps 7 (τ := (0, [(0, .ref 56), (1, .int l1)], [], (gh_mo (gh_fI S 56 32 ((S.1 56 32) + (1 : Int32))), 0, 0))) (fun _ => rfl) ?_
        exact ih l1 (gh_fI S 56 32 ((S.1 56 32) + (1 : Int32))) _ h
def sX10_next (N : Nat) (a1 : Int32) (S : gh_St) : Option (gh_St) :=
  sX10_next_0h N N a1 S
set_option maxRecDepth 100000 in
theorem kX10_next_e (d N : Nat) (a1 : Int32) (S : gh_St) (r : gh_St) (h : sX10_next N a1 S = some r) : gh_T (d + 2) fX10_next 0 0 none false false (0, [(0, .ref 56), (1, .int a1)], [], (gh_mo S, 0, 0)) (none, (gh_mo r, 0, 0)) := by
  unfold sX10_next at h
  exact kX10_next_0h d N N a1 S _ h
theorem kX10_next (d N : Nat) (a1 : Int32) (S : gh_St) (r : gh_St) (h : sX10_next N a1 S = some r) : gh_Mx (d + 3) 164 [.ref 56, .int a1] (gh_mo S) none (gh_mo r) :=
  gh_Mx_of rfl rfl rfl rfl rfl rfl (kX10_next_e d N a1 S r h)
def sX10_errs (N : Nat) (a1 : Int32) (S : gh_St) : Option (gh_St) :=
  bif gh_cmp .ne (S.1 56 36) 0 then
    (some S)
  else
    (some (gh_fI (gh_fI S 56 36 a1) 56 37 ((gh_fI S 56 36 a1).1 56 33)))
set_option maxRecDepth 100000 in
theorem kX10_errs_e (d N : Nat) (a1 : Int32) (S : gh_St) (r : gh_St) (h : sX10_errs N a1 S = some r) : gh_T d fX10_errs 0 0 none false false (0, [(0, .ref 56), (1, .int a1)], [], (gh_mo S, 0, 0)) (none, (gh_mo r, 0, 0)) := by
  unfold sX10_errs at h
  refine gh_T_steps 2 (τ := (4, [(0, .ref 56), (1, .int a1)], [.int (S.1 56 36)], (gh_mo S, 0, 0))) (fun _ => rfl) ?_
  cases c1 : gh_cmp .ne (S.1 56 36) 0 with
  | true =>
    rw [c1, cond_true] at h
    refine gh_T_if true rfl c1 ?_
    cases h
    exact gh_T_ret (fun _ => rfl)
  | false =>
    rw [c1, cond_false] at h
    refine gh_T_if false rfl c1 ?_
    refine gh_T_steps 7 (τ := (20, [(0, .ref 56), (1, .int a1)], [], (gh_mo (gh_fI (gh_fI S 56 36 a1) 56 37 ((gh_fI S 56 36 a1).1 56 33)), 0, 0))) (fun _ => rfl) ?_
    cases h
    exact gh_T_ret (fun _ => rfl)
theorem kX10_errs (d N : Nat) (a1 : Int32) (S : gh_St) (r : gh_St) (h : sX10_errs N a1 S = some r) : gh_Mx (d + 1) 165 [.ref 56, .int a1] (gh_mo S) none (gh_mo r) :=
  gh_Mx_of rfl rfl rfl rfl rfl rfl (kX10_errs_e d N a1 S r h)
def sX10_wasDock_31 (N : Nat) (kc4 : Int32 → Int32 → Int32 → gh_St → Option (Int32 × gh_St)) (l1 : Int32) (l3 : Int32) (t0 : Int32) (S : gh_St) : Option (Int32 × gh_St) :=
  kc4 l1 t0 (l3 + 1) S
set_option maxRecDepth 100000 in
theorem kX10_wasDock_31 (d N : Nat) (kc4 : Int32 → Int32 → Int32 → gh_St → Option (Int32 × gh_St)) (hkc4 : ∀ (l1 : Int32) (l2 : Int32) (l3 : Int32) (S : gh_St) (r : Int32 × gh_St), kc4 l1 l2 l3 S = some r → gh_T d fX10_wasDock 0 0 none true false (4, [(0, .ref 56), (1, .int l1), (2, .int l2), (3, .int l3)], [], (gh_mo S, 0, 0)) (some (.int r.1), (gh_mo r.2, 0, 0))) (l1 : Int32) (l3 : Int32) (t0 : Int32) (S : gh_St) (r : Int32 × gh_St) (h : sX10_wasDock_31 N kc4 l1 l3 t0 S = some r) : gh_T d fX10_wasDock 0 0 none true false (31, [(0, .ref 56), (1, .int l1), (3, .int l3)], [.int t0], (gh_mo S, 0, 0)) (some (.int r.1), (gh_mo r.2, 0, 0)) := by
  unfold sX10_wasDock_31 at h
  refine gh_T_steps 3 (τ := (4, [(3, .int (l3 + 1)), (2, .int t0), (0, .ref 56), (1, .int l1)], [], (gh_mo S, 0, 0))) (fun _ => rfl) ?_
  refine gh_T_weak (lv := [(0, .ref 56), (1, .int l1), (2, .int t0), (3, .int (l3 + 1))]) ⟨rfl, rfl, rfl, rfl, trivial⟩ ?_
  exact hkc4 l1 t0 (l3 + 1) S _ h
def sX10_wasDock_26 (N : Nat) (kc4 : Int32 → Int32 → Int32 → gh_St → Option (Int32 × gh_St)) (l1 : Int32) (l3 : Int32) (S : gh_St) : Option (Int32 × gh_St) :=
  sX10_wasDock_31 N kc4 l1 l3 1 S
set_option maxRecDepth 100000 in
theorem kX10_wasDock_26 (d N : Nat) (kc4 : Int32 → Int32 → Int32 → gh_St → Option (Int32 × gh_St)) (hkc4 : ∀ (l1 : Int32) (l2 : Int32) (l3 : Int32) (S : gh_St) (r : Int32 × gh_St), kc4 l1 l2 l3 S = some r → gh_T d fX10_wasDock 0 0 none true false (4, [(0, .ref 56), (1, .int l1), (2, .int l2), (3, .int l3)], [], (gh_mo S, 0, 0)) (some (.int r.1), (gh_mo r.2, 0, 0))) (l1 : Int32) (l3 : Int32) (S : gh_St) (r : Int32 × gh_St) (h : sX10_wasDock_26 N kc4 l1 l3 S = some r) : gh_T d fX10_wasDock 0 0 none true false (26, [(0, .ref 56), (1, .int l1), (3, .int l3)], [], (gh_mo S, 0, 0)) (some (.int r.1), (gh_mo r.2, 0, 0)) := by
  unfold sX10_wasDock_26 at h
  refine gh_T_steps 2 (τ := (31, [(0, .ref 56), (1, .int l1), (3, .int l3)], [.int 1], (gh_mo S, 0, 0))) (fun _ => rfl) ?_
  exact kX10_wasDock_31 d N kc4 hkc4 l1 l3 1 S _ h
def sX10_wasDock_4 (N : Nat) : Nat → Int32 → Int32 → Int32 → gh_St → Option (Int32 × gh_St)
  | 0, _, _, _, _ => none
  | n + 1, l1, l2, l3, S =>
    bif gh_cmp .ge l3 (S.1 56 41) then
      ((gh_gB l2).bind fun x1 => some (x1, S))
    else
      (bif gh_cmp .ne l2 0 then
        (sX10_wasDock_26 N (sX10_wasDock_4 N n) l1 l3 S)
      else
        ((gh_ra S 78 8 l3).bind fun x2 =>
        bif gh_cmp .ne x2 l1 then
          (sX10_wasDock_31 N (sX10_wasDock_4 N n) l1 l3 0 S)
        else
          (sX10_wasDock_26 N (sX10_wasDock_4 N n) l1 l3 S)))
set_option maxRecDepth 100000 in
theorem kX10_wasDock_4 (d N : Nat) : ∀ (n : Nat) (l1 : Int32) (l2 : Int32) (l3 : Int32) (S : gh_St) (r : Int32 × gh_St), sX10_wasDock_4 N n l1 l2 l3 S = some r → gh_T d fX10_wasDock 0 0 none true false (4, [(0, .ref 56), (1, .int l1), (2, .int l2), (3, .int l3)], [], (gh_mo S, 0, 0)) (some (.int r.1), (gh_mo r.2, 0, 0)) := by
  intro n
  induction n with
  | zero =>
    intro l1 l2 l3 S r h
    cases h
  | succ n ih =>
    intro l1 l2 l3 S r h
    rw [sX10_wasDock_4] at h
    refine gh_T_steps 3 (τ := (9, [(0, .ref 56), (1, .int l1), (2, .int l2), (3, .int l3)], [.int (S.1 56 41), .int l3], (gh_mo S, 0, 0))) (fun _ => rfl) ?_
    cases c5 : gh_cmp .ge l3 (S.1 56 41) with
    | true =>
      rw [c5, cond_true] at h
      refine gh_T_ic true rfl c5 ?_
      refine gh_T_steps 1 (τ := (39, [(0, .ref 56), (1, .int l1), (2, .int l2), (3, .int l3)], [.int l2], (gh_mo S, 0, 0))) (fun _ => rfl) ?_
      obtain ⟨x1, hx1, h⟩ := gh_bi h
      obtain ⟨hz, rfl⟩ := gh_bs hx1
      cases h
      exact gh_T_rz rfl hz
    | false =>
      rw [c5, cond_false] at h
      refine gh_T_ic false rfl c5 ?_
      refine gh_T_steps 1 (τ := (13, [(0, .ref 56), (1, .int l1), (2, .int l2), (3, .int l3)], [.int l2], (gh_mo S, 0, 0))) (fun _ => rfl) ?_
      cases c4 : gh_cmp .ne l2 0 with
      | true =>
        rw [c4, cond_true] at h
        refine gh_T_if true rfl c4 ?_
        refine gh_T_weak (lv := [(0, .ref 56), (1, .int l1), (3, .int l3)]) ⟨rfl, rfl, rfl, trivial⟩ ?_
        exact kX10_wasDock_26 d N (sX10_wasDock_4 N n) ih l1 l3 S _ h
      | false =>
        rw [c4, cond_false] at h
        refine gh_T_if false rfl c4 ?_
        refine gh_T_steps 3 (τ := (21, [(0, .ref 56), (1, .int l1), (2, .int l2), (3, .int l3)], [.int l3, .ref 78], (gh_mo S, 0, 0))) (fun _ => rfl) ?_
        obtain ⟨x2, hx2, h⟩ := gh_bi h
        refine gh_T_ra rfl rfl hx2 ?_
        refine gh_T_steps 1 (τ := (23, [(0, .ref 56), (1, .int l1), (2, .int l2), (3, .int l3)], [.int l1, .int x2], (gh_mo S, 0, 0))) (fun _ => rfl) ?_
        cases c3 : gh_cmp .ne x2 l1 with
        | true =>
          rw [c3, cond_true] at h
          refine gh_T_ic true rfl c3 ?_
          refine gh_T_steps 1 (τ := (31, [(0, .ref 56), (1, .int l1), (2, .int l2), (3, .int l3)], [.int 0], (gh_mo S, 0, 0))) (fun _ => rfl) ?_
          refine gh_T_weak (lv := [(0, .ref 56), (1, .int l1), (3, .int l3)]) ⟨rfl, rfl, rfl, trivial⟩ ?_
          exact kX10_wasDock_31 d N (sX10_wasDock_4 N n) ih l1 l3 0 S _ h
        | false =>
          rw [c3, cond_false] at h
          refine gh_T_ic false rfl c3 ?_
          refine gh_T_weak (lv := [(0, .ref 56), (1, .int l1), (3, .int l3)]) ⟨rfl, rfl, rfl, trivial⟩ ?_
          exact kX10_wasDock_26 d N (sX10_wasDock_4 N n) ih l1 l3 S _ h
def sX10_wasDock (N : Nat) (a1 : Int32) (S : gh_St) : Option (Int32 × gh_St) :=
  sX10_wasDock_4 N N a1 0 0 S
set_option maxRecDepth 100000 in
theorem kX10_wasDock_e (d N : Nat) (a1 : Int32) (S : gh_St) (r : Int32 × gh_St) (h : sX10_wasDock N a1 S = some r) : gh_T d fX10_wasDock 0 0 none true false (0, [(0, .ref 56), (1, .int a1)], [], (gh_mo S, 0, 0)) (some (.int r.1), (gh_mo r.2, 0, 0)) := by
  unfold sX10_wasDock at h
  refine gh_T_steps 4 (τ := (4, [(3, .int 0), (2, .int 0), (0, .ref 56), (1, .int a1)], [], (gh_mo S, 0, 0))) (fun _ => rfl) ?_
  refine gh_T_weak (lv := [(0, .ref 56), (1, .int a1), (2, .int 0), (3, .int 0)]) ⟨rfl, rfl, rfl, rfl, trivial⟩ ?_
  exact kX10_wasDock_4 d N N a1 0 0 S _ h
theorem kX10_wasDock (d N : Nat) (a1 : Int32) (S : gh_St) (r : Int32 × gh_St) (h : sX10_wasDock N a1 S = some r) : gh_Mx (d + 1) 166 [.ref 56, .int a1] (gh_mo S) (some (.int r.1)) (gh_mo r.2) :=
  gh_Mx_of rfl rfl rfl rfl rfl rfl (kX10_wasDock_e d N a1 S r h)
def sX10_number_15 (N : Nat) (l1 : Int32) (S : gh_St) : Option (Int32 × gh_St) :=
  (sX10_errs N 1 S).bind fun q1 =>
  some (l1, q1)
set_option maxRecDepth 100000 in
theorem kX10_number_15 (d N : Nat) (l1 : Int32) (S : gh_St) (r : Int32 × gh_St) (h : sX10_number_15 N l1 S = some r) : gh_T (d + 3) fX10_number 0 0 none false false (15, [(0, .ref 56), (1, .int l1)], [], (gh_mo S, 0, 0)) (some (.int r.1), (gh_mo r.2, 0, 0)) := by
  unfold sX10_number_15 at h
  refine gh_T_steps 2 (τ := (17, [(0, .ref 56), (1, .int l1)], [.int 1, .ref 56], (gh_mo S, 0, 0))) (fun _ => rfl) ?_
  obtain ⟨q1, hq1, h⟩ := gh_bi h
  refine gh_T_iv (As := [.int 1]) (b := 56) (rest := []) (y := none) (M' := gh_mo q1) rfl rfl rfl rfl rfl rfl rfl rfl rfl ⟨Nat.le_refl _, Nat.le_refl _⟩ (kX10_errs (d + 2) N 1 S q1 hq1) ?_
  refine gh_T_steps 1 (τ := (21, [(0, .ref 56), (1, .int l1)], [.int l1], (gh_mo q1, 0, 0))) (fun _ => rfl) ?_
  cases h
  exact gh_T_ret (fun _ => rfl)
def sX10_number (N : Nat) (a1 : Int32) (a2 : Int32) (a3 : Int32) (S : gh_St) : Option (Int32 × gh_St) :=
  bif gh_cmp .gt (S.1 56 36) 0 then
    (sX10_number_15 N a1 S)
  else
    (bif gh_cmp .eq (S.1 56 34) 2 then
      ((sX10_in N ((S.1 56 35 : Int32).toInt64) ((a1 : Int32).toInt64) ((a2 : Int32).toInt64) S).bind fun q1 =>
      bif gh_cmp .ne q1.1 0 then
        ((sX10_next N a3 q1.2).bind fun q2 =>
        some (q1.2.1 56 35, q2))
      else
        ((sX10_errs N 3 q1.2).bind fun q3 =>
        some (a1, q3)))
    else
      (sX10_number_15 N a1 S))
set_option maxRecDepth 100000 in
theorem kX10_number_e (d N : Nat) (a1 : Int32) (a2 : Int32) (a3 : Int32) (S : gh_St) (r : Int32 × gh_St) (h : sX10_number N a1 a2 a3 S = some r) : gh_T (d + 3) fX10_number 0 0 none false false (0, [(0, .ref 56), (1, .int a1), (2, .int a2), (3, .int a3)], [], (gh_mo S, 0, 0)) (some (.int r.1), (gh_mo r.2, 0, 0)) := by
  unfold sX10_number at h
  refine gh_T_steps 2 (τ := (4, [(0, .ref 56), (1, .int a1), (2, .int a2), (3, .int a3)], [.int (S.1 56 36)], (gh_mo S, 0, 0))) (fun _ => rfl) ?_
  cases c6 : gh_cmp .gt (S.1 56 36) 0 with
  | true =>
    rw [c6, cond_true] at h
    refine gh_T_if true rfl c6 ?_
    refine gh_T_weak (lv := [(0, .ref 56), (1, .int a1)]) ⟨rfl, rfl, trivial⟩ ?_
    exact kX10_number_15 d N a1 S _ h
  | false =>
    rw [c6, cond_false] at h
    refine gh_T_if false rfl c6 ?_
    refine gh_T_steps 3 (τ := (12, [(0, .ref 56), (1, .int a1), (2, .int a2), (3, .int a3)], [.int 2, .int (S.1 56 34)], (gh_mo S, 0, 0))) (fun _ => rfl) ?_
    cases c5 : gh_cmp .eq (S.1 56 34) 2 with
    | true =>
      rw [c5, cond_true] at h
      refine gh_T_ic true rfl c5 ?_
      refine gh_T_steps 7 (τ := (31, [(0, .ref 56), (1, .int a1), (2, .int a2), (3, .int a3)], [.long ((a2 : Int32).toInt64), .long ((a1 : Int32).toInt64), .long ((S.1 56 35 : Int32).toInt64)], (gh_mo S, 0, 0))) (fun _ => rfl) ?_
      obtain ⟨q1, hq1, h⟩ := gh_bi h
      refine gh_T_is (As := [.long ((S.1 56 35 : Int32).toInt64), .long ((a1 : Int32).toInt64), .long ((a2 : Int32).toInt64)]) (rest := []) (y := some (.int q1.1)) (M' := gh_mo q1.2) rfl rfl rfl rfl rfl rfl rfl ⟨Nat.le_refl _, Nat.le_refl _⟩ (kX10_in (d + 2) N ((S.1 56 35 : Int32).toInt64) ((a1 : Int32).toInt64) ((a2 : Int32).toInt64) S q1 hq1) ?_
      cases c4 : gh_cmp .ne q1.1 0 with
      | true =>
        rw [c4, cond_true] at h
        refine gh_T_if true rfl c4 ?_
        refine gh_T_steps 5 (τ := (52, [(4, .int (q1.2.1 56 35)), (0, .ref 56), (1, .int a1), (2, .int a2), (3, .int a3)], [.int a3, .ref 56], (gh_mo q1.2, 0, 0))) (fun _ => rfl) ?_
        obtain ⟨q2, hq2, h⟩ := gh_bi h
        refine gh_T_iv (As := [.int a3]) (b := 56) (rest := []) (y := none) (M' := gh_mo q2) rfl rfl rfl rfl rfl rfl rfl rfl rfl ⟨Nat.le_refl _, Nat.le_refl _⟩ (kX10_next d N a3 q1.2 q2 hq2) ?_
        refine gh_T_steps 1 (τ := (57, [(4, .int (q1.2.1 56 35)), (0, .ref 56), (1, .int a1), (2, .int a2), (3, .int a3)], [.int (q1.2.1 56 35)], (gh_mo q2, 0, 0))) (fun _ => rfl) ?_
        cases h
        exact gh_T_ret (fun _ => rfl)
      | false =>
        rw [c4, cond_false] at h
        refine gh_T_if false rfl c4 ?_
        refine gh_T_steps 2 (τ := (39, [(0, .ref 56), (1, .int a1), (2, .int a2), (3, .int a3)], [.int 3, .ref 56], (gh_mo q1.2, 0, 0))) (fun _ => rfl) ?_
        obtain ⟨q3, hq3, h⟩ := gh_bi h
        refine gh_T_iv (As := [.int 3]) (b := 56) (rest := []) (y := none) (M' := gh_mo q3) rfl rfl rfl rfl rfl rfl rfl rfl rfl ⟨Nat.le_refl _, Nat.le_refl _⟩ (kX10_errs (d + 2) N 3 q1.2 q3 hq3) ?_
        refine gh_T_steps 1 (τ := (43, [(0, .ref 56), (1, .int a1), (2, .int a2), (3, .int a3)], [.int a1], (gh_mo q3, 0, 0))) (fun _ => rfl) ?_
        cases h
        exact gh_T_ret (fun _ => rfl)
    | false =>
      rw [c5, cond_false] at h
      refine gh_T_ic false rfl c5 ?_
      refine gh_T_weak (lv := [(0, .ref 56), (1, .int a1)]) ⟨rfl, rfl, trivial⟩ ?_
      exact kX10_number_15 d N a1 S _ h
theorem kX10_number (d N : Nat) (a1 : Int32) (a2 : Int32) (a3 : Int32) (S : gh_St) (r : Int32 × gh_St) (h : sX10_number N a1 a2 a3 S = some r) : gh_Mx (d + 4) 167 [.ref 56, .int a1, .int a2, .int a3] (gh_mo S) (some (.int r.1)) (gh_mo r.2) :=
  gh_Mx_of rfl rfl rfl rfl rfl rfl (kX10_number_e d N a1 a2 a3 S r h)

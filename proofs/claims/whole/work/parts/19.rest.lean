/-! ===== the recursion of Rush, and what calls it ===== -/
theorem gh_T_cp {d : Nat} {f : Nat → Option gh_E} {bc bs : Nat} {sc : Option (Nat × (Nat → Int32))} {zr ini : Bool} {pc ln : Nat} {w : Int32} {xx : Int64} {lv : gh_L} {st : List Value} {S S' : gh_St} {kj : Nat × Nat} {r : gh_R} {k0 n a n1 b n0 : Nat} {sp dp nn : Int32} (hf : f pc = some (.invokestatic k0, ln, 1003, n, w, xx)) (ha : gh_shp[a]? = some (.inl (0, n1))) (hb : gh_shp[b]? = some (.inl (0, n0))) (h : gh_cp S a n1 b n0 sp dp nn = some S') (hrm : gh_rm st = true) (kk : gh_T d f bc bs sc zr ini (pc + 3, lv, st, (gh_mo S', kj)) r) : gh_T d f bc bs sc zr ini (pc, lv, .int nn :: .int dp :: .ref a :: .int sp :: .ref b :: st, (gh_mo S, kj)) r := by
  obtain ⟨h1, rfl⟩ := gh_bs h
  refine gh_T_step (fun O => ?_) kk
  unfold gh_step
  rw [hf]
  show gh_lift lv (gh_acp pc (.int nn :: .int dp :: .ref a :: .int sp :: .ref b :: st) (gh_mo S, kj)) = _
  unfold gh_acp
  show gh_lift lv (match gh_shp[a]?, gh_shp[b]? with
    | some (.inl (0, n1)), some (.inl (0, n0)) => bif gh_rm st && !decide (sp < 0) && !decide (dp < 0) && !decide (nn < 0) && Nat.ble (sp.toNatClampNeg + nn.toNatClampNeg) n0 && Nat.ble (dp.toNatClampNeg + nn.toNatClampNeg) n1 then
        gh_k (pc + 3) st (gh_mI (gh_mo S) a (va_cpy ((gh_mo S).2.1 b) ((gh_mo S).2.1 a) sp.toNatClampNeg dp.toNatClampNeg nn.toNatClampNeg), kj) else none
    | _, _ => none) = _
  rw [ha, hb]
  show gh_lift lv (bif gh_rm st && !decide (sp < 0) && !decide (dp < 0) && !decide (nn < 0) && Nat.ble (sp.toNatClampNeg + nn.toNatClampNeg) n0 && Nat.ble (dp.toNatClampNeg + nn.toNatClampNeg) n1 then
        gh_k (pc + 3) st (gh_mI (gh_mo S) a (va_cpy ((gh_mo S).2.1 b) ((gh_mo S).2.1 a) sp.toNatClampNeg dp.toNatClampNeg nn.toNatClampNeg), kj) else none) = _
  rw [hrm]
  have e : (true && !decide (sp < 0) && !decide (dp < 0) && !decide (nn < 0) && Nat.ble (sp.toNatClampNeg + nn.toNatClampNeg) n0 && Nat.ble (dp.toNatClampNeg + nn.toNatClampNeg) n1) = true := h1
  rw [e]
  rfl
def sX7_tryAll_151 (N : Nat) (rc : Int32 → Int32 → Int32 → Int32 → gh_St → Option (gh_St)) (kc35 : Int32 → Int32 → Int32 → Int32 → Int32 → gh_St → Option (gh_St)) (l1 : Int32) (l2 : Int32) (l3 : Int32) (l4 : Int32) (l5 : Int32) (S : gh_St) : Option (gh_St) :=
  kc35 l1 l2 l3 l4 (l5 + 1) S
set_option maxRecDepth 100000 in
theorem kX7_tryAll_151 (d N : Nat) (rc : Int32 → Int32 → Int32 → Int32 → gh_St → Option (gh_St)) (hrc : ∀ (a1 : Int32) (a2 : Int32) (a3 : Int32) (a4 : Int32) (S : gh_St) (r : gh_St), rc a1 a2 a3 a4 S = some r → gh_Mx (d + 1) 71 [.ref 18, .int a1, .int a2, .int a3, .int a4] (gh_mo S) none (gh_mo r)) (kc35 : Int32 → Int32 → Int32 → Int32 → Int32 → gh_St → Option (gh_St)) (hkc35 : ∀ (l1 : Int32) (l2 : Int32) (l3 : Int32) (l4 : Int32) (l5 : Int32) (S : gh_St) (r : gh_St), kc35 l1 l2 l3 l4 l5 S = some r → gh_T (d + 1) fX7_tryAll 0 0 none false false (35, [(0, .ref 18), (1, .int l1), (2, .int l2), (3, .int l3), (4, .int l4), (5, .int l5)], [], (gh_mo S, 0, 0)) (none, (gh_mo r, 0, 0))) (l1 : Int32) (l2 : Int32) (l3 : Int32) (l4 : Int32) (l5 : Int32) (S : gh_St) (r : gh_St) (h : sX7_tryAll_151 N rc kc35 l1 l2 l3 l4 l5 S = some r) : gh_T (d + 1) fX7_tryAll 0 0 none false false (151, [(0, .ref 18), (1, .int l1), (2, .int l2), (3, .int l3), (4, .int l4), (5, .int l5)], [], (gh_mo S, 0, 0)) (none, (gh_mo r, 0, 0)) := by
  unfold sX7_tryAll_151 at h
  refine gh_T_steps 2 (τ := (35, [(5, .int (l5 + 1)), (0, .ref 18), (1, .int l1), (2, .int l2), (3, .int l3), (4, .int l4)], [], (gh_mo S, 0, 0))) (fun _ => rfl) ?_
  refine gh_T_weak (lv := [(0, .ref 18), (1, .int l1), (2, .int l2), (3, .int l3), (4, .int l4), (5, .int (l5 + 1))]) ⟨rfl, rfl, rfl, rfl, rfl, rfl, trivial⟩ ?_
  exact hkc35 l1 l2 l3 l4 (l5 + 1) S _ h
def sX7_tryAll_35 (N : Nat) (rc : Int32 → Int32 → Int32 → Int32 → gh_St → Option (gh_St)) : Nat → Int32 → Int32 → Int32 → Int32 → Int32 → gh_St → Option (gh_St)
  | 0, _, _, _, _, _, _ => none
  | n + 1, l1, l2, l3, l4, l5, S =>
    bif gh_cmp .ge l5 (S.1 18 7) then
      (some S)
    else
      (bif gh_cmp .eq ((l2 >>> (l5 &&& 31)) &&& (1 : Int32)) 0 then
        ((gh_ra S 19 7 l5).bind fun x1 =>
        (gh_ra S 19 7 l5).bind fun x2 =>
        (gh_ra S 21 7 l5).bind fun x3 =>
        (sX7_takes N l1 l5 S).bind fun q4 =>
        (gh_wa q4.2 23 7 l1 l5).bind fun S5 =>
        (sX7_atLeast N (l2 ||| ((1 : Int32) <<< (l5 &&& 31))) ((gh_max l3 x1) + q4.1) S5).bind fun q6 =>
        bif gh_cmp .ge ((l4 + (((gh_max l3 x1) - x2) * x3)) + q6.1) (q6.2.1 18 10) then
          (sX7_tryAll_151 N rc (sX7_tryAll_35 N rc n) l1 l2 l3 l4 l5 q6.2)
        else
          ((rc (l1 + (1 : Int32)) (l2 ||| ((1 : Int32) <<< (l5 &&& 31))) ((gh_max l3 x1) + q4.1) (l4 + (((gh_max l3 x1) - x2) * x3)) q6.2).bind fun q7 =>
          sX7_tryAll_151 N rc (sX7_tryAll_35 N rc n) l1 l2 l3 l4 l5 q7))
      else
        (sX7_tryAll_151 N rc (sX7_tryAll_35 N rc n) l1 l2 l3 l4 l5 S))
set_option maxRecDepth 100000 in
theorem kX7_tryAll_35 (d N : Nat) (rc : Int32 → Int32 → Int32 → Int32 → gh_St → Option (gh_St)) (hrc : ∀ (a1 : Int32) (a2 : Int32) (a3 : Int32) (a4 : Int32) (S : gh_St) (r : gh_St), rc a1 a2 a3 a4 S = some r → gh_Mx (d + 1) 71 [.ref 18, .int a1, .int a2, .int a3, .int a4] (gh_mo S) none (gh_mo r)) : ∀ (n : Nat) (l1 : Int32) (l2 : Int32) (l3 : Int32) (l4 : Int32) (l5 : Int32) (S : gh_St) (r : gh_St), sX7_tryAll_35 N rc n l1 l2 l3 l4 l5 S = some r → gh_T (d + 1) fX7_tryAll 0 0 none false false (35, [(0, .ref 18), (1, .int l1), (2, .int l2), (3, .int l3), (4, .int l4), (5, .int l5)], [], (gh_mo S, 0, 0)) (none, (gh_mo r, 0, 0)) := by
  intro n
  induction n with
  | zero =>
    intro l1 l2 l3 l4 l5 S r h
    cases h
  | succ n ih =>
    intro l1 l2 l3 l4 l5 S r h
    rw [sX7_tryAll_35] at h
    refine gh_T_steps 3 (τ := (41, [(0, .ref 18), (1, .int l1), (2, .int l2), (3, .int l3), (4, .int l4), (5, .int l5)], [.int (S.1 18 7), .int l5], (gh_mo S, 0, 0))) (fun _ => rfl) ?_
    cases c10 : gh_cmp .ge l5 (S.1 18 7) with
    | true =>
      rw [c10, cond_true] at h
      refine gh_T_ic true rfl c10 ?_
      cases h
      exact gh_T_ret (fun _ => rfl)
    | false =>
      rw [c10, cond_false] at h
      refine gh_T_ic false rfl c10 ?_
      refine gh_T_steps 5 (τ := (50, [(0, .ref 18), (1, .int l1), (2, .int l2), (3, .int l3), (4, .int l4), (5, .int l5)], [.int ((l2 >>> (l5 &&& 31)) &&& (1 : Int32))], (gh_mo S, 0, 0))) (fun _ => rfl) ?_
      cases c9 : gh_cmp .eq ((l2 >>> (l5 &&& 31)) &&& (1 : Int32)) 0 with
      | true =>
        rw [c9, cond_true] at h
        refine gh_T_if true rfl c9 ?_
        refine gh_T_steps 4 (τ := (63, [(0, .ref 18), (1, .int l1), (2, .int l2), (3, .int l3), (4, .int l4), (5, .int l5)], [.int l5, .ref 19, .int l3], (gh_mo S, 0, 0))) (fun _ => rfl) ?_
        obtain ⟨x1, hx1, h⟩ := gh_bi h
        refine gh_T_ra rfl rfl hx1 ?_
        refine gh_T_steps 7 (τ := (79, [(6, .int (gh_max l3 x1)), (0, .ref 18), (1, .int l1), (2, .int l2), (3, .int l3), (4, .int l4), (5, .int l5)], [.int l5, .ref 19, .int (gh_max l3 x1), .int l4], (gh_mo S, 0, 0))) (fun _ => rfl) ?_
        obtain ⟨x2, hx2, h⟩ := gh_bi h
        refine gh_T_ra rfl rfl hx2 ?_
        refine gh_T_steps 4 (τ := (87, [(6, .int (gh_max l3 x1)), (0, .ref 18), (1, .int l1), (2, .int l2), (3, .int l3), (4, .int l4), (5, .int l5)], [.int l5, .ref 21, .int ((gh_max l3 x1) - x2), .int l4], (gh_mo S, 0, 0))) (fun _ => rfl) ?_
        obtain ⟨x3, hx3, h⟩ := gh_bi h
        refine gh_T_ra rfl rfl hx3 ?_
        refine gh_T_steps 7 (τ := (98, [(7, .int (l4 + (((gh_max l3 x1) - x2) * x3))), (6, .int (gh_max l3 x1)), (0, .ref 18), (1, .int l1), (2, .int l2), (3, .int l3), (4, .int l4), (5, .int l5)], [.int l5, .int l1, .ref 18, .int (gh_max l3 x1)], (gh_mo S, 0, 0))) (fun _ => rfl) ?_
        obtain ⟨q4, hq4, h⟩ := gh_bi h
        refine gh_T_iv (As := [.int l1, .int l5]) (b := 18) (rest := [.int (gh_max l3 x1)]) (y := some (.int q4.1)) (M' := gh_mo q4.2) rfl rfl rfl rfl rfl rfl rfl rfl rfl ⟨Nat.le_refl _, Nat.le_refl _⟩ (kX7_takes d N l1 l5 S q4 hq4) ?_
        refine gh_T_steps 12 (τ := (119, [(9, .int (l2 ||| ((1 : Int32) <<< (l5 &&& 31)))), (8, .int ((gh_max l3 x1) + q4.1)), (7, .int (l4 + (((gh_max l3 x1) - x2) * x3))), (6, .int (gh_max l3 x1)), (0, .ref 18), (1, .int l1), (2, .int l2), (3, .int l3), (4, .int l4), (5, .int l5)], [.int l5, .int l1, .ref 23], (gh_mo q4.2, 0, 0))) (fun _ => rfl) ?_
        obtain ⟨S5, hS5, h⟩ := gh_bi h
        refine gh_T_wa rfl rfl hS5 ?_
        refine gh_T_steps 4 (τ := (127, [(9, .int (l2 ||| ((1 : Int32) <<< (l5 &&& 31)))), (8, .int ((gh_max l3 x1) + q4.1)), (7, .int (l4 + (((gh_max l3 x1) - x2) * x3))), (6, .int (gh_max l3 x1)), (0, .ref 18), (1, .int l1), (2, .int l2), (3, .int l3), (4, .int l4), (5, .int l5)], [.int ((gh_max l3 x1) + q4.1), .int (l2 ||| ((1 : Int32) <<< (l5 &&& 31))), .ref 18, .int (l4 + (((gh_max l3 x1) - x2) * x3))], (gh_mo S5, 0, 0))) (fun _ => rfl) ?_
        obtain ⟨q6, hq6, h⟩ := gh_bi h
        refine gh_T_iv (As := [.int (l2 ||| ((1 : Int32) <<< (l5 &&& 31))), .int ((gh_max l3 x1) + q4.1)]) (b := 18) (rest := [.int (l4 + (((gh_max l3 x1) - x2) * x3))]) (y := some (.int q6.1)) (M' := gh_mo q6.2) rfl rfl rfl rfl rfl rfl rfl rfl rfl ⟨Nat.le_refl _, Nat.le_refl _⟩ (kX7_atLeast d N (l2 ||| ((1 : Int32) <<< (l5 &&& 31))) ((gh_max l3 x1) + q4.1) S5 q6 hq6) ?_
        refine gh_T_steps 3 (τ := (135, [(9, .int (l2 ||| ((1 : Int32) <<< (l5 &&& 31)))), (8, .int ((gh_max l3 x1) + q4.1)), (7, .int (l4 + (((gh_max l3 x1) - x2) * x3))), (6, .int (gh_max l3 x1)), (0, .ref 18), (1, .int l1), (2, .int l2), (3, .int l3), (4, .int l4), (5, .int l5)], [.int (q6.2.1 18 10), .int ((l4 + (((gh_max l3 x1) - x2) * x3)) + q6.1)], (gh_mo q6.2, 0, 0))) (fun _ => rfl) ?_
        cases c8 : gh_cmp .ge ((l4 + (((gh_max l3 x1) - x2) * x3)) + q6.1) (q6.2.1 18 10) with
        | true =>
          rw [c8, cond_true] at h
          refine gh_T_ic true rfl c8 ?_
          refine gh_T_weak (lv := [(0, .ref 18), (1, .int l1), (2, .int l2), (3, .int l3), (4, .int l4), (5, .int l5)]) ⟨rfl, rfl, rfl, rfl, rfl, rfl, trivial⟩ ?_
          exact kX7_tryAll_151 d N rc hrc (sX7_tryAll_35 N rc n) ih l1 l2 l3 l4 l5 q6.2 _ h
        | false =>
          rw [c8, cond_false] at h
          refine gh_T_ic false rfl c8 ?_
          refine gh_T_steps 7 (τ := (148, [(9, .int (l2 ||| ((1 : Int32) <<< (l5 &&& 31)))), (8, .int ((gh_max l3 x1) + q4.1)), (7, .int (l4 + (((gh_max l3 x1) - x2) * x3))), (6, .int (gh_max l3 x1)), (0, .ref 18), (1, .int l1), (2, .int l2), (3, .int l3), (4, .int l4), (5, .int l5)], [.int (l4 + (((gh_max l3 x1) - x2) * x3)), .int ((gh_max l3 x1) + q4.1), .int (l2 ||| ((1 : Int32) <<< (l5 &&& 31))), .int (l1 + (1 : Int32)), .ref 18], (gh_mo q6.2, 0, 0))) (fun _ => rfl) ?_
          obtain ⟨q7, hq7, h⟩ := gh_bi h
          refine gh_T_iv (As := [.int (l1 + (1 : Int32)), .int (l2 ||| ((1 : Int32) <<< (l5 &&& 31))), .int ((gh_max l3 x1) + q4.1), .int (l4 + (((gh_max l3 x1) - x2) * x3))]) (b := 18) (rest := []) (y := none) (M' := gh_mo q7) rfl rfl rfl rfl rfl rfl rfl rfl rfl ⟨Nat.le_refl _, Nat.le_refl _⟩ (hrc (l1 + (1 : Int32)) (l2 ||| ((1 : Int32) <<< (l5 &&& 31))) ((gh_max l3 x1) + q4.1) (l4 + (((gh_max l3 x1) - x2) * x3)) q6.2 q7 hq7) ?_
          refine gh_T_weak (lv := [(0, .ref 18), (1, .int l1), (2, .int l2), (3, .int l3), (4, .int l4), (5, .int l5)]) ⟨rfl, rfl, rfl, rfl, rfl, rfl, trivial⟩ ?_
          exact kX7_tryAll_151 d N rc hrc (sX7_tryAll_35 N rc n) ih l1 l2 l3 l4 l5 q7 _ h
      | false =>
        rw [c9, cond_false] at h
        refine gh_T_if false rfl c9 ?_
        refine gh_T_steps 1 (τ := (151, [(0, .ref 18), (1, .int l1), (2, .int l2), (3, .int l3), (4, .int l4), (5, .int l5)], [], (gh_mo S, 0, 0))) (fun _ => rfl) ?_
        exact kX7_tryAll_151 d N rc hrc (sX7_tryAll_35 N rc n) ih l1 l2 l3 l4 l5 S _ h
def sX7_tryAll (N : Nat) (rc : Int32 → Int32 → Int32 → Int32 → gh_St → Option (gh_St)) (a1 : Int32) (a2 : Int32) (a3 : Int32) (a4 : Int32) (S : gh_St) : Option (gh_St) :=
  bif gh_cmp .lt a1 (S.1 18 7) then
    (sX7_tryAll_35 N rc N a1 a2 a3 a4 0 S)
  else
    ((gh_cp (gh_fI S 18 10 a4) 24 7 23 7 0 0 ((gh_fI S 18 10 a4).1 18 7)).bind fun S1 =>
    some S1)
set_option maxRecDepth 100000 in
theorem kX7_tryAll_e (d N : Nat) (rc : Int32 → Int32 → Int32 → Int32 → gh_St → Option (gh_St)) (hrc : ∀ (a1 : Int32) (a2 : Int32) (a3 : Int32) (a4 : Int32) (S : gh_St) (r : gh_St), rc a1 a2 a3 a4 S = some r → gh_Mx (d + 1) 71 [.ref 18, .int a1, .int a2, .int a3, .int a4] (gh_mo S) none (gh_mo r)) (a1 : Int32) (a2 : Int32) (a3 : Int32) (a4 : Int32) (S : gh_St) (r : gh_St) (h : sX7_tryAll N rc a1 a2 a3 a4 S = some r) : gh_T (d + 1) fX7_tryAll 0 0 none false false (0, [(0, .ref 18), (1, .int a1), (2, .int a2), (3, .int a3), (4, .int a4)], [], (gh_mo S, 0, 0)) (none, (gh_mo r, 0, 0)) := by
  unfold sX7_tryAll at h
  refine gh_T_steps 3 (τ := (5, [(0, .ref 18), (1, .int a1), (2, .int a2), (3, .int a3), (4, .int a4)], [.int (S.1 18 7), .int a1], (gh_mo S, 0, 0))) (fun _ => rfl) ?_
  cases c2 : gh_cmp .lt a1 (S.1 18 7) with
  | true =>
    rw [c2, cond_true] at h
    refine gh_T_ic true rfl c2 ?_
    refine gh_T_steps 2 (τ := (35, [(5, .int 0), (0, .ref 18), (1, .int a1), (2, .int a2), (3, .int a3), (4, .int a4)], [], (gh_mo S, 0, 0))) (fun _ => rfl) ?_
    refine gh_T_weak (lv := [(0, .ref 18), (1, .int a1), (2, .int a2), (3, .int a3), (4, .int a4), (5, .int 0)]) ⟨rfl, rfl, rfl, rfl, rfl, rfl, trivial⟩ ?_
    exact kX7_tryAll_35 d N rc hrc N a1 a2 a3 a4 0 S _ h
  | false =>
    rw [c2, cond_false] at h
    refine gh_T_ic false rfl c2 ?_
    refine gh_T_steps 11 (τ := (28, [(0, .ref 18), (1, .int a1), (2, .int a2), (3, .int a3), (4, .int a4)], [.int ((gh_fI S 18 10 a4).1 18 7), .int 0, .ref 24, .int 0, .ref 23], (gh_mo (gh_fI S 18 10 a4), 0, 0))) (fun _ => rfl) ?_
    obtain ⟨S1, hS1, h⟩ := gh_bi h
    refine gh_T_cp rfl rfl rfl hS1 rfl ?_
    cases h
    exact gh_T_ret (fun _ => rfl)
def sX7_tryAll_r (N : Nat) : Nat → Int32 → Int32 → Int32 → Int32 → gh_St → Option (gh_St)
  | 0, _, _, _, _, _ => none
  | q + 1, a1, a2, a3, a4, S => sX7_tryAll N (sX7_tryAll_r N q) a1 a2 a3 a4 S
theorem kX7_tryAll_r (N : Nat) : ∀ (q d : Nat) (a1 : Int32) (a2 : Int32) (a3 : Int32) (a4 : Int32) (S : gh_St) (r : gh_St), sX7_tryAll_r N q a1 a2 a3 a4 S = some r → gh_Mx (d + 1 + q) 71 [.ref 18, .int a1, .int a2, .int a3, .int a4] (gh_mo S) none (gh_mo r) := by
  intro q
  induction q with
  | zero =>
    intro d a1 a2 a3 a4 S r h
    cases h
  | succ q ih =>
    intro d a1 a2 a3 a4 S r h
    rw [sX7_tryAll_r] at h
    have e : d + 1 + (q + 1) = d + q + 1 + 1 := by omega
    rw [e]
    refine gh_Mx_of rfl rfl rfl rfl rfl rfl (kX7_tryAll_e (d + q) N (sX7_tryAll_r N q) ?_ a1 a2 a3 a4 S r h)
    intro a1 a2 a3 a4 S r h
    have e2 : d + q + 1 = d + 1 + q := by omega
    rw [e2]
    exact ih d a1 a2 a3 a4 S r h
def tX7_tryAll (N : Nat) (a1 : Int32) (a2 : Int32) (a3 : Int32) (a4 : Int32) (S : gh_St) : Option (gh_St) := sX7_tryAll_r N 10 a1 a2 a3 a4 S
theorem kX7_tryAll (d N : Nat) (a1 : Int32) (a2 : Int32) (a3 : Int32) (a4 : Int32) (S : gh_St) (r : gh_St) (h : tX7_tryAll N a1 a2 a3 a4 S = some r) : gh_Mx (d + 11) 71 [.ref 18, .int a1, .int a2, .int a3, .int a4] (gh_mo S) none (gh_mo r) := kX7_tryAll_r N 10 d a1 a2 a3 a4 S r h
def sX7_waits_30 (N : Nat) (S : gh_St) : Option (Int32 × gh_St) :=
  some (S.1 18 10, S)
set_option maxRecDepth 100000 in
theorem kX7_waits_30 (d N : Nat) (S : gh_St) (r : Int32 × gh_St) (h : sX7_waits_30 N S = some r) : gh_T (d + 11) fX7_waits 0 0 none false false (30, [(0, .ref 18)], [], (gh_mo S, 0, 0)) (some (.int r.1), (gh_mo r.2, 0, 0)) := by
  unfold sX7_waits_30 at h
  refine gh_T_steps 2 (τ := (34, [(0, .ref 18)], [.int (S.1 18 10)], (gh_mo S, 0, 0))) (fun _ => rfl) ?_
  cases h
  exact gh_T_ret (fun _ => rfl)
def sX7_waits (N : Nat) (S : gh_St) : Option (Int32 × gh_St) :=
  bif gh_cmp .ne (S.1 18 11) 0 then
    (sX7_waits_30 N S)
  else
    ((tX7_tryAll N 0 0 0 0 (gh_fI S 18 10 1000000000)).bind fun q1 =>
    (sX7_setEmpty N q1).bind fun q2 =>
    sX7_waits_30 N (gh_fI q2 18 11 1))
set_option maxRecDepth 100000 in
theorem kX7_waits_e (d N : Nat) (S : gh_St) (r : Int32 × gh_St) (h : sX7_waits N S = some r) : gh_T (d + 11) fX7_waits 0 0 none false false (0, [(0, .ref 18)], [], (gh_mo S, 0, 0)) (some (.int r.1), (gh_mo r.2, 0, 0)) := by
  unfold sX7_waits at h
  refine gh_T_steps 2 (τ := (4, [(0, .ref 18)], [.int (S.1 18 11)], (gh_mo S, 0, 0))) (fun _ => rfl) ?_
  cases c3 : gh_cmp .ne (S.1 18 11) 0 with
  | true =>
    rw [c3, cond_true] at h
    refine gh_T_if true rfl c3 ?_
    exact kX7_waits_30 d N S _ h
  | false =>
    rw [c3, cond_false] at h
    refine gh_T_if false rfl c3 ?_
    refine gh_T_steps 8 (τ := (18, [(0, .ref 18)], [.int 0, .int 0, .int 0, .int 0, .ref 18], (gh_mo (gh_fI S 18 10 1000000000), 0, 0))) (fun _ => rfl) ?_
    obtain ⟨q1, hq1, h⟩ := gh_bi h
    refine gh_T_iv (As := [.int 0, .int 0, .int 0, .int 0]) (b := 18) (rest := []) (y := none) (M' := gh_mo q1) rfl rfl rfl rfl rfl rfl rfl rfl rfl ⟨Nat.le_refl _, Nat.le_refl _⟩ (kX7_tryAll d N 0 0 0 0 (gh_fI S 18 10 1000000000) q1 hq1) ?_
    refine gh_T_steps 1 (τ := (22, [(0, .ref 18)], [.ref 18], (gh_mo q1, 0, 0))) (fun _ => rfl) ?_
    obtain ⟨q2, hq2, h⟩ := gh_bi h
    refine gh_T_iv (As := []) (b := 18) (rest := []) (y := none) (M' := gh_mo q2) rfl rfl rfl rfl rfl rfl rfl rfl rfl ⟨Nat.le_refl _, Nat.le_refl _⟩ (kX7_setEmpty (d + 9) N q1 q2 hq2) ?_
    refine gh_T_steps 3 (τ := (30, [(0, .ref 18)], [], (gh_mo (gh_fI q2 18 11 1), 0, 0))) (fun _ => rfl) ?_
    exact kX7_waits_30 d N (gh_fI q2 18 11 1) _ h
theorem kX7_waits (d N : Nat) (S : gh_St) (r : Int32 × gh_St) (h : sX7_waits N S = some r) : gh_Mx (d + 12) 70 [.ref 18] (gh_mo S) (some (.int r.1)) (gh_mo r.2) :=
  gh_Mx_of rfl rfl rfl rfl rfl rfl (kX7_waits_e d N S r h)
def sX9_rush (N : Nat) (S : gh_St) : Option (Int32 × gh_St) :=
  (sX7_waits N S).bind fun q1 =>
  some (q1.1, q1.2)
set_option maxRecDepth 100000 in
theorem kX9_rush_e (d N : Nat) (S : gh_St) (r : Int32 × gh_St) (h : sX9_rush N S = some r) : gh_T (d + 12) fX9_rush 0 0 none false false (0, [(0, .ref 0)], [], (gh_mo S, 0, 0)) (some (.int r.1), (gh_mo r.2, 0, 0)) := by
  unfold sX9_rush at h
  refine gh_T_steps 2 (τ := (4, [(0, .ref 0)], [.ref 18], (gh_mo S, 0, 0))) (fun _ => rfl) ?_
  obtain ⟨q1, hq1, h⟩ := gh_bi h
  refine gh_T_iv (As := []) (b := 18) (rest := []) (y := some (.int q1.1)) (M' := gh_mo q1.2) rfl rfl rfl rfl rfl rfl rfl rfl rfl ⟨Nat.le_refl _, Nat.le_refl _⟩ (kX7_waits d N S q1 hq1) ?_
  cases h
  exact gh_T_ret (fun _ => rfl)
theorem kX9_rush (d N : Nat) (S : gh_St) (r : Int32 × gh_St) (h : sX9_rush N S = some r) : gh_Mx (d + 13) 92 [.ref 0] (gh_mo S) (some (.int r.1)) (gh_mo r.2) :=
  gh_Mx_of rfl rfl rfl rfl rfl rfl (kX9_rush_e d N S r h)
def sX9_served (N : Nat) (a1 : Int32) (a2 : Int32) (S : gh_St) : Option (Int32 × gh_St) :=
  (sX9_within N a1 0 ((S.1 18 7) - (1 : Int32)) S).bind fun q1 =>
  bif gh_cmp .ne q1.1 0 then
    ((sX7_waits N q1.2).bind fun q2 =>
    bif gh_cmp .eq a2 0 then
      ((gh_ra q2.2 24 7 a1).bind fun x4 =>
      some (x4, q2.2))
    else
      bif gh_cmp .eq a2 1 then
      ((gh_ra q2.2 25 7 a1).bind fun x6 =>
        some (x6, q2.2))
    else
      (some ((-1), q2.2)))
  else
    (some ((-1), q1.2))
set_option maxRecDepth 100000 in
theorem kX9_served_e (d N : Nat) (a1 : Int32) (a2 : Int32) (S : gh_St) (r : Int32 × gh_St) (h : sX9_served N a1 a2 S = some r) : gh_T (d + 12) fX9_served 0 0 none false false (0, [(0, .ref 0), (1, .int a1), (2, .int a2)], [], (gh_mo S, 0, 0)) (some (.int r.1), (gh_mo r.2, 0, 0)) := by
  unfold sX9_served at h
  refine gh_T_steps 7 (τ := (11, [(0, .ref 0), (1, .int a1), (2, .int a2)], [.int ((S.1 18 7) - (1 : Int32)), .int 0, .int a1], (gh_mo S, 0, 0))) (fun _ => rfl) ?_
  obtain ⟨q1, hq1, h⟩ := gh_bi h
  refine gh_T_is (As := [.int a1, .int 0, .int ((S.1 18 7) - (1 : Int32))]) (rest := []) (y := some (.int q1.1)) (M' := gh_mo q1.2) rfl rfl rfl rfl rfl rfl rfl ⟨Nat.le_refl _, Nat.le_refl _⟩ (kX9_within (d + 11) N a1 0 ((S.1 18 7) - (1 : Int32)) S q1 hq1) ?_
  cases c7 : gh_cmp .ne q1.1 0 with
  | true =>
    rw [c7, cond_true] at h
    refine gh_T_if true rfl c7 ?_
    refine gh_T_steps 2 (τ := (23, [(0, .ref 0), (1, .int a1), (2, .int a2)], [.ref 18], (gh_mo q1.2, 0, 0))) (fun _ => rfl) ?_
    obtain ⟨q2, hq2, h⟩ := gh_bi h
    refine gh_T_iv (As := []) (b := 18) (rest := []) (y := some (.int q2.1)) (M' := gh_mo q2.2) rfl rfl rfl rfl rfl rfl rfl rfl rfl ⟨Nat.le_refl _, Nat.le_refl _⟩ (kX7_waits d N q1.2 q2 hq2) ?_
    refine gh_T_steps 2 (τ := (28, [(0, .ref 0), (1, .int a1), (2, .int a2)], [.int a2], (gh_mo q2.2, 0, 0))) (fun _ => rfl) ?_
    cases c3 : gh_cmp .eq a2 0 with
    | true =>
      rw [c3, cond_true] at h
      refine gh_T_at 0 c3 (τ := (56, [(0, .ref 0), (1, .int a1), (2, .int a2)], [], (gh_mo q2.2, 0, 0))) (fun _ => rfl) ?_
      refine gh_T_steps 4 (τ := (64, [(0, .ref 0), (1, .int a1), (2, .int a2)], [.int a1, .ref 24], (gh_mo q2.2, 0, 0))) (fun _ => rfl) ?_
      obtain ⟨x4, hx4, h⟩ := gh_bi h
      refine gh_T_ra rfl rfl hx4 ?_
      cases h
      exact gh_T_ret (fun _ => rfl)
    | false =>
      rw [c3, cond_false] at h
      cases c5 : gh_cmp .eq a2 1 with
      | true =>
        rw [c5, cond_true] at h
        refine gh_T_at 1 c5 (τ := (66, [(0, .ref 0), (1, .int a1), (2, .int a2)], [], (gh_mo q2.2, 0, 0))) (fun _ => rfl) ?_
        refine gh_T_steps 4 (τ := (74, [(0, .ref 0), (1, .int a1), (2, .int a2)], [.int a1, .ref 25], (gh_mo q2.2, 0, 0))) (fun _ => rfl) ?_
        obtain ⟨x6, hx6, h⟩ := gh_bi h
        refine gh_T_ra rfl rfl hx6 ?_
        cases h
        exact gh_T_ret (fun _ => rfl)
      | false =>
        rw [c5, cond_false] at h
        refine gh_T_ld (tgt := 76) rfl ⟨⟨trivial, c3⟩, c5⟩ (by decide) ?_
        refine gh_T_steps 1 (τ := (77, [(0, .ref 0), (1, .int a1), (2, .int a2)], [.int ((-1))], (gh_mo q2.2, 0, 0))) (fun _ => rfl) ?_
        cases h
        exact gh_T_ret (fun _ => rfl)
  | false =>
    rw [c7, cond_false] at h
    refine gh_T_if false rfl c7 ?_
    refine gh_T_steps 1 (τ := (18, [(0, .ref 0), (1, .int a1), (2, .int a2)], [.int ((-1))], (gh_mo q1.2, 0, 0))) (fun _ => rfl) ?_
    cases h
    exact gh_T_ret (fun _ => rfl)
theorem kX9_served (d N : Nat) (a1 : Int32) (a2 : Int32) (S : gh_St) (r : Int32 × gh_St) (h : sX9_served N a1 a2 S = some r) : gh_Mx (d + 13) 93 [.ref 0, .int a1, .int a2] (gh_mo S) (some (.int r.1)) (gh_mo r.2) :=
  gh_Mx_of rfl rfl rfl rfl rfl rfl (kX9_served_e d N a1 a2 S r h)

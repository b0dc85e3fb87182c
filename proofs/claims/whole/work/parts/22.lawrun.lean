/-! ===== THE LAW'S LOOP ===== -/
theorem gh_rx_of {L i j : Nat} (xs : Nat → Int32) (hi : i + 6 ≤ L) (hL : L ≤ 3072) (hj : j < 6) {q : Int32} (e : q = nI (i + j)) : gh_rx L xs q = some (xs (i + j)) := by
  subst e
  unfold gh_rx
  have h : gh_in (nI (i + j)) L = true := gh_in_iff.mpr (vp_in_nI (by omega) (by omega))
  rw [h, nI_clamp (by omega)]
  rfl
theorem gh_rx1 {L i : Nat} (xs : Nat → Int32) (hi : i + 6 ≤ L) (hL : L ≤ 3072) : gh_rx L xs (nI i + 1) = some (xs (i + 1)) := gh_rx_of xs hi hL (by decide) (nI_add i 1)
theorem gh_rx2 {L i : Nat} (xs : Nat → Int32) (hi : i + 6 ≤ L) (hL : L ≤ 3072) : gh_rx L xs (nI i + 2) = some (xs (i + 2)) := gh_rx_of xs hi hL (by decide) (nI_add i 2)
theorem gh_rx3 {L i : Nat} (xs : Nat → Int32) (hi : i + 6 ≤ L) (hL : L ≤ 3072) : gh_rx L xs (nI i + 3) = some (xs (i + 3)) := gh_rx_of xs hi hL (by decide) (nI_add i 3)
theorem gh_rx4 {L i : Nat} (xs : Nat → Int32) (hi : i + 6 ≤ L) (hL : L ≤ 3072) : gh_rx L xs (nI i + 4) = some (xs (i + 4)) := gh_rx_of xs hi hL (by decide) (nI_add i 4)
theorem gh_rx5 {L i : Nat} (xs : Nat → Int32) (hi : i + 6 ≤ L) (hL : L ≤ 3072) : gh_rx L xs (nI i + 5) = some (xs (i + 5)) := gh_rx_of xs hi hL (by decide) (nI_add i 5)
theorem gh_lcmp_self (v : Int64) : lg_cmp v v = 0 := by simp [lg_cmp]
def gh_b01 (x : Int32) : Int32 := bif gh_cmp .eq x 0 then 0 else 1
theorem gh_T_rx {d : Nat} {f : Nat → Option gh_E} {bc bs L : Nat} {xs : Nat → Int32} {zr ini : Bool} {pc ln u v : Nat} {w : Int32} {xx : Int64} {lv : gh_L} {st : List Value} {S : gh_St} {kj : Nat × Nat} {r : gh_R} {i x : Int32} (hf : f pc = some (.iaload, ln, u, v, w, xx)) (h : gh_rx L xs i = some x) (k : gh_T d f bc bs (some (L, xs)) zr ini (pc + 1, lv, .int x :: st, (gh_mo S, kj)) r) : gh_T d f bc bs (some (L, xs)) zr ini (pc, lv, .int i :: .ref gh_SC :: st, (gh_mo S, kj)) r := by
  obtain ⟨h1, rfl⟩ := gh_bs h
  refine gh_T_step (fun O => ?_) k
  unfold gh_step
  rw [hf]
  show gh_lift lv (bif Nat.beq gh_SC gh_SC && gh_in i L then gh_k (pc + 1) (.int (xs i.toNatClampNeg) :: st) (gh_mo S, kj) else none) = _
  rw [Nat.beq_refl, h1]
  rfl
theorem gh_T_b01 {d : Nat} {f : Nat → Option gh_E} {bc bs L : Nat} {xs : Nat → Int32} {zr ini : Bool} {pc tgt : Nat} {lv : gh_L} {st : List Value} {W : gh_W} {r : gh_R} {x : Int32} (h1 : gh_cmp .eq x 0 = true → gh_T d f bc bs (some (L, xs)) zr ini (tgt, lv, .int 0 :: st, W) r → gh_T d f bc bs (some (L, xs)) zr ini (pc, lv, .int x :: st, W) r) (h2 : gh_cmp .eq x 0 = false → gh_T d f bc bs (some (L, xs)) zr ini (tgt, lv, .int 1 :: st, W) r → gh_T d f bc bs (some (L, xs)) zr ini (pc, lv, .int x :: st, W) r) (k : gh_T d f bc bs (some (L, xs)) zr ini (tgt, lv, .int (gh_b01 x) :: st, W) r) : gh_T d f bc bs (some (L, xs)) zr ini (pc, lv, .int x :: st, W) r := by
  unfold gh_b01 at k
  cases c : gh_cmp .eq x 0 with
  | true => rw [c] at k; exact h1 c k
  | false => rw [c] at k; exact h2 c k
theorem gh_lc0 {L i N : Nat} {xs : Nat → Int32} {S S1 S2 : gh_St} {v : Int32} {r : gh_R} (hi : i + 6 ≤ L) (hL : L ≤ 3072) (h1 : sX9_holds N (xs (i + 1)) (xs (i + 2)) S = some (v, S1)) (h2 : sX10_holds N (xs (i + 1)) (xs (i + 2)) S1 = some (v, S2)) (K : gh_T 60 fL_law 600000 7302250 (some (L, xs)) true false (1162, [(3, .int (nI i)), (2, .ref 56), (1, .ref 0), (0, .ref gh_SC)], [], (gh_mo S2, 96, 2376)) r) : gh_T 60 fL_law 600000 7302250 (some (L, xs)) true false (164, [(3, .int (nI i)), (2, .ref 56), (1, .ref 0), (0, .ref gh_SC)], [], (gh_mo S, 96, 2376)) r := by
  refine gh_T_steps 5 (τ := (169, [(3, .int (nI i)), (2, .ref 56), (1, .ref 0), (0, .ref gh_SC)], [.int (nI i + 1), .ref gh_SC, .ref 0], (gh_mo S, 96, 2376))) (fun _ => rfl) ?_
  refine gh_T_rx rfl (gh_rx1 xs hi hL) ?_
  refine gh_T_steps 4 (τ := (174, [(3, .int (nI i)), (2, .ref 56), (1, .ref 0), (0, .ref gh_SC)], [.int (nI i + 2), .ref gh_SC, .int (xs (i + 1)), .ref 0], (gh_mo S, 96, 2376))) (fun _ => rfl) ?_
  refine gh_T_rx rfl (gh_rx2 xs hi hL) ?_
  refine gh_T_iv (As := [.int (xs (i + 1)), .int (xs (i + 2))]) (b := 0) (rest := []) (y := some (.int v)) (M' := gh_mo S1) rfl rfl rfl rfl rfl rfl rfl rfl rfl ⟨by decide, by decide⟩ (kX9_holds 57 N (xs (i + 1)) (xs (i + 2)) S (v, S1) h1) ?_
  refine gh_T_steps 5 (τ := (183, [(3, .int (nI i)), (2, .ref 56), (1, .ref 0), (0, .ref gh_SC)], [.int (nI i + 1), .ref gh_SC, .ref 56, .int v], (gh_mo S1, 96, 2376))) (fun _ => rfl) ?_
  refine gh_T_rx rfl (gh_rx1 xs hi hL) ?_
  refine gh_T_steps 4 (τ := (188, [(3, .int (nI i)), (2, .ref 56), (1, .ref 0), (0, .ref gh_SC)], [.int (nI i + 2), .ref gh_SC, .int (xs (i + 1)), .ref 56, .int v], (gh_mo S1, 96, 2376))) (fun _ => rfl) ?_
  refine gh_T_rx rfl (gh_rx2 xs hi hL) ?_
  refine gh_T_iv (As := [.int (xs (i + 1)), .int (xs (i + 2))]) (b := 56) (rest := [.int v]) (y := some (.int v)) (M' := gh_mo S2) rfl rfl rfl rfl rfl rfl rfl rfl rfl ⟨by decide, by decide⟩ (kX10_holds 57 N (xs (i + 1)) (xs (i + 2)) S1 (v, S2) h2) ?_
  exact gh_T_ic true rfl (by simp [gh_cmp]) K
theorem gh_lc1 {L i N : Nat} {xs : Nat → Int32} {S S1 S2 : gh_St} {v : Int32} {r : gh_R} (hi : i + 6 ≤ L) (hL : L ≤ 3072) (h1 : sX9_load N (xs (i + 1)) (xs (i + 2)) (xs (i + 3)) (xs (i + 4)) (xs (i + 5)) S = some (v, S1)) (h2 : sX10_load N (xs (i + 1)) (xs (i + 2)) (xs (i + 3)) (xs (i + 4)) (xs (i + 5)) S1 = some (v, S2)) (K : gh_T 60 fL_law 600000 7302250 (some (L, xs)) true false (1162, [(3, .int (nI i)), (2, .ref 56), (1, .ref 0), (0, .ref gh_SC)], [], (gh_mo S2, 96, 2376)) r) : gh_T 60 fL_law 600000 7302250 (some (L, xs)) true false (197, [(3, .int (nI i)), (2, .ref 56), (1, .ref 0), (0, .ref gh_SC)], [], (gh_mo S, 96, 2376)) r := by
  refine gh_T_steps 5 (τ := (202, [(3, .int (nI i)), (2, .ref 56), (1, .ref 0), (0, .ref gh_SC)], [.int (nI i + 1), .ref gh_SC, .ref 0], (gh_mo S, 96, 2376))) (fun _ => rfl) ?_
  refine gh_T_rx rfl (gh_rx1 xs hi hL) ?_
  refine gh_T_steps 4 (τ := (207, [(3, .int (nI i)), (2, .ref 56), (1, .ref 0), (0, .ref gh_SC)], [.int (nI i + 2), .ref gh_SC, .int (xs (i + 1)), .ref 0], (gh_mo S, 96, 2376))) (fun _ => rfl) ?_
  refine gh_T_rx rfl (gh_rx2 xs hi hL) ?_
  refine gh_T_steps 4 (τ := (212, [(3, .int (nI i)), (2, .ref 56), (1, .ref 0), (0, .ref gh_SC)], [.int (nI i + 3), .ref gh_SC, .int (xs (i + 2)), .int (xs (i + 1)), .ref 0], (gh_mo S, 96, 2376))) (fun _ => rfl) ?_
  refine gh_T_rx rfl (gh_rx3 xs hi hL) ?_
  refine gh_T_steps 4 (τ := (217, [(3, .int (nI i)), (2, .ref 56), (1, .ref 0), (0, .ref gh_SC)], [.int (nI i + 4), .ref gh_SC, .int (xs (i + 3)), .int (xs (i + 2)), .int (xs (i + 1)), .ref 0], (gh_mo S, 96, 2376))) (fun _ => rfl) ?_
  refine gh_T_rx rfl (gh_rx4 xs hi hL) ?_
  refine gh_T_steps 4 (τ := (222, [(3, .int (nI i)), (2, .ref 56), (1, .ref 0), (0, .ref gh_SC)], [.int (nI i + 5), .ref gh_SC, .int (xs (i + 4)), .int (xs (i + 3)), .int (xs (i + 2)), .int (xs (i + 1)), .ref 0], (gh_mo S, 96, 2376))) (fun _ => rfl) ?_
  refine gh_T_rx rfl (gh_rx5 xs hi hL) ?_
  refine gh_T_iv (As := [.int (xs (i + 1)), .int (xs (i + 2)), .int (xs (i + 3)), .int (xs (i + 4)), .int (xs (i + 5))]) (b := 0) (rest := []) (y := some (.int v)) (M' := gh_mo S1) rfl rfl rfl rfl rfl rfl rfl rfl rfl ⟨by decide, by decide⟩ (kX9_load 56 N (xs (i + 1)) (xs (i + 2)) (xs (i + 3)) (xs (i + 4)) (xs (i + 5)) S (v, S1) h1) ?_
  refine gh_T_steps 5 (τ := (231, [(3, .int (nI i)), (2, .ref 56), (1, .ref 0), (0, .ref gh_SC)], [.int (nI i + 1), .ref gh_SC, .ref 56, .int v], (gh_mo S1, 96, 2376))) (fun _ => rfl) ?_
  refine gh_T_rx rfl (gh_rx1 xs hi hL) ?_
  refine gh_T_steps 4 (τ := (236, [(3, .int (nI i)), (2, .ref 56), (1, .ref 0), (0, .ref gh_SC)], [.int (nI i + 2), .ref gh_SC, .int (xs (i + 1)), .ref 56, .int v], (gh_mo S1, 96, 2376))) (fun _ => rfl) ?_
  refine gh_T_rx rfl (gh_rx2 xs hi hL) ?_
  refine gh_T_steps 4 (τ := (241, [(3, .int (nI i)), (2, .ref 56), (1, .ref 0), (0, .ref gh_SC)], [.int (nI i + 3), .ref gh_SC, .int (xs (i + 2)), .int (xs (i + 1)), .ref 56, .int v], (gh_mo S1, 96, 2376))) (fun _ => rfl) ?_
  refine gh_T_rx rfl (gh_rx3 xs hi hL) ?_
  refine gh_T_steps 4 (τ := (246, [(3, .int (nI i)), (2, .ref 56), (1, .ref 0), (0, .ref gh_SC)], [.int (nI i + 4), .ref gh_SC, .int (xs (i + 3)), .int (xs (i + 2)), .int (xs (i + 1)), .ref 56, .int v], (gh_mo S1, 96, 2376))) (fun _ => rfl) ?_
  refine gh_T_rx rfl (gh_rx4 xs hi hL) ?_
  refine gh_T_steps 4 (τ := (251, [(3, .int (nI i)), (2, .ref 56), (1, .ref 0), (0, .ref gh_SC)], [.int (nI i + 5), .ref gh_SC, .int (xs (i + 4)), .int (xs (i + 3)), .int (xs (i + 2)), .int (xs (i + 1)), .ref 56, .int v], (gh_mo S1, 96, 2376))) (fun _ => rfl) ?_
  refine gh_T_rx rfl (gh_rx5 xs hi hL) ?_
  refine gh_T_iv (As := [.int (xs (i + 1)), .int (xs (i + 2)), .int (xs (i + 3)), .int (xs (i + 4)), .int (xs (i + 5))]) (b := 56) (rest := [.int v]) (y := some (.int v)) (M' := gh_mo S2) rfl rfl rfl rfl rfl rfl rfl rfl rfl ⟨by decide, by decide⟩ (kX10_load 57 N (xs (i + 1)) (xs (i + 2)) (xs (i + 3)) (xs (i + 4)) (xs (i + 5)) S1 (v, S2) h2) ?_
  exact gh_T_ic true rfl (by simp [gh_cmp]) K
theorem gh_lc2 {L i N : Nat} {xs : Nat → Int32} {S S1 S2 : gh_St} {v : Int32} {r : gh_R} (hi : i + 6 ≤ L) (hL : L ≤ 3072) (h1 : sX9_leg N (xs (i + 1)) (xs (i + 2)) (xs (i + 3)) S = some (v, S1)) (h2 : sX10_leg N (xs (i + 1)) (xs (i + 2)) (xs (i + 3)) S1 = some (v, S2)) (K : gh_T 60 fL_law 600000 7302250 (some (L, xs)) true false (1162, [(3, .int (nI i)), (2, .ref 56), (1, .ref 0), (0, .ref gh_SC)], [], (gh_mo S2, 96, 2376)) r) : gh_T 60 fL_law 600000 7302250 (some (L, xs)) true false (260, [(3, .int (nI i)), (2, .ref 56), (1, .ref 0), (0, .ref gh_SC)], [], (gh_mo S, 96, 2376)) r := by
  refine gh_T_steps 5 (τ := (265, [(3, .int (nI i)), (2, .ref 56), (1, .ref 0), (0, .ref gh_SC)], [.int (nI i + 1), .ref gh_SC, .ref 0], (gh_mo S, 96, 2376))) (fun _ => rfl) ?_
  refine gh_T_rx rfl (gh_rx1 xs hi hL) ?_
  refine gh_T_steps 4 (τ := (270, [(3, .int (nI i)), (2, .ref 56), (1, .ref 0), (0, .ref gh_SC)], [.int (nI i + 2), .ref gh_SC, .int (xs (i + 1)), .ref 0], (gh_mo S, 96, 2376))) (fun _ => rfl) ?_
  refine gh_T_rx rfl (gh_rx2 xs hi hL) ?_
  refine gh_T_steps 4 (τ := (275, [(3, .int (nI i)), (2, .ref 56), (1, .ref 0), (0, .ref gh_SC)], [.int (nI i + 3), .ref gh_SC, .int (xs (i + 2)), .int (xs (i + 1)), .ref 0], (gh_mo S, 96, 2376))) (fun _ => rfl) ?_
  refine gh_T_rx rfl (gh_rx3 xs hi hL) ?_
  refine gh_T_iv (As := [.int (xs (i + 1)), .int (xs (i + 2)), .int (xs (i + 3))]) (b := 0) (rest := []) (y := some (.int v)) (M' := gh_mo S1) rfl rfl rfl rfl rfl rfl rfl rfl rfl ⟨by decide, by decide⟩ (kX9_leg 57 N (xs (i + 1)) (xs (i + 2)) (xs (i + 3)) S (v, S1) h1) ?_
  refine gh_T_steps 5 (τ := (284, [(3, .int (nI i)), (2, .ref 56), (1, .ref 0), (0, .ref gh_SC)], [.int (nI i + 1), .ref gh_SC, .ref 56, .int v], (gh_mo S1, 96, 2376))) (fun _ => rfl) ?_
  refine gh_T_rx rfl (gh_rx1 xs hi hL) ?_
  refine gh_T_steps 4 (τ := (289, [(3, .int (nI i)), (2, .ref 56), (1, .ref 0), (0, .ref gh_SC)], [.int (nI i + 2), .ref gh_SC, .int (xs (i + 1)), .ref 56, .int v], (gh_mo S1, 96, 2376))) (fun _ => rfl) ?_
  refine gh_T_rx rfl (gh_rx2 xs hi hL) ?_
  refine gh_T_steps 4 (τ := (294, [(3, .int (nI i)), (2, .ref 56), (1, .ref 0), (0, .ref gh_SC)], [.int (nI i + 3), .ref gh_SC, .int (xs (i + 2)), .int (xs (i + 1)), .ref 56, .int v], (gh_mo S1, 96, 2376))) (fun _ => rfl) ?_
  refine gh_T_rx rfl (gh_rx3 xs hi hL) ?_
  refine gh_T_iv (As := [.int (xs (i + 1)), .int (xs (i + 2)), .int (xs (i + 3))]) (b := 56) (rest := [.int v]) (y := some (.int v)) (M' := gh_mo S2) rfl rfl rfl rfl rfl rfl rfl rfl rfl ⟨by decide, by decide⟩ (kX10_leg 58 N (xs (i + 1)) (xs (i + 2)) (xs (i + 3)) S1 (v, S2) h2) ?_
  exact gh_T_ic true rfl (by simp [gh_cmp]) K
theorem gh_lc3 {L i N : Nat} {xs : Nat → Int32} {S S1 S2 : gh_St} {v : Int32} {r : gh_R} (hi : i + 6 ≤ L) (hL : L ≤ 3072) (h1 : sX9_cleaning N (xs (i + 1)) S = some (v, S1)) (h2 : sX10_cleaning N (xs (i + 1)) S1 = some (v, S2)) (K : gh_T 60 fL_law 600000 7302250 (some (L, xs)) true false (1162, [(3, .int (nI i)), (2, .ref 56), (1, .ref 0), (0, .ref gh_SC)], [], (gh_mo S2, 96, 2376)) r) : gh_T 60 fL_law 600000 7302250 (some (L, xs)) true false (303, [(3, .int (nI i)), (2, .ref 56), (1, .ref 0), (0, .ref gh_SC)], [], (gh_mo S, 96, 2376)) r := by
  refine gh_T_steps 5 (τ := (308, [(3, .int (nI i)), (2, .ref 56), (1, .ref 0), (0, .ref gh_SC)], [.int (nI i + 1), .ref gh_SC, .ref 0], (gh_mo S, 96, 2376))) (fun _ => rfl) ?_
  refine gh_T_rx rfl (gh_rx1 xs hi hL) ?_
  refine gh_T_iv (As := [.int (xs (i + 1))]) (b := 0) (rest := []) (y := some (.int v)) (M' := gh_mo S1) rfl rfl rfl rfl rfl rfl rfl rfl rfl ⟨by decide, by decide⟩ (kX9_cleaning 58 N (xs (i + 1)) S (v, S1) h1) ?_
  refine gh_T_steps 5 (τ := (317, [(3, .int (nI i)), (2, .ref 56), (1, .ref 0), (0, .ref gh_SC)], [.int (nI i + 1), .ref gh_SC, .ref 56, .int v], (gh_mo S1, 96, 2376))) (fun _ => rfl) ?_
  refine gh_T_rx rfl (gh_rx1 xs hi hL) ?_
  refine gh_T_iv (As := [.int (xs (i + 1))]) (b := 56) (rest := [.int v]) (y := some (.int v)) (M' := gh_mo S2) rfl rfl rfl rfl rfl rfl rfl rfl rfl ⟨by decide, by decide⟩ (kX10_cleaning 58 N (xs (i + 1)) S1 (v, S2) h2) ?_
  exact gh_T_ic true rfl (by simp [gh_cmp]) K
theorem gh_lc4 {L i N : Nat} {xs : Nat → Int32} {S S1 S2 : gh_St} {v : Int32} {r : gh_R} (hi : i + 6 ≤ L) (hL : L ≤ 3072) (h1 : sX9_way N (xs (i + 1)) (xs (i + 2)) (xs (i + 3)) S = some (v, S1)) (h2 : sX10_way N (xs (i + 1)) (xs (i + 2)) (xs (i + 3)) S1 = some (v, S2)) (K : gh_T 60 fL_law 600000 7302250 (some (L, xs)) true false (1162, [(3, .int (nI i)), (2, .ref 56), (1, .ref 0), (0, .ref gh_SC)], [], (gh_mo S2, 96, 2376)) r) : gh_T 60 fL_law 600000 7302250 (some (L, xs)) true false (326, [(3, .int (nI i)), (2, .ref 56), (1, .ref 0), (0, .ref gh_SC)], [], (gh_mo S, 96, 2376)) r := by
  refine gh_T_steps 5 (τ := (331, [(3, .int (nI i)), (2, .ref 56), (1, .ref 0), (0, .ref gh_SC)], [.int (nI i + 1), .ref gh_SC, .ref 0], (gh_mo S, 96, 2376))) (fun _ => rfl) ?_
  refine gh_T_rx rfl (gh_rx1 xs hi hL) ?_
  refine gh_T_steps 4 (τ := (336, [(3, .int (nI i)), (2, .ref 56), (1, .ref 0), (0, .ref gh_SC)], [.int (nI i + 2), .ref gh_SC, .int (xs (i + 1)), .ref 0], (gh_mo S, 96, 2376))) (fun _ => rfl) ?_
  refine gh_T_rx rfl (gh_rx2 xs hi hL) ?_
  refine gh_T_steps 4 (τ := (341, [(3, .int (nI i)), (2, .ref 56), (1, .ref 0), (0, .ref gh_SC)], [.int (nI i + 3), .ref gh_SC, .int (xs (i + 2)), .int (xs (i + 1)), .ref 0], (gh_mo S, 96, 2376))) (fun _ => rfl) ?_
  refine gh_T_rx rfl (gh_rx3 xs hi hL) ?_
  refine gh_T_iv (As := [.int (xs (i + 1)), .int (xs (i + 2)), .int (xs (i + 3))]) (b := 0) (rest := []) (y := some (.int v)) (M' := gh_mo S1) rfl rfl rfl rfl rfl rfl rfl rfl rfl ⟨by decide, by decide⟩ (kX9_way 55 N (xs (i + 1)) (xs (i + 2)) (xs (i + 3)) S (v, S1) h1) ?_
  refine gh_T_steps 5 (τ := (350, [(3, .int (nI i)), (2, .ref 56), (1, .ref 0), (0, .ref gh_SC)], [.int (nI i + 1), .ref gh_SC, .ref 56, .int v], (gh_mo S1, 96, 2376))) (fun _ => rfl) ?_
  refine gh_T_rx rfl (gh_rx1 xs hi hL) ?_
  refine gh_T_steps 4 (τ := (355, [(3, .int (nI i)), (2, .ref 56), (1, .ref 0), (0, .ref gh_SC)], [.int (nI i + 2), .ref gh_SC, .int (xs (i + 1)), .ref 56, .int v], (gh_mo S1, 96, 2376))) (fun _ => rfl) ?_
  refine gh_T_rx rfl (gh_rx2 xs hi hL) ?_
  refine gh_T_steps 4 (τ := (360, [(3, .int (nI i)), (2, .ref 56), (1, .ref 0), (0, .ref gh_SC)], [.int (nI i + 3), .ref gh_SC, .int (xs (i + 2)), .int (xs (i + 1)), .ref 56, .int v], (gh_mo S1, 96, 2376))) (fun _ => rfl) ?_
  refine gh_T_rx rfl (gh_rx3 xs hi hL) ?_
  refine gh_T_iv (As := [.int (xs (i + 1)), .int (xs (i + 2)), .int (xs (i + 3))]) (b := 56) (rest := [.int v]) (y := some (.int v)) (M' := gh_mo S2) rfl rfl rfl rfl rfl rfl rfl rfl rfl ⟨by decide, by decide⟩ (kX10_way 55 N (xs (i + 1)) (xs (i + 2)) (xs (i + 3)) S1 (v, S2) h2) ?_
  exact gh_T_ic true rfl (by simp [gh_cmp]) K
theorem gh_lc5 {L i N : Nat} {xs : Nat → Int32} {S S1 S2 : gh_St} {v : Int32} {r : gh_R} (hi : i + 6 ≤ L) (hL : L ≤ 3072) (h1 : sX9_wayLeg N (xs (i + 1)) (xs (i + 2)) (xs (i + 3)) (xs (i + 4)) S = some (v, S1)) (h2 : sX10_wayLeg N (xs (i + 1)) (xs (i + 2)) (xs (i + 3)) (xs (i + 4)) S1 = some (v, S2)) (K : gh_T 60 fL_law 600000 7302250 (some (L, xs)) true false (1162, [(3, .int (nI i)), (2, .ref 56), (1, .ref 0), (0, .ref gh_SC)], [], (gh_mo S2, 96, 2376)) r) : gh_T 60 fL_law 600000 7302250 (some (L, xs)) true false (369, [(3, .int (nI i)), (2, .ref 56), (1, .ref 0), (0, .ref gh_SC)], [], (gh_mo S, 96, 2376)) r := by
  refine gh_T_steps 5 (τ := (374, [(3, .int (nI i)), (2, .ref 56), (1, .ref 0), (0, .ref gh_SC)], [.int (nI i + 1), .ref gh_SC, .ref 0], (gh_mo S, 96, 2376))) (fun _ => rfl) ?_
  refine gh_T_rx rfl (gh_rx1 xs hi hL) ?_
  refine gh_T_steps 4 (τ := (379, [(3, .int (nI i)), (2, .ref 56), (1, .ref 0), (0, .ref gh_SC)], [.int (nI i + 2), .ref gh_SC, .int (xs (i + 1)), .ref 0], (gh_mo S, 96, 2376))) (fun _ => rfl) ?_
  refine gh_T_rx rfl (gh_rx2 xs hi hL) ?_
  refine gh_T_steps 4 (τ := (384, [(3, .int (nI i)), (2, .ref 56), (1, .ref 0), (0, .ref gh_SC)], [.int (nI i + 3), .ref gh_SC, .int (xs (i + 2)), .int (xs (i + 1)), .ref 0], (gh_mo S, 96, 2376))) (fun _ => rfl) ?_
  refine gh_T_rx rfl (gh_rx3 xs hi hL) ?_
  refine gh_T_steps 4 (τ := (389, [(3, .int (nI i)), (2, .ref 56), (1, .ref 0), (0, .ref gh_SC)], [.int (nI i + 4), .ref gh_SC, .int (xs (i + 3)), .int (xs (i + 2)), .int (xs (i + 1)), .ref 0], (gh_mo S, 96, 2376))) (fun _ => rfl) ?_
  refine gh_T_rx rfl (gh_rx4 xs hi hL) ?_
  refine gh_T_iv (As := [.int (xs (i + 1)), .int (xs (i + 2)), .int (xs (i + 3)), .int (xs (i + 4))]) (b := 0) (rest := []) (y := some (.int v)) (M' := gh_mo S1) rfl rfl rfl rfl rfl rfl rfl rfl rfl ⟨by decide, by decide⟩ (kX9_wayLeg 55 N (xs (i + 1)) (xs (i + 2)) (xs (i + 3)) (xs (i + 4)) S (v, S1) h1) ?_
  refine gh_T_steps 5 (τ := (398, [(3, .int (nI i)), (2, .ref 56), (1, .ref 0), (0, .ref gh_SC)], [.int (nI i + 1), .ref gh_SC, .ref 56, .int v], (gh_mo S1, 96, 2376))) (fun _ => rfl) ?_
  refine gh_T_rx rfl (gh_rx1 xs hi hL) ?_
  refine gh_T_steps 4 (τ := (403, [(3, .int (nI i)), (2, .ref 56), (1, .ref 0), (0, .ref gh_SC)], [.int (nI i + 2), .ref gh_SC, .int (xs (i + 1)), .ref 56, .int v], (gh_mo S1, 96, 2376))) (fun _ => rfl) ?_
  refine gh_T_rx rfl (gh_rx2 xs hi hL) ?_
  refine gh_T_steps 4 (τ := (408, [(3, .int (nI i)), (2, .ref 56), (1, .ref 0), (0, .ref gh_SC)], [.int (nI i + 3), .ref gh_SC, .int (xs (i + 2)), .int (xs (i + 1)), .ref 56, .int v], (gh_mo S1, 96, 2376))) (fun _ => rfl) ?_
  refine gh_T_rx rfl (gh_rx3 xs hi hL) ?_
  refine gh_T_steps 4 (τ := (413, [(3, .int (nI i)), (2, .ref 56), (1, .ref 0), (0, .ref gh_SC)], [.int (nI i + 4), .ref gh_SC, .int (xs (i + 3)), .int (xs (i + 2)), .int (xs (i + 1)), .ref 56, .int v], (gh_mo S1, 96, 2376))) (fun _ => rfl) ?_
  refine gh_T_rx rfl (gh_rx4 xs hi hL) ?_
  refine gh_T_iv (As := [.int (xs (i + 1)), .int (xs (i + 2)), .int (xs (i + 3)), .int (xs (i + 4))]) (b := 56) (rest := [.int v]) (y := some (.int v)) (M' := gh_mo S2) rfl rfl rfl rfl rfl rfl rfl rfl rfl ⟨by decide, by decide⟩ (kX10_wayLeg 55 N (xs (i + 1)) (xs (i + 2)) (xs (i + 3)) (xs (i + 4)) S1 (v, S2) h2) ?_
  exact gh_T_ic true rfl (by simp [gh_cmp]) K
theorem gh_lc6 {L i N : Nat} {xs : Nat → Int32} {S S1 S2 : gh_St} {v : Int32} {r : gh_R} (hi : i + 6 ≤ L) (hL : L ≤ 3072) (h1 : sX9_move N (xs (i + 1)) (xs (i + 2)) (xs (i + 3)) S = some (v, S1)) (h2 : sX10_move N (xs (i + 1)) (xs (i + 2)) (xs (i + 3)) S1 = some (v, S2)) (K : gh_T 60 fL_law 600000 7302250 (some (L, xs)) true false (1162, [(3, .int (nI i)), (2, .ref 56), (1, .ref 0), (0, .ref gh_SC)], [], (gh_mo S2, 96, 2376)) r) : gh_T 60 fL_law 600000 7302250 (some (L, xs)) true false (422, [(3, .int (nI i)), (2, .ref 56), (1, .ref 0), (0, .ref gh_SC)], [], (gh_mo S, 96, 2376)) r := by
  refine gh_T_steps 5 (τ := (427, [(3, .int (nI i)), (2, .ref 56), (1, .ref 0), (0, .ref gh_SC)], [.int (nI i + 1), .ref gh_SC, .ref 0], (gh_mo S, 96, 2376))) (fun _ => rfl) ?_
  refine gh_T_rx rfl (gh_rx1 xs hi hL) ?_
  refine gh_T_steps 4 (τ := (432, [(3, .int (nI i)), (2, .ref 56), (1, .ref 0), (0, .ref gh_SC)], [.int (nI i + 2), .ref gh_SC, .int (xs (i + 1)), .ref 0], (gh_mo S, 96, 2376))) (fun _ => rfl) ?_
  refine gh_T_rx rfl (gh_rx2 xs hi hL) ?_
  refine gh_T_steps 4 (τ := (437, [(3, .int (nI i)), (2, .ref 56), (1, .ref 0), (0, .ref gh_SC)], [.int (nI i + 3), .ref gh_SC, .int (xs (i + 2)), .int (xs (i + 1)), .ref 0], (gh_mo S, 96, 2376))) (fun _ => rfl) ?_
  refine gh_T_rx rfl (gh_rx3 xs hi hL) ?_
  refine gh_T_iv (As := [.int (xs (i + 1)), .int (xs (i + 2)), .int (xs (i + 3))]) (b := 0) (rest := []) (y := some (.int v)) (M' := gh_mo S1) rfl rfl rfl rfl rfl rfl rfl rfl rfl ⟨by decide, by decide⟩ (kX9_move 55 N (xs (i + 1)) (xs (i + 2)) (xs (i + 3)) S (v, S1) h1) ?_
  refine gh_T_steps 5 (τ := (446, [(3, .int (nI i)), (2, .ref 56), (1, .ref 0), (0, .ref gh_SC)], [.int (nI i + 1), .ref gh_SC, .ref 56, .int v], (gh_mo S1, 96, 2376))) (fun _ => rfl) ?_
  refine gh_T_rx rfl (gh_rx1 xs hi hL) ?_
  refine gh_T_steps 4 (τ := (451, [(3, .int (nI i)), (2, .ref 56), (1, .ref 0), (0, .ref gh_SC)], [.int (nI i + 2), .ref gh_SC, .int (xs (i + 1)), .ref 56, .int v], (gh_mo S1, 96, 2376))) (fun _ => rfl) ?_
  refine gh_T_rx rfl (gh_rx2 xs hi hL) ?_
  refine gh_T_steps 4 (τ := (456, [(3, .int (nI i)), (2, .ref 56), (1, .ref 0), (0, .ref gh_SC)], [.int (nI i + 3), .ref gh_SC, .int (xs (i + 2)), .int (xs (i + 1)), .ref 56, .int v], (gh_mo S1, 96, 2376))) (fun _ => rfl) ?_
  refine gh_T_rx rfl (gh_rx3 xs hi hL) ?_
  refine gh_T_iv (As := [.int (xs (i + 1)), .int (xs (i + 2)), .int (xs (i + 3))]) (b := 56) (rest := [.int v]) (y := some (.int v)) (M' := gh_mo S2) rfl rfl rfl rfl rfl rfl rfl rfl rfl ⟨by decide, by decide⟩ (kX10_move 55 N (xs (i + 1)) (xs (i + 2)) (xs (i + 3)) S1 (v, S2) h2) ?_
  exact gh_T_ic true rfl (by simp [gh_cmp]) K
theorem gh_lc7 {L i N : Nat} {xs : Nat → Int32} {S S1 S2 : gh_St} {v : Int32} {r : gh_R} (hi : i + 6 ≤ L) (hL : L ≤ 3072) (h1 : sX9_dry N (xs (i + 1)) (xs (i + 2)) (xs (i + 3)) (xs (i + 4)) S = some (v, S1)) (h2 : sX10_dry N (xs (i + 1)) (xs (i + 2)) (xs (i + 3)) (xs (i + 4)) S1 = some (v, S2)) (K : gh_T 60 fL_law 600000 7302250 (some (L, xs)) true false (1162, [(3, .int (nI i)), (2, .ref 56), (1, .ref 0), (0, .ref gh_SC)], [], (gh_mo S2, 96, 2376)) r) : gh_T 60 fL_law 600000 7302250 (some (L, xs)) true false (465, [(3, .int (nI i)), (2, .ref 56), (1, .ref 0), (0, .ref gh_SC)], [], (gh_mo S, 96, 2376)) r := by
  refine gh_T_steps 5 (τ := (470, [(3, .int (nI i)), (2, .ref 56), (1, .ref 0), (0, .ref gh_SC)], [.int (nI i + 1), .ref gh_SC, .ref 0], (gh_mo S, 96, 2376))) (fun _ => rfl) ?_
  refine gh_T_rx rfl (gh_rx1 xs hi hL) ?_
  refine gh_T_steps 4 (τ := (475, [(3, .int (nI i)), (2, .ref 56), (1, .ref 0), (0, .ref gh_SC)], [.int (nI i + 2), .ref gh_SC, .int (xs (i + 1)), .ref 0], (gh_mo S, 96, 2376))) (fun _ => rfl) ?_
  refine gh_T_rx rfl (gh_rx2 xs hi hL) ?_
  refine gh_T_steps 4 (τ := (480, [(3, .int (nI i)), (2, .ref 56), (1, .ref 0), (0, .ref gh_SC)], [.int (nI i + 3), .ref gh_SC, .int (xs (i + 2)), .int (xs (i + 1)), .ref 0], (gh_mo S, 96, 2376))) (fun _ => rfl) ?_
  refine gh_T_rx rfl (gh_rx3 xs hi hL) ?_
  refine gh_T_steps 4 (τ := (485, [(3, .int (nI i)), (2, .ref 56), (1, .ref 0), (0, .ref gh_SC)], [.int (nI i + 4), .ref gh_SC, .int (xs (i + 3)), .int (xs (i + 2)), .int (xs (i + 1)), .ref 0], (gh_mo S, 96, 2376))) (fun _ => rfl) ?_
  refine gh_T_rx rfl (gh_rx4 xs hi hL) ?_
  refine gh_T_iv (As := [.int (xs (i + 1)), .int (xs (i + 2)), .int (xs (i + 3)), .int (xs (i + 4))]) (b := 0) (rest := []) (y := some (.int v)) (M' := gh_mo S1) rfl rfl rfl rfl rfl rfl rfl rfl rfl ⟨by decide, by decide⟩ (kX9_dry 55 N (xs (i + 1)) (xs (i + 2)) (xs (i + 3)) (xs (i + 4)) S (v, S1) h1) ?_
  refine gh_T_steps 5 (τ := (494, [(3, .int (nI i)), (2, .ref 56), (1, .ref 0), (0, .ref gh_SC)], [.int (nI i + 1), .ref gh_SC, .ref 56, .int v], (gh_mo S1, 96, 2376))) (fun _ => rfl) ?_
  refine gh_T_rx rfl (gh_rx1 xs hi hL) ?_
  refine gh_T_steps 4 (τ := (499, [(3, .int (nI i)), (2, .ref 56), (1, .ref 0), (0, .ref gh_SC)], [.int (nI i + 2), .ref gh_SC, .int (xs (i + 1)), .ref 56, .int v], (gh_mo S1, 96, 2376))) (fun _ => rfl) ?_
  refine gh_T_rx rfl (gh_rx2 xs hi hL) ?_
  refine gh_T_steps 4 (τ := (504, [(3, .int (nI i)), (2, .ref 56), (1, .ref 0), (0, .ref gh_SC)], [.int (nI i + 3), .ref gh_SC, .int (xs (i + 2)), .int (xs (i + 1)), .ref 56, .int v], (gh_mo S1, 96, 2376))) (fun _ => rfl) ?_
  refine gh_T_rx rfl (gh_rx3 xs hi hL) ?_
  refine gh_T_steps 4 (τ := (509, [(3, .int (nI i)), (2, .ref 56), (1, .ref 0), (0, .ref gh_SC)], [.int (nI i + 4), .ref gh_SC, .int (xs (i + 3)), .int (xs (i + 2)), .int (xs (i + 1)), .ref 56, .int v], (gh_mo S1, 96, 2376))) (fun _ => rfl) ?_
  refine gh_T_rx rfl (gh_rx4 xs hi hL) ?_
  refine gh_T_iv (As := [.int (xs (i + 1)), .int (xs (i + 2)), .int (xs (i + 3)), .int (xs (i + 4))]) (b := 56) (rest := [.int v]) (y := some (.int v)) (M' := gh_mo S2) rfl rfl rfl rfl rfl rfl rfl rfl rfl ⟨by decide, by decide⟩ (kX10_dry 55 N (xs (i + 1)) (xs (i + 2)) (xs (i + 3)) (xs (i + 4)) S1 (v, S2) h2) ?_
  exact gh_T_ic true rfl (by simp [gh_cmp]) K
theorem gh_lc8 {L i N : Nat} {xs : Nat → Int32} {S S1 S2 : gh_St} {v : Int64} {r : gh_R} (hi : i + 6 ≤ L) (hL : L ≤ 3072) (h1 : sX9_ship N (xs (i + 1)) (xs (i + 2)) S = some (v, S1)) (h2 : sX10_ship N (xs (i + 1)) (xs (i + 2)) S1 = some (v, S2)) (K : gh_T 60 fL_law 600000 7302250 (some (L, xs)) true false (1162, [(3, .int (nI i)), (2, .ref 56), (1, .ref 0), (0, .ref gh_SC)], [], (gh_mo S2, 96, 2376)) r) : gh_T 60 fL_law 600000 7302250 (some (L, xs)) true false (518, [(3, .int (nI i)), (2, .ref 56), (1, .ref 0), (0, .ref gh_SC)], [], (gh_mo S, 96, 2376)) r := by
  refine gh_T_steps 5 (τ := (523, [(3, .int (nI i)), (2, .ref 56), (1, .ref 0), (0, .ref gh_SC)], [.int (nI i + 1), .ref gh_SC, .ref 0], (gh_mo S, 96, 2376))) (fun _ => rfl) ?_
  refine gh_T_rx rfl (gh_rx1 xs hi hL) ?_
  refine gh_T_steps 4 (τ := (528, [(3, .int (nI i)), (2, .ref 56), (1, .ref 0), (0, .ref gh_SC)], [.int (nI i + 2), .ref gh_SC, .int (xs (i + 1)), .ref 0], (gh_mo S, 96, 2376))) (fun _ => rfl) ?_
  refine gh_T_rx rfl (gh_rx2 xs hi hL) ?_
  refine gh_T_iv (As := [.int (xs (i + 1)), .int (xs (i + 2))]) (b := 0) (rest := []) (y := some (.long v)) (M' := gh_mo S1) rfl rfl rfl rfl rfl rfl rfl rfl rfl ⟨by decide, by decide⟩ (kX9_ship 56 N (xs (i + 1)) (xs (i + 2)) S (v, S1) h1) ?_
  refine gh_T_steps 5 (τ := (537, [(3, .int (nI i)), (2, .ref 56), (1, .ref 0), (0, .ref gh_SC)], [.int (nI i + 1), .ref gh_SC, .ref 56, .long v], (gh_mo S1, 96, 2376))) (fun _ => rfl) ?_
  refine gh_T_rx rfl (gh_rx1 xs hi hL) ?_
  refine gh_T_steps 4 (τ := (542, [(3, .int (nI i)), (2, .ref 56), (1, .ref 0), (0, .ref gh_SC)], [.int (nI i + 2), .ref gh_SC, .int (xs (i + 1)), .ref 56, .long v], (gh_mo S1, 96, 2376))) (fun _ => rfl) ?_
  refine gh_T_rx rfl (gh_rx2 xs hi hL) ?_
  refine gh_T_iv (As := [.int (xs (i + 1)), .int (xs (i + 2))]) (b := 56) (rest := [.long v]) (y := some (.long v)) (M' := gh_mo S2) rfl rfl rfl rfl rfl rfl rfl rfl rfl ⟨by decide, by decide⟩ (kX10_ship 57 N (xs (i + 1)) (xs (i + 2)) S1 (v, S2) h2) ?_
  refine gh_T_steps 1 (τ := (547, [(3, .int (nI i)), (2, .ref 56), (1, .ref 0), (0, .ref gh_SC)], [.int (lg_cmp v v)], (gh_mo S2, 96, 2376))) (fun _ => rfl) ?_
  exact gh_T_if true rfl (by rw [gh_lcmp_self]; rfl) K
theorem gh_lc9 {L i N : Nat} {xs : Nat → Int32} {S S1 S2 : gh_St} {v : Int32} {r : gh_R} (hi : i + 6 ≤ L) (hL : L ≤ 3072) (h1 : sX9_binOf N (xs (i + 1)) (xs (i + 2)) S = some (v, S1)) (h2 : sX10_binOf N (xs (i + 1)) (xs (i + 2)) S1 = some (v, S2)) (K : gh_T 60 fL_law 600000 7302250 (some (L, xs)) true false (1162, [(3, .int (nI i)), (2, .ref 56), (1, .ref 0), (0, .ref gh_SC)], [], (gh_mo S2, 96, 2376)) r) : gh_T 60 fL_law 600000 7302250 (some (L, xs)) true false (552, [(3, .int (nI i)), (2, .ref 56), (1, .ref 0), (0, .ref gh_SC)], [], (gh_mo S, 96, 2376)) r := by
  refine gh_T_steps 5 (τ := (557, [(3, .int (nI i)), (2, .ref 56), (1, .ref 0), (0, .ref gh_SC)], [.int (nI i + 1), .ref gh_SC, .ref 0], (gh_mo S, 96, 2376))) (fun _ => rfl) ?_
  refine gh_T_rx rfl (gh_rx1 xs hi hL) ?_
  refine gh_T_steps 4 (τ := (562, [(3, .int (nI i)), (2, .ref 56), (1, .ref 0), (0, .ref gh_SC)], [.int (nI i + 2), .ref gh_SC, .int (xs (i + 1)), .ref 0], (gh_mo S, 96, 2376))) (fun _ => rfl) ?_
  refine gh_T_rx rfl (gh_rx2 xs hi hL) ?_
  refine gh_T_iv (As := [.int (xs (i + 1)), .int (xs (i + 2))]) (b := 0) (rest := []) (y := some (.int v)) (M' := gh_mo S1) rfl rfl rfl rfl rfl rfl rfl rfl rfl ⟨by decide, by decide⟩ (kX9_binOf 57 N (xs (i + 1)) (xs (i + 2)) S (v, S1) h1) ?_
  refine gh_T_steps 5 (τ := (571, [(3, .int (nI i)), (2, .ref 56), (1, .ref 0), (0, .ref gh_SC)], [.int (nI i + 1), .ref gh_SC, .ref 56, .int v], (gh_mo S1, 96, 2376))) (fun _ => rfl) ?_
  refine gh_T_rx rfl (gh_rx1 xs hi hL) ?_
  refine gh_T_steps 4 (τ := (576, [(3, .int (nI i)), (2, .ref 56), (1, .ref 0), (0, .ref gh_SC)], [.int (nI i + 2), .ref gh_SC, .int (xs (i + 1)), .ref 56, .int v], (gh_mo S1, 96, 2376))) (fun _ => rfl) ?_
  refine gh_T_rx rfl (gh_rx2 xs hi hL) ?_
  refine gh_T_iv (As := [.int (xs (i + 1)), .int (xs (i + 2))]) (b := 56) (rest := [.int v]) (y := some (.int v)) (M' := gh_mo S2) rfl rfl rfl rfl rfl rfl rfl rfl rfl ⟨by decide, by decide⟩ (kX10_binOf 57 N (xs (i + 1)) (xs (i + 2)) S1 (v, S2) h2) ?_
  exact gh_T_ic true rfl (by simp [gh_cmp]) K
theorem gh_lc10 {L i N : Nat} {xs : Nat → Int32} {S S1 S2 : gh_St} {v : Int64} {r : gh_R} (hi : i + 6 ≤ L) (hL : L ≤ 3072) (h1 : sX9_dryIn N (xs (i + 1)) S = some (v, S1)) (h2 : sX10_dryIn N (xs (i + 1)) S1 = some (v, S2)) (K : gh_T 60 fL_law 600000 7302250 (some (L, xs)) true false (1162, [(3, .int (nI i)), (2, .ref 56), (1, .ref 0), (0, .ref gh_SC)], [], (gh_mo S2, 96, 2376)) r) : gh_T 60 fL_law 600000 7302250 (some (L, xs)) true false (585, [(3, .int (nI i)), (2, .ref 56), (1, .ref 0), (0, .ref gh_SC)], [], (gh_mo S, 96, 2376)) r := by
  refine gh_T_steps 5 (τ := (590, [(3, .int (nI i)), (2, .ref 56), (1, .ref 0), (0, .ref gh_SC)], [.int (nI i + 1), .ref gh_SC, .ref 0], (gh_mo S, 96, 2376))) (fun _ => rfl) ?_
  refine gh_T_rx rfl (gh_rx1 xs hi hL) ?_
  refine gh_T_iv (As := [.int (xs (i + 1))]) (b := 0) (rest := []) (y := some (.long v)) (M' := gh_mo S1) rfl rfl rfl rfl rfl rfl rfl rfl rfl ⟨by decide, by decide⟩ (kX9_dryIn 57 N (xs (i + 1)) S (v, S1) h1) ?_
  refine gh_T_steps 5 (τ := (599, [(3, .int (nI i)), (2, .ref 56), (1, .ref 0), (0, .ref gh_SC)], [.int (nI i + 1), .ref gh_SC, .ref 56, .long v], (gh_mo S1, 96, 2376))) (fun _ => rfl) ?_
  refine gh_T_rx rfl (gh_rx1 xs hi hL) ?_
  refine gh_T_iv (As := [.int (xs (i + 1))]) (b := 56) (rest := [.long v]) (y := some (.long v)) (M' := gh_mo S2) rfl rfl rfl rfl rfl rfl rfl rfl rfl ⟨by decide, by decide⟩ (kX10_dryIn 57 N (xs (i + 1)) S1 (v, S2) h2) ?_
  refine gh_T_steps 1 (τ := (604, [(3, .int (nI i)), (2, .ref 56), (1, .ref 0), (0, .ref gh_SC)], [.int (lg_cmp v v)], (gh_mo S2, 96, 2376))) (fun _ => rfl) ?_
  exact gh_T_if true rfl (by rw [gh_lcmp_self]; rfl) K
theorem gh_lc11 {L i N : Nat} {xs : Nat → Int32} {S S1 S2 : gh_St} {v : Int32} {r : gh_R} (hi : i + 6 ≤ L) (hL : L ≤ 3072) (h1 : sX9_truck N (xs (i + 1)) (xs (i + 2)) (xs (i + 3)) S = some (v, S1)) (h2 : sX10_truck N (xs (i + 1)) (xs (i + 2)) (xs (i + 3)) S1 = some (v, S2)) (K : gh_T 60 fL_law 600000 7302250 (some (L, xs)) true false (1162, [(3, .int (nI i)), (2, .ref 56), (1, .ref 0), (0, .ref gh_SC)], [], (gh_mo S2, 96, 2376)) r) : gh_T 60 fL_law 600000 7302250 (some (L, xs)) true false (609, [(3, .int (nI i)), (2, .ref 56), (1, .ref 0), (0, .ref gh_SC)], [], (gh_mo S, 96, 2376)) r := by
  refine gh_T_steps 5 (τ := (614, [(3, .int (nI i)), (2, .ref 56), (1, .ref 0), (0, .ref gh_SC)], [.int (nI i + 1), .ref gh_SC, .ref 0], (gh_mo S, 96, 2376))) (fun _ => rfl) ?_
  refine gh_T_rx rfl (gh_rx1 xs hi hL) ?_
  refine gh_T_steps 4 (τ := (619, [(3, .int (nI i)), (2, .ref 56), (1, .ref 0), (0, .ref gh_SC)], [.int (nI i + 2), .ref gh_SC, .int (xs (i + 1)), .ref 0], (gh_mo S, 96, 2376))) (fun _ => rfl) ?_
  refine gh_T_rx rfl (gh_rx2 xs hi hL) ?_
  refine gh_T_steps 4 (τ := (624, [(3, .int (nI i)), (2, .ref 56), (1, .ref 0), (0, .ref gh_SC)], [.int (nI i + 3), .ref gh_SC, .int (xs (i + 2)), .int (xs (i + 1)), .ref 0], (gh_mo S, 96, 2376))) (fun _ => rfl) ?_
  refine gh_T_rx rfl (gh_rx3 xs hi hL) ?_
  refine gh_T_iv (As := [.int (xs (i + 1)), .int (xs (i + 2)), .int (xs (i + 3))]) (b := 0) (rest := []) (y := some (.int v)) (M' := gh_mo S1) rfl rfl rfl rfl rfl rfl rfl rfl rfl ⟨by decide, by decide⟩ (kX9_truck 56 N (xs (i + 1)) (xs (i + 2)) (xs (i + 3)) S (v, S1) h1) ?_
  refine gh_T_steps 5 (τ := (633, [(3, .int (nI i)), (2, .ref 56), (1, .ref 0), (0, .ref gh_SC)], [.int (nI i + 1), .ref gh_SC, .ref 56, .int v], (gh_mo S1, 96, 2376))) (fun _ => rfl) ?_
  refine gh_T_rx rfl (gh_rx1 xs hi hL) ?_
  refine gh_T_steps 4 (τ := (638, [(3, .int (nI i)), (2, .ref 56), (1, .ref 0), (0, .ref gh_SC)], [.int (nI i + 2), .ref gh_SC, .int (xs (i + 1)), .ref 56, .int v], (gh_mo S1, 96, 2376))) (fun _ => rfl) ?_
  refine gh_T_rx rfl (gh_rx2 xs hi hL) ?_
  refine gh_T_steps 4 (τ := (643, [(3, .int (nI i)), (2, .ref 56), (1, .ref 0), (0, .ref gh_SC)], [.int (nI i + 3), .ref gh_SC, .int (xs (i + 2)), .int (xs (i + 1)), .ref 56, .int v], (gh_mo S1, 96, 2376))) (fun _ => rfl) ?_
  refine gh_T_rx rfl (gh_rx3 xs hi hL) ?_
  refine gh_T_iv (As := [.int (xs (i + 1)), .int (xs (i + 2)), .int (xs (i + 3))]) (b := 56) (rest := [.int v]) (y := some (.int v)) (M' := gh_mo S2) rfl rfl rfl rfl rfl rfl rfl rfl rfl ⟨by decide, by decide⟩ (kX10_truck 57 N (xs (i + 1)) (xs (i + 2)) (xs (i + 3)) S1 (v, S2) h2) ?_
  exact gh_T_ic true rfl (by simp [gh_cmp]) K
theorem gh_lc12 {L i N : Nat} {xs : Nat → Int32} {S S1 S2 : gh_St} {v : Int32} {r : gh_R} (hi : i + 6 ≤ L) (hL : L ≤ 3072) (h1 : sX9_pit N (xs (i + 1)) (xs (i + 2)) S = some (v, S1)) (h2 : sX10_pit N (xs (i + 1)) (xs (i + 2)) S1 = some (v, S2)) (K : gh_T 60 fL_law 600000 7302250 (some (L, xs)) true false (1162, [(3, .int (nI i)), (2, .ref 56), (1, .ref 0), (0, .ref gh_SC)], [], (gh_mo S2, 96, 2376)) r) : gh_T 60 fL_law 600000 7302250 (some (L, xs)) true false (652, [(3, .int (nI i)), (2, .ref 56), (1, .ref 0), (0, .ref gh_SC)], [], (gh_mo S, 96, 2376)) r := by
  refine gh_T_steps 5 (τ := (657, [(3, .int (nI i)), (2, .ref 56), (1, .ref 0), (0, .ref gh_SC)], [.int (nI i + 1), .ref gh_SC, .ref 0], (gh_mo S, 96, 2376))) (fun _ => rfl) ?_
  refine gh_T_rx rfl (gh_rx1 xs hi hL) ?_
  refine gh_T_steps 4 (τ := (662, [(3, .int (nI i)), (2, .ref 56), (1, .ref 0), (0, .ref gh_SC)], [.int (nI i + 2), .ref gh_SC, .int (xs (i + 1)), .ref 0], (gh_mo S, 96, 2376))) (fun _ => rfl) ?_
  refine gh_T_rx rfl (gh_rx2 xs hi hL) ?_
  refine gh_T_iv (As := [.int (xs (i + 1)), .int (xs (i + 2))]) (b := 0) (rest := []) (y := some (.int v)) (M' := gh_mo S1) rfl rfl rfl rfl rfl rfl rfl rfl rfl ⟨by decide, by decide⟩ (kX9_pit 58 N (xs (i + 1)) (xs (i + 2)) S (v, S1) h1) ?_
  refine gh_T_steps 5 (τ := (671, [(3, .int (nI i)), (2, .ref 56), (1, .ref 0), (0, .ref gh_SC)], [.int (nI i + 1), .ref gh_SC, .ref 56, .int v], (gh_mo S1, 96, 2376))) (fun _ => rfl) ?_
  refine gh_T_rx rfl (gh_rx1 xs hi hL) ?_
  refine gh_T_steps 4 (τ := (676, [(3, .int (nI i)), (2, .ref 56), (1, .ref 0), (0, .ref gh_SC)], [.int (nI i + 2), .ref gh_SC, .int (xs (i + 1)), .ref 56, .int v], (gh_mo S1, 96, 2376))) (fun _ => rfl) ?_
  refine gh_T_rx rfl (gh_rx2 xs hi hL) ?_
  refine gh_T_iv (As := [.int (xs (i + 1)), .int (xs (i + 2))]) (b := 56) (rest := [.int v]) (y := some (.int v)) (M' := gh_mo S2) rfl rfl rfl rfl rfl rfl rfl rfl rfl ⟨by decide, by decide⟩ (kX10_pit 58 N (xs (i + 1)) (xs (i + 2)) S1 (v, S2) h2) ?_
  exact gh_T_ic true rfl (by simp [gh_cmp]) K
theorem gh_lc13 {L i N : Nat} {xs : Nat → Int32} {S S1 S2 : gh_St} {v : Int32} {r : gh_R} (hi : i + 6 ≤ L) (hL : L ≤ 3072) (h1 : sX9_rush N S = some (v, S1)) (h2 : sX10_rush N S1 = some (v, S2)) (K : gh_T 60 fL_law 600000 7302250 (some (L, xs)) true false (1162, [(3, .int (nI i)), (2, .ref 56), (1, .ref 0), (0, .ref gh_SC)], [], (gh_mo S2, 96, 2376)) r) : gh_T 60 fL_law 600000 7302250 (some (L, xs)) true false (685, [(3, .int (nI i)), (2, .ref 56), (1, .ref 0), (0, .ref gh_SC)], [], (gh_mo S, 96, 2376)) r := by
  refine gh_T_steps 1 (τ := (686, [(3, .int (nI i)), (2, .ref 56), (1, .ref 0), (0, .ref gh_SC)], [.ref 0], (gh_mo S, 96, 2376))) (fun _ => rfl) ?_
  refine gh_T_iv (As := []) (b := 0) (rest := []) (y := some (.int v)) (M' := gh_mo S1) rfl rfl rfl rfl rfl rfl rfl rfl rfl ⟨by decide, by decide⟩ (kX9_rush 47 N S (v, S1) h1) ?_
  refine gh_T_steps 1 (τ := (690, [(3, .int (nI i)), (2, .ref 56), (1, .ref 0), (0, .ref gh_SC)], [.ref 56, .int v], (gh_mo S1, 96, 2376))) (fun _ => rfl) ?_
  refine gh_T_iv (As := []) (b := 56) (rest := [.int v]) (y := some (.int v)) (M' := gh_mo S2) rfl rfl rfl rfl rfl rfl rfl rfl rfl ⟨by decide, by decide⟩ (kX10_rush 57 N S1 (v, S2) h2) ?_
  exact gh_T_ic true rfl (by simp [gh_cmp]) K
theorem gh_lc14 {L i N : Nat} {xs : Nat → Int32} {S S1 S2 : gh_St} {v : Int32} {r : gh_R} (hi : i + 6 ≤ L) (hL : L ≤ 3072) (h1 : sX9_served N (xs (i + 1)) (xs (i + 2)) S = some (v, S1)) (h2 : sX10_served N (xs (i + 1)) (xs (i + 2)) S1 = some (v, S2)) (K : gh_T 60 fL_law 600000 7302250 (some (L, xs)) true false (1162, [(3, .int (nI i)), (2, .ref 56), (1, .ref 0), (0, .ref gh_SC)], [], (gh_mo S2, 96, 2376)) r) : gh_T 60 fL_law 600000 7302250 (some (L, xs)) true false (698, [(3, .int (nI i)), (2, .ref 56), (1, .ref 0), (0, .ref gh_SC)], [], (gh_mo S, 96, 2376)) r := by
  refine gh_T_steps 5 (τ := (703, [(3, .int (nI i)), (2, .ref 56), (1, .ref 0), (0, .ref gh_SC)], [.int (nI i + 1), .ref gh_SC, .ref 0], (gh_mo S, 96, 2376))) (fun _ => rfl) ?_
  refine gh_T_rx rfl (gh_rx1 xs hi hL) ?_
  refine gh_T_steps 4 (τ := (708, [(3, .int (nI i)), (2, .ref 56), (1, .ref 0), (0, .ref gh_SC)], [.int (nI i + 2), .ref gh_SC, .int (xs (i + 1)), .ref 0], (gh_mo S, 96, 2376))) (fun _ => rfl) ?_
  refine gh_T_rx rfl (gh_rx2 xs hi hL) ?_
  refine gh_T_iv (As := [.int (xs (i + 1)), .int (xs (i + 2))]) (b := 0) (rest := []) (y := some (.int v)) (M' := gh_mo S1) rfl rfl rfl rfl rfl rfl rfl rfl rfl ⟨by decide, by decide⟩ (kX9_served 47 N (xs (i + 1)) (xs (i + 2)) S (v, S1) h1) ?_
  refine gh_T_steps 5 (τ := (717, [(3, .int (nI i)), (2, .ref 56), (1, .ref 0), (0, .ref gh_SC)], [.int (nI i + 1), .ref gh_SC, .ref 56, .int v], (gh_mo S1, 96, 2376))) (fun _ => rfl) ?_
  refine gh_T_rx rfl (gh_rx1 xs hi hL) ?_
  refine gh_T_steps 4 (τ := (722, [(3, .int (nI i)), (2, .ref 56), (1, .ref 0), (0, .ref gh_SC)], [.int (nI i + 2), .ref gh_SC, .int (xs (i + 1)), .ref 56, .int v], (gh_mo S1, 96, 2376))) (fun _ => rfl) ?_
  refine gh_T_rx rfl (gh_rx2 xs hi hL) ?_
  refine gh_T_iv (As := [.int (xs (i + 1)), .int (xs (i + 2))]) (b := 56) (rest := [.int v]) (y := some (.int v)) (M' := gh_mo S2) rfl rfl rfl rfl rfl rfl rfl rfl rfl ⟨by decide, by decide⟩ (kX10_served 56 N (xs (i + 1)) (xs (i + 2)) S1 (v, S2) h2) ?_
  exact gh_T_ic true rfl (by simp [gh_cmp]) K
theorem gh_lc15 {L i N : Nat} {xs : Nat → Int32} {S S1 S2 : gh_St} {v : Int32} {r : gh_R} (hi : i + 6 ≤ L) (hL : L ≤ 3072) (h1 : sX9_gone N S = some (v, S1)) (h2 : sX10_gone N S1 = some (v, S2)) (K : gh_T 60 fL_law 600000 7302250 (some (L, xs)) true false (1162, [(3, .int (nI i)), (2, .ref 56), (1, .ref 0), (0, .ref gh_SC)], [], (gh_mo S2, 96, 2376)) r) : gh_T 60 fL_law 600000 7302250 (some (L, xs)) true false (731, [(3, .int (nI i)), (2, .ref 56), (1, .ref 0), (0, .ref gh_SC)], [], (gh_mo S, 96, 2376)) r := by
  refine gh_T_steps 1 (τ := (732, [(3, .int (nI i)), (2, .ref 56), (1, .ref 0), (0, .ref gh_SC)], [.ref 0], (gh_mo S, 96, 2376))) (fun _ => rfl) ?_
  refine gh_T_iv (As := []) (b := 0) (rest := []) (y := some (.int v)) (M' := gh_mo S1) rfl rfl rfl rfl rfl rfl rfl rfl rfl ⟨by decide, by decide⟩ (kX9_gone 58 N S (v, S1) h1) ?_
  refine gh_T_steps 1 (τ := (736, [(3, .int (nI i)), (2, .ref 56), (1, .ref 0), (0, .ref gh_SC)], [.ref 56, .int v], (gh_mo S1, 96, 2376))) (fun _ => rfl) ?_
  refine gh_T_iv (As := []) (b := 56) (rest := [.int v]) (y := some (.int v)) (M' := gh_mo S2) rfl rfl rfl rfl rfl rfl rfl rfl rfl ⟨by decide, by decide⟩ (kX10_gone 59 N S1 (v, S2) h2) ?_
  exact gh_T_ic true rfl (by simp [gh_cmp]) K
theorem gh_lc16 {L i N : Nat} {xs : Nat → Int32} {S S1 S2 : gh_St} {v : Int32} {r : gh_R} (hi : i + 6 ≤ L) (hL : L ≤ 3072) (h1 : sX9_hour N (xs (i + 1)) (gh_b01 (xs (i + 2))) (xs (i + 3)) S = some (v, S1)) (h2 : sX10_hour N (xs (i + 1)) (gh_b01 (xs (i + 2))) (xs (i + 3)) S1 = some (v, S2)) (K : gh_T 60 fL_law 600000 7302250 (some (L, xs)) true false (1162, [(3, .int (nI i)), (2, .ref 56), (1, .ref 0), (0, .ref gh_SC)], [], (gh_mo S2, 96, 2376)) r) : gh_T 60 fL_law 600000 7302250 (some (L, xs)) true false (744, [(3, .int (nI i)), (2, .ref 56), (1, .ref 0), (0, .ref gh_SC)], [], (gh_mo S, 96, 2376)) r := by
  refine gh_T_steps 5 (τ := (749, [(3, .int (nI i)), (2, .ref 56), (1, .ref 0), (0, .ref gh_SC)], [.int (nI i + 1), .ref gh_SC, .ref 0], (gh_mo S, 96, 2376))) (fun _ => rfl) ?_
  refine gh_T_rx rfl (gh_rx1 xs hi hL) ?_
  refine gh_T_steps 4 (τ := (754, [(3, .int (nI i)), (2, .ref 56), (1, .ref 0), (0, .ref gh_SC)], [.int (nI i + 2), .ref gh_SC, .int (xs (i + 1)), .ref 0], (gh_mo S, 96, 2376))) (fun _ => rfl) ?_
  refine gh_T_rx rfl (gh_rx2 xs hi hL) ?_
  refine gh_T_b01 (pc := 755) (tgt := 763) (x := xs (i + 2)) (st := [.int (xs (i + 1)), .ref 0]) (fun c => ?_) (fun c => ?_) ?_
  · exact fun k => gh_T_if true rfl c (gh_T_steps 1 (τ := (763, [(3, .int (nI i)), (2, .ref 56), (1, .ref 0), (0, .ref gh_SC)], [.int 0, .int (xs (i + 1)), .ref 0], (gh_mo S, 96, 2376))) (fun _ => rfl) k)
  · exact fun k => gh_T_if false rfl c (gh_T_steps 2 (τ := (763, [(3, .int (nI i)), (2, .ref 56), (1, .ref 0), (0, .ref gh_SC)], [.int 1, .int (xs (i + 1)), .ref 0], (gh_mo S, 96, 2376))) (fun _ => rfl) k)
  refine gh_T_steps 4 (τ := (767, [(3, .int (nI i)), (2, .ref 56), (1, .ref 0), (0, .ref gh_SC)], [.int (nI i + 3), .ref gh_SC, .int (gh_b01 (xs (i + 2))), .int (xs (i + 1)), .ref 0], (gh_mo S, 96, 2376))) (fun _ => rfl) ?_
  refine gh_T_rx rfl (gh_rx3 xs hi hL) ?_
  refine gh_T_iv (As := [.int (xs (i + 1)), .int (gh_b01 (xs (i + 2))), .int (xs (i + 3))]) (b := 0) (rest := []) (y := some (.int v)) (M' := gh_mo S1) rfl rfl rfl rfl rfl rfl rfl rfl rfl ⟨by decide, by decide⟩ (kX9_hour 57 N (xs (i + 1)) (gh_b01 (xs (i + 2))) (xs (i + 3)) S (v, S1) h1) ?_
  refine gh_T_steps 5 (τ := (776, [(3, .int (nI i)), (2, .ref 56), (1, .ref 0), (0, .ref gh_SC)], [.int (nI i + 1), .ref gh_SC, .ref 56, .int v], (gh_mo S1, 96, 2376))) (fun _ => rfl) ?_
  refine gh_T_rx rfl (gh_rx1 xs hi hL) ?_
  refine gh_T_steps 4 (τ := (781, [(3, .int (nI i)), (2, .ref 56), (1, .ref 0), (0, .ref gh_SC)], [.int (nI i + 2), .ref gh_SC, .int (xs (i + 1)), .ref 56, .int v], (gh_mo S1, 96, 2376))) (fun _ => rfl) ?_
  refine gh_T_rx rfl (gh_rx2 xs hi hL) ?_
  refine gh_T_b01 (pc := 782) (tgt := 790) (x := xs (i + 2)) (st := [.int (xs (i + 1)), .ref 56, .int v]) (fun c => ?_) (fun c => ?_) ?_
  · exact fun k => gh_T_if true rfl c (gh_T_steps 1 (τ := (790, [(3, .int (nI i)), (2, .ref 56), (1, .ref 0), (0, .ref gh_SC)], [.int 0, .int (xs (i + 1)), .ref 56, .int v], (gh_mo S1, 96, 2376))) (fun _ => rfl) k)
  · exact fun k => gh_T_if false rfl c (gh_T_steps 2 (τ := (790, [(3, .int (nI i)), (2, .ref 56), (1, .ref 0), (0, .ref gh_SC)], [.int 1, .int (xs (i + 1)), .ref 56, .int v], (gh_mo S1, 96, 2376))) (fun _ => rfl) k)
  refine gh_T_steps 4 (τ := (794, [(3, .int (nI i)), (2, .ref 56), (1, .ref 0), (0, .ref gh_SC)], [.int (nI i + 3), .ref gh_SC, .int (gh_b01 (xs (i + 2))), .int (xs (i + 1)), .ref 56, .int v], (gh_mo S1, 96, 2376))) (fun _ => rfl) ?_
  refine gh_T_rx rfl (gh_rx3 xs hi hL) ?_
  refine gh_T_iv (As := [.int (xs (i + 1)), .int (gh_b01 (xs (i + 2))), .int (xs (i + 3))]) (b := 56) (rest := [.int v]) (y := some (.int v)) (M' := gh_mo S2) rfl rfl rfl rfl rfl rfl rfl rfl rfl ⟨by decide, by decide⟩ (kX10_hour 58 N (xs (i + 1)) (gh_b01 (xs (i + 2))) (xs (i + 3)) S1 (v, S2) h2) ?_
  exact gh_T_ic true rfl (by simp [gh_cmp]) K
theorem gh_lc17 {L i N : Nat} {xs : Nat → Int32} {S S1 S2 : gh_St} {v : Int32} {r : gh_R} (hi : i + 6 ≤ L) (hL : L ≤ 3072) (h1 : sX9_needs N (xs (i + 1)) (xs (i + 2)) (xs (i + 3)) S = some (v, S1)) (h2 : sX10_needs N (xs (i + 1)) (xs (i + 2)) (xs (i + 3)) S1 = some (v, S2)) (K : gh_T 60 fL_law 600000 7302250 (some (L, xs)) true false (1162, [(3, .int (nI i)), (2, .ref 56), (1, .ref 0), (0, .ref gh_SC)], [], (gh_mo S2, 96, 2376)) r) : gh_T 60 fL_law 600000 7302250 (some (L, xs)) true false (803, [(3, .int (nI i)), (2, .ref 56), (1, .ref 0), (0, .ref gh_SC)], [], (gh_mo S, 96, 2376)) r := by
  refine gh_T_steps 5 (τ := (808, [(3, .int (nI i)), (2, .ref 56), (1, .ref 0), (0, .ref gh_SC)], [.int (nI i + 1), .ref gh_SC, .ref 0], (gh_mo S, 96, 2376))) (fun _ => rfl) ?_
  refine gh_T_rx rfl (gh_rx1 xs hi hL) ?_
  refine gh_T_steps 4 (τ := (813, [(3, .int (nI i)), (2, .ref 56), (1, .ref 0), (0, .ref gh_SC)], [.int (nI i + 2), .ref gh_SC, .int (xs (i + 1)), .ref 0], (gh_mo S, 96, 2376))) (fun _ => rfl) ?_
  refine gh_T_rx rfl (gh_rx2 xs hi hL) ?_
  refine gh_T_steps 4 (τ := (818, [(3, .int (nI i)), (2, .ref 56), (1, .ref 0), (0, .ref gh_SC)], [.int (nI i + 3), .ref gh_SC, .int (xs (i + 2)), .int (xs (i + 1)), .ref 0], (gh_mo S, 96, 2376))) (fun _ => rfl) ?_
  refine gh_T_rx rfl (gh_rx3 xs hi hL) ?_
  refine gh_T_iv (As := [.int (xs (i + 1)), .int (xs (i + 2)), .int (xs (i + 3))]) (b := 0) (rest := []) (y := some (.int v)) (M' := gh_mo S1) rfl rfl rfl rfl rfl rfl rfl rfl rfl ⟨by decide, by decide⟩ (kX9_needs 56 N (xs (i + 1)) (xs (i + 2)) (xs (i + 3)) S (v, S1) h1) ?_
  refine gh_T_steps 5 (τ := (827, [(3, .int (nI i)), (2, .ref 56), (1, .ref 0), (0, .ref gh_SC)], [.int (nI i + 1), .ref gh_SC, .ref 56, .int v], (gh_mo S1, 96, 2376))) (fun _ => rfl) ?_
  refine gh_T_rx rfl (gh_rx1 xs hi hL) ?_
  refine gh_T_steps 4 (τ := (832, [(3, .int (nI i)), (2, .ref 56), (1, .ref 0), (0, .ref gh_SC)], [.int (nI i + 2), .ref gh_SC, .int (xs (i + 1)), .ref 56, .int v], (gh_mo S1, 96, 2376))) (fun _ => rfl) ?_
  refine gh_T_rx rfl (gh_rx2 xs hi hL) ?_
  refine gh_T_steps 4 (τ := (837, [(3, .int (nI i)), (2, .ref 56), (1, .ref 0), (0, .ref gh_SC)], [.int (nI i + 3), .ref gh_SC, .int (xs (i + 2)), .int (xs (i + 1)), .ref 56, .int v], (gh_mo S1, 96, 2376))) (fun _ => rfl) ?_
  refine gh_T_rx rfl (gh_rx3 xs hi hL) ?_
  refine gh_T_iv (As := [.int (xs (i + 1)), .int (xs (i + 2)), .int (xs (i + 3))]) (b := 56) (rest := [.int v]) (y := some (.int v)) (M' := gh_mo S2) rfl rfl rfl rfl rfl rfl rfl rfl rfl ⟨by decide, by decide⟩ (kX10_needs 57 N (xs (i + 1)) (xs (i + 2)) (xs (i + 3)) S1 (v, S2) h2) ?_
  exact gh_T_ic true rfl (by simp [gh_cmp]) K
theorem gh_lc18 {L i N : Nat} {xs : Nat → Int32} {S S1 S2 : gh_St} {v : Int32} {r : gh_R} (hi : i + 6 ≤ L) (hL : L ≤ 3072) (h1 : sX9_fans N S = some (v, S1)) (h2 : sX10_fans N S1 = some (v, S2)) (K : gh_T 60 fL_law 600000 7302250 (some (L, xs)) true false (1162, [(3, .int (nI i)), (2, .ref 56), (1, .ref 0), (0, .ref gh_SC)], [], (gh_mo S2, 96, 2376)) r) : gh_T 60 fL_law 600000 7302250 (some (L, xs)) true false (846, [(3, .int (nI i)), (2, .ref 56), (1, .ref 0), (0, .ref gh_SC)], [], (gh_mo S, 96, 2376)) r := by
  refine gh_T_steps 1 (τ := (847, [(3, .int (nI i)), (2, .ref 56), (1, .ref 0), (0, .ref gh_SC)], [.ref 0], (gh_mo S, 96, 2376))) (fun _ => rfl) ?_
  refine gh_T_iv (As := []) (b := 0) (rest := []) (y := some (.int v)) (M' := gh_mo S1) rfl rfl rfl rfl rfl rfl rfl rfl rfl ⟨by decide, by decide⟩ (kX9_fans 53 N S (v, S1) h1) ?_
  refine gh_T_steps 1 (τ := (851, [(3, .int (nI i)), (2, .ref 56), (1, .ref 0), (0, .ref gh_SC)], [.ref 56, .int v], (gh_mo S1, 96, 2376))) (fun _ => rfl) ?_
  refine gh_T_iv (As := []) (b := 56) (rest := [.int v]) (y := some (.int v)) (M' := gh_mo S2) rfl rfl rfl rfl rfl rfl rfl rfl rfl ⟨by decide, by decide⟩ (kX10_fans 56 N S1 (v, S2) h2) ?_
  exact gh_T_ic true rfl (by simp [gh_cmp]) K
theorem gh_lc19 {L i N : Nat} {xs : Nat → Int32} {S S1 S2 : gh_St} {v : Int32} {r : gh_R} (hi : i + 6 ≤ L) (hL : L ≤ 3072) (h1 : sX9_fansOf N (xs (i + 1)) S = some (v, S1)) (h2 : sX10_fansOf N (xs (i + 1)) S1 = some (v, S2)) (K : gh_T 60 fL_law 600000 7302250 (some (L, xs)) true false (1162, [(3, .int (nI i)), (2, .ref 56), (1, .ref 0), (0, .ref gh_SC)], [], (gh_mo S2, 96, 2376)) r) : gh_T 60 fL_law 600000 7302250 (some (L, xs)) true false (859, [(3, .int (nI i)), (2, .ref 56), (1, .ref 0), (0, .ref gh_SC)], [], (gh_mo S, 96, 2376)) r := by
  refine gh_T_steps 5 (τ := (864, [(3, .int (nI i)), (2, .ref 56), (1, .ref 0), (0, .ref gh_SC)], [.int (nI i + 1), .ref gh_SC, .ref 0], (gh_mo S, 96, 2376))) (fun _ => rfl) ?_
  refine gh_T_rx rfl (gh_rx1 xs hi hL) ?_
  refine gh_T_iv (As := [.int (xs (i + 1))]) (b := 0) (rest := []) (y := some (.int v)) (M' := gh_mo S1) rfl rfl rfl rfl rfl rfl rfl rfl rfl ⟨by decide, by decide⟩ (kX9_fansOf 53 N (xs (i + 1)) S (v, S1) h1) ?_
  refine gh_T_steps 5 (τ := (873, [(3, .int (nI i)), (2, .ref 56), (1, .ref 0), (0, .ref gh_SC)], [.int (nI i + 1), .ref gh_SC, .ref 56, .int v], (gh_mo S1, 96, 2376))) (fun _ => rfl) ?_
  refine gh_T_rx rfl (gh_rx1 xs hi hL) ?_
  refine gh_T_iv (As := [.int (xs (i + 1))]) (b := 56) (rest := [.int v]) (y := some (.int v)) (M' := gh_mo S2) rfl rfl rfl rfl rfl rfl rfl rfl rfl ⟨by decide, by decide⟩ (kX10_fansOf 56 N (xs (i + 1)) S1 (v, S2) h2) ?_
  exact gh_T_ic true rfl (by simp [gh_cmp]) K
theorem gh_lc20 {L i N : Nat} {xs : Nat → Int32} {S S1 S2 : gh_St} {v : Int64} {r : gh_R} (hi : i + 6 ≤ L) (hL : L ≤ 3072) (h1 : sX9_blend N (xs (i + 1)) (xs (i + 2)) (xs (i + 3)) (xs (i + 4)) S = some (v, S1)) (h2 : sX10_blend N (xs (i + 1)) (xs (i + 2)) (xs (i + 3)) (xs (i + 4)) S1 = some (v, S2)) (K : gh_T 60 fL_law 600000 7302250 (some (L, xs)) true false (1162, [(3, .int (nI i)), (2, .ref 56), (1, .ref 0), (0, .ref gh_SC)], [], (gh_mo S2, 96, 2376)) r) : gh_T 60 fL_law 600000 7302250 (some (L, xs)) true false (882, [(3, .int (nI i)), (2, .ref 56), (1, .ref 0), (0, .ref gh_SC)], [], (gh_mo S, 96, 2376)) r := by
  refine gh_T_steps 5 (τ := (887, [(3, .int (nI i)), (2, .ref 56), (1, .ref 0), (0, .ref gh_SC)], [.int (nI i + 1), .ref gh_SC, .ref 0], (gh_mo S, 96, 2376))) (fun _ => rfl) ?_
  refine gh_T_rx rfl (gh_rx1 xs hi hL) ?_
  refine gh_T_steps 4 (τ := (892, [(3, .int (nI i)), (2, .ref 56), (1, .ref 0), (0, .ref gh_SC)], [.int (nI i + 2), .ref gh_SC, .int (xs (i + 1)), .ref 0], (gh_mo S, 96, 2376))) (fun _ => rfl) ?_
  refine gh_T_rx rfl (gh_rx2 xs hi hL) ?_
  refine gh_T_steps 4 (τ := (897, [(3, .int (nI i)), (2, .ref 56), (1, .ref 0), (0, .ref gh_SC)], [.int (nI i + 3), .ref gh_SC, .int (xs (i + 2)), .int (xs (i + 1)), .ref 0], (gh_mo S, 96, 2376))) (fun _ => rfl) ?_
  refine gh_T_rx rfl (gh_rx3 xs hi hL) ?_
  refine gh_T_steps 4 (τ := (902, [(3, .int (nI i)), (2, .ref 56), (1, .ref 0), (0, .ref gh_SC)], [.int (nI i + 4), .ref gh_SC, .int (xs (i + 3)), .int (xs (i + 2)), .int (xs (i + 1)), .ref 0], (gh_mo S, 96, 2376))) (fun _ => rfl) ?_
  refine gh_T_rx rfl (gh_rx4 xs hi hL) ?_
  refine gh_T_iv (As := [.int (xs (i + 1)), .int (xs (i + 2)), .int (xs (i + 3)), .int (xs (i + 4))]) (b := 0) (rest := []) (y := some (.long v)) (M' := gh_mo S1) rfl rfl rfl rfl rfl rfl rfl rfl rfl ⟨by decide, by decide⟩ (kX9_blend 56 N (xs (i + 1)) (xs (i + 2)) (xs (i + 3)) (xs (i + 4)) S (v, S1) h1) ?_
  refine gh_T_steps 5 (τ := (911, [(3, .int (nI i)), (2, .ref 56), (1, .ref 0), (0, .ref gh_SC)], [.int (nI i + 1), .ref gh_SC, .ref 56, .long v], (gh_mo S1, 96, 2376))) (fun _ => rfl) ?_
  refine gh_T_rx rfl (gh_rx1 xs hi hL) ?_
  refine gh_T_steps 4 (τ := (916, [(3, .int (nI i)), (2, .ref 56), (1, .ref 0), (0, .ref gh_SC)], [.int (nI i + 2), .ref gh_SC, .int (xs (i + 1)), .ref 56, .long v], (gh_mo S1, 96, 2376))) (fun _ => rfl) ?_
  refine gh_T_rx rfl (gh_rx2 xs hi hL) ?_
  refine gh_T_steps 4 (τ := (921, [(3, .int (nI i)), (2, .ref 56), (1, .ref 0), (0, .ref gh_SC)], [.int (nI i + 3), .ref gh_SC, .int (xs (i + 2)), .int (xs (i + 1)), .ref 56, .long v], (gh_mo S1, 96, 2376))) (fun _ => rfl) ?_
  refine gh_T_rx rfl (gh_rx3 xs hi hL) ?_
  refine gh_T_steps 4 (τ := (926, [(3, .int (nI i)), (2, .ref 56), (1, .ref 0), (0, .ref gh_SC)], [.int (nI i + 4), .ref gh_SC, .int (xs (i + 3)), .int (xs (i + 2)), .int (xs (i + 1)), .ref 56, .long v], (gh_mo S1, 96, 2376))) (fun _ => rfl) ?_
  refine gh_T_rx rfl (gh_rx4 xs hi hL) ?_
  refine gh_T_iv (As := [.int (xs (i + 1)), .int (xs (i + 2)), .int (xs (i + 3)), .int (xs (i + 4))]) (b := 56) (rest := [.long v]) (y := some (.long v)) (M' := gh_mo S2) rfl rfl rfl rfl rfl rfl rfl rfl rfl ⟨by decide, by decide⟩ (kX10_blend 57 N (xs (i + 1)) (xs (i + 2)) (xs (i + 3)) (xs (i + 4)) S1 (v, S2) h2) ?_
  refine gh_T_steps 1 (τ := (931, [(3, .int (nI i)), (2, .ref 56), (1, .ref 0), (0, .ref gh_SC)], [.int (lg_cmp v v)], (gh_mo S2, 96, 2376))) (fun _ => rfl) ?_
  exact gh_T_if true rfl (by rw [gh_lcmp_self]; rfl) K
theorem gh_lc21 {L i N : Nat} {xs : Nat → Int32} {S S1 S2 : gh_St} {v : Int32} {r : gh_R} (hi : i + 6 ≤ L) (hL : L ≤ 3072) (h1 : sX9_blended N (xs (i + 1)) S = some (v, S1)) (h2 : sX10_blended N (xs (i + 1)) S1 = some (v, S2)) (K : gh_T 60 fL_law 600000 7302250 (some (L, xs)) true false (1162, [(3, .int (nI i)), (2, .ref 56), (1, .ref 0), (0, .ref gh_SC)], [], (gh_mo S2, 96, 2376)) r) : gh_T 60 fL_law 600000 7302250 (some (L, xs)) true false (936, [(3, .int (nI i)), (2, .ref 56), (1, .ref 0), (0, .ref gh_SC)], [], (gh_mo S, 96, 2376)) r := by
  refine gh_T_steps 5 (τ := (941, [(3, .int (nI i)), (2, .ref 56), (1, .ref 0), (0, .ref gh_SC)], [.int (nI i + 1), .ref gh_SC, .ref 0], (gh_mo S, 96, 2376))) (fun _ => rfl) ?_
  refine gh_T_rx rfl (gh_rx1 xs hi hL) ?_
  refine gh_T_iv (As := [.int (xs (i + 1))]) (b := 0) (rest := []) (y := some (.int v)) (M' := gh_mo S1) rfl rfl rfl rfl rfl rfl rfl rfl rfl ⟨by decide, by decide⟩ (kX9_blended 57 N (xs (i + 1)) S (v, S1) h1) ?_
  refine gh_T_steps 5 (τ := (950, [(3, .int (nI i)), (2, .ref 56), (1, .ref 0), (0, .ref gh_SC)], [.int (nI i + 1), .ref gh_SC, .ref 56, .int v], (gh_mo S1, 96, 2376))) (fun _ => rfl) ?_
  refine gh_T_rx rfl (gh_rx1 xs hi hL) ?_
  refine gh_T_iv (As := [.int (xs (i + 1))]) (b := 56) (rest := [.int v]) (y := some (.int v)) (M' := gh_mo S2) rfl rfl rfl rfl rfl rfl rfl rfl rfl ⟨by decide, by decide⟩ (kX10_blended 57 N (xs (i + 1)) S1 (v, S2) h2) ?_
  exact gh_T_ic true rfl (by simp [gh_cmp]) K
theorem gh_lc22 {L i N : Nat} {xs : Nat → Int32} {S S1 S2 : gh_St} {v : Int32} {r : gh_R} (hi : i + 6 ≤ L) (hL : L ≤ 3072) (h1 : sX9_feed N (xs (i + 1)) (xs (i + 2)) (xs (i + 3)) (xs (i + 4)) (xs (i + 5)) S = some (v, S1)) (h2 : sX10_feed N (xs (i + 1)) (xs (i + 2)) (xs (i + 3)) (xs (i + 4)) (xs (i + 5)) S1 = some (v, S2)) (K : gh_T 60 fL_law 600000 7302250 (some (L, xs)) true false (1162, [(3, .int (nI i)), (2, .ref 56), (1, .ref 0), (0, .ref gh_SC)], [], (gh_mo S2, 96, 2376)) r) : gh_T 60 fL_law 600000 7302250 (some (L, xs)) true false (959, [(3, .int (nI i)), (2, .ref 56), (1, .ref 0), (0, .ref gh_SC)], [], (gh_mo S, 96, 2376)) r := by
  refine gh_T_steps 5 (τ := (964, [(3, .int (nI i)), (2, .ref 56), (1, .ref 0), (0, .ref gh_SC)], [.int (nI i + 1), .ref gh_SC, .ref 0], (gh_mo S, 96, 2376))) (fun _ => rfl) ?_
  refine gh_T_rx rfl (gh_rx1 xs hi hL) ?_
  refine gh_T_steps 4 (τ := (969, [(3, .int (nI i)), (2, .ref 56), (1, .ref 0), (0, .ref gh_SC)], [.int (nI i + 2), .ref gh_SC, .int (xs (i + 1)), .ref 0], (gh_mo S, 96, 2376))) (fun _ => rfl) ?_
  refine gh_T_rx rfl (gh_rx2 xs hi hL) ?_
  refine gh_T_steps 4 (τ := (974, [(3, .int (nI i)), (2, .ref 56), (1, .ref 0), (0, .ref gh_SC)], [.int (nI i + 3), .ref gh_SC, .int (xs (i + 2)), .int (xs (i + 1)), .ref 0], (gh_mo S, 96, 2376))) (fun _ => rfl) ?_
  refine gh_T_rx rfl (gh_rx3 xs hi hL) ?_
  refine gh_T_steps 4 (τ := (979, [(3, .int (nI i)), (2, .ref 56), (1, .ref 0), (0, .ref gh_SC)], [.int (nI i + 4), .ref gh_SC, .int (xs (i + 3)), .int (xs (i + 2)), .int (xs (i + 1)), .ref 0], (gh_mo S, 96, 2376))) (fun _ => rfl) ?_
  refine gh_T_rx rfl (gh_rx4 xs hi hL) ?_
  refine gh_T_steps 4 (τ := (984, [(3, .int (nI i)), (2, .ref 56), (1, .ref 0), (0, .ref gh_SC)], [.int (nI i + 5), .ref gh_SC, .int (xs (i + 4)), .int (xs (i + 3)), .int (xs (i + 2)), .int (xs (i + 1)), .ref 0], (gh_mo S, 96, 2376))) (fun _ => rfl) ?_
  refine gh_T_rx rfl (gh_rx5 xs hi hL) ?_
  refine gh_T_iv (As := [.int (xs (i + 1)), .int (xs (i + 2)), .int (xs (i + 3)), .int (xs (i + 4)), .int (xs (i + 5))]) (b := 0) (rest := []) (y := some (.int v)) (M' := gh_mo S1) rfl rfl rfl rfl rfl rfl rfl rfl rfl ⟨by decide, by decide⟩ (kX9_feed 57 N (xs (i + 1)) (xs (i + 2)) (xs (i + 3)) (xs (i + 4)) (xs (i + 5)) S (v, S1) h1) ?_
  refine gh_T_steps 5 (τ := (993, [(3, .int (nI i)), (2, .ref 56), (1, .ref 0), (0, .ref gh_SC)], [.int (nI i + 1), .ref gh_SC, .ref 56, .int v], (gh_mo S1, 96, 2376))) (fun _ => rfl) ?_
  refine gh_T_rx rfl (gh_rx1 xs hi hL) ?_
  refine gh_T_steps 4 (τ := (998, [(3, .int (nI i)), (2, .ref 56), (1, .ref 0), (0, .ref gh_SC)], [.int (nI i + 2), .ref gh_SC, .int (xs (i + 1)), .ref 56, .int v], (gh_mo S1, 96, 2376))) (fun _ => rfl) ?_
  refine gh_T_rx rfl (gh_rx2 xs hi hL) ?_
  refine gh_T_steps 4 (τ := (1003, [(3, .int (nI i)), (2, .ref 56), (1, .ref 0), (0, .ref gh_SC)], [.int (nI i + 3), .ref gh_SC, .int (xs (i + 2)), .int (xs (i + 1)), .ref 56, .int v], (gh_mo S1, 96, 2376))) (fun _ => rfl) ?_
  refine gh_T_rx rfl (gh_rx3 xs hi hL) ?_
  refine gh_T_steps 4 (τ := (1008, [(3, .int (nI i)), (2, .ref 56), (1, .ref 0), (0, .ref gh_SC)], [.int (nI i + 4), .ref gh_SC, .int (xs (i + 3)), .int (xs (i + 2)), .int (xs (i + 1)), .ref 56, .int v], (gh_mo S1, 96, 2376))) (fun _ => rfl) ?_
  refine gh_T_rx rfl (gh_rx4 xs hi hL) ?_
  refine gh_T_steps 4 (τ := (1013, [(3, .int (nI i)), (2, .ref 56), (1, .ref 0), (0, .ref gh_SC)], [.int (nI i + 5), .ref gh_SC, .int (xs (i + 4)), .int (xs (i + 3)), .int (xs (i + 2)), .int (xs (i + 1)), .ref 56, .int v], (gh_mo S1, 96, 2376))) (fun _ => rfl) ?_
  refine gh_T_rx rfl (gh_rx5 xs hi hL) ?_
  refine gh_T_iv (As := [.int (xs (i + 1)), .int (xs (i + 2)), .int (xs (i + 3)), .int (xs (i + 4)), .int (xs (i + 5))]) (b := 56) (rest := [.int v]) (y := some (.int v)) (M' := gh_mo S2) rfl rfl rfl rfl rfl rfl rfl rfl rfl ⟨by decide, by decide⟩ (kX10_feed 58 N (xs (i + 1)) (xs (i + 2)) (xs (i + 3)) (xs (i + 4)) (xs (i + 5)) S1 (v, S2) h2) ?_
  exact gh_T_ic true rfl (by simp [gh_cmp]) K
theorem gh_lc23 {L i N : Nat} {xs : Nat → Int32} {S S1 S2 : gh_St} {v : Int32} {r : gh_R} (hi : i + 6 ≤ L) (hL : L ≤ 3072) (h1 : sX9_end N (xs (i + 1)) S = some (v, S1)) (h2 : sX10_end N (xs (i + 1)) S1 = some (v, S2)) (K : gh_T 60 fL_law 600000 7302250 (some (L, xs)) true false (1162, [(3, .int (nI i)), (2, .ref 56), (1, .ref 0), (0, .ref gh_SC)], [], (gh_mo S2, 96, 2376)) r) : gh_T 60 fL_law 600000 7302250 (some (L, xs)) true false (1022, [(3, .int (nI i)), (2, .ref 56), (1, .ref 0), (0, .ref gh_SC)], [], (gh_mo S, 96, 2376)) r := by
  refine gh_T_steps 5 (τ := (1027, [(3, .int (nI i)), (2, .ref 56), (1, .ref 0), (0, .ref gh_SC)], [.int (nI i + 1), .ref gh_SC, .ref 0], (gh_mo S, 96, 2376))) (fun _ => rfl) ?_
  refine gh_T_rx rfl (gh_rx1 xs hi hL) ?_
  refine gh_T_iv (As := [.int (xs (i + 1))]) (b := 0) (rest := []) (y := some (.int v)) (M' := gh_mo S1) rfl rfl rfl rfl rfl rfl rfl rfl rfl ⟨by decide, by decide⟩ (kX9_end 58 N (xs (i + 1)) S (v, S1) h1) ?_
  refine gh_T_steps 5 (τ := (1036, [(3, .int (nI i)), (2, .ref 56), (1, .ref 0), (0, .ref gh_SC)], [.int (nI i + 1), .ref gh_SC, .ref 56, .int v], (gh_mo S1, 96, 2376))) (fun _ => rfl) ?_
  refine gh_T_rx rfl (gh_rx1 xs hi hL) ?_
  refine gh_T_iv (As := [.int (xs (i + 1))]) (b := 56) (rest := [.int v]) (y := some (.int v)) (M' := gh_mo S2) rfl rfl rfl rfl rfl rfl rfl rfl rfl ⟨by decide, by decide⟩ (kX10_end 58 N (xs (i + 1)) S1 (v, S2) h2) ?_
  exact gh_T_ic true rfl (by simp [gh_cmp]) K
theorem gh_lc24 {L i N : Nat} {xs : Nat → Int32} {S S1 S2 : gh_St} {v : Int32} {r : gh_R} (hi : i + 6 ≤ L) (hL : L ≤ 3072) (h1 : sX9_list N S = some (v, S1)) (h2 : sX10_list N S1 = some (v, S2)) (K : gh_T 60 fL_law 600000 7302250 (some (L, xs)) true false (1162, [(3, .int (nI i)), (2, .ref 56), (1, .ref 0), (0, .ref gh_SC)], [], (gh_mo S2, 96, 2376)) r) : gh_T 60 fL_law 600000 7302250 (some (L, xs)) true false (1045, [(3, .int (nI i)), (2, .ref 56), (1, .ref 0), (0, .ref gh_SC)], [], (gh_mo S, 96, 2376)) r := by
  refine gh_T_steps 1 (τ := (1046, [(3, .int (nI i)), (2, .ref 56), (1, .ref 0), (0, .ref gh_SC)], [.ref 0], (gh_mo S, 96, 2376))) (fun _ => rfl) ?_
  refine gh_T_iv (As := []) (b := 0) (rest := []) (y := some (.int v)) (M' := gh_mo S1) rfl rfl rfl rfl rfl rfl rfl rfl rfl ⟨by decide, by decide⟩ (kX9_list 53 N S (v, S1) h1) ?_
  refine gh_T_steps 1 (τ := (1050, [(3, .int (nI i)), (2, .ref 56), (1, .ref 0), (0, .ref gh_SC)], [.ref 56, .int v], (gh_mo S1, 96, 2376))) (fun _ => rfl) ?_
  refine gh_T_iv (As := []) (b := 56) (rest := [.int v]) (y := some (.int v)) (M' := gh_mo S2) rfl rfl rfl rfl rfl rfl rfl rfl rfl ⟨by decide, by decide⟩ (kX10_list 54 N S1 (v, S2) h2) ?_
  exact gh_T_ic true rfl (by simp [gh_cmp]) K
theorem gh_lc25 {L i N : Nat} {xs : Nat → Int32} {S S1 S2 : gh_St} {v : Int32} {r : gh_R} (hi : i + 6 ≤ L) (hL : L ≤ 3072) (h1 : sX9_fault N (xs (i + 1)) S = some (v, S1)) (h2 : sX10_fault N (xs (i + 1)) S1 = some (v, S2)) (K : gh_T 60 fL_law 600000 7302250 (some (L, xs)) true false (1162, [(3, .int (nI i)), (2, .ref 56), (1, .ref 0), (0, .ref gh_SC)], [], (gh_mo S2, 96, 2376)) r) : gh_T 60 fL_law 600000 7302250 (some (L, xs)) true false (1058, [(3, .int (nI i)), (2, .ref 56), (1, .ref 0), (0, .ref gh_SC)], [], (gh_mo S, 96, 2376)) r := by
  refine gh_T_steps 5 (τ := (1063, [(3, .int (nI i)), (2, .ref 56), (1, .ref 0), (0, .ref gh_SC)], [.int (nI i + 1), .ref gh_SC, .ref 0], (gh_mo S, 96, 2376))) (fun _ => rfl) ?_
  refine gh_T_rx rfl (gh_rx1 xs hi hL) ?_
  refine gh_T_iv (As := [.int (xs (i + 1))]) (b := 0) (rest := []) (y := some (.int v)) (M' := gh_mo S1) rfl rfl rfl rfl rfl rfl rfl rfl rfl ⟨by decide, by decide⟩ (kX9_fault 59 N (xs (i + 1)) S (v, S1) h1) ?_
  refine gh_T_steps 5 (τ := (1072, [(3, .int (nI i)), (2, .ref 56), (1, .ref 0), (0, .ref gh_SC)], [.int (nI i + 1), .ref gh_SC, .ref 56, .int v], (gh_mo S1, 96, 2376))) (fun _ => rfl) ?_
  refine gh_T_rx rfl (gh_rx1 xs hi hL) ?_
  refine gh_T_iv (As := [.int (xs (i + 1))]) (b := 56) (rest := [.int v]) (y := some (.int v)) (M' := gh_mo S2) rfl rfl rfl rfl rfl rfl rfl rfl rfl ⟨by decide, by decide⟩ (kX10_fault 59 N (xs (i + 1)) S1 (v, S2) h2) ?_
  exact gh_T_ic true rfl (by simp [gh_cmp]) K
theorem gh_lc26 {L i N : Nat} {xs : Nat → Int32} {S S1 S2 : gh_St} {v : Int32} {r : gh_R} (hi : i + 6 ≤ L) (hL : L ≤ 3072) (h1 : sX9_worth N (xs (i + 1)) S = some (v, S1)) (h2 : sX10_worth N (xs (i + 1)) S1 = some (v, S2)) (K : gh_T 60 fL_law 600000 7302250 (some (L, xs)) true false (1162, [(3, .int (nI i)), (2, .ref 56), (1, .ref 0), (0, .ref gh_SC)], [], (gh_mo S2, 96, 2376)) r) : gh_T 60 fL_law 600000 7302250 (some (L, xs)) true false (1081, [(3, .int (nI i)), (2, .ref 56), (1, .ref 0), (0, .ref gh_SC)], [], (gh_mo S, 96, 2376)) r := by
  refine gh_T_steps 5 (τ := (1086, [(3, .int (nI i)), (2, .ref 56), (1, .ref 0), (0, .ref gh_SC)], [.int (nI i + 1), .ref gh_SC, .ref 0], (gh_mo S, 96, 2376))) (fun _ => rfl) ?_
  refine gh_T_rx rfl (gh_rx1 xs hi hL) ?_
  refine gh_T_iv (As := [.int (xs (i + 1))]) (b := 0) (rest := []) (y := some (.int v)) (M' := gh_mo S1) rfl rfl rfl rfl rfl rfl rfl rfl rfl ⟨by decide, by decide⟩ (kX9_worth 57 N (xs (i + 1)) S (v, S1) h1) ?_
  refine gh_T_steps 5 (τ := (1095, [(3, .int (nI i)), (2, .ref 56), (1, .ref 0), (0, .ref gh_SC)], [.int (nI i + 1), .ref gh_SC, .ref 56, .int v], (gh_mo S1, 96, 2376))) (fun _ => rfl) ?_
  refine gh_T_rx rfl (gh_rx1 xs hi hL) ?_
  refine gh_T_iv (As := [.int (xs (i + 1))]) (b := 56) (rest := [.int v]) (y := some (.int v)) (M' := gh_mo S2) rfl rfl rfl rfl rfl rfl rfl rfl rfl ⟨by decide, by decide⟩ (kX10_worth 58 N (xs (i + 1)) S1 (v, S2) h2) ?_
  exact gh_T_ic true rfl (by simp [gh_cmp]) K
theorem gh_lc27 {L i N : Nat} {xs : Nat → Int32} {S S1 S2 : gh_St} {v : Int64} {r : gh_R} (hi : i + 6 ≤ L) (hL : L ≤ 3072) (h1 : sX9_account N (xs (i + 1)) (xs (i + 2)) S = some (v, S1)) (h2 : sX10_account N (xs (i + 1)) (xs (i + 2)) S1 = some (v, S2)) (K : gh_T 60 fL_law 600000 7302250 (some (L, xs)) true false (1162, [(3, .int (nI i)), (2, .ref 56), (1, .ref 0), (0, .ref gh_SC)], [], (gh_mo S2, 96, 2376)) r) : gh_T 60 fL_law 600000 7302250 (some (L, xs)) true false (1104, [(3, .int (nI i)), (2, .ref 56), (1, .ref 0), (0, .ref gh_SC)], [], (gh_mo S, 96, 2376)) r := by
  refine gh_T_steps 5 (τ := (1109, [(3, .int (nI i)), (2, .ref 56), (1, .ref 0), (0, .ref gh_SC)], [.int (nI i + 1), .ref gh_SC, .ref 0], (gh_mo S, 96, 2376))) (fun _ => rfl) ?_
  refine gh_T_rx rfl (gh_rx1 xs hi hL) ?_
  refine gh_T_steps 4 (τ := (1114, [(3, .int (nI i)), (2, .ref 56), (1, .ref 0), (0, .ref gh_SC)], [.int (nI i + 2), .ref gh_SC, .int (xs (i + 1)), .ref 0], (gh_mo S, 96, 2376))) (fun _ => rfl) ?_
  refine gh_T_rx rfl (gh_rx2 xs hi hL) ?_
  refine gh_T_iv (As := [.int (xs (i + 1)), .int (xs (i + 2))]) (b := 0) (rest := []) (y := some (.long v)) (M' := gh_mo S1) rfl rfl rfl rfl rfl rfl rfl rfl rfl ⟨by decide, by decide⟩ (kX9_account 56 N (xs (i + 1)) (xs (i + 2)) S (v, S1) h1) ?_
  refine gh_T_steps 5 (τ := (1123, [(3, .int (nI i)), (2, .ref 56), (1, .ref 0), (0, .ref gh_SC)], [.int (nI i + 1), .ref gh_SC, .ref 56, .long v], (gh_mo S1, 96, 2376))) (fun _ => rfl) ?_
  refine gh_T_rx rfl (gh_rx1 xs hi hL) ?_
  refine gh_T_steps 4 (τ := (1128, [(3, .int (nI i)), (2, .ref 56), (1, .ref 0), (0, .ref gh_SC)], [.int (nI i + 2), .ref gh_SC, .int (xs (i + 1)), .ref 56, .long v], (gh_mo S1, 96, 2376))) (fun _ => rfl) ?_
  refine gh_T_rx rfl (gh_rx2 xs hi hL) ?_
  refine gh_T_iv (As := [.int (xs (i + 1)), .int (xs (i + 2))]) (b := 56) (rest := [.long v]) (y := some (.long v)) (M' := gh_mo S2) rfl rfl rfl rfl rfl rfl rfl rfl rfl ⟨by decide, by decide⟩ (kX10_account 58 N (xs (i + 1)) (xs (i + 2)) S1 (v, S2) h2) ?_
  refine gh_T_steps 1 (τ := (1133, [(3, .int (nI i)), (2, .ref 56), (1, .ref 0), (0, .ref gh_SC)], [.int (lg_cmp v v)], (gh_mo S2, 96, 2376))) (fun _ => rfl) ?_
  exact gh_T_if true rfl (by rw [gh_lcmp_self]; rfl) K
theorem gh_lc28 {L i N : Nat} {xs : Nat → Int32} {S S1 S2 : gh_St} {v : Int64} {r : gh_R} (hi : i + 6 ≤ L) (hL : L ≤ 3072) (h1 : sX9_about N (xs (i + 1)) S = some (v, S1)) (h2 : sX10_about N (xs (i + 1)) S1 = some (v, S2)) (K : gh_T 60 fL_law 600000 7302250 (some (L, xs)) true false (1162, [(3, .int (nI i)), (2, .ref 56), (1, .ref 0), (0, .ref gh_SC)], [], (gh_mo S2, 96, 2376)) r) : gh_T 60 fL_law 600000 7302250 (some (L, xs)) true false (1138, [(3, .int (nI i)), (2, .ref 56), (1, .ref 0), (0, .ref gh_SC)], [], (gh_mo S, 96, 2376)) r := by
  refine gh_T_steps 5 (τ := (1143, [(3, .int (nI i)), (2, .ref 56), (1, .ref 0), (0, .ref gh_SC)], [.int (nI i + 1), .ref gh_SC, .ref 0], (gh_mo S, 96, 2376))) (fun _ => rfl) ?_
  refine gh_T_rx rfl (gh_rx1 xs hi hL) ?_
  refine gh_T_iv (As := [.int (xs (i + 1))]) (b := 0) (rest := []) (y := some (.long v)) (M' := gh_mo S1) rfl rfl rfl rfl rfl rfl rfl rfl rfl ⟨by decide, by decide⟩ (kX9_about 58 N (xs (i + 1)) S (v, S1) h1) ?_
  refine gh_T_steps 5 (τ := (1152, [(3, .int (nI i)), (2, .ref 56), (1, .ref 0), (0, .ref gh_SC)], [.int (nI i + 1), .ref gh_SC, .ref 56, .long v], (gh_mo S1, 96, 2376))) (fun _ => rfl) ?_
  refine gh_T_rx rfl (gh_rx1 xs hi hL) ?_
  refine gh_T_iv (As := [.int (xs (i + 1))]) (b := 56) (rest := [.long v]) (y := some (.long v)) (M' := gh_mo S2) rfl rfl rfl rfl rfl rfl rfl rfl rfl ⟨by decide, by decide⟩ (kX10_about 59 N (xs (i + 1)) S1 (v, S2) h2) ?_
  refine gh_T_steps 1 (τ := (1157, [(3, .int (nI i)), (2, .ref 56), (1, .ref 0), (0, .ref gh_SC)], [.int (lg_cmp v v)], (gh_mo S2, 96, 2376))) (fun _ => rfl) ?_
  exact gh_T_if true rfl (by rw [gh_lcmp_self]; rfl) K
/-- one call of the law's loop: both answer the same, and P holds behind it -/
def gh_pr {α : Type} (f g : gh_St → Option (α × gh_St)) (P : gh_St → Prop) (S : gh_St) : Prop := ∃ v S1 S2, f S = some (v, S1) ∧ g S1 = some (v, S2) ∧ P S2
def gh_op (N : Nat) (a b c d e : Int32) (P : gh_St → Prop) (S : gh_St) : Nat → Prop
  | 0 => gh_pr (fun S => sX9_holds N a b S) (fun S => sX10_holds N a b S) P S
  | 1 => gh_pr (fun S => sX9_load N a b c d e S) (fun S => sX10_load N a b c d e S) P S
  | 2 => gh_pr (fun S => sX9_leg N a b c S) (fun S => sX10_leg N a b c S) P S
  | 3 => gh_pr (fun S => sX9_cleaning N a S) (fun S => sX10_cleaning N a S) P S
  | 4 => gh_pr (fun S => sX9_way N a b c S) (fun S => sX10_way N a b c S) P S
  | 5 => gh_pr (fun S => sX9_wayLeg N a b c d S) (fun S => sX10_wayLeg N a b c d S) P S
  | 6 => gh_pr (fun S => sX9_move N a b c S) (fun S => sX10_move N a b c S) P S
  | 7 => gh_pr (fun S => sX9_dry N a b c d S) (fun S => sX10_dry N a b c d S) P S
  | 8 => gh_pr (fun S => sX9_ship N a b S) (fun S => sX10_ship N a b S) P S
  | 9 => gh_pr (fun S => sX9_binOf N a b S) (fun S => sX10_binOf N a b S) P S
  | 10 => gh_pr (fun S => sX9_dryIn N a S) (fun S => sX10_dryIn N a S) P S
  | 11 => gh_pr (fun S => sX9_truck N a b c S) (fun S => sX10_truck N a b c S) P S
  | 12 => gh_pr (fun S => sX9_pit N a b S) (fun S => sX10_pit N a b S) P S
  | 13 => gh_pr (fun S => sX9_rush N S) (fun S => sX10_rush N S) P S
  | 14 => gh_pr (fun S => sX9_served N a b S) (fun S => sX10_served N a b S) P S
  | 15 => gh_pr (fun S => sX9_gone N S) (fun S => sX10_gone N S) P S
  | 16 => gh_pr (fun S => sX9_hour N a (gh_b01 b) c S) (fun S => sX10_hour N a (gh_b01 b) c S) P S
  | 17 => gh_pr (fun S => sX9_needs N a b c S) (fun S => sX10_needs N a b c S) P S
  | 18 => gh_pr (fun S => sX9_fans N S) (fun S => sX10_fans N S) P S
  | 19 => gh_pr (fun S => sX9_fansOf N a S) (fun S => sX10_fansOf N a S) P S
  | 20 => gh_pr (fun S => sX9_blend N a b c d S) (fun S => sX10_blend N a b c d S) P S
  | 21 => gh_pr (fun S => sX9_blended N a S) (fun S => sX10_blended N a S) P S
  | 22 => gh_pr (fun S => sX9_feed N a b c d e S) (fun S => sX10_feed N a b c d e S) P S
  | 23 => gh_pr (fun S => sX9_end N a S) (fun S => sX10_end N a S) P S
  | 24 => gh_pr (fun S => sX9_list N S) (fun S => sX10_list N S) P S
  | 25 => gh_pr (fun S => sX9_fault N a S) (fun S => sX10_fault N a S) P S
  | 26 => gh_pr (fun S => sX9_worth N a S) (fun S => sX10_worth N a S) P S
  | 27 => gh_pr (fun S => sX9_account N a b S) (fun S => sX10_account N a b S) P S
  | 28 => gh_pr (fun S => sX9_about N a S) (fun S => sX10_about N a S) P S
  | _ => P S
theorem gh_sw_lt {x : Int32} : ∃ k : Nat, k < 32 ∧ x &&& 31 = nI k := pk_andE x 5 (by decide)
theorem gh_lw_next {L i : Nat} {xs : Nat → Int32} {S : gh_St} {r : gh_R} (h : gh_T 60 fL_law 600000 7302250 (some (L, xs)) true false (18, [(3, .int (nI (i + 6))), (2, .ref 56), (1, .ref 0), (0, .ref gh_SC)], [], (gh_mo S, 96, 2376)) r) : gh_T 60 fL_law 600000 7302250 (some (L, xs)) true false (1162, [(3, .int (nI i)), (2, .ref 56), (1, .ref 0), (0, .ref gh_SC)], [], (gh_mo S, 96, 2376)) r := by
  rw [← nI_add i 6] at h
  exact gh_T_steps 2 (τ := (18, [(3, .int (nI i + nI 6)), (2, .ref 56), (1, .ref 0), (0, .ref gh_SC)], [], (gh_mo S, 96, 2376))) (fun _ => rfl) h
theorem gh_lw_end {L i : Nat} {xs : Nat → Int32} {S : gh_St} (hL : L ≤ 3072) (hi : L < i + 6) (hi2 : i < 100000) : gh_T 60 fL_law 600000 7302250 (some (L, xs)) true false (18, [(3, .int (nI i)), (2, .ref 56), (1, .ref 0), (0, .ref gh_SC)], [], (gh_mo S, 96, 2376)) (some (.int 1), (gh_mo S, 96, 2376)) := by
  refine gh_T_steps 5 (τ := (24, [(3, .int (nI i)), (2, .ref 56), (1, .ref 0), (0, .ref gh_SC)], [.int (nI L - 6), .int (nI i)], (gh_mo S, 96, 2376))) (fun _ => rfl) ?_
  refine gh_T_ic true rfl ?_ (gh_T_steps 1 (τ := (1169, [(3, .int (nI i)), (2, .ref 56), (1, .ref 0), (0, .ref gh_SC)], [.int 1], (gh_mo S, 96, 2376))) (fun _ => rfl) (gh_T_rz rfl rfl))
  unfold gh_cmp
  refine decide_eq_true ?_
  rw [Int32.lt_iff_toInt_lt, show (6 : Int32) = nI 6 from rfl, pk_sub_toInt (by omega) (by decide), nI_toInt (by omega)]
  omega
theorem gh_lw_head {L i : Nat} {xs : Nat → Int32} {S : gh_St} {r : gh_R} (hi : i + 6 ≤ L) (hL : L ≤ 3072) (h : gh_T 60 fL_law 600000 7302250 (some (L, xs)) true false (33, [(3, .int (nI i)), (2, .ref 56), (1, .ref 0), (0, .ref gh_SC)], [.int (xs i &&& 31)], (gh_mo S, 96, 2376)) r) : gh_T 60 fL_law 600000 7302250 (some (L, xs)) true false (18, [(3, .int (nI i)), (2, .ref 56), (1, .ref 0), (0, .ref gh_SC)], [], (gh_mo S, 96, 2376)) r := by
  refine gh_T_steps 5 (τ := (24, [(3, .int (nI i)), (2, .ref 56), (1, .ref 0), (0, .ref gh_SC)], [.int (nI L - 6), .int (nI i)], (gh_mo S, 96, 2376))) (fun _ => rfl) ?_
  refine gh_T_ic false rfl ?_ ?_
  · unfold gh_cmp
    refine decide_eq_false ?_
    rw [Int32.lt_iff_toInt_lt, show (6 : Int32) = nI 6 from rfl, pk_sub_toInt (by omega) (by decide), nI_toInt (by omega)]
    omega
  · refine gh_T_steps 2 (τ := (29, [(3, .int (nI i)), (2, .ref 56), (1, .ref 0), (0, .ref gh_SC)], [.int (nI i), .ref gh_SC], (gh_mo S, 96, 2376))) (fun _ => rfl) ?_
    refine gh_T_rx rfl (gh_rx_of (j := 0) xs hi hL (by decide) rfl) ?_
    exact gh_T_steps 2 (τ := (33, [(3, .int (nI i)), (2, .ref 56), (1, .ref 0), (0, .ref gh_SC)], [.int (xs i &&& 31)], (gh_mo S, 96, 2376))) (fun _ => rfl) h
set_option maxRecDepth 100000 in
theorem gh_lw_case' {L i N : Nat} {xs : Nat → Int32} {S : gh_St} {P : gh_St → Prop} (hi : i + 6 ≤ L) (hL : L ≤ 3072) (k : Nat) (hk : k < 32) (hx : xs i &&& 31 = nI k) (ho : gh_op N (xs (i + 1)) (xs (i + 2)) (xs (i + 3)) (xs (i + 4)) (xs (i + 5)) P S k) : ∃ S2, P S2 ∧ ∀ r, gh_T 60 fL_law 600000 7302250 (some (L, xs)) true false (1162, [(3, .int (nI i)), (2, .ref 56), (1, .ref 0), (0, .ref gh_SC)], [], (gh_mo S2, 96, 2376)) r → gh_T 60 fL_law 600000 7302250 (some (L, xs)) true false (33, [(3, .int (nI i)), (2, .ref 56), (1, .ref 0), (0, .ref gh_SC)], [.int (xs i &&& 31)], (gh_mo S, 96, 2376)) r := by
  rw [hx]
  match k, hk, ho with
  | 0, _, ho =>
    obtain ⟨v, S1, S2, h1, h2, hP⟩ := ho
    exact ⟨S2, hP, fun r K => gh_T_steps 1 (τ := (164, [(3, .int (nI i)), (2, .ref 56), (1, .ref 0), (0, .ref gh_SC)], [], (gh_mo S, 96, 2376))) (fun _ => rfl) (gh_lc0 hi hL h1 h2 K)⟩
  | 1, _, ho =>
    obtain ⟨v, S1, S2, h1, h2, hP⟩ := ho
    exact ⟨S2, hP, fun r K => gh_T_steps 1 (τ := (197, [(3, .int (nI i)), (2, .ref 56), (1, .ref 0), (0, .ref gh_SC)], [], (gh_mo S, 96, 2376))) (fun _ => rfl) (gh_lc1 hi hL h1 h2 K)⟩
  | 2, _, ho =>
    obtain ⟨v, S1, S2, h1, h2, hP⟩ := ho
    exact ⟨S2, hP, fun r K => gh_T_steps 1 (τ := (260, [(3, .int (nI i)), (2, .ref 56), (1, .ref 0), (0, .ref gh_SC)], [], (gh_mo S, 96, 2376))) (fun _ => rfl) (gh_lc2 hi hL h1 h2 K)⟩
  | 3, _, ho =>
    obtain ⟨v, S1, S2, h1, h2, hP⟩ := ho
    exact ⟨S2, hP, fun r K => gh_T_steps 1 (τ := (303, [(3, .int (nI i)), (2, .ref 56), (1, .ref 0), (0, .ref gh_SC)], [], (gh_mo S, 96, 2376))) (fun _ => rfl) (gh_lc3 hi hL h1 h2 K)⟩
  | 4, _, ho =>
    obtain ⟨v, S1, S2, h1, h2, hP⟩ := ho
    exact ⟨S2, hP, fun r K => gh_T_steps 1 (τ := (326, [(3, .int (nI i)), (2, .ref 56), (1, .ref 0), (0, .ref gh_SC)], [], (gh_mo S, 96, 2376))) (fun _ => rfl) (gh_lc4 hi hL h1 h2 K)⟩
  | 5, _, ho =>
    obtain ⟨v, S1, S2, h1, h2, hP⟩ := ho
    exact ⟨S2, hP, fun r K => gh_T_steps 1 (τ := (369, [(3, .int (nI i)), (2, .ref 56), (1, .ref 0), (0, .ref gh_SC)], [], (gh_mo S, 96, 2376))) (fun _ => rfl) (gh_lc5 hi hL h1 h2 K)⟩
  | 6, _, ho =>
    obtain ⟨v, S1, S2, h1, h2, hP⟩ := ho
    exact ⟨S2, hP, fun r K => gh_T_steps 1 (τ := (422, [(3, .int (nI i)), (2, .ref 56), (1, .ref 0), (0, .ref gh_SC)], [], (gh_mo S, 96, 2376))) (fun _ => rfl) (gh_lc6 hi hL h1 h2 K)⟩
  | 7, _, ho =>
    obtain ⟨v, S1, S2, h1, h2, hP⟩ := ho
    exact ⟨S2, hP, fun r K => gh_T_steps 1 (τ := (465, [(3, .int (nI i)), (2, .ref 56), (1, .ref 0), (0, .ref gh_SC)], [], (gh_mo S, 96, 2376))) (fun _ => rfl) (gh_lc7 hi hL h1 h2 K)⟩
  | 8, _, ho =>
    obtain ⟨v, S1, S2, h1, h2, hP⟩ := ho
    exact ⟨S2, hP, fun r K => gh_T_steps 1 (τ := (518, [(3, .int (nI i)), (2, .ref 56), (1, .ref 0), (0, .ref gh_SC)], [], (gh_mo S, 96, 2376))) (fun _ => rfl) (gh_lc8 hi hL h1 h2 K)⟩
  | 9, _, ho =>
    obtain ⟨v, S1, S2, h1, h2, hP⟩ := ho
    exact ⟨S2, hP, fun r K => gh_T_steps 1 (τ := (552, [(3, .int (nI i)), (2, .ref 56), (1, .ref 0), (0, .ref gh_SC)], [], (gh_mo S, 96, 2376))) (fun _ => rfl) (gh_lc9 hi hL h1 h2 K)⟩
  | 10, _, ho =>
    obtain ⟨v, S1, S2, h1, h2, hP⟩ := ho
    exact ⟨S2, hP, fun r K => gh_T_steps 1 (τ := (585, [(3, .int (nI i)), (2, .ref 56), (1, .ref 0), (0, .ref gh_SC)], [], (gh_mo S, 96, 2376))) (fun _ => rfl) (gh_lc10 hi hL h1 h2 K)⟩
  | 11, _, ho =>
    obtain ⟨v, S1, S2, h1, h2, hP⟩ := ho
    exact ⟨S2, hP, fun r K => gh_T_steps 1 (τ := (609, [(3, .int (nI i)), (2, .ref 56), (1, .ref 0), (0, .ref gh_SC)], [], (gh_mo S, 96, 2376))) (fun _ => rfl) (gh_lc11 hi hL h1 h2 K)⟩
  | 12, _, ho =>
    obtain ⟨v, S1, S2, h1, h2, hP⟩ := ho
    exact ⟨S2, hP, fun r K => gh_T_steps 1 (τ := (652, [(3, .int (nI i)), (2, .ref 56), (1, .ref 0), (0, .ref gh_SC)], [], (gh_mo S, 96, 2376))) (fun _ => rfl) (gh_lc12 hi hL h1 h2 K)⟩
  | 13, _, ho =>
    obtain ⟨v, S1, S2, h1, h2, hP⟩ := ho
    exact ⟨S2, hP, fun r K => gh_T_steps 1 (τ := (685, [(3, .int (nI i)), (2, .ref 56), (1, .ref 0), (0, .ref gh_SC)], [], (gh_mo S, 96, 2376))) (fun _ => rfl) (gh_lc13 hi hL h1 h2 K)⟩
  | 14, _, ho =>
    obtain ⟨v, S1, S2, h1, h2, hP⟩ := ho
    exact ⟨S2, hP, fun r K => gh_T_steps 1 (τ := (698, [(3, .int (nI i)), (2, .ref 56), (1, .ref 0), (0, .ref gh_SC)], [], (gh_mo S, 96, 2376))) (fun _ => rfl) (gh_lc14 hi hL h1 h2 K)⟩
  | 15, _, ho =>
    obtain ⟨v, S1, S2, h1, h2, hP⟩ := ho
    exact ⟨S2, hP, fun r K => gh_T_steps 1 (τ := (731, [(3, .int (nI i)), (2, .ref 56), (1, .ref 0), (0, .ref gh_SC)], [], (gh_mo S, 96, 2376))) (fun _ => rfl) (gh_lc15 hi hL h1 h2 K)⟩
  | 16, _, ho =>
    obtain ⟨v, S1, S2, h1, h2, hP⟩ := ho
    exact ⟨S2, hP, fun r K => gh_T_steps 1 (τ := (744, [(3, .int (nI i)), (2, .ref 56), (1, .ref 0), (0, .ref gh_SC)], [], (gh_mo S, 96, 2376))) (fun _ => rfl) (gh_lc16 hi hL h1 h2 K)⟩
  | 17, _, ho =>
    obtain ⟨v, S1, S2, h1, h2, hP⟩ := ho
    exact ⟨S2, hP, fun r K => gh_T_steps 1 (τ := (803, [(3, .int (nI i)), (2, .ref 56), (1, .ref 0), (0, .ref gh_SC)], [], (gh_mo S, 96, 2376))) (fun _ => rfl) (gh_lc17 hi hL h1 h2 K)⟩
  | 18, _, ho =>
    obtain ⟨v, S1, S2, h1, h2, hP⟩ := ho
    exact ⟨S2, hP, fun r K => gh_T_steps 1 (τ := (846, [(3, .int (nI i)), (2, .ref 56), (1, .ref 0), (0, .ref gh_SC)], [], (gh_mo S, 96, 2376))) (fun _ => rfl) (gh_lc18 hi hL h1 h2 K)⟩
  | 19, _, ho =>
    obtain ⟨v, S1, S2, h1, h2, hP⟩ := ho
    exact ⟨S2, hP, fun r K => gh_T_steps 1 (τ := (859, [(3, .int (nI i)), (2, .ref 56), (1, .ref 0), (0, .ref gh_SC)], [], (gh_mo S, 96, 2376))) (fun _ => rfl) (gh_lc19 hi hL h1 h2 K)⟩
  | 20, _, ho =>
    obtain ⟨v, S1, S2, h1, h2, hP⟩ := ho
    exact ⟨S2, hP, fun r K => gh_T_steps 1 (τ := (882, [(3, .int (nI i)), (2, .ref 56), (1, .ref 0), (0, .ref gh_SC)], [], (gh_mo S, 96, 2376))) (fun _ => rfl) (gh_lc20 hi hL h1 h2 K)⟩
  | 21, _, ho =>
    obtain ⟨v, S1, S2, h1, h2, hP⟩ := ho
    exact ⟨S2, hP, fun r K => gh_T_steps 1 (τ := (936, [(3, .int (nI i)), (2, .ref 56), (1, .ref 0), (0, .ref gh_SC)], [], (gh_mo S, 96, 2376))) (fun _ => rfl) (gh_lc21 hi hL h1 h2 K)⟩
  | 22, _, ho =>
    obtain ⟨v, S1, S2, h1, h2, hP⟩ := ho
    exact ⟨S2, hP, fun r K => gh_T_steps 1 (τ := (959, [(3, .int (nI i)), (2, .ref 56), (1, .ref 0), (0, .ref gh_SC)], [], (gh_mo S, 96, 2376))) (fun _ => rfl) (gh_lc22 hi hL h1 h2 K)⟩
  | 23, _, ho =>
    obtain ⟨v, S1, S2, h1, h2, hP⟩ := ho
    exact ⟨S2, hP, fun r K => gh_T_steps 1 (τ := (1022, [(3, .int (nI i)), (2, .ref 56), (1, .ref 0), (0, .ref gh_SC)], [], (gh_mo S, 96, 2376))) (fun _ => rfl) (gh_lc23 hi hL h1 h2 K)⟩
  | 24, _, ho =>
    obtain ⟨v, S1, S2, h1, h2, hP⟩ := ho
    exact ⟨S2, hP, fun r K => gh_T_steps 1 (τ := (1045, [(3, .int (nI i)), (2, .ref 56), (1, .ref 0), (0, .ref gh_SC)], [], (gh_mo S, 96, 2376))) (fun _ => rfl) (gh_lc24 hi hL h1 h2 K)⟩
  | 25, _, ho =>
    obtain ⟨v, S1, S2, h1, h2, hP⟩ := ho
    exact ⟨S2, hP, fun r K => gh_T_steps 1 (τ := (1058, [(3, .int (nI i)), (2, .ref 56), (1, .ref 0), (0, .ref gh_SC)], [], (gh_mo S, 96, 2376))) (fun _ => rfl) (gh_lc25 hi hL h1 h2 K)⟩
  | 26, _, ho =>
    obtain ⟨v, S1, S2, h1, h2, hP⟩ := ho
    exact ⟨S2, hP, fun r K => gh_T_steps 1 (τ := (1081, [(3, .int (nI i)), (2, .ref 56), (1, .ref 0), (0, .ref gh_SC)], [], (gh_mo S, 96, 2376))) (fun _ => rfl) (gh_lc26 hi hL h1 h2 K)⟩
  | 27, _, ho =>
    obtain ⟨v, S1, S2, h1, h2, hP⟩ := ho
    exact ⟨S2, hP, fun r K => gh_T_steps 1 (τ := (1104, [(3, .int (nI i)), (2, .ref 56), (1, .ref 0), (0, .ref gh_SC)], [], (gh_mo S, 96, 2376))) (fun _ => rfl) (gh_lc27 hi hL h1 h2 K)⟩
  | 28, _, ho =>
    obtain ⟨v, S1, S2, h1, h2, hP⟩ := ho
    exact ⟨S2, hP, fun r K => gh_T_steps 1 (τ := (1138, [(3, .int (nI i)), (2, .ref 56), (1, .ref 0), (0, .ref gh_SC)], [], (gh_mo S, 96, 2376))) (fun _ => rfl) (gh_lc28 hi hL h1 h2 K)⟩
  | 29, _, ho => exact ⟨S, ho, fun r K => gh_T_steps 1 (τ := (1162, [(3, .int (nI i)), (2, .ref 56), (1, .ref 0), (0, .ref gh_SC)], [], (gh_mo S, 96, 2376))) (fun _ => rfl) K⟩
  | 30, _, ho => exact ⟨S, ho, fun r K => gh_T_steps 1 (τ := (1162, [(3, .int (nI i)), (2, .ref 56), (1, .ref 0), (0, .ref gh_SC)], [], (gh_mo S, 96, 2376))) (fun _ => rfl) K⟩
  | 31, _, ho => exact ⟨S, ho, fun r K => gh_T_steps 1 (τ := (1162, [(3, .int (nI i)), (2, .ref 56), (1, .ref 0), (0, .ref gh_SC)], [], (gh_mo S, 96, 2376))) (fun _ => rfl) K⟩
  | k + 32, hk, _ => exact absurd hk (by omega)
/-- the loop from the i-th int on, n calls yet to come at most -/
theorem gh_lw_loop {L N : Nat} {xs : Nat → Int32} (hL : L ≤ 3072) {P : Nat → gh_St → Prop} (hop : ∀ (j : Nat) (S : gh_St) (k : Nat) (a b c d e : Int32), j < 512 → k < 32 → P j S → gh_op N a b c d e (P (j + 1)) S k) : ∀ (n i j : Nat) (S : gh_St), L < i + 6 * n + 6 → j * 6 ≤ i → i < 90000 → P j S → ∃ W', gh_T 60 fL_law 600000 7302250 (some (L, xs)) true false (18, [(3, .int (nI i)), (2, .ref 56), (1, .ref 0), (0, .ref gh_SC)], [], (gh_mo S, 96, 2376)) (some (.int 1), W') := by
  intro n
  induction n with
  | zero =>
    intro i j S hn hj hb hP
    exact ⟨_, gh_lw_end hL (by omega) (by omega)⟩
  | succ n ih =>
    intro i j S hn hj hb hP
    by_cases hi : i + 6 ≤ L
    · obtain ⟨k, hk, hx⟩ := gh_sw_lt (x := xs i)
      have ho := hop j S k (xs (i + 1)) (xs (i + 2)) (xs (i + 3)) (xs (i + 4)) (xs (i + 5)) (by omega) hk hP
      have hh : ∀ S2, P (j + 1) S2 → ∃ W', gh_T 60 fL_law 600000 7302250 (some (L, xs)) true false (1162, [(3, .int (nI i)), (2, .ref 56), (1, .ref 0), (0, .ref gh_SC)], [], (gh_mo S2, 96, 2376)) (some (.int 1), W') := by
        intro S2 h2
        obtain ⟨W', hW⟩ := ih (i + 6) (j + 1) S2 (by omega) (by omega) (by omega) h2
        exact ⟨W', gh_lw_next hW⟩
      obtain ⟨S2, h2, hc⟩ := gh_lw_case' hi hL k hk hx ho
      obtain ⟨W', hW⟩ := hh S2 h2
      exact ⟨W', gh_lw_head hi hL (hc _ hW)⟩
    · exact ⟨_, gh_lw_end hL (by omega) (by omega)⟩
theorem gh_ex_dm (F : Nat → Nat → Option gh_E) : ∀ d n, gh_le (gh_ex F d n) (gh_ex F (d + 1) n) := by
  intro d
  induction d with
  | zero => intro n z As M r h; cases h
  | succ d ih =>
    intro n z As M r h
    obtain ⟨y, M'⟩ := r
    obtain ⟨h1, h2, k, j, h3⟩ := gh_ex_inv h
    rw [gh_ex]
    have hb : (Nat.blt z gh_NZ && Nat.ble (lg_sl As).length (gh_ln z)) = true := by
      rw [Bool.and_eq_true]
      exact ⟨Nat.ble_eq_true_of_le h1, Nat.ble_eq_true_of_le h2⟩
    rw [hb, gh_run_mono (ih n) n n _ _ (Nat.le_refl _) h3]
    rfl
theorem gh_Mx_dm {z : Nat} {As : List Value} {M M' : gh_M} {y : Option Value} : ∀ (j d : Nat), gh_Mx d z As M y M' → gh_Mx (d + j) z As M y M' := by
  intro j
  induction j with
  | zero => intro d h; exact h
  | succ j ih =>
    intro d h
    obtain ⟨n, hn⟩ := ih d h
    exact ⟨n, gh_ex_dm gh_F (d + j) n _ _ _ _ hn⟩
set_option maxRecDepth 100000 in
theorem gh_lw_start {L : Nat} {xs : Nat → Int32} {r : gh_R} (h : gh_T 60 fL_law 600000 7302250 (some (L, xs)) true false (18, [(3, .int (nI 0)), (2, .ref 56), (1, .ref 0), (0, .ref gh_SC)], [], (gh_mo gh_S0, 96, 2376)) r) : gh_T 60 fL_law 600000 7302250 (some (L, xs)) true false (0, [(0, .ref gh_SC)], [], (gh_M0, 0, 0)) r := by
  refine gh_T_steps 2 (τ := (4, [(0, .ref gh_SC)], [.ref 0, .ref 0], (gh_Ma, 1, 13))) (fun _ => rfl) ?_
  refine gh_T_call (z := 78) (As := [.ref 0]) (M := gh_Ma) (y := none) (M' := gh_Mb) (τ := (7, [(0, .ref gh_SC)], [.ref 0], (gh_Mb, 56, 1184))) (gh_Mx_dm 40 20 gh_Mx_b) (fun O hO => ?_) ?_
  · show gh_lifv 1 [(0, .ref gh_SC)] [.ref 0, .ref 0] (match O 78 [.ref 0] gh_Ma with
      | some (none, M') => gh_k 7 [.ref 0] (M', 56, 1184)
      | some (some x, M') => gh_k 7 (x :: [.ref 0]) (M', 56, 1184)
      | none => none) = _
    rw [hO]
    rfl
  refine gh_T_steps 1 (τ := (8, [(1, .ref 0), (0, .ref gh_SC)], [], (gh_Mb, 56, 1184))) (fun _ => rfl) ?_
  refine gh_T_step (τ := (11, [(1, .ref 0), (0, .ref gh_SC)], [.ref 56], (gh_Mc, 57, 1247))) (fun O => ?_) ?_
  · show gh_lifv gh_Mb.1.length [(1, .ref 0), (0, .ref gh_SC)] [] (gh_k 11 [.ref gh_Mb.1.length] (gh_mk gh_Mb (.inr 10), 57, 1247)) = _
    rw [gh_Mb_len]
    rfl
  refine gh_T_steps 1 (τ := (12, [(1, .ref 0), (0, .ref gh_SC)], [.ref 56, .ref 56], (gh_Mc, 57, 1247))) (fun _ => rfl) ?_
  refine gh_T_call (z := 112) (As := [.ref 56]) (M := gh_Mc) (y := none) (M' := gh_Md) (τ := (15, [(1, .ref 0), (0, .ref gh_SC)], [.ref 56], (gh_Md, 96, 2376))) (gh_Mx_dm 40 20 gh_Mx_d) (fun O hO => ?_) ?_
  · have hl : gh_Mc.1.length = 57 := by
      show (gh_Mb.1 ++ [_]).length = 57
      rw [List.length_append, gh_Mb_len]
      rfl
    show gh_lifv gh_Mc.1.length [(1, .ref 0), (0, .ref gh_SC)] [.ref 56, .ref 56] (match O 112 [.ref 56] gh_Mc with
      | some (none, M') => gh_k 15 [.ref 56] (M', 96, 2376)
      | some (some x, M') => gh_k 15 (x :: [.ref 56]) (M', 96, 2376)
      | none => none) = _
    rw [hO, hl]
    rfl
  rw [gh_Md_mo]
  exact gh_T_steps 3 (τ := (18, [(3, .int 0), (2, .ref 56), (1, .ref 0), (0, .ref gh_SC)], [], (gh_mo gh_S0, 96, 2376))) (fun _ => rfl) h
/-- the claim out of an invariant: P 0 at first, every pair of calls answers alike and keeps it -/
theorem gh_all_of (N : Nat) (P : Nat → gh_St → Prop) (h0 : P 0 gh_S0) (hop : ∀ (j : Nat) (S : gh_St) (k : Nat) (a b c d e : Int32), j < 512 → k < 32 → P j S → gh_op N a b c d e (P (j + 1)) S k) : ∀ (L : Nat) (xs : Nat → Int32), L ≤ 3072 → gh_goal L xs := by
  intro L xs hL
  obtain ⟨W', hW⟩ := gh_lw_loop (xs := xs) hL hop 512 0 0 gh_S0 (by omega) (by omega) (by omega) h0
  obtain ⟨n, hn⟩ := gh_lw_start hW
  exact ⟨n, W', hn⟩

/-! ===== list(): the two price lists change places ===== -/
theorem gh_swap_row (sw : Bool) (k : Nat) : gh_upR (gh_upR (gh_R0 sw 0) 8 (some (gh_pl !sw))) 9 (some (gh_pl sw)) k = gh_R0 (!sw) 0 k := by
  match k with
  | 0 => cases sw <;> rfl
  | 1 => cases sw <;> rfl
  | 2 => cases sw <;> rfl
  | 3 => cases sw <;> rfl
  | 4 => cases sw <;> rfl
  | 5 => cases sw <;> rfl
  | 6 => cases sw <;> rfl
  | 7 => cases sw <;> rfl
  | 8 => cases sw <;> rfl
  | 9 => cases sw <;> rfl
  | k + 10 =>
    unfold gh_upR
    rw [if_neg (by omega), if_neg (by omega)]
    cases sw <;> rfl
theorem gh_swap_rest (sw : Bool) (c k : Nat) : gh_R0 (!sw) (c + 1) k = gh_R0 sw (c + 1) k := by
  cases sw <;> rfl
theorem gh_swap (I : Nat → Nat → Int32) (L : Nat → Nat → Int64) (sw : Bool) : gh_mR (gh_mR (gh_mo (I, L, sw)) 0 (gh_upR (gh_R0 sw 0) 8 (some (gh_pl !sw)))) 0 (gh_upR (gh_upR (gh_R0 sw 0) 8 (some (gh_pl !sw))) 9 (some (gh_pl sw))) = gh_mo (I, L, !sw) := by
  have e : gh_up (gh_up (gh_R0 sw) 0 (gh_upR (gh_R0 sw 0) 8 (some (gh_pl !sw)))) 0 (gh_upR (gh_upR (gh_R0 sw 0) 8 (some (gh_pl !sw))) 9 (some (gh_pl sw))) = gh_R0 (!sw) := by
    funext c k
    cases c with
    | zero =>
      rw [gh_up_eq]
      exact gh_swap_row sw k
    | succ c =>
      rw [gh_up_ne _ _ (Nat.succ_ne_zero c), gh_up_ne _ _ (Nat.succ_ne_zero c)]
      exact (gh_swap_rest sw c k).symm
  show (gh_shp, I, L, gh_up (gh_up (gh_R0 sw) 0 (gh_upR (gh_R0 sw 0) 8 (some (gh_pl !sw)))) 0 (gh_upR (gh_upR (gh_R0 sw 0) 8 (some (gh_pl !sw))) 9 (some (gh_pl sw)))) = (gh_shp, I, L, gh_R0 (!sw))
  rw [e]
def sX9_list (N : Nat) (S : gh_St) : Option (Int32 × gh_St) :=
  (sX6_read N (!S.2.2) S).bind fun q1 =>
  bif gh_cmp .eq q1.1 (-1) then
    (some (q1.1, gh_fI q1.2 43 1 0))
  else
    (some (q1.1, ((gh_fI q1.2 43 1 0).1, q1.2.2.1, !q1.2.2.2)))
set_option maxRecDepth 100000 in
theorem kX9_list_e (d N : Nat) (S : gh_St) (r : Int32 × gh_St) (h : sX9_list N S = some r) : gh_T (d + 6) fX9_list 0 0 none false false (0, [(0, .ref 0)], [], (gh_mo S, 0, 0)) (some (.int r.1), (gh_mo r.2, 0, 0)) := by
  unfold sX9_list at h
  refine gh_T_steps 6 (τ := (12, [(0, .ref 0)], [.ref (gh_pl !S.2.2), .ref 43, .ref 45], (gh_mo S, 0, 0))) (fun _ => rfl) ?_
  obtain ⟨q1, hq1, h⟩ := gh_bi h
  refine gh_T_iv (As := [.ref 43, .ref (gh_pl !S.2.2)]) (b := 45) (rest := []) (y := some (.int q1.1)) (M' := gh_mo q1.2) rfl rfl rfl rfl rfl rfl rfl rfl rfl ⟨Nat.le_refl _, Nat.le_refl _⟩ (kX6_read d N (!S.2.2) S q1 hq1) ?_
  refine gh_T_steps 7 (τ := (26, [(1, .int q1.1), (0, .ref 0)], [.int (-1), .int q1.1], (gh_mo (gh_fI q1.2 43 1 0), 0, 0))) (fun _ => rfl) ?_
  cases c1 : gh_cmp .eq q1.1 (-1) with
  | true =>
    rw [c1, cond_true] at h
    refine gh_T_ic true rfl c1 ?_
    refine gh_T_steps 1 (τ := (48, [(1, .int q1.1), (0, .ref 0)], [.int q1.1], (gh_mo (gh_fI q1.2 43 1 0), 0, 0))) (fun _ => rfl) ?_
    cases h
    exact gh_T_ret (fun _ => rfl)
  | false =>
    rw [c1, cond_false] at h
    refine gh_T_ic false rfl c1 ?_
    obtain ⟨y1, I, L, sw⟩ := q1
    have e := gh_swap (gh_fI (I, L, sw) 43 1 0).1 L sw
    refine gh_T_steps 11 (τ := (48, [(2, .ref (gh_pl sw)), (1, .int y1), (0, .ref 0)], [.int y1], (gh_mR (gh_mR (gh_mo ((gh_fI (I, L, sw) 43 1 0).1, L, sw)) 0 (gh_upR (gh_R0 sw 0) 8 (some (gh_pl !sw)))) 0 (gh_upR (gh_upR (gh_R0 sw 0) 8 (some (gh_pl !sw))) 9 (some (gh_pl sw))), 0, 0))) (fun _ => by cases sw <;> rfl) ?_
    rw [e]
    cases h
    exact gh_T_ret (fun _ => rfl)
theorem kX9_list (d N : Nat) (S : gh_St) (r : Int32 × gh_St) (h : sX9_list N S = some r) : gh_Mx (d + 7) 103 [.ref 0] (gh_mo S) (some (.int r.1)) (gh_mo r.2) :=
  gh_Mx_of rfl rfl rfl rfl rfl rfl (kX9_list_e d N S r h)

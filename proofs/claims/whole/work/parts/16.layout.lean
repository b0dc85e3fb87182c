/-! ===== THE MEMORY BEHIND THE CONSTRUCTORS: cells 0 .. 55 the class, 56 .. 95 the reference ===== -/
def gh_shp : List gh_Sh := [.inr 9, .inr 0, .inl (0, 8), .inl (0, 8), .inl (0, 8), .inl (1, 8), .inr 3, .inl (0, 100), .inl (0, 100), .inl (0, 100), .inl (0, 100), .inr 4, .inl (0, 20), .inl (0, 20), .inl (0, 20), .inl (0, 20), .inl (0, 72), .inl (0, 5), .inr 7, .inl (0, 7), .inl (0, 7), .inl (0, 7), .inl (0, 7), .inl (0, 7), .inl (0, 7), .inl (0, 7), .inr 2, .inl (3, 12), .inl (0, 12), .inl (0, 8), .inl (0, 8), .inl (0, 8), .inl (0, 12), .inl (0, 12), .inl (0, 12), .inl (0, 12), .inl (0, 8), .inr 1, .inl (0, 4), .inl (0, 4), .inl (1, 84), .inl (0, 4), .inl (0, 8), .inr 8, .inl (0, 200), .inr 6, .inr 5, .inl (0, 4), .inl (3, 4), .inl (0, 8), .inl (0, 8), .inr 5, .inl (0, 4), .inl (3, 4), .inl (0, 8), .inl (0, 8), .inr 10, .inl (0, 8), .inl (0, 8), .inl (0, 8), .inl (1, 8), .inl (0, 100), .inl (0, 100), .inl (0, 100), .inl (1, 100), .inl (0, 20), .inl (0, 20), .inl (0, 20), .inl (0, 20), .inl (0, 7), .inl (0, 7), .inl (0, 7), .inl (3, 12), .inl (0, 12), .inl (0, 8), .inl (0, 8), .inl (2, 200), .inl (0, 4), .inl (0, 8), .inl (0, 8), .inl (0, 4), .inl (0, 8), .inl (0, 8), .inl (0, 12), .inl (0, 20), .inl (0, 7), .inl (0, 7), .inl (3, 96), .inl (3, 96), .inl (0, 12), .inl (0, 21), .inl (0, 21), .inl (0, 8), .inl (0, 4), .inl (0, 4), .inl (0, 8)]
/-- the two price lists: 46 and 51 -/
def gh_pl (b : Bool) : Nat := bif b then 51 else 46
def gh_rl0 (sw : Bool) : List (List (Option Nat)) := [[some 1, some 6, some 11, some 18, some 26, some 37, some 43, some 45, some (gh_pl sw), some (gh_pl !sw)], [some 2, some 3, some 4, some 5], [], [], [], [], [some 7, some 8, some 9, some 10], [], [], [], [], [some 12, some 13, some 14, some 15, some 16, some 17], [], [], [], [], [], [], [some 19, some 20, some 21, some 22, some 23, some 24, some 25], [], [], [], [], [], [], [], [some 27, some 28, some 29, some 30, some 31, some 32, some 33, some 34, some 35, some 36], [], [], [], [], [], [], [], [], [], [], [some 38, some 39, some 40, some 41, none, none, some 42], [], [], [], [], [], [some 44], [], [], [some 47, some 48, some 49, some 50], [], [], [], [], [some 52, some 53, some 54, some 55], [], [], [], [], [some 57, some 58, some 59, some 60, none, some 61, some 62, some 63, some 64, none, some 65, some 66, some 67, some 68, none, none, none, none, none, none, some 69, some 70, some 71, none, none, some 72, some 73, some 74, some 75, none, some 76, none, none, none, none, none, none, none, none, none, some 77, none, some 78, some 79, some 80, none, some 81, some 82, some 83, some 84, some 85, some 86, none, some 87, some 88, some 89, some 90, some 91, some 92, some 93, some 94, some 95], [], [], [], [], [], [], [], [], [], [], [], [], [], [], [], [], [], [], [], [], [], [], [], [], [], [], [], [], [], [], [], [], [], [], [], [], [], [], []]
def gh_R0 (sw : Bool) (c k : Nat) : Option Nat := ((gh_rl0 sw).getD c []).getD k none
/-- ints, longs, and whether the price lists are swapped -/
abbrev gh_St : Type := (Nat → Nat → Int32) × (Nat → Nat → Int64) × Bool
def gh_mo (S : gh_St) : gh_M := (gh_shp, S.1, S.2.1, gh_R0 S.2.2)
def gh_fI (S : gh_St) (c k : Nat) (x : Int32) : gh_St := (gh_up S.1 c (upd (S.1 c) k x), S.2.1, S.2.2)
def gh_fL (S : gh_St) (c k : Nat) (x : Int64) : gh_St := (S.1, gh_up S.2.1 c (vp_updL (S.2.1 c) k x), S.2.2)
def gh_fZ (S : gh_St) (c k : Nat) (x : Int32) : Option gh_St := bif gh_isB x then some (gh_fI S c k x) else none
def gh_ra (S : gh_St) (c n : Nat) (i : Int32) : Option Int32 := bif gh_in i n then some (S.1 c i.toNatClampNeg) else none
def gh_rj (S : gh_St) (c n : Nat) (i : Int32) : Option Int64 := bif gh_in i n then some (S.2.1 c i.toNatClampNeg) else none
def gh_wa (S : gh_St) (c n : Nat) (i x : Int32) : Option gh_St := bif gh_in i n then some (gh_fI S c i.toNatClampNeg x) else none
def gh_wj (S : gh_St) (c n : Nat) (i : Int32) (x : Int64) : Option gh_St := bif gh_in i n then some (gh_fL S c i.toNatClampNeg x) else none
def gh_di (x y : Int32) : Option Int32 := if y = 0 then none else some (x / y)
def gh_re (x y : Int32) : Option Int32 := if y = 0 then none else some (x - x / y * y)
def gh_dj (x y : Int64) : Option Int64 := if y = 0 then none else some (x / y)
def gh_gB (x : Int32) : Option Int32 := bif gh_isB x then some x else none
def gh_cp (S : gh_St) (a n1 b n0 : Nat) (sp dp n : Int32) : Option gh_St := bif !decide (sp < 0) && !decide (dp < 0) && !decide (n < 0) && Nat.ble (sp.toNatClampNeg + n.toNatClampNeg) n0 && Nat.ble (dp.toNatClampNeg + n.toNatClampNeg) n1 then some (gh_up S.1 a (va_cpy (S.1 b) (S.1 a) sp.toNatClampNeg dp.toNatClampNeg n.toNatClampNeg), S.2.1, S.2.2) else none
def gh_ch (b : Bool) (k : Int32) : Option Int32 := bif gh_in k (gh_sl.getD (bif b then 1 else 0) 0) then some (gh_sc (bif b then 1 else 0) k) else none
def gh_rx (L : Nat) (xs : Nat → Int32) (i : Int32) : Option Int32 := bif gh_in i L then some (xs i.toNatClampNeg) else none
def gh_max (x y : Int32) : Int32 := if x < y then y else x
def gh_min (x y : Int32) : Int32 := if y < x then y else x
def gh_mxj (x y : Int64) : Int64 := if y < x then x else y
theorem gh_bs {b : Bool} {α : Type} {x y : α} (h : (bif b then some x else none) = some y) : b = true ∧ x = y := by
  cases b
  · cases h
  · exact ⟨rfl, Option.some.inj h⟩
section GhT2
variable {d : Nat} {f : Nat → Option gh_E} {bc bs : Nat} {sc : Option (Nat × (Nat → Int32))} {zr ini : Bool} {pc ln u v : Nat} {w : Int32} {xx : Int64} {lv : gh_L} {st : List Value} {S S' : gh_St} {kj : Nat × Nat} {r : gh_R}
theorem gh_T_ra {c n : Nat} {i x : Int32} (hf : f pc = some (.iaload, ln, u, v, w, xx)) (hs : gh_shp[c]? = some (.inl (0, n))) (h : gh_ra S c n i = some x) (k : gh_T d f bc bs sc zr ini (pc + 1, lv, .int x :: st, (gh_mo S, kj)) r) : gh_T d f bc bs sc zr ini (pc, lv, .int i :: .ref c :: st, (gh_mo S, kj)) r := by
  obtain ⟨h1, rfl⟩ := gh_bs h
  refine gh_T_step (fun O => ?_) k
  unfold gh_step
  rw [hf]
  show gh_lift lv (gh_iald sc pc (.int i :: .ref c :: st) (gh_mo S, kj)) = _
  unfold gh_iald
  show gh_lift lv (match gh_shp[c]? with
    | some (.inl (0, n)) => bif gh_in i n then gh_k (pc + 1) (.int ((gh_mo S).2.1 c i.toNatClampNeg) :: st) (gh_mo S, kj) else none
    | some _ => none
    | none => _) = _
  rw [hs]
  show gh_lift lv (bif gh_in i n then gh_k (pc + 1) (.int ((gh_mo S).2.1 c i.toNatClampNeg) :: st) (gh_mo S, kj) else none) = _
  rw [h1]
  rfl
theorem gh_T_rj {c n : Nat} {i : Int32} {x : Int64} (hf : f pc = some (.laload, ln, u, v, w, xx)) (hs : gh_shp[c]? = some (.inl (1, n))) (h : gh_rj S c n i = some x) (k : gh_T d f bc bs sc zr ini (pc + 1, lv, .long x :: st, (gh_mo S, kj)) r) : gh_T d f bc bs sc zr ini (pc, lv, .int i :: .ref c :: st, (gh_mo S, kj)) r := by
  obtain ⟨h1, rfl⟩ := gh_bs h
  refine gh_T_step (fun O => ?_) k
  unfold gh_step
  rw [hf]
  show gh_lift lv (gh_lald pc (.int i :: .ref c :: st) (gh_mo S, kj)) = _
  unfold gh_lald
  show gh_lift lv (match gh_shp[c]? with
    | some (.inl (1, n)) => bif gh_in i n then gh_k (pc + 1) (.long ((gh_mo S).2.2.1 c i.toNatClampNeg) :: st) (gh_mo S, kj) else none
    | _ => none) = _
  rw [hs]
  show gh_lift lv (bif gh_in i n then gh_k (pc + 1) (.long ((gh_mo S).2.2.1 c i.toNatClampNeg) :: st) (gh_mo S, kj) else none) = _
  rw [h1]
  rfl
theorem gh_T_rb {c n t : Nat} {i x : Int32} (hf : f pc = some (.baload, ln, u, v, w, xx)) (ht : t = 2 ∨ t = 3) (hs : gh_shp[c]? = some (.inl (t, n))) (h : gh_ra S c n i = some x) (k : gh_T d f bc bs sc zr ini (pc + 1, lv, .int x :: st, (gh_mo S, kj)) r) : gh_T d f bc bs sc zr ini (pc, lv, .int i :: .ref c :: st, (gh_mo S, kj)) r := by
  obtain ⟨h1, rfl⟩ := gh_bs h
  refine gh_T_step (fun O => ?_) k
  unfold gh_step
  rw [hf]
  show gh_lift lv (gh_bald pc (.int i :: .ref c :: st) (gh_mo S, kj)) = _
  unfold gh_bald
  show gh_lift lv (match gh_shp[c]? with
    | some (.inl (2, n)) => bif gh_in i n then gh_k (pc + 1) (.int ((gh_mo S).2.1 c i.toNatClampNeg) :: st) (gh_mo S, kj) else none
    | some (.inl (3, n)) => bif gh_in i n then gh_k (pc + 1) (.int ((gh_mo S).2.1 c i.toNatClampNeg) :: st) (gh_mo S, kj) else none
    | _ => none) = _
  rw [hs]
  rcases ht with rfl | rfl
  · show gh_lift lv (bif gh_in i n then gh_k (pc + 1) (.int ((gh_mo S).2.1 c i.toNatClampNeg) :: st) (gh_mo S, kj) else none) = _
    rw [h1]
    rfl
  · show gh_lift lv (bif gh_in i n then gh_k (pc + 1) (.int ((gh_mo S).2.1 c i.toNatClampNeg) :: st) (gh_mo S, kj) else none) = _
    rw [h1]
    rfl
theorem gh_T_wa {c n : Nat} {i x : Int32} (hf : f pc = some (.iastore, ln, u, v, w, xx)) (hs : gh_shp[c]? = some (.inl (0, n))) (h : gh_wa S c n i x = some S') (k : gh_T d f bc bs sc zr ini (pc + 1, lv, st, (gh_mo S', kj)) r) : gh_T d f bc bs sc zr ini (pc, lv, .int x :: .int i :: .ref c :: st, (gh_mo S, kj)) r := by
  obtain ⟨h1, rfl⟩ := gh_bs h
  refine gh_T_step (fun O => ?_) k
  unfold gh_step
  rw [hf]
  show gh_lift lv (gh_iast pc (.int x :: .int i :: .ref c :: st) (gh_mo S, kj)) = _
  unfold gh_iast
  show gh_lift lv (match gh_shp[c]? with
    | some (.inl (0, n)) => bif gh_in i n then gh_k (pc + 1) st (gh_mI (gh_mo S) c (upd ((gh_mo S).2.1 c) i.toNatClampNeg x), kj) else none
    | _ => none) = _
  rw [hs]
  show gh_lift lv (bif gh_in i n then gh_k (pc + 1) st (gh_mI (gh_mo S) c (upd ((gh_mo S).2.1 c) i.toNatClampNeg x), kj) else none) = _
  rw [h1]
  rfl
theorem gh_T_wj {c n : Nat} {i : Int32} {x : Int64} (hf : f pc = some (.lastore, ln, u, v, w, xx)) (hs : gh_shp[c]? = some (.inl (1, n))) (h : gh_wj S c n i x = some S') (k : gh_T d f bc bs sc zr ini (pc + 1, lv, st, (gh_mo S', kj)) r) : gh_T d f bc bs sc zr ini (pc, lv, .long x :: .int i :: .ref c :: st, (gh_mo S, kj)) r := by
  obtain ⟨h1, rfl⟩ := gh_bs h
  refine gh_T_step (fun O => ?_) k
  unfold gh_step
  rw [hf]
  show gh_lift lv (gh_last pc (.long x :: .int i :: .ref c :: st) (gh_mo S, kj)) = _
  unfold gh_last
  show gh_lift lv (match gh_shp[c]? with
    | some (.inl (1, n)) => bif gh_in i n then gh_k (pc + 1) st (gh_mL (gh_mo S) c (vp_updL ((gh_mo S).2.2.1 c) i.toNatClampNeg x), kj) else none
    | _ => none) = _
  rw [hs]
  show gh_lift lv (bif gh_in i n then gh_k (pc + 1) st (gh_mL (gh_mo S) c (vp_updL ((gh_mo S).2.2.1 c) i.toNatClampNeg x), kj) else none) = _
  rw [h1]
  rfl
theorem gh_T_wb {c n : Nat} {i x : Int32} (hf : f pc = some (.bastore, ln, u, v, w, xx)) (hs : gh_shp[c]? = some (.inl (2, n))) (h : gh_wa S c n i (vp_nar .byte x) = some S') (k : gh_T d f bc bs sc zr ini (pc + 1, lv, st, (gh_mo S', kj)) r) : gh_T d f bc bs sc zr ini (pc, lv, .int x :: .int i :: .ref c :: st, (gh_mo S, kj)) r := by
  obtain ⟨h1, rfl⟩ := gh_bs h
  refine gh_T_step (fun O => ?_) k
  unfold gh_step
  rw [hf]
  show gh_lift lv (gh_bast pc (.int x :: .int i :: .ref c :: st) (gh_mo S, kj)) = _
  unfold gh_bast
  show gh_lift lv (match gh_shp[c]? with
    | some (.inl (2, n)) => bif gh_in i n then gh_k (pc + 1) st (gh_mI (gh_mo S) c (upd ((gh_mo S).2.1 c) i.toNatClampNeg (vp_nar .byte x)), kj) else none
    | some (.inl (3, n)) => bif gh_in i n then gh_k (pc + 1) st (gh_mI (gh_mo S) c (upd ((gh_mo S).2.1 c) i.toNatClampNeg (vp_nar .boolean x)), kj) else none
    | _ => none) = _
  rw [hs]
  show gh_lift lv (bif gh_in i n then gh_k (pc + 1) st (gh_mI (gh_mo S) c (upd ((gh_mo S).2.1 c) i.toNatClampNeg (vp_nar .byte x)), kj) else none) = _
  rw [h1]
  rfl
theorem gh_T_wz {c n : Nat} {i x : Int32} (hf : f pc = some (.bastore, ln, u, v, w, xx)) (hs : gh_shp[c]? = some (.inl (3, n))) (h : gh_wa S c n i (vp_nar .boolean x) = some S') (k : gh_T d f bc bs sc zr ini (pc + 1, lv, st, (gh_mo S', kj)) r) : gh_T d f bc bs sc zr ini (pc, lv, .int x :: .int i :: .ref c :: st, (gh_mo S, kj)) r := by
  obtain ⟨h1, rfl⟩ := gh_bs h
  refine gh_T_step (fun O => ?_) k
  unfold gh_step
  rw [hf]
  show gh_lift lv (gh_bast pc (.int x :: .int i :: .ref c :: st) (gh_mo S, kj)) = _
  unfold gh_bast
  show gh_lift lv (match gh_shp[c]? with
    | some (.inl (2, n)) => bif gh_in i n then gh_k (pc + 1) st (gh_mI (gh_mo S) c (upd ((gh_mo S).2.1 c) i.toNatClampNeg (vp_nar .byte x)), kj) else none
    | some (.inl (3, n)) => bif gh_in i n then gh_k (pc + 1) st (gh_mI (gh_mo S) c (upd ((gh_mo S).2.1 c) i.toNatClampNeg (vp_nar .boolean x)), kj) else none
    | _ => none) = _
  rw [hs]
  show gh_lift lv (bif gh_in i n then gh_k (pc + 1) st (gh_mI (gh_mo S) c (upd ((gh_mo S).2.1 c) i.toNatClampNeg (vp_nar .boolean x)), kj) else none) = _
  rw [h1]
  rfl
theorem gh_T_di {x y q : Int32} {W : gh_W} (hf : f pc = some (.idiv, ln, u, v, w, xx)) (h : gh_di x y = some q) (k : gh_T d f bc bs sc zr ini (pc + 1, lv, .int q :: st, W) r) : gh_T d f bc bs sc zr ini (pc, lv, .int y :: .int x :: st, W) r := by
  unfold gh_di at h
  split at h
  · cases h
  · rename_i hy
    cases h
    refine gh_T_step (fun O => ?_) k
    unfold gh_step
    rw [hf]
    show gh_lift lv (if y = 0 then none else gh_k (pc + 1) (.int (x / y) :: st) W) = _
    rw [if_neg hy]
    rfl
theorem gh_T_re {x y q : Int32} {W : gh_W} (hf : f pc = some (.irem, ln, u, v, w, xx)) (h : gh_re x y = some q) (k : gh_T d f bc bs sc zr ini (pc + 1, lv, .int q :: st, W) r) : gh_T d f bc bs sc zr ini (pc, lv, .int y :: .int x :: st, W) r := by
  unfold gh_re at h
  split at h
  · cases h
  · rename_i hy
    cases h
    refine gh_T_step (fun O => ?_) k
    unfold gh_step
    rw [hf]
    show gh_lift lv (if y = 0 then none else gh_k (pc + 1) (.int (x - x / y * y) :: st) W) = _
    rw [if_neg hy]
    rfl
theorem gh_T_dj {x y q : Int64} {W : gh_W} (hf : f pc = some (.ldiv, ln, u, v, w, xx)) (h : gh_dj x y = some q) (k : gh_T d f bc bs sc zr ini (pc + 1, lv, .long q :: st, W) r) : gh_T d f bc bs sc zr ini (pc, lv, .long y :: .long x :: st, W) r := by
  unfold gh_dj at h
  split at h
  · cases h
  · rename_i hy
    cases h
    refine gh_T_step (fun O => ?_) k
    unfold gh_step
    rw [hf]
    show gh_lift lv (if y = 0 then none else gh_k (pc + 1) (.long (x / y) :: st) W) = _
    rw [if_neg hy]
    rfl
/-- a branch -/
theorem gh_T_if {c : Jvm.ClassFile.Cond} {off : Int} {x : Int32} {W : gh_W} (b : Bool) (hf : f pc = some (.ifCond c off, ln, u, v, w, xx)) (hb : gh_cmp c x 0 = b) (k : gh_T d f bc bs sc zr ini (bif b then u else pc + 3, lv, st, W) r) : gh_T d f bc bs sc zr ini (pc, lv, .int x :: st, W) r := by
  refine gh_T_step (fun O => ?_) k
  unfold gh_step
  rw [hf]
  show gh_lift lv (bif gh_cmp c x 0 then gh_k u st W else gh_k (pc + 3) st W) = _
  rw [hb]
  cases b <;> rfl
theorem gh_T_ic {c : Jvm.ClassFile.Cond} {off : Int} {x y : Int32} {W : gh_W} (b : Bool) (hf : f pc = some (.if_icmp c off, ln, u, v, w, xx)) (hb : gh_cmp c x y = b) (k : gh_T d f bc bs sc zr ini (bif b then u else pc + 3, lv, st, W) r) : gh_T d f bc bs sc zr ini (pc, lv, .int y :: .int x :: st, W) r := by
  refine gh_T_step (fun O => ?_) k
  unfold gh_step
  rw [hf]
  show gh_lift lv (bif gh_cmp c x y then gh_k u st W else gh_k (pc + 3) st W) = _
  rw [hb]
  cases b <;> rfl
/-- a boolean field written -/
theorem gh_T_fz {k0 c : Nat} {x : Int32} (hf : f pc = some (.putfield k0, ln, u, v, 0, xx)) (hs : gh_shp[c]? = some (.inr u)) (hk : (gh_ft u)[v]? = some 3) (h : gh_fZ S c v x = some S') (k : gh_T d f bc bs sc zr ini (pc + 3, lv, st, (gh_mo S', kj)) r) : gh_T d f bc bs sc zr ini (pc, lv, .int x :: .ref c :: st, (gh_mo S, kj)) r := by
  obtain ⟨h1, rfl⟩ := gh_bs h
  refine gh_T_step (fun O => ?_) k
  unfold gh_step
  rw [hf]
  show gh_lift lv (gh_put ini u v 0 pc (.int x :: .ref c :: st) (gh_mo S, kj)) = _
  unfold gh_put
  show gh_lift lv (match gh_shp[c]? with
    | some (.inr ci) => bif Nat.beq ci u && (decide ((0 : Int32) = 0) || ini) then (match (gh_ft u)[v]?, (Value.int x) with
      | some 0, .int a => gh_k (pc + 3) st (gh_mI (gh_mo S) c (upd ((gh_mo S).2.1 c) v a), kj)
      | some 1, .long a => gh_k (pc + 3) st (gh_mL (gh_mo S) c (vp_updL ((gh_mo S).2.2.1 c) v a), kj)
      | some 2, .ref a => bif !Nat.blt a gh_shp.length then none else gh_k (pc + 3) st (gh_mR (gh_mo S) c (gh_upR ((gh_mo S).2.2.2 c) v (some a)), kj)
      | some 3, .int a => bif gh_isB a then gh_k (pc + 3) st (gh_mI (gh_mo S) c (upd ((gh_mo S).2.1 c) v a), kj) else none
      | _, _ => none) else none
    | _ => none) = _
  rw [hs, hk]
  show gh_lift lv (bif Nat.beq u u && true then (bif gh_isB x then gh_k (pc + 3) st (gh_mI (gh_mo S) c (upd ((gh_mo S).2.1 c) v x), kj) else none) else none) = _
  rw [Nat.beq_refl, h1]
  rfl
/-- returns of booleans -/
theorem gh_T_rz {x : Int32} {W : gh_W} (hf : f pc = some (.ireturn, ln, u, v, w, xx)) (h : gh_isB x = true) : gh_T d f bc bs sc zr ini (pc, lv, [.int x], W) (some (.int x), W) := by
  refine gh_T_ret (fun O => ?_)
  unfold gh_step
  rw [hf]
  show gh_lift lv (bif !zr || gh_isB x then some (.inr (some (.int x), W)) else none) = _
  rw [h]
  cases zr <;> rfl
/-! calls -/
theorem gh_T_iv {k0 z n b ci : Nat} {As rest : List Value} {y : Option Value} {M' : gh_M} (hf : f pc = some (.invokevirtual k0, ln, z, n, w, xx)) (hz : Nat.ble z 999 = true) (hn : Nat.ble n st.length = true) (hA : (st.take n).reverse = As) (hd : st.drop n = .ref b :: rest) (hs : gh_shp[b]? = some (.inr ci)) (hc : Nat.beq ci (gh_oc z) = true) (hrm : gh_rm rest = true) (hb : gh_bud z = (0, 0))
    (hk : kj.1 ≤ bc ∧ kj.2 ≤ bs) (hM : gh_Mx d z (.ref b :: As) (gh_mo S) y M') (k : gh_T d f bc bs sc zr ini (pc + 3, lv, y.toList ++ rest, (M', kj)) r) : gh_T d f bc bs sc zr ini (pc, lv, st, (gh_mo S, kj)) r := by
  refine gh_T_call hM (fun O hO => ?_) k
  unfold gh_step
  rw [hf]
  have hz := Nat.le_of_ble_eq_true hz
  show gh_lift lv (gh_vir O bc bs z n pc st (gh_mo S, kj)) = _
  unfold gh_vir
  split
  · exact absurd hz (by decide)
  · exact absurd hz (by decide)
  · unfold gh_ivv
    rw [hn, hd]
    show gh_lift lv (match gh_shp[b]? with
      | some (.inr ci) => bif Nat.beq ci (gh_oc z) then gh_cal O bc bs z pc (.ref b :: (st.take n).reverse) rest (gh_mo S, kj) else none
      | _ => none) = _
    rw [hs]
    show gh_lift lv (bif Nat.beq ci (gh_oc z) then gh_cal O bc bs z pc (.ref b :: (st.take n).reverse) rest (gh_mo S, kj) else none) = _
    rw [hc, hA]
    show gh_lift lv (gh_cal O bc bs z pc (.ref b :: As) rest (gh_mo S, kj)) = _
    unfold gh_cal
    rw [hrm, hb]
    have e1 : Nat.ble (kj.1 + 0) bc = true := Nat.ble_eq_true_of_le hk.1
    have e2 : Nat.ble (kj.2 + 0) bs = true := Nat.ble_eq_true_of_le hk.2
    show gh_lift lv (bif true && Nat.ble (kj.1 + 0) bc && Nat.ble (kj.2 + 0) bs then _ else none) = _
    rw [e1, e2]
    show gh_lift lv (match O z (.ref b :: As) (gh_mo S) with
      | some (none, M') => gh_k (pc + 3) rest (M', kj.1 + 0, kj.2 + 0)
      | some (some x, M') => gh_k (pc + 3) (x :: rest) (M', kj.1 + 0, kj.2 + 0)
      | none => none) = _
    rw [hO]
    cases y <;> rfl
theorem gh_T_is {k0 z n : Nat} {As rest : List Value} {y : Option Value} {M' : gh_M} (hf : f pc = some (.invokestatic k0, ln, z, n, w, xx)) (hz : Nat.ble z 999 = true) (hn : Nat.ble n st.length = true) (hA : (st.take n).reverse = As) (hd : st.drop n = rest) (hrm : gh_rm rest = true) (hb : gh_bud z = (0, 0))
    (hk : kj.1 ≤ bc ∧ kj.2 ≤ bs) (hM : gh_Mx d z As (gh_mo S) y M') (k : gh_T d f bc bs sc zr ini (pc + 3, lv, y.toList ++ rest, (M', kj)) r) : gh_T d f bc bs sc zr ini (pc, lv, st, (gh_mo S, kj)) r := by
  refine gh_T_call hM (fun O hO => ?_) k
  unfold gh_step
  rw [hf]
  have hz := Nat.le_of_ble_eq_true hz
  show gh_lift lv (gh_sta O bc bs z n pc st (gh_mo S, kj)) = _
  unfold gh_sta
  split
  · exact absurd hz (by decide)
  · exact absurd hz (by decide)
  · exact absurd hz (by decide)
  · exact absurd hz (by decide)
  · unfold gh_ivs
    rw [hn, hA, hd]
    show gh_lift lv (gh_cal O bc bs z pc As rest (gh_mo S, kj)) = _
    unfold gh_cal
    rw [hrm, hb]
    have e1 : Nat.ble (kj.1 + 0) bc = true := Nat.ble_eq_true_of_le hk.1
    have e2 : Nat.ble (kj.2 + 0) bs = true := Nat.ble_eq_true_of_le hk.2
    show gh_lift lv (bif true && Nat.ble (kj.1 + 0) bc && Nat.ble (kj.2 + 0) bs then _ else none) = _
    rw [e1, e2]
    show gh_lift lv (match O z As (gh_mo S) with
      | some (none, M') => gh_k (pc + 3) rest (M', kj.1 + 0, kj.2 + 0)
      | some (some x, M') => gh_k (pc + 3) (x :: rest) (M', kj.1 + 0, kj.2 + 0)
      | none => none) = _
    rw [hO]
    cases y <;> rfl
end GhT2
/-- a method by its body's run -/
theorem gh_Mx_of {d z k j : Nat} {As : List Value} {M M' : gh_M} {y : Option Value} {f : Nat → Option gh_E} {zr : Bool} (hz : Nat.blt z gh_NZ = true) (hf : gh_F z = f) (hb : gh_bud z = (0, 0)) (hr : gh_zr z = zr) (hk : Nat.beq (gh_kn z) 2 = false) (hl : Nat.ble (lg_sl As).length (gh_ln z) = true) (h : gh_T d f 0 0 none zr false (0, lv_args 0 As, [], (M, 0, 0)) (y, (M', k, j))) : gh_Mx (d + 1) z As M y M' := by
  obtain ⟨n, hn⟩ := h
  refine ⟨n, ?_⟩
  rw [gh_ex, hz, hl, hf, hb, hr, hk]
  show (match gh_run (gh_ex gh_F d n) f 0 0 none zr false n (0, lv_args 0 As, [], (M, 0, 0)) with
    | some (y, W) => some (y, W.1)
    | none => none) = _
  rw [hn]

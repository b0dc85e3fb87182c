/-! ===== THE PURE MACHINE: the bytecode over a memory of numbered cells (no heap, no classes); everything of the machine is proved once over it (part 03 ..) ===== -/
/-- the shape of a cell: an array (type 0 int, 1 long, 2 byte, 3 boolean; length), or an object of a class -/
abbrev gh_Sh : Type := (Nat × Nat) ⊕ Nat
/-- the memory: shapes; ints, longs, references by cell and place -/
abbrev gh_M : Type := List gh_Sh × (Nat → Nat → Int32) × (Nat → Nat → Int64) × (Nat → Nat → Option Nat)
/-- the memory, and how many cells and slots were made -/
abbrev gh_W : Type := gh_M × Nat × Nat
abbrev gh_L : Type := List (Nat × Value)
/-- an instruction, its length, its operands as they are resolved -/
abbrev gh_E : Type := Instr × Nat × Nat × Nat × Int32 × Int64
abbrev gh_S : Type := Nat × gh_L × List Value × gh_W
abbrev gh_R : Type := Option Value × gh_W
/-- the kinds of a class's fields: 0 int, 1 long, 2 reference, 3 boolean -/
def gh_ft : Nat → List Nat
  | 0 => [2, 2, 2, 2]
  | 1 => [2, 2, 2, 2, 0, 1, 2, 3]
  | 2 => [2, 2, 2, 2, 2, 2, 2, 2, 2, 2, 0, 0, 0, 0, 3]
  | 3 => [2, 2, 2, 2, 0]
  | 4 => [2, 2, 2, 2, 2, 2, 0, 0, 0, 1]
  | 5 => [2, 2, 2, 2, 0]
  | 6 => [3, 0, 0, 0, 0, 0, 0, 0, 3, 0, 0]
  | 7 => [2, 2, 2, 2, 2, 2, 2, 0, 0, 0, 0, 3]
  | 8 => [2, 0]
  | 9 => [2, 2, 2, 2, 2, 2, 2, 2, 2, 2, 1, 1, 1]
  | 10 => [2, 2, 2, 2, 0, 2, 2, 2, 2, 0, 2, 2, 2, 2, 0, 0, 1, 1, 1, 0, 2, 2, 2, 0, 0, 2, 2, 2, 2, 0, 2, 0, 0, 0, 0, 0, 0, 0, 0, 0, 2, 0, 2, 2, 2, 0, 2, 2, 2, 2, 2, 2, 0, 2, 2, 2, 2, 2, 2, 2, 2, 2, 3]
  | _ => []
/-- what a constructor makes: cells, slots -/
def gh_bud : Nat → Nat × Nat
  | 0 => (4, 32)
  | 9 => (5, 104)
  | 14 => (10, 104)
  | 29 => (4, 400)
  | 37 => (6, 157)
  | 46 => (4, 24)
  | 54 => (0, 0)
  | 65 => (7, 49)
  | 75 => (1, 200)
  | 78 => (55, 1171)
  | 112 => (39, 1129)
  | _ => (0, 0)
/-- the class of a method -/
def gh_oc (z : Nat) : Nat :=
  bif Nat.ble z 8 then 0 else
  bif Nat.ble z 13 then 1 else
  bif Nat.ble z 28 then 2 else
  bif Nat.ble z 36 then 3 else
  bif Nat.ble z 45 then 4 else
  bif Nat.ble z 53 then 5 else
  bif Nat.ble z 64 then 6 else
  bif Nat.ble z 74 then 7 else
  bif Nat.ble z 77 then 8 else
  bif Nat.ble z 111 then 9 else
  bif Nat.ble z 174 then 10 else
  11
/-- the script's reference; the String constants' are behind it -/
def gh_SC : Nat := 5000
def gh_up {α : Type} (I : Nat → Nat → α) (c : Nat) (f : Nat → α) : Nat → Nat → α := fun d => bif Nat.beq d c then f else I d
theorem gh_up_eq {α : Type} (I : Nat → Nat → α) (c : Nat) (f : Nat → α) : gh_up I c f c = f := by simp [gh_up]
theorem gh_up_ne {α : Type} (I : Nat → Nat → α) {c d : Nat} (f : Nat → α) (h : d ≠ c) : gh_up I c f d = I d := by
  have : Nat.beq d c = false := by
    cases hb : Nat.beq d c with
    | false => rfl
    | true => exact absurd (Nat.eq_of_beq_eq_true hb) h
  simp [gh_up, this]
def gh_in (i : Int32) (n : Nat) : Bool := !(decide (i < 0) || Nat.ble n i.toNatClampNeg)
theorem gh_in_iff {i : Int32} {n : Nat} : gh_in i n = true ↔ vp_in i n := by
  unfold gh_in vp_in
  have e : Nat.ble n i.toNatClampNeg = decide (n ≤ i.toNatClampNeg) := by
    rw [Bool.eq_iff_iff]
    simp only [decide_eq_true_eq]
    exact ⟨Nat.le_of_ble_eq_true, Nat.ble_eq_true_of_le⟩
  rw [e]
  simp
/-! locals -/
def gh_lk : gh_L → Nat → Option Value
  | [], _ => none
  | q :: t, i => bif Nat.beq q.1 i then some q.2 else gh_lk t i
def gh_s1 (lv : gh_L) (i : Nat) (v : Value) : gh_L := (i, v) :: lv.filter (fun q => !(q.1 == i) && !(q.1 + 1 == i && q.2.category == 2))
def gh_s2 (lv : gh_L) (i : Nat) (v : Value) : gh_L := (i, v) :: lv.filter (fun q => !(q.1 == i) && (!(q.1 == i + 1) && !(q.1 + 1 == i && q.2.category == 2)))
/-! what an instruction that touches no local does: the next pc, stack and memory, or the answer -/
abbrev gh_N : Type := (Nat × List Value × gh_W) ⊕ gh_R
def gh_k (pc : Nat) (st : List Value) (W : gh_W) : Option gh_N := some (.inl (pc, st, W))
def gh_ii (f : Int32 → Int32 → Int32) (pc : Nat) (st : List Value) (W : gh_W) : Option gh_N := match st with
  | .int y :: .int x :: r => gh_k (pc + 1) (.int (f x y) :: r) W
  | _ => none
def gh_jj (f : Int64 → Int64 → Int64) (pc : Nat) (st : List Value) (W : gh_W) : Option gh_N := match st with
  | .long y :: .long x :: r => gh_k (pc + 1) (.long (f x y) :: r) W
  | _ => none
def gh_iid (f : Int32 → Int32 → Int32) (pc : Nat) (st : List Value) (W : gh_W) : Option gh_N := match st with
  | .int y :: .int x :: r => if y = 0 then none else gh_k (pc + 1) (.int (f x y) :: r) W
  | _ => none
def gh_jjd (pc : Nat) (st : List Value) (W : gh_W) : Option gh_N := match st with
  | .long y :: .long x :: r => if y = 0 then none else gh_k (pc + 1) (.long (x / y) :: r) W
  | _ => none
def gh_lcmp (pc : Nat) (st : List Value) (W : gh_W) : Option gh_N := match st with
  | .long y :: .long x :: r => gh_k (pc + 1) (.int (lg_cmp x y) :: r) W
  | _ => none
def gh_i (f : Int32 → Int32) (pc : Nat) (st : List Value) (W : gh_W) : Option gh_N := match st with
  | .int x :: r => gh_k (pc + 1) (.int (f x) :: r) W
  | _ => none
def gh_i2l (pc : Nat) (st : List Value) (W : gh_W) : Option gh_N := match st with
  | .int x :: r => gh_k (pc + 1) (.long x.toInt64 :: r) W
  | _ => none
def gh_l2i (pc : Nat) (st : List Value) (W : gh_W) : Option gh_N := match st with
  | .long x :: r => gh_k (pc + 1) (.int x.toInt32 :: r) W
  | _ => none
def gh_dup (pc : Nat) (st : List Value) (W : gh_W) : Option gh_N := match st with
  | .int x :: r => gh_k (pc + 1) (.int x :: .int x :: r) W
  | .ref x :: r => gh_k (pc + 1) (.ref x :: .ref x :: r) W
  | _ => none
def gh_dup2 (pc : Nat) (st : List Value) (W : gh_W) : Option gh_N := match st with
  | .long x :: r => gh_k (pc + 1) (.long x :: .long x :: r) W
  | .int x :: .ref y :: r => gh_k (pc + 1) (.int x :: .ref y :: .int x :: .ref y :: r) W
  | _ => none
def gh_pop (pc : Nat) (st : List Value) (W : gh_W) : Option gh_N := match st with
  | .int _ :: r => gh_k (pc + 1) r W
  | _ => none
def gh_cmp (c : Jvm.ClassFile.Cond) (x y : Int32) : Bool := match c with
  | .eq => decide (x = y)
  | .ne => decide (x ≠ y)
  | .lt => decide (x < y)
  | .ge => decide (y ≤ x)
  | .gt => decide (y < x)
  | .le => decide (x ≤ y)
def gh_if (c : Jvm.ClassFile.Cond) (u pc : Nat) (st : List Value) (W : gh_W) : Option gh_N := match st with
  | .int x :: r => bif gh_cmp c x 0 then gh_k u r W else gh_k (pc + 3) r W
  | _ => none
def gh_icmp (c : Jvm.ClassFile.Cond) (u pc : Nat) (st : List Value) (W : gh_W) : Option gh_N := match st with
  | .int y :: .int x :: r => bif gh_cmp c x y then gh_k u r W else gh_k (pc + 3) r W
  | _ => none
def gh_to (pc : Nat) (off : Int) (st : List Value) (W : gh_W) : Option gh_N := if 0 ≤ (pc : Int) + off then gh_k ((pc : Int) + off).toNat st W else none
def gh_tab (d lo hi : Int) (offs : Array Int) (pc : Nat) (st : List Value) (W : gh_W) : Option gh_N := match st with
  | .int x :: r => if x.toInt < lo ∨ hi < x.toInt then gh_to pc d r W else match offs[(x.toInt - lo).toNat]? with
    | some off => gh_to pc off r W
    | none => none
  | _ => none
def gh_luk (d : Int) (ps : Array (Int × Int)) (pc : Nat) (st : List Value) (W : gh_W) : Option gh_N := match st with
  | .int x :: r => if (ps.toList.zip (ps.toList.drop 1)).all (fun (a, next) => a.1 < next.1) = true then gh_to pc (Op.lookupswitch.offset ps.toList d x.toInt) r W else none
  | _ => none
def gh_isB (x : Int32) : Bool := decide (x = 0) || decide (x = 1)
/-- a field read: u its class, v its place -/
def gh_get (u v pc : Nat) (st : List Value) (W : gh_W) : Option gh_N := match st with
  | .ref c :: r => match W.1.1[c]? with
    | some (.inr ci) => bif Nat.beq ci u then (match (gh_ft u)[v]? with
      | some 1 => gh_k (pc + 3) (.long (W.1.2.2.1 c v) :: r) W
      | some 2 => (match W.1.2.2.2 c v with
        | some q => gh_k (pc + 3) (.ref q :: r) W
        | none => none)
      | some _ => gh_k (pc + 3) (.int (W.1.2.1 c v) :: r) W
      | none => none) else none
    | _ => none
  | _ => none
def gh_mI (M : gh_M) (c : Nat) (f : Nat → Int32) : gh_M := (M.1, gh_up M.2.1 c f, M.2.2.1, M.2.2.2)
def gh_mL (M : gh_M) (c : Nat) (f : Nat → Int64) : gh_M := (M.1, M.2.1, gh_up M.2.2.1 c f, M.2.2.2)
def gh_mR (M : gh_M) (c : Nat) (f : Nat → Option Nat) : gh_M := (M.1, M.2.1, M.2.2.1, gh_up M.2.2.2 c f)
def gh_upR (f : Nat → Option Nat) (k : Nat) (x : Option Nat) : Nat → Option Nat := fun j => if j = k then x else f j
/-- a field written: w = 1 where it is final (then only in a constructor) -/
def gh_put (ini : Bool) (u v : Nat) (w : Int32) (pc : Nat) (st : List Value) (W : gh_W) : Option gh_N := match st with
  | x :: .ref c :: r => match W.1.1[c]? with
    | some (.inr ci) => bif Nat.beq ci u && (decide (w = 0) || ini) then (match (gh_ft u)[v]?, x with
      | some 0, .int a => gh_k (pc + 3) r (gh_mI W.1 c (upd (W.1.2.1 c) v a), W.2)
      | some 1, .long a => gh_k (pc + 3) r (gh_mL W.1 c (vp_updL (W.1.2.2.1 c) v a), W.2)
      | some 2, .ref a => bif !Nat.blt a W.1.1.length then none else gh_k (pc + 3) r (gh_mR W.1 c (gh_upR (W.1.2.2.2 c) v (some a)), W.2)
      | some 3, .int a => bif gh_isB a then gh_k (pc + 3) r (gh_mI W.1 c (upd (W.1.2.1 c) v a), W.2) else none
      | _, _ => none) else none
    | _ => none
  | _ => none
def gh_iald (sc : Option (Nat × (Nat → Int32))) (pc : Nat) (st : List Value) (W : gh_W) : Option gh_N := match st with
  | .int i :: .ref c :: r => match W.1.1[c]? with
    | some (.inl (0, n)) => bif gh_in i n then gh_k (pc + 1) (.int (W.1.2.1 c i.toNatClampNeg) :: r) W else none
    | some _ => none
    | none => match sc with
      | some (L, xs) => bif Nat.beq c gh_SC && gh_in i L then gh_k (pc + 1) (.int (xs i.toNatClampNeg) :: r) W else none
      | none => none
  | _ => none
def gh_lald (pc : Nat) (st : List Value) (W : gh_W) : Option gh_N := match st with
  | .int i :: .ref c :: r => match W.1.1[c]? with
    | some (.inl (1, n)) => bif gh_in i n then gh_k (pc + 1) (.long (W.1.2.2.1 c i.toNatClampNeg) :: r) W else none
    | _ => none
  | _ => none
def gh_bald (pc : Nat) (st : List Value) (W : gh_W) : Option gh_N := match st with
  | .int i :: .ref c :: r => match W.1.1[c]? with
    | some (.inl (2, n)) => bif gh_in i n then gh_k (pc + 1) (.int (W.1.2.1 c i.toNatClampNeg) :: r) W else none
    | some (.inl (3, n)) => bif gh_in i n then gh_k (pc + 1) (.int (W.1.2.1 c i.toNatClampNeg) :: r) W else none
    | _ => none
  | _ => none
def gh_iast (pc : Nat) (st : List Value) (W : gh_W) : Option gh_N := match st with
  | .int x :: .int i :: .ref c :: r => match W.1.1[c]? with
    | some (.inl (0, n)) => bif gh_in i n then gh_k (pc + 1) r (gh_mI W.1 c (upd (W.1.2.1 c) i.toNatClampNeg x), W.2) else none
    | _ => none
  | _ => none
def gh_last (pc : Nat) (st : List Value) (W : gh_W) : Option gh_N := match st with
  | .long x :: .int i :: .ref c :: r => match W.1.1[c]? with
    | some (.inl (1, n)) => bif gh_in i n then gh_k (pc + 1) r (gh_mL W.1 c (vp_updL (W.1.2.2.1 c) i.toNatClampNeg x), W.2) else none
    | _ => none
  | _ => none
def gh_bast (pc : Nat) (st : List Value) (W : gh_W) : Option gh_N := match st with
  | .int x :: .int i :: .ref c :: r => match W.1.1[c]? with
    | some (.inl (2, n)) => bif gh_in i n then gh_k (pc + 1) r (gh_mI W.1 c (upd (W.1.2.1 c) i.toNatClampNeg (vp_nar .byte x)), W.2) else none
    | some (.inl (3, n)) => bif gh_in i n then gh_k (pc + 1) r (gh_mI W.1 c (upd (W.1.2.1 c) i.toNatClampNeg (vp_nar .boolean x)), W.2) else none
    | _ => none
  | _ => none
def gh_alen (sc : Option (Nat × (Nat → Int32))) (pc : Nat) (st : List Value) (W : gh_W) : Option gh_N := match st with
  | .ref c :: r => match W.1.1[c]? with
    | some (.inl (t, n)) => bif Nat.ble t 3 then gh_k (pc + 1) (.int (Int32.ofNat n) :: r) W else none
    | some _ => none
    | none => match sc with
      | some (L, _) => bif Nat.beq c gh_SC then gh_k (pc + 1) (.int (Int32.ofNat L) :: r) W else none
      | none => none
  | _ => none
/-! String constants: "dock" is 0, "price" is 1 -/
def gh_sl : List Nat := [4, 5]
def gh_sb : List (List Int32) := [[100, 111, 99, 107], [112, 114, 105, 99, 101]]
def gh_sc (i : Nat) (k : Int32) : Int32 := ((((gh_sb.getD i []).getD k.toNatClampNeg 0) &&& 255).toUInt32 % 65536).toInt32
def gh_six (c : Nat) : Option Nat := bif Nat.beq c (gh_SC + 1) then some 0 else bif Nat.beq c (gh_SC + 2) then some 1 else none
/-- a new cell: its places hold 0 or nothing -/
def gh_mk (M : gh_M) (sh : gh_Sh) : gh_M := (M.1 ++ [sh], gh_up M.2.1 M.1.length (fun _ => 0), gh_up M.2.2.1 M.1.length (fun _ => 0), gh_up M.2.2.2 M.1.length (fun _ => none))
def gh_new (bc bs u pc : Nat) (st : List Value) (W : gh_W) : Option gh_N :=
  bif Nat.ble (W.2.1 + 1) bc && Nat.ble (W.2.2 + (gh_ft u).length) bs && Nat.blt u 11 then gh_k (pc + 3) (.ref W.1.1.length :: st) (gh_mk W.1 (.inr u), W.2.1 + 1, W.2.2 + (gh_ft u).length) else none
def gh_newa (bc bs u pc : Nat) (st : List Value) (W : gh_W) : Option gh_N := match st with
  | .int n :: r => bif !decide (n < 0) && Nat.ble n.toNatClampNeg 1000 && Nat.ble (W.2.1 + 1) bc && Nat.ble (W.2.2 + n.toNatClampNeg) bs && Nat.ble u 3 then gh_k (pc + 2) (.ref W.1.1.length :: r) (gh_mk W.1 (.inl (u, n.toNatClampNeg)), W.2.1 + 1, W.2.2 + n.toNatClampNeg) else none
  | _ => none
/-! calls -/
abbrev gh_O : Type := Nat → List Value → gh_M → Option (Option Value × gh_M)
def gh_rm (r : List Value) : Bool := Nat.ble (r.map fun v => v.category).sum 8
def gh_cal (O : gh_O) (bc bs u pc : Nat) (As r : List Value) (W : gh_W) : Option gh_N :=
  bif gh_rm r && Nat.ble (W.2.1 + (gh_bud u).1) bc && Nat.ble (W.2.2 + (gh_bud u).2) bs then (match O u As W.1 with
    | some (none, M') => gh_k (pc + 3) r (M', W.2.1 + (gh_bud u).1, W.2.2 + (gh_bud u).2)
    | some (some x, M') => gh_k (pc + 3) (x :: r) (M', W.2.1 + (gh_bud u).1, W.2.2 + (gh_bud u).2)
    | none => none) else none
def gh_ivs (O : gh_O) (bc bs u v pc : Nat) (st : List Value) (W : gh_W) : Option gh_N :=
  bif Nat.ble v st.length then gh_cal O bc bs u pc (st.take v).reverse (st.drop v) W else none
def gh_sln (pc : Nat) (st : List Value) (W : gh_W) : Option gh_N := match st with
  | .ref c :: r => (match gh_six c with
    | some i => bif gh_rm r then gh_k (pc + 3) (.int (nI (gh_sl.getD i 0)) :: r) W else none
    | none => none)
  | _ => none
def gh_sch (pc : Nat) (st : List Value) (W : gh_W) : Option gh_N := match st with
  | .int k :: .ref c :: r => (match gh_six c with
    | some i => bif gh_rm r && gh_in k (gh_sl.getD i 0) then gh_k (pc + 3) (.int (gh_sc i k) :: r) W else none
    | none => none)
  | _ => none
def gh_ivv (O : gh_O) (bc bs u v pc : Nat) (st : List Value) (W : gh_W) : Option gh_N :=
  bif Nat.ble v st.length then (match st.drop v with
    | .ref b :: r => (match W.1.1[b]? with
      | some (.inr ci) => bif Nat.beq ci (gh_oc u) then gh_cal O bc bs u pc (.ref b :: (st.take v).reverse) r W else none
      | _ => none)
    | _ => none) else none
def gh_mmx (pc : Nat) (st : List Value) (W : gh_W) : Option gh_N := match st with
  | .int y :: .int x :: r => bif gh_rm r then gh_k (pc + 3) (.int (if x < y then y else x) :: r) W else none
  | _ => none
def gh_mmn (pc : Nat) (st : List Value) (W : gh_W) : Option gh_N := match st with
  | .int y :: .int x :: r => bif gh_rm r then gh_k (pc + 3) (.int (if y < x then y else x) :: r) W else none
  | _ => none
def gh_mml (pc : Nat) (st : List Value) (W : gh_W) : Option gh_N := match st with
  | .long y :: .long x :: r => bif gh_rm r then gh_k (pc + 3) (.long (if y < x then x else y) :: r) W else none
  | _ => none
def gh_acp (pc : Nat) (st : List Value) (W : gh_W) : Option gh_N := match st with
  | .int n :: .int dp :: .ref a :: .int sp :: .ref b :: r => (match W.1.1[a]?, W.1.1[b]? with
    | some (.inl (0, n1)), some (.inl (0, n0)) => bif gh_rm r && !decide (sp < 0) && !decide (dp < 0) && !decide (n < 0) && Nat.ble (sp.toNatClampNeg + n.toNatClampNeg) n0 && Nat.ble (dp.toNatClampNeg + n.toNatClampNeg) n1 then
        gh_k (pc + 3) r (gh_mI W.1 a (va_cpy (W.1.2.1 b) (W.1.2.1 a) sp.toNatClampNeg dp.toNatClampNeg n.toNatClampNeg), W.2) else none
    | _, _ => none)
  | _ => none
def gh_oi (pc : Nat) (st : List Value) (W : gh_W) : Option gh_N := match st with
  | .ref _ :: r => bif gh_rm r then gh_k (pc + 3) r W else none
  | _ => none
/-- the methods of the JDK: 1000 max, 1001 min, 1002 max of longs, 1003 arraycopy; 2000 Object() -/
def gh_sta (O : gh_O) (bc bs u v pc : Nat) (st : List Value) (W : gh_W) : Option gh_N := match u with
  | 1000 => gh_mmx pc st W
  | 1001 => gh_mmn pc st W
  | 1002 => gh_mml pc st W
  | 1003 => gh_acp pc st W
  | _ => gh_ivs O bc bs u v pc st W
def gh_spe (O : gh_O) (bc bs u v pc : Nat) (st : List Value) (W : gh_W) : Option gh_N := match u with
  | 2000 => gh_oi pc st W
  | _ => bif Nat.ble (v + 1) st.length then (match st.drop v with
    | .ref b :: r => gh_cal O bc bs u pc (.ref b :: (st.take v).reverse) r W
    | _ => none) else none
/-- 1004 String.length, 1005 String.charAt -/
def gh_vir (O : gh_O) (bc bs u v pc : Nat) (st : List Value) (W : gh_W) : Option gh_N := match u with
  | 1004 => gh_sln pc st W
  | 1005 => gh_sch pc st W
  | _ => gh_ivv O bc bs u v pc st W
def gh_ire (zr : Bool) (st : List Value) (W : gh_W) : Option gh_N := match st with
  | [.int x] => bif !zr || gh_isB x then some (.inr (some (.int x), W)) else none
  | _ => none
def gh_lre (st : List Value) (W : gh_W) : Option gh_N := match st with
  | [.long x] => some (.inr (some (.long x), W))
  | _ => none
def gh_vre (st : List Value) (W : gh_W) : Option gh_N := match st with
  | [] => some (.inr (none, W))
  | _ => none
/-- bc, bs: cells and slots that may be made; sc: the script; zr: it returns a boolean; ini: it is a constructor -/
def gh_rest (O : gh_O) (bc bs : Nat) (sc : Option (Nat × (Nat → Int32))) (zr ini : Bool) (i : Instr) (u v : Nat) (w : Int32) (x : Int64) (pc : Nat) (st : List Value) (W : gh_W) : Option gh_N := match i with
  | .iconst _ => gh_k (pc + 1) (.int w :: st) W
  | .bipush _ => gh_k (pc + 2) (.int w :: st) W
  | .sipush _ => gh_k (pc + 3) (.int w :: st) W
  | .lconst _ => gh_k (pc + 1) (.long x :: st) W
  | .ldc _ => bif Nat.beq v 0 then gh_k (pc + 2) (.int w :: st) W else gh_k (pc + 2) (.ref (gh_SC + v) :: st) W
  | .ldc_w _ => gh_k (pc + 3) (.int w :: st) W
  | .ldc2_w _ => gh_k (pc + 3) (.long x :: st) W
  | .iadd => gh_ii (fun a b => a + b) pc st W
  | .isub => gh_ii (fun a b => a - b) pc st W
  | .imul => gh_ii (fun a b => a * b) pc st W
  | .iand => gh_ii (fun a b => a &&& b) pc st W
  | .ior => gh_ii (fun a b => a ||| b) pc st W
  | .ixor => gh_ii (fun a b => a ^^^ b) pc st W
  | .ishl => gh_ii (fun a b => a <<< (b &&& 31)) pc st W
  | .ishr => gh_ii (fun a b => a >>> (b &&& 31)) pc st W
  | .iushr => gh_ii (fun a b => (a.toUInt32 >>> (b.toUInt32 &&& Int32.toUInt32 31)).toInt32) pc st W
  | .idiv => gh_iid (fun a b => a / b) pc st W
  | .irem => gh_iid (fun a b => a - a / b * b) pc st W
  | .ineg => gh_i (fun a => -a) pc st W
  | .i2b => gh_i (fun a => a.toInt8.toInt32) pc st W
  | .ladd => gh_jj (fun a b => a + b) pc st W
  | .lsub => gh_jj (fun a b => a - b) pc st W
  | .lmul => gh_jj (fun a b => a * b) pc st W
  | .ldiv => gh_jjd pc st W
  | .lcmp => gh_lcmp pc st W
  | .i2l => gh_i2l pc st W
  | .l2i => gh_l2i pc st W
  | .dup => gh_dup pc st W
  | .dup2 => gh_dup2 pc st W
  | .pop => gh_pop pc st W
  | .ifCond c _ => gh_if c u pc st W
  | .if_icmp c _ => gh_icmp c u pc st W
  | .goto _ => gh_k u st W
  | .tableswitch d lo hi offs => gh_tab d lo hi offs pc st W
  | .lookupswitch d ps => gh_luk d ps pc st W
  | .getfield _ => gh_get u v pc st W
  | .putfield _ => gh_put ini u v w pc st W
  | .iaload => gh_iald sc pc st W
  | .laload => gh_lald pc st W
  | .baload => gh_bald pc st W
  | .iastore => gh_iast pc st W
  | .lastore => gh_last pc st W
  | .bastore => gh_bast pc st W
  | .arraylength => gh_alen sc pc st W
  | .invokestatic _ => gh_sta O bc bs u v pc st W
  | .invokevirtual _ => gh_vir O bc bs u v pc st W
  | .ireturn => gh_ire zr st W
  | .lreturn => gh_lre st W
  | .return_ => gh_vre st W
  | _ => none
def gh_go (pc : Nat) (lv : gh_L) (st : List Value) (W : gh_W) : Option (gh_S ⊕ gh_R) := some (.inl (pc, lv, st, W))
def gh_il (o : Option Value) (pc : Nat) (lv : gh_L) (st : List Value) (W : gh_W) : Option (gh_S ⊕ gh_R) := match o with
  | some (.int x) => gh_go pc lv (.int x :: st) W
  | _ => none
def gh_jl (o : Option Value) (pc : Nat) (lv : gh_L) (st : List Value) (W : gh_W) : Option (gh_S ⊕ gh_R) := match o with
  | some (.long x) => gh_go pc lv (.long x :: st) W
  | _ => none
def gh_al (o : Option Value) (pc : Nat) (lv : gh_L) (st : List Value) (W : gh_W) : Option (gh_S ⊕ gh_R) := match o with
  | some (.ref x) => gh_go pc lv (.ref x :: st) W
  | _ => none
def gh_is (j : Nat) (pc : Nat) (lv : gh_L) (st : List Value) (W : gh_W) : Option (gh_S ⊕ gh_R) := match st with
  | .int x :: r => gh_go pc (gh_s1 lv j (.int x)) r W
  | _ => none
def gh_js (j : Nat) (pc : Nat) (lv : gh_L) (st : List Value) (W : gh_W) : Option (gh_S ⊕ gh_R) := match st with
  | .long x :: r => gh_go pc (gh_s2 lv j (.long x)) r W
  | _ => none
def gh_as (j : Nat) (pc : Nat) (lv : gh_L) (st : List Value) (W : gh_W) : Option (gh_S ⊕ gh_R) := match st with
  | .ref x :: r => gh_go pc (gh_s1 lv j (.ref x)) r W
  | _ => none
def gh_inc (j : Nat) (w : Int32) (pc : Nat) (lv : gh_L) (st : List Value) (W : gh_W) : Option (gh_S ⊕ gh_R) := match gh_lk lv j with
  | some (.int a) => gh_go (pc + 3) (gh_s1 lv j (.int (a + w))) st W
  | _ => none
def gh_lift (lv : gh_L) (o : Option gh_N) : Option (gh_S ⊕ gh_R) := match o with
  | some (.inl (pc, st, W)) => gh_go pc lv st W
  | some (.inr r) => some (.inr r)
  | none => none
/-- a reference to a cell that stands, or to the script or a constant -/
def gh_vv (n : Nat) (x : Value) : Bool := match x with
  | .ref c => Nat.blt c n || Nat.ble gh_SC c
  | _ => true
/-- behind what makes cells, only what refers to standing cells is known of the locals -/
def gh_lifv (n : Nat) (lv : gh_L) (st : List Value) (o : Option gh_N) : Option (gh_S ⊕ gh_R) :=
  bif st.all (gh_vv n) && Nat.blt n gh_SC then gh_lift (lv.filter (fun q => gh_vv n q.2)) o else none
def gh_stp (O : gh_O) (bc bs : Nat) (sc : Option (Nat × (Nat → Int32))) (zr ini : Bool) (i : Instr) (u v : Nat) (w : Int32) (x : Int64) (pc : Nat) (lv : gh_L) (st : List Value) (W : gh_W) : Option (gh_S ⊕ gh_R) := match i with
  | .iload j => gh_il (gh_lk lv j) (pc + 2) lv st W
  | .iload_n j => gh_il (gh_lk lv j.val) (pc + 1) lv st W
  | .lload j => gh_jl (gh_lk lv j) (pc + 2) lv st W
  | .lload_n j => gh_jl (gh_lk lv j.val) (pc + 1) lv st W
  | .aload_n j => gh_al (gh_lk lv j.val) (pc + 1) lv st W
  | .istore j => gh_is j (pc + 2) lv st W
  | .istore_n j => gh_is j.val (pc + 1) lv st W
  | .lstore j => gh_js j (pc + 2) lv st W
  | .lstore_n j => gh_js j.val (pc + 1) lv st W
  | .astore_n j => gh_as j.val (pc + 1) lv st W
  | .iinc j _ => gh_inc j w pc lv st W
  | .new _ => gh_lifv W.1.1.length lv st (gh_new bc bs u pc st W)
  | .newarray _ => gh_lifv W.1.1.length lv st (gh_newa bc bs u pc st W)
  | .invokespecial _ => gh_lifv W.1.1.length lv st (gh_spe O bc bs u v pc st W)
  | i => gh_lift lv (gh_rest O bc bs sc zr ini i u v w x pc st W)
def gh_step (O : gh_O) (f : Nat → Option gh_E) (bc bs : Nat) (sc : Option (Nat × (Nat → Int32))) (zr ini : Bool) (σ : gh_S) : Option (gh_S ⊕ gh_R) := match f σ.1 with
  | some (i, _, u, v, w, x) => gh_stp O bc bs sc zr ini i u v w x σ.1 σ.2.1 σ.2.2.1 σ.2.2.2
  | none => none
def gh_run (O : gh_O) (f : Nat → Option gh_E) (bc bs : Nat) (sc : Option (Nat × (Nat → Int32))) (zr ini : Bool) : Nat → gh_S → Option gh_R
  | 0, _ => none
  | n + 1, σ => match gh_step O f bc bs sc zr ini σ with
    | some (.inl τ) => gh_run O f bc bs sc zr ini n τ
    | some (.inr r) => some r
    | none => none

/-! ===== WHAT IS CHECKED OF AN INSTRUCTION AHEAD, and what a step tells ===== -/
def gh_tys (ca : Nat → ClassId) : List (ClassId × FieldType) := [(ca 0, .int), (ca 1, .long), (ca 2, .byte), (ca 3, .boolean)]
theorem gh_tys_get {ca : Nat → ClassId} : ∀ t, t ≤ 3 → (gh_tys ca)[t]? = some (ca t, gh_ty t) := by
  intro t h
  match t, h with
  | 0, _ => rfl
  | 1, _ => rfl
  | 2, _ => rfl
  | 3, _ => rfl
/-- o: the class that owns the code; nL: its locals; rt: what it returns -/
def gh_ck (o nL : Nat) (rt : Option FieldType) (pc : Nat) (i : Instr) (len u v : Nat) (w : Int32) (x : Int64) : Bool := match i with
  | .iconst n => Nat.beq len 1 && decide (Int32.ofInt n = w)
  | .bipush n => Nat.beq len 2 && decide ((Int8.ofInt n).toInt32 = w)
  | .sipush n => Nat.beq len 3 && decide ((Int16.ofInt n).toInt32 = w)
  | .lconst n => Nat.beq len 1 && decide (Int64.ofNat (n : Nat) = x)
  | .ldc k => Nat.beq len 2 && (bif Nat.beq v 0 then gh_kit.contains (o, k, w) else Nat.beq o 6 && ((Nat.beq v 1 && Nat.beq k 102) || (Nat.beq v 2 && Nat.beq k 112)))
  | .ldc_w k => Nat.beq len 3 && gh_kit.contains (o, k, w)
  | .ldc2_w k => Nat.beq len 3 && gh_kjt.contains (o, k, x)
  | .iload _ => Nat.beq len 2
  | .lload _ => Nat.beq len 2
  | .istore j => Nat.beq len 2 && Nat.blt j nL
  | .istore_n j => Nat.beq len 1 && Nat.blt j.val nL
  | .astore_n j => Nat.beq len 1 && Nat.blt j.val nL
  | .lstore j => Nat.beq len 2 && Nat.blt (j + 1) nL
  | .lstore_n j => Nat.beq len 1 && Nat.blt (j.val + 1) nL
  | .iinc j n => Nat.beq len 3 && decide (Int32.ofInt n = w) && Nat.blt j nL
  | .ifCond _ off => Nat.beq len 3 && decide ((pc : Int) + off = (u : Int))
  | .if_icmp _ off => Nat.beq len 3 && decide ((pc : Int) + off = (u : Int))
  | .goto off => Nat.beq len 3 && decide ((pc : Int) + off = (u : Int))
  | .tableswitch .. => true
  | .lookupswitch .. => true
  | .getfield k => Nat.beq len 3 && gh_flt.contains (o, k, u, v) && Nat.blt u 11 && Nat.blt v (gh_ft u).length
  | .putfield k => Nat.beq len 3 && gh_flt.contains (o, k, u, v) && Nat.blt u 11 && Nat.blt v (gh_ft u).length && (bif (gh_Tn u v).2.2.2 then decide (w = 1) && decide ((gh_Tn u v).1 = gh_Rn o) else true)
  | .new k => Nat.beq len 3 && gh_clt.contains (o, k, u)
  | .newarray t => Nat.beq len 2 && decide (newarray.typeOf t = gh_ty u)
  | .invokestatic k => Nat.beq len 3 && (bif Nat.blt u gh_NZ then Nat.beq (gh_kn u) 0 && Nat.beq v (gh_pn u) && Nat.beq (gh_bud u).1 0 && Nat.beq (gh_bud u).2 0 && (gh_mlt.contains (o, k, u) || gh_mnt.contains (o, k, u, 9)) else Nat.ble 1000 u && Nat.ble u 1003 && gh_xlt.contains (o, k, u))
  | .invokevirtual k => Nat.beq len 3 && (bif Nat.blt u gh_NZ then Nat.beq (gh_kn u) 1 && Nat.beq v (gh_pn u) && Nat.beq (gh_bud u).1 0 && Nat.beq (gh_bud u).2 0 && gh_mlt.contains (o, k, u) else Nat.beq o 6 && ((Nat.beq u 1004 && Nat.beq k 93) || (Nat.beq u 1005 && Nat.beq k 98)))
  | .invokespecial k => Nat.beq len 3 && (bif Nat.beq u 2000 then gh_xlt.contains (o, k, u) else Nat.blt u gh_NZ && Nat.beq (gh_kn u) 2 && Nat.beq v (gh_pn u) && (gh_mlt.contains (o, k, u) || gh_mnt.contains (o, k, u, 9)))
  | .ireturn => Nat.beq len 1 && (decide (rt = some .int) || decide (rt = some .boolean))
  | .lreturn => Nat.beq len 1 && decide (rt = some .long)
  | .return_ => Nat.beq len 1 && decide (rt = none)
  | _ => Nat.beq len 1
theorem gh_k_inv {pc : Nat} {st : List Value} {W : gh_W} {pc' : Nat} {st' : List Value} {W' : gh_W} (h : gh_k pc st W = some (.inl (pc', st', W'))) : pc' = pc ∧ st' = st ∧ W' = W := by
  unfold gh_k at h
  cases h
  exact ⟨rfl, rfl, rfl⟩
theorem gh_k_nr {pc : Nat} {st : List Value} {W : gh_W} {r : gh_R} (h : gh_k pc st W = some (.inr r)) : False := by
  unfold gh_k at h
  cases h
theorem gh_ii_inv {f : Int32 → Int32 → Int32} {pc : Nat} {st : List Value} {W : gh_W} {pc' : Nat} {st' : List Value} {W' : gh_W} (h : gh_ii f pc st W = some (.inl (pc', st', W'))) : ∃ x y r, st = .int y :: .int x :: r ∧ pc' = pc + 1 ∧ st' = .int (f x y) :: r ∧ W' = W := by
  unfold gh_ii at h
  split at h
  · obtain ⟨rfl, rfl, rfl⟩ := gh_k_inv h
    exact ⟨_, _, _, rfl, rfl, rfl, rfl⟩
  · cases h
theorem gh_jj_inv {f : Int64 → Int64 → Int64} {pc : Nat} {st : List Value} {W : gh_W} {pc' : Nat} {st' : List Value} {W' : gh_W} (h : gh_jj f pc st W = some (.inl (pc', st', W'))) : ∃ x y r, st = .long y :: .long x :: r ∧ pc' = pc + 1 ∧ st' = .long (f x y) :: r ∧ W' = W := by
  unfold gh_jj at h
  split at h
  · obtain ⟨rfl, rfl, rfl⟩ := gh_k_inv h
    exact ⟨_, _, _, rfl, rfl, rfl, rfl⟩
  · cases h
theorem gh_lcmp_inv  {pc : Nat} {st : List Value} {W : gh_W} {pc' : Nat} {st' : List Value} {W' : gh_W} (h : gh_lcmp pc st W = some (.inl (pc', st', W'))) : ∃ x y r, st = .long y :: .long x :: r ∧ pc' = pc + 1 ∧ st' = .int (lg_cmp x y) :: r ∧ W' = W := by
  unfold gh_lcmp at h
  split at h
  · obtain ⟨rfl, rfl, rfl⟩ := gh_k_inv h
    exact ⟨_, _, _, rfl, rfl, rfl, rfl⟩
  · cases h
theorem gh_iid_inv {f : Int32 → Int32 → Int32} {pc : Nat} {st : List Value} {W : gh_W} {pc' : Nat} {st' : List Value} {W' : gh_W} (h : gh_iid f pc st W = some (.inl (pc', st', W'))) : ∃ x y r, st = .int y :: .int x :: r ∧ ¬ y = 0 ∧ pc' = pc + 1 ∧ st' = .int (f x y) :: r ∧ W' = W := by
  unfold gh_iid at h
  split at h
  · split at h
    · cases h
    · rename_i hne
      obtain ⟨rfl, rfl, rfl⟩ := gh_k_inv h
      exact ⟨_, _, _, rfl, hne, rfl, rfl, rfl⟩
  · cases h
theorem gh_jjd_inv  {pc : Nat} {st : List Value} {W : gh_W} {pc' : Nat} {st' : List Value} {W' : gh_W} (h : gh_jjd pc st W = some (.inl (pc', st', W'))) : ∃ x y r, st = .long y :: .long x :: r ∧ ¬ y = 0 ∧ pc' = pc + 1 ∧ st' = .long (x / y) :: r ∧ W' = W := by
  unfold gh_jjd at h
  split at h
  · split at h
    · cases h
    · rename_i hne
      obtain ⟨rfl, rfl, rfl⟩ := gh_k_inv h
      exact ⟨_, _, _, rfl, hne, rfl, rfl, rfl⟩
  · cases h
theorem gh_i_inv {f : Int32 → Int32} {pc : Nat} {st : List Value} {W : gh_W} {pc' : Nat} {st' : List Value} {W' : gh_W} (h : gh_i f pc st W = some (.inl (pc', st', W'))) : ∃ x r, st = .int x :: r ∧ pc' = pc + 1 ∧ st' = .int (f x) :: r ∧ W' = W := by
  unfold gh_i at h
  split at h
  · obtain ⟨rfl, rfl, rfl⟩ := gh_k_inv h
    exact ⟨_, _, rfl, rfl, rfl, rfl⟩
  · cases h
theorem gh_i2l_inv  {pc : Nat} {st : List Value} {W : gh_W} {pc' : Nat} {st' : List Value} {W' : gh_W} (h : gh_i2l pc st W = some (.inl (pc', st', W'))) : ∃ x r, st = .int x :: r ∧ pc' = pc + 1 ∧ st' = .long x.toInt64 :: r ∧ W' = W := by
  unfold gh_i2l at h
  split at h
  · obtain ⟨rfl, rfl, rfl⟩ := gh_k_inv h
    exact ⟨_, _, rfl, rfl, rfl, rfl⟩
  · cases h
theorem gh_l2i_inv  {pc : Nat} {st : List Value} {W : gh_W} {pc' : Nat} {st' : List Value} {W' : gh_W} (h : gh_l2i pc st W = some (.inl (pc', st', W'))) : ∃ x r, st = .long x :: r ∧ pc' = pc + 1 ∧ st' = .int x.toInt32 :: r ∧ W' = W := by
  unfold gh_l2i at h
  split at h
  · obtain ⟨rfl, rfl, rfl⟩ := gh_k_inv h
    exact ⟨_, _, rfl, rfl, rfl, rfl⟩
  · cases h
theorem gh_pop_inv  {pc : Nat} {st : List Value} {W : gh_W} {pc' : Nat} {st' : List Value} {W' : gh_W} (h : gh_pop pc st W = some (.inl (pc', st', W'))) : ∃ x r, st = .int x :: r ∧ pc' = pc + 1 ∧ st' = r ∧ W' = W := by
  unfold gh_pop at h
  split at h
  · obtain ⟨rfl, rfl, rfl⟩ := gh_k_inv h
    exact ⟨_, _, rfl, rfl, rfl, rfl⟩
  · cases h
theorem gh_dup_inv {pc : Nat} {st : List Value} {W : gh_W} {pc' : Nat} {st' : List Value} {W' : gh_W} (h : gh_dup pc st W = some (.inl (pc', st', W'))) : ∃ x r, x.category = 1 ∧ st = x :: r ∧ pc' = pc + 1 ∧ st' = x :: x :: r ∧ W' = W := by
  unfold gh_dup at h
  split at h
  · obtain ⟨rfl, rfl, rfl⟩ := gh_k_inv h
    exact ⟨_, _, rfl, rfl, rfl, rfl, rfl⟩
  · obtain ⟨rfl, rfl, rfl⟩ := gh_k_inv h
    exact ⟨_, _, rfl, rfl, rfl, rfl, rfl⟩
  · cases h
theorem gh_dup2_inv {pc : Nat} {st : List Value} {W : gh_W} {pc' : Nat} {st' : List Value} {W' : gh_W} (h : gh_dup2 pc st W = some (.inl (pc', st', W'))) : (∃ x r, st = .long x :: r ∧ pc' = pc + 1 ∧ st' = .long x :: .long x :: r ∧ W' = W) ∨ (∃ x y r, st = .int x :: .ref y :: r ∧ pc' = pc + 1 ∧ st' = .int x :: .ref y :: .int x :: .ref y :: r ∧ W' = W) := by
  unfold gh_dup2 at h
  split at h
  · obtain ⟨rfl, rfl, rfl⟩ := gh_k_inv h
    exact Or.inl ⟨_, _, rfl, rfl, rfl, rfl⟩
  · obtain ⟨rfl, rfl, rfl⟩ := gh_k_inv h
    exact Or.inr ⟨_, _, _, rfl, rfl, rfl, rfl⟩
  · cases h
theorem gh_if_inv {c : Jvm.ClassFile.Cond} {u pc : Nat} {st : List Value} {W : gh_W} {pc' : Nat} {st' : List Value} {W' : gh_W} (h : gh_if c u pc st W = some (.inl (pc', st', W'))) : ∃ x r, st = .int x :: r ∧ pc' = (bif gh_cmp c x 0 then u else pc + 3) ∧ st' = r ∧ W' = W := by
  unfold gh_if at h
  split at h
  · rename_i x r
    refine ⟨x, r, rfl, ?_⟩
    cases hc : gh_cmp c x 0 <;> rw [hc] at h <;> exact gh_k_inv h
  · cases h
theorem gh_icmp_inv {c : Jvm.ClassFile.Cond} {u pc : Nat} {st : List Value} {W : gh_W} {pc' : Nat} {st' : List Value} {W' : gh_W} (h : gh_icmp c u pc st W = some (.inl (pc', st', W'))) : ∃ x y r, st = .int y :: .int x :: r ∧ pc' = (bif gh_cmp c x y then u else pc + 3) ∧ st' = r ∧ W' = W := by
  unfold gh_icmp at h
  split at h
  · rename_i y x r
    refine ⟨x, y, r, rfl, ?_⟩
    cases hc : gh_cmp c x y <;> rw [hc] at h <;> exact gh_k_inv h
  · cases h
theorem gh_to_inv {pc : Nat} {off : Int} {st : List Value} {W : gh_W} {pc' : Nat} {st' : List Value} {W' : gh_W} (h : gh_to pc off st W = some (.inl (pc', st', W'))) : (pc : Int) + off = (pc' : Int) ∧ st' = st ∧ W' = W := by
  unfold gh_to at h
  split at h
  · rename_i h0
    obtain ⟨rfl, rfl, rfl⟩ := gh_k_inv h
    exact ⟨(Int.toNat_of_nonneg h0).symm, rfl, rfl⟩
  · cases h
theorem gh_tab_inv {d lo hi : Int} {offs : Array Int} {pc : Nat} {st : List Value} {W : gh_W} {pc' : Nat} {st' : List Value} {W' : gh_W} (h : gh_tab d lo hi offs pc st W = some (.inl (pc', st', W'))) : ∃ x r, st = .int x :: r ∧ st' = r ∧ W' = W ∧ (((x.toInt < lo ∨ hi < x.toInt) ∧ (pc : Int) + d = (pc' : Int)) ∨ (¬ x.toInt < lo ∧ ¬ hi < x.toInt ∧ ∃ off, offs[(x.toInt - lo).toNat]? = some off ∧ (pc : Int) + off = (pc' : Int))) := by
  unfold gh_tab at h
  split at h
  · rename_i x r
    refine ⟨x, r, rfl, ?_⟩
    split at h
    · rename_i hx
      obtain ⟨e, rfl, rfl⟩ := gh_to_inv h
      exact ⟨rfl, rfl, Or.inl ⟨hx, e⟩⟩
    · rename_i hx
      split at h
      · rename_i off ho
        obtain ⟨e, rfl, rfl⟩ := gh_to_inv h
        exact ⟨rfl, rfl, Or.inr ⟨fun z => hx (Or.inl z), fun z => hx (Or.inr z), off, ho, e⟩⟩
      · cases h
  · cases h
theorem gh_luk_inv {d : Int} {ps : Array (Int × Int)} {pc : Nat} {st : List Value} {W : gh_W} {pc' : Nat} {st' : List Value} {W' : gh_W} (h : gh_luk d ps pc st W = some (.inl (pc', st', W'))) : ∃ x r, st = .int x :: r ∧ st' = r ∧ W' = W ∧ (ps.toList.zip (ps.toList.drop 1)).all (fun (a, next) => a.1 < next.1) = true ∧ (pc : Int) + Op.lookupswitch.offset ps.toList d x.toInt = (pc' : Int) := by
  unfold gh_luk at h
  split at h
  · rename_i x r
    refine ⟨x, r, rfl, ?_⟩
    split at h
    · rename_i hx
      obtain ⟨e, rfl, rfl⟩ := gh_to_inv h
      exact ⟨rfl, rfl, hx, e⟩
    · cases h
  · cases h
theorem gh_bif {b : Bool} {α : Type} {x : Option α} {y : α} (h : (bif b then x else none) = some y) : b = true ∧ x = some y := by
  cases b
  · cases h
  · exact ⟨rfl, h⟩
theorem gh_get_inv {u v pc : Nat} {st : List Value} {W : gh_W} {pc' : Nat} {st' : List Value} {W' : gh_W} (h : gh_get u v pc st W = some (.inl (pc', st', W'))) : ∃ c r kd y, st = .ref c :: r ∧ W.1.1[c]? = some (.inr u) ∧ (gh_ft u)[v]? = some kd ∧ (∀ ad : Nat → Nat, gh_fv ad W.1 c v kd = gh_tv ad y) ∧ pc' = pc + 3 ∧ st' = y :: r ∧ W' = W := by
  unfold gh_get at h
  split at h
  · rename_i c r
    split at h
    · rename_i ci hci
      obtain ⟨hb, h⟩ := gh_bif h
      have e := Nat.eq_of_beq_eq_true hb
      subst e
      split at h
      · rename_i hk
        obtain ⟨rfl, rfl, rfl⟩ := gh_k_inv h
        exact ⟨c, r, _, _, rfl, hci, hk, fun _ => rfl, rfl, rfl, rfl⟩
      · rename_i hk
        split at h
        · rename_i q hq
          obtain ⟨rfl, rfl, rfl⟩ := gh_k_inv h
          exact ⟨c, r, _, .ref q, rfl, hci, hk, fun ad => by simp [gh_fv, hq, va_rf, gh_tv], rfl, rfl, rfl⟩
        · cases h
      · rename_i kd h1 h2 hk
        obtain ⟨rfl, rfl, rfl⟩ := gh_k_inv h
        refine ⟨c, r, kd, .int (W'.1.2.1 c v), rfl, hci, hk, fun ad => ?_, rfl, rfl, rfl⟩
        unfold gh_fv
        split
        · exact absurd rfl h1
        · exact absurd rfl h2
        · rfl
      · cases h
    · cases h
  · cases h
theorem gh_put_inv {ini : Bool} {u v : Nat} {w : Int32} {pc : Nat} {st : List Value} {W : gh_W} {pc' : Nat} {st' : List Value} {W' : gh_W} (h : gh_put ini u v w pc st W = some (.inl (pc', st', W'))) : ∃ x c r, st = x :: .ref c :: r ∧ W.1.1[c]? = some (.inr u) ∧ (w = 0 ∨ ini = true) ∧ pc' = pc + 3 ∧ st' = r ∧
    ((∃ a, (gh_ft u)[v]? = some 0 ∧ x = .int a ∧ W' = (gh_mI W.1 c (upd (W.1.2.1 c) v a), W.2)) ∨ (∃ a, (gh_ft u)[v]? = some 1 ∧ x = .long a ∧ W' = (gh_mL W.1 c (vp_updL (W.1.2.2.1 c) v a), W.2)) ∨ (∃ a, (gh_ft u)[v]? = some 2 ∧ x = .ref a ∧ a < W.1.1.length ∧ W' = (gh_mR W.1 c (gh_upR (W.1.2.2.2 c) v (some a)), W.2)) ∨ (∃ a, (gh_ft u)[v]? = some 3 ∧ x = .int a ∧ gh_isB a = true ∧ W' = (gh_mI W.1 c (upd (W.1.2.1 c) v a), W.2))) := by
  unfold gh_put at h
  split at h
  · rename_i x c r
    split at h
    · rename_i ci hci
      obtain ⟨hb, h2⟩ := gh_bif h
      clear h
      have h := h2
      clear h2
      rw [Bool.and_eq_true, Bool.or_eq_true, decide_eq_true_eq] at hb
      have e := Nat.eq_of_beq_eq_true hb.1
      subst e
      refine ⟨x, c, r, rfl, hci, hb.2, ?_⟩
      split at h
      · rename_i a hk
        obtain ⟨rfl, rfl, rfl⟩ := gh_k_inv h
        exact ⟨rfl, rfl, Or.inl ⟨a, hk, rfl, rfl⟩⟩
      · rename_i a hk
        obtain ⟨rfl, rfl, rfl⟩ := gh_k_inv h
        exact ⟨rfl, rfl, Or.inr (Or.inl ⟨a, hk, rfl, rfl⟩)⟩
      · rename_i a hk
        cases hl : Nat.blt a W.1.1.length with
        | false => rw [hl] at h; cases h
        | true =>
          rw [hl] at h
          obtain ⟨rfl, rfl, rfl⟩ := gh_k_inv h
          exact ⟨rfl, rfl, Or.inr (Or.inr (Or.inl ⟨a, hk, rfl, Nat.le_of_ble_eq_true hl, rfl⟩))⟩
      · rename_i a hk
        obtain ⟨hB, h⟩ := gh_bif h
        obtain ⟨rfl, rfl, rfl⟩ := gh_k_inv h
        exact ⟨rfl, rfl, Or.inr (Or.inr (Or.inr ⟨a, hk, rfl, hB, rfl⟩))⟩
      · cases h
    · cases h
  · cases h
theorem gh_iald_inv {sc : Option (Nat × (Nat → Int32))} {pc : Nat} {st : List Value} {W : gh_W} {pc' : Nat} {st' : List Value} {W' : gh_W} (h : gh_iald sc pc st W = some (.inl (pc', st', W'))) : ∃ i c r, st = .int i :: .ref c :: r ∧ pc' = pc + 1 ∧ W' = W ∧ ((∃ n, W.1.1[c]? = some (.inl (0, n)) ∧ vp_in i n ∧ st' = .int (W.1.2.1 c i.toNatClampNeg) :: r) ∨ (∃ L xs, sc = some (L, xs) ∧ c = gh_SC ∧ vp_in i L ∧ st' = .int (xs i.toNatClampNeg) :: r)) := by
  unfold gh_iald at h
  split at h
  · rename_i i c r
    refine ⟨i, c, r, rfl, ?_⟩
    split at h
    · rename_i n hn
      obtain ⟨hb, h⟩ := gh_bif h
      obtain ⟨rfl, rfl, rfl⟩ := gh_k_inv h
      exact ⟨rfl, rfl, Or.inl ⟨n, hn, gh_in_iff.mp hb, rfl⟩⟩
    · cases h
    · split at h
      · rename_i L xs
        obtain ⟨hb, h⟩ := gh_bif h
        rw [Bool.and_eq_true] at hb
        obtain ⟨rfl, rfl, rfl⟩ := gh_k_inv h
        exact ⟨rfl, rfl, Or.inr ⟨L, xs, rfl, Nat.eq_of_beq_eq_true hb.1, gh_in_iff.mp hb.2, rfl⟩⟩
      · cases h
  · cases h
theorem gh_lald_inv {pc : Nat} {st : List Value} {W : gh_W} {pc' : Nat} {st' : List Value} {W' : gh_W} (h : gh_lald pc st W = some (.inl (pc', st', W'))) : ∃ i c r n, st = .int i :: .ref c :: r ∧ pc' = pc + 1 ∧ W' = W ∧ W.1.1[c]? = some (.inl (1, n)) ∧ vp_in i n ∧ st' = .long (W.1.2.2.1 c i.toNatClampNeg) :: r := by
  unfold gh_lald at h
  split at h
  · rename_i i c r
    split at h
    · rename_i n hn
      obtain ⟨hb, h⟩ := gh_bif h
      obtain ⟨rfl, rfl, rfl⟩ := gh_k_inv h
      exact ⟨i, c, r, n, rfl, rfl, rfl, hn, gh_in_iff.mp hb, rfl⟩
    · cases h
  · cases h
theorem gh_bald_inv {pc : Nat} {st : List Value} {W : gh_W} {pc' : Nat} {st' : List Value} {W' : gh_W} (h : gh_bald pc st W = some (.inl (pc', st', W'))) : ∃ i c r n, st = .int i :: .ref c :: r ∧ pc' = pc + 1 ∧ W' = W ∧ (W.1.1[c]? = some (.inl (2, n)) ∨ W.1.1[c]? = some (.inl (3, n))) ∧ vp_in i n ∧ st' = .int (W.1.2.1 c i.toNatClampNeg) :: r := by
  unfold gh_bald at h
  split at h
  · rename_i i c r
    split at h
    · rename_i n hn
      obtain ⟨hb, h⟩ := gh_bif h
      obtain ⟨rfl, rfl, rfl⟩ := gh_k_inv h
      exact ⟨i, c, r, n, rfl, rfl, rfl, Or.inl hn, gh_in_iff.mp hb, rfl⟩
    · rename_i n hn
      obtain ⟨hb, h⟩ := gh_bif h
      obtain ⟨rfl, rfl, rfl⟩ := gh_k_inv h
      exact ⟨i, c, r, n, rfl, rfl, rfl, Or.inr hn, gh_in_iff.mp hb, rfl⟩
    · cases h
  · cases h
theorem gh_iast_inv {pc : Nat} {st : List Value} {W : gh_W} {pc' : Nat} {st' : List Value} {W' : gh_W} (h : gh_iast pc st W = some (.inl (pc', st', W'))) : ∃ x i c r n, st = .int x :: .int i :: .ref c :: r ∧ pc' = pc + 1 ∧ st' = r ∧ W.1.1[c]? = some (.inl (0, n)) ∧ vp_in i n ∧ W' = (gh_mI W.1 c (upd (W.1.2.1 c) i.toNatClampNeg x), W.2) := by
  unfold gh_iast at h
  split at h
  · rename_i x i c r
    split at h
    · rename_i n hn
      obtain ⟨hb, h⟩ := gh_bif h
      obtain ⟨rfl, rfl, rfl⟩ := gh_k_inv h
      exact ⟨x, i, c, _, n, rfl, rfl, rfl, hn, gh_in_iff.mp hb, rfl⟩
    · cases h
  · cases h
theorem gh_last_inv {pc : Nat} {st : List Value} {W : gh_W} {pc' : Nat} {st' : List Value} {W' : gh_W} (h : gh_last pc st W = some (.inl (pc', st', W'))) : ∃ x i c r n, st = .long x :: .int i :: .ref c :: r ∧ pc' = pc + 1 ∧ st' = r ∧ W.1.1[c]? = some (.inl (1, n)) ∧ vp_in i n ∧ W' = (gh_mL W.1 c (vp_updL (W.1.2.2.1 c) i.toNatClampNeg x), W.2) := by
  unfold gh_last at h
  split at h
  · rename_i x i c r
    split at h
    · rename_i n hn
      obtain ⟨hb, h⟩ := gh_bif h
      obtain ⟨rfl, rfl, rfl⟩ := gh_k_inv h
      exact ⟨x, i, c, _, n, rfl, rfl, rfl, hn, gh_in_iff.mp hb, rfl⟩
    · cases h
  · cases h
theorem gh_bast_inv {pc : Nat} {st : List Value} {W : gh_W} {pc' : Nat} {st' : List Value} {W' : gh_W} (h : gh_bast pc st W = some (.inl (pc', st', W'))) : ∃ x i c r n, st = .int x :: .int i :: .ref c :: r ∧ pc' = pc + 1 ∧ st' = r ∧ vp_in i n ∧ ((W.1.1[c]? = some (.inl (2, n)) ∧ W' = (gh_mI W.1 c (upd (W.1.2.1 c) i.toNatClampNeg (vp_nar .byte x)), W.2)) ∨ (W.1.1[c]? = some (.inl (3, n)) ∧ W' = (gh_mI W.1 c (upd (W.1.2.1 c) i.toNatClampNeg (vp_nar .boolean x)), W.2))) := by
  unfold gh_bast at h
  split at h
  · rename_i x i c r
    split at h
    · rename_i n hn
      obtain ⟨hb, h⟩ := gh_bif h
      obtain ⟨rfl, rfl, rfl⟩ := gh_k_inv h
      exact ⟨x, i, c, _, n, rfl, rfl, rfl, gh_in_iff.mp hb, Or.inl ⟨hn, rfl⟩⟩
    · rename_i n hn
      obtain ⟨hb, h⟩ := gh_bif h
      obtain ⟨rfl, rfl, rfl⟩ := gh_k_inv h
      exact ⟨x, i, c, _, n, rfl, rfl, rfl, gh_in_iff.mp hb, Or.inr ⟨hn, rfl⟩⟩
    · cases h
  · cases h
theorem gh_alen_inv {sc : Option (Nat × (Nat → Int32))} {pc : Nat} {st : List Value} {W : gh_W} {pc' : Nat} {st' : List Value} {W' : gh_W} (h : gh_alen sc pc st W = some (.inl (pc', st', W'))) : ∃ c r, st = .ref c :: r ∧ pc' = pc + 1 ∧ W' = W ∧ ((∃ t n, W.1.1[c]? = some (.inl (t, n)) ∧ t ≤ 3 ∧ st' = .int (Int32.ofNat n) :: r) ∨ (∃ L xs, sc = some (L, xs) ∧ c = gh_SC ∧ st' = .int (Int32.ofNat L) :: r)) := by
  unfold gh_alen at h
  split at h
  · rename_i c r
    refine ⟨c, r, rfl, ?_⟩
    split at h
    · rename_i t n hn
      obtain ⟨hb, h⟩ := gh_bif h
      obtain ⟨rfl, rfl, rfl⟩ := gh_k_inv h
      exact ⟨rfl, rfl, Or.inl ⟨t, n, hn, Nat.le_of_ble_eq_true hb, rfl⟩⟩
    · cases h
    · split at h
      · rename_i L xs
        obtain ⟨hb, h⟩ := gh_bif h
        obtain ⟨rfl, rfl, rfl⟩ := gh_k_inv h
        exact ⟨rfl, rfl, Or.inr ⟨L, xs, rfl, Nat.eq_of_beq_eq_true hb, rfl⟩⟩
      · cases h
  · cases h
theorem gh_new_inv {bc bs u pc : Nat} {st : List Value} {W : gh_W} {pc' : Nat} {st' : List Value} {W' : gh_W} (h : gh_new bc bs u pc st W = some (.inl (pc', st', W'))) : W.2.1 + 1 ≤ bc ∧ W.2.2 + (gh_ft u).length ≤ bs ∧ u < 11 ∧ pc' = pc + 3 ∧ st' = .ref W.1.1.length :: st ∧ W' = (gh_mk W.1 (.inr u), W.2.1 + 1, W.2.2 + (gh_ft u).length) := by
  unfold gh_new at h
  obtain ⟨hb, h⟩ := gh_bif h
  simp only [Bool.and_eq_true] at hb
  obtain ⟨rfl, rfl, rfl⟩ := gh_k_inv h
  exact ⟨Nat.le_of_ble_eq_true hb.1.1, Nat.le_of_ble_eq_true hb.1.2, Nat.le_of_ble_eq_true hb.2, rfl, rfl, rfl⟩
theorem gh_newa_inv {bc bs u pc : Nat} {st : List Value} {W : gh_W} {pc' : Nat} {st' : List Value} {W' : gh_W} (h : gh_newa bc bs u pc st W = some (.inl (pc', st', W'))) : ∃ n r, st = .int n :: r ∧ ¬ n < 0 ∧ n.toNatClampNeg ≤ 1000 ∧ W.2.1 + 1 ≤ bc ∧ W.2.2 + n.toNatClampNeg ≤ bs ∧ u ≤ 3 ∧ pc' = pc + 2 ∧ st' = .ref W.1.1.length :: r ∧ W' = (gh_mk W.1 (.inl (u, n.toNatClampNeg)), W.2.1 + 1, W.2.2 + n.toNatClampNeg) := by
  unfold gh_newa at h
  split at h
  · rename_i n r
    obtain ⟨hb, h⟩ := gh_bif h
    simp only [Bool.and_eq_true, Bool.not_eq_true', decide_eq_false_iff_not] at hb
    obtain ⟨rfl, rfl, rfl⟩ := gh_k_inv h
    exact ⟨n, r, rfl, hb.1.1.1.1, Nat.le_of_ble_eq_true hb.1.1.1.2, Nat.le_of_ble_eq_true hb.1.1.2, Nat.le_of_ble_eq_true hb.1.2, Nat.le_of_ble_eq_true hb.2, rfl, rfl, rfl⟩
  · cases h
theorem gh_cal_inv {O : gh_O} {bc bs u pc : Nat} {As r : List Value} {W : gh_W} {pc' : Nat} {st' : List Value} {W' : gh_W} (h : gh_cal O bc bs u pc As r W = some (.inl (pc', st', W'))) : gh_rm r = true ∧ W.2.1 + (gh_bud u).1 ≤ bc ∧ W.2.2 + (gh_bud u).2 ≤ bs ∧ pc' = pc + 3 ∧ ∃ y M', O u As W.1 = some (y, M') ∧ st' = y.toList ++ r ∧ W' = (M', W.2.1 + (gh_bud u).1, W.2.2 + (gh_bud u).2) := by
  unfold gh_cal at h
  obtain ⟨hb, h⟩ := gh_bif h
  simp only [Bool.and_eq_true] at hb
  refine ⟨hb.1.1, Nat.le_of_ble_eq_true hb.1.2, Nat.le_of_ble_eq_true hb.2, ?_⟩
  split at h
  · rename_i M' hO
    obtain ⟨rfl, rfl, rfl⟩ := gh_k_inv h
    exact ⟨rfl, none, M', hO, rfl, rfl⟩
  · rename_i x M' hO
    obtain ⟨rfl, rfl, rfl⟩ := gh_k_inv h
    exact ⟨rfl, some x, M', hO, rfl, rfl⟩
  · cases h
theorem gh_ivs_inv {O : gh_O} {bc bs u v pc : Nat} {st : List Value} {W : gh_W} {y : gh_N} (h : gh_ivs O bc bs u v pc st W = some y) : v ≤ st.length ∧ gh_cal O bc bs u pc (st.take v).reverse (st.drop v) W = some y := by
  unfold gh_ivs at h
  obtain ⟨hb, h⟩ := gh_bif h
  exact ⟨Nat.le_of_ble_eq_true hb, h⟩
theorem gh_ivv_inv {O : gh_O} {bc bs u v pc : Nat} {st : List Value} {W : gh_W} {y : gh_N} (h : gh_ivv O bc bs u v pc st W = some y) : v ≤ st.length ∧ ∃ b r, st.drop v = .ref b :: r ∧ W.1.1[b]? = some (.inr (gh_oc u)) ∧ gh_cal O bc bs u pc (.ref b :: (st.take v).reverse) r W = some y := by
  unfold gh_ivv at h
  obtain ⟨hb, h⟩ := gh_bif h
  refine ⟨Nat.le_of_ble_eq_true hb, ?_⟩
  split at h
  · rename_i b r hd
    split at h
    · rename_i ci hci
      obtain ⟨hb2, h2⟩ := gh_bif h
      have e := Nat.eq_of_beq_eq_true hb2
      rw [e] at hci
      exact ⟨b, r, hd, hci, h2⟩
    · cases h
  · cases h
theorem gh_spe_inv {O : gh_O} {bc bs u v pc : Nat} {st : List Value} {W : gh_W} {y : gh_N} (hu : u ≠ 2000) (h : gh_spe O bc bs u v pc st W = some y) : v + 1 ≤ st.length ∧ ∃ b r, st.drop v = .ref b :: r ∧ gh_cal O bc bs u pc (.ref b :: (st.take v).reverse) r W = some y := by
  unfold gh_spe at h
  split at h
  · exact absurd rfl hu
  · obtain ⟨hb, h⟩ := gh_bif h
    refine ⟨Nat.le_of_ble_eq_true hb, ?_⟩
    split at h
    · rename_i b r hd
      exact ⟨b, r, hd, h⟩
    · cases h
theorem gh_oi_inv {pc : Nat} {st : List Value} {W : gh_W} {pc' : Nat} {st' : List Value} {W' : gh_W} (h : gh_oi pc st W = some (.inl (pc', st', W'))) : ∃ c r, st = .ref c :: r ∧ gh_rm r = true ∧ pc' = pc + 3 ∧ st' = r ∧ W' = W := by
  unfold gh_oi at h
  split at h
  · rename_i c r
    obtain ⟨hb, h⟩ := gh_bif h
    obtain ⟨rfl, rfl, rfl⟩ := gh_k_inv h
    exact ⟨c, _, rfl, hb, rfl, rfl, rfl⟩
  · cases h
theorem gh_mmx_inv {pc : Nat} {st : List Value} {W : gh_W} {pc' : Nat} {st' : List Value} {W' : gh_W} (h : gh_mmx pc st W = some (.inl (pc', st', W'))) : ∃ x y r, st = .int y :: .int x :: r ∧ gh_rm r = true ∧ pc' = pc + 3 ∧ st' = .int (if x < y then y else x) :: r ∧ W' = W := by
  unfold gh_mmx at h
  split at h
  · rename_i y x r
    obtain ⟨hb, h⟩ := gh_bif h
    obtain ⟨rfl, rfl, rfl⟩ := gh_k_inv h
    exact ⟨x, y, r, rfl, hb, rfl, rfl, rfl⟩
  · cases h
theorem gh_mmn_inv {pc : Nat} {st : List Value} {W : gh_W} {pc' : Nat} {st' : List Value} {W' : gh_W} (h : gh_mmn pc st W = some (.inl (pc', st', W'))) : ∃ x y r, st = .int y :: .int x :: r ∧ gh_rm r = true ∧ pc' = pc + 3 ∧ st' = .int (if y < x then y else x) :: r ∧ W' = W := by
  unfold gh_mmn at h
  split at h
  · rename_i y x r
    obtain ⟨hb, h⟩ := gh_bif h
    obtain ⟨rfl, rfl, rfl⟩ := gh_k_inv h
    exact ⟨x, y, r, rfl, hb, rfl, rfl, rfl⟩
  · cases h
theorem gh_mml_inv {pc : Nat} {st : List Value} {W : gh_W} {pc' : Nat} {st' : List Value} {W' : gh_W} (h : gh_mml pc st W = some (.inl (pc', st', W'))) : ∃ x y r, st = .long y :: .long x :: r ∧ gh_rm r = true ∧ pc' = pc + 3 ∧ st' = .long (if y < x then x else y) :: r ∧ W' = W := by
  unfold gh_mml at h
  split at h
  · rename_i y x r
    obtain ⟨hb, h⟩ := gh_bif h
    obtain ⟨rfl, rfl, rfl⟩ := gh_k_inv h
    exact ⟨x, y, r, rfl, hb, rfl, rfl, rfl⟩
  · cases h
theorem gh_acp_inv {pc : Nat} {st : List Value} {W : gh_W} {pc' : Nat} {st' : List Value} {W' : gh_W} (h : gh_acp pc st W = some (.inl (pc', st', W'))) : ∃ n dp a sp b r n0 n1, st = .int n :: .int dp :: .ref a :: .int sp :: .ref b :: r ∧ W.1.1[a]? = some (.inl (0, n1)) ∧ W.1.1[b]? = some (.inl (0, n0)) ∧ gh_rm r = true ∧ ¬ sp < 0 ∧ ¬ dp < 0 ∧ ¬ n < 0 ∧ sp.toNatClampNeg + n.toNatClampNeg ≤ n0 ∧ dp.toNatClampNeg + n.toNatClampNeg ≤ n1 ∧ pc' = pc + 3 ∧ st' = r ∧ W' = (gh_mI W.1 a (va_cpy (W.1.2.1 b) (W.1.2.1 a) sp.toNatClampNeg dp.toNatClampNeg n.toNatClampNeg), W.2) := by
  unfold gh_acp at h
  split at h
  · rename_i n dp a sp b r
    split at h
    · rename_i n1 n0 h1 h0
      obtain ⟨hb, h⟩ := gh_bif h
      simp only [Bool.and_eq_true, Bool.not_eq_true', decide_eq_false_iff_not] at hb
      obtain ⟨rfl, rfl, rfl⟩ := gh_k_inv h
      exact ⟨n, dp, a, sp, b, _, n0, n1, rfl, h1, h0, hb.1.1.1.1.1, hb.1.1.1.1.2, hb.1.1.1.2, hb.1.1.2, Nat.le_of_ble_eq_true hb.1.2, Nat.le_of_ble_eq_true hb.2, rfl, rfl, rfl⟩
    · cases h
  · cases h
theorem gh_six_inv {c i : Nat} (h : gh_six c = some i) : (c = gh_SC + 1 ∧ i = 0) ∨ (c = gh_SC + 2 ∧ i = 1) := by
  unfold gh_six at h
  cases h1 : Nat.beq c (gh_SC + 1) with
  | true =>
    rw [h1] at h
    cases h
    exact Or.inl ⟨Nat.eq_of_beq_eq_true h1, rfl⟩
  | false =>
    rw [h1] at h
    have h := gh_bif h
    cases h.2
    exact Or.inr ⟨Nat.eq_of_beq_eq_true h.1, rfl⟩
theorem gh_sln_inv {pc : Nat} {st : List Value} {W : gh_W} {pc' : Nat} {st' : List Value} {W' : gh_W} (h : gh_sln pc st W = some (.inl (pc', st', W'))) : ∃ c i r, st = .ref c :: r ∧ gh_six c = some i ∧ gh_rm r = true ∧ pc' = pc + 3 ∧ st' = .int (nI (gh_sl.getD i 0)) :: r ∧ W' = W := by
  unfold gh_sln at h
  split at h
  · rename_i c r
    split at h
    · rename_i i hi
      obtain ⟨hb, h⟩ := gh_bif h
      obtain ⟨rfl, rfl, rfl⟩ := gh_k_inv h
      exact ⟨c, i, r, rfl, hi, hb, rfl, rfl, rfl⟩
    · cases h
  · cases h
theorem gh_sch_inv {pc : Nat} {st : List Value} {W : gh_W} {pc' : Nat} {st' : List Value} {W' : gh_W} (h : gh_sch pc st W = some (.inl (pc', st', W'))) : ∃ k c i r, st = .int k :: .ref c :: r ∧ gh_six c = some i ∧ gh_rm r = true ∧ vp_in k (gh_sl.getD i 0) ∧ pc' = pc + 3 ∧ st' = .int (gh_sc i k) :: r ∧ W' = W := by
  unfold gh_sch at h
  split at h
  · rename_i k c r
    split at h
    · rename_i i hi
      obtain ⟨hb, h⟩ := gh_bif h
      rw [Bool.and_eq_true] at hb
      obtain ⟨rfl, rfl, rfl⟩ := gh_k_inv h
      exact ⟨k, c, i, r, rfl, hi, hb.1, gh_in_iff.mp hb.2, rfl, rfl, rfl⟩
    · cases h
  · cases h

/-! ===== the instructions that touch no local ===== -/
section GhRest
variable {p : Program} {l : Launch} {e : Env} {R : Room} {s : State} {m : MethodId} {args : Array Value} {below : List Frame} {meth : Method} {c : Code} {Q : State → Prop} {cc : ByteArray} {nL o : Nat} {D : va_G} {ca : Nat → ClassId} {A : Nat → Prop} {rt : Option FieldType} {ls : Array Slot} {H : Heap} {locs : List Loc} {adK adV ad : Nat → Nat}
theorem gh_cat (ad : Nat → Nat) (r : List Value) : ((r.map (gh_tv ad)).map fun v => v.category).sum = (r.map fun v => v.category).sum := by
  rw [List.map_map]
  congr 1
  apply List.map_congr_left
  intro v _
  exact gh_tv_cat ad v
theorem gh_rm_le {r : List Value} (h : gh_rm r = true) : (r.map fun v => v.category).sum ≤ 8 := Nat.le_of_ble_eq_true h
theorem gh_b1 {a b : Bool} (h : (a && b) = true) : a = true := (Bool.and_eq_true _ _ ▸ h).1
theorem gh_b2 {a b : Bool} (h : (a && b) = true) : b = true := (Bool.and_eq_true _ _ ▸ h).2
theorem gh_be {a b : Nat} (h : Nat.beq a b = true) : a = b := Nat.eq_of_beq_eq_true h
theorem gh_bl {a b : Nat} (h : Nat.blt a b = true) : a < b := Nat.le_of_ble_eq_true h
theorem gh_bc {α : Type} {_i : DecidableEq α} {l : List α} {a : α} (h : l.contains a = true) : a ∈ l := List.contains_iff_mem.mp h
/-- a call: the callee's contract, from any kind of run -/
theorem gh_snd_call {z pc : Nat} {a : Array Value} {r st0 : List Value} {M M' : gh_M} {cells slots : Nat} {y : Option Value} (C : gh_C p s m args c cc nL o D ca adK adV A) (hW : gh_Wd D ca A s ad M H locs)
    (hy : ∀ x, y = some x → (∃ i, x = .int i) ∨ ∃ i, x = .long i)
    (hr : va_Run p l e R s m args below meth c H locs cells slots (gh_bud z).1 (gh_bud z).2 (F0 m pc ls st0) (r.map (gh_tv ad)) (gh_Qc D ca z ad H.size M y M' a) (va_A (gh_ws ad ca M) H.size))
    (kk : ∀ ad' H' locs', gh_Wd D ca A s ad' M' H' locs' → gh_ag M.1.length ad ad' → ((gh_bud z).1 = 0 → ad' = ad) → W p l e R s m args below meth c H' locs' (cells + (gh_bud z).1) (slots + (gh_bud z).2) Q (F0 m (pc + 3) ls (y.toList ++ r.map (gh_tv ad)))) : W p l e R s m args below meth c H locs cells slots Q (F0 m pc ls st0) := by
  have hs := gh_sub C hW
  have fin : ∀ (u : Nat → Nat) (t : State) (H1 : Heap) (locs1 : List Loc), t.heap = H1 → gh_B D ca z ad H.size M M' u t → va_S A s.heap H1 locs1 → gh_Wd D ca A s u M' H1 locs1 ∧ gh_ag M.1.length ad u ∧ ((gh_bud z).1 = 0 → u = ad) := by
    intro u t H1 locs1 ht hB hS
    obtain ⟨b1, b2, b3, b4⟩ := hB
    rw [ht] at b1
    exact ⟨⟨b1, b2.weaken (fun k q _ h => hs _ h), hS⟩, b3, b4⟩
  cases y with
  | none =>
    refine va_callv (a := a) (post := fun _ => True) (B := gh_B D ca z ad H.size M M') hr hW.2.2 (fun q _ h => hs q h) hs (fun u t H1 locs1 ht hvm hw hB hz1 hk1 hS => ?_)
    obtain ⟨f1, f2, f3⟩ := fin u t H1 locs1 ht hB hS
    exact kk u H1 locs1 f1 f2 f3
  | some x =>
    rcases hy x rfl with ⟨i, rfl⟩ | ⟨i, rfl⟩
    · refine va_calli (a := a) (post := fun r _ => r = i) (B := gh_B D ca z ad H.size M M') hr hW.2.2 (fun q _ h => hs q h) hs (fun r1 u t H1 locs1 ht hvm hw hB hz1 hk1 hS => ?_)
      obtain ⟨f1, f2, f3⟩ := fin u t H1 locs1 ht hB hS
      subst hw
      exact kk u H1 locs1 f1 f2 f3
    · refine va_calll (a := a) (post := fun r _ => r = i) (B := gh_B D ca z ad H.size M M') hr hW.2.2 (fun q _ h => hs q h) hs (fun r1 u t H1 locs1 ht hvm hw hB hz1 hk1 hS => ?_)
      obtain ⟨f1, f2, f3⟩ := fin u t H1 locs1 ht hB hS
      subst hw
      exact kk u H1 locs1 f1 f2 f3
theorem gh_pre {z : Nat} {As : List Value} {M : gh_M} (C : gh_C p s m args c cc nL o D ca adK adV A) (hW : gh_Wd D ca A s ad M H locs) (had : gh_ad adK ad) : PreS s H (gh_Pc D ca adK adV ad H.size As M) (As.map (gh_tv ad)) :=
  ⟨gh_Pc_blind, fun U hU hWm => ⟨rfl, by rw [hU], by rw [hU]; exact hW.1, gh_X.warm hWm C.2.2.2.2.2.1, hW.2.1.weaken (fun _ _ _ _ => trivial), by rw [hU]; exact gh_J.warm hWm ((C.2.2.2.2.2.2.2.kept hW.2.2.2.1).narrow (gh_sub C hW)), had⟩⟩
theorem gh_stk {st : List Value} {v : Nat} (ad : Nat → Nat) : st.map (gh_tv ad) = (((st.take v).reverse).map (gh_tv ad)).reverse ++ (st.drop v).map (gh_tv ad) := by
  rw [← List.map_reverse, List.reverse_reverse, ← List.map_append, List.take_append_drop]
theorem gh_good : ∀ w ∈ gh_tbl, w ∈ gh_tbl ∧ ((w.onTables && w.keeps) = true ∨ ∃ ty, w = .arrayClass ty) := fun w h => ⟨h, good_of_word (List.mem_filter.mp h).2⟩
theorem gh_goodc {z : Nat} (hz : z < gh_NZ) : GoodIn gh_tbl (.code (gh_yn z) (gh_cn z) (gh_ln z) (gh_rn z) :: gh_tbl) := by
  intro w hw
  rcases List.mem_cons.mp hw with rfl | hw
  · exact gh_good _ (gh_code_in hz)
  · exact gh_good w hw
/-- what a method's row in the tables gives -/
theorem gh_mfacts {z : Nat} (hz : z < gh_NZ) : Jvm.Cond.initialized (gh_yn z).cls ∈ gh_tbl ∧ (gh_yn z).cls = gh_Rn (gh_oc z) ∧ ((gh_yn z).cls ≠ "java/lang/invoke/MethodHandle" ∧ (gh_yn z).cls ≠ "java/lang/invoke/VarHandle" ∧ (parseMethodDescriptor (gh_yn z).desc).map (fun d => d.parameters.length) = some (gh_pn z)) ∧ plainName (gh_yn z).cls = true ∧ gh_ln z ≤ 40 ∧
    (gh_kn z = 0 → Jvm.Cond.static (gh_yn z) ∈ gh_tbl) ∧ (gh_kn z = 1 → Jvm.Cond.instanceMethod (gh_yn z) ∈ gh_tbl ∧ Jvm.Cond.selects (gh_yn z).cls (gh_yn z) (gh_yn z) ∈ gh_tbl) ∧ (gh_kn z = 2 → Jvm.Cond.instanceMethod (gh_yn z) ∈ gh_tbl ∧ (gh_yn z).name = "<init>" ∧ gh_rn z = none) := by
  have h := gh_okm_of hz
  unfold gh_okm at h
  have h8 := gh_b2 h
  have h7 := gh_b2 (gh_b1 h)
  have h6 := gh_b2 (gh_b1 (gh_b1 h))
  have h5 := gh_b2 (gh_b1 (gh_b1 (gh_b1 h)))
  have h4 := gh_b2 (gh_b1 (gh_b1 (gh_b1 (gh_b1 h))))
  have h3 := gh_b2 (gh_b1 (gh_b1 (gh_b1 (gh_b1 (gh_b1 h)))))
  have h2 := gh_b2 (gh_b1 (gh_b1 (gh_b1 (gh_b1 (gh_b1 (gh_b1 h))))))
  have h1 := gh_b1 (gh_b1 (gh_b1 (gh_b1 (gh_b1 (gh_b1 (gh_b1 h))))))
  refine ⟨gh_mem2 h1, of_decide_eq_true h2, ⟨of_decide_eq_true h3, of_decide_eq_true h4, of_decide_eq_true h5⟩, h6, Nat.le_of_ble_eq_true h7, fun k => ?_, fun k => ?_, fun k => ?_⟩
  · rw [k] at h8
    exact gh_mem2 h8
  · rw [k] at h8
    exact ⟨gh_mem2 (gh_b1 h8), gh_mem2 (gh_b2 h8)⟩
  · rw [k] at h8
    exact ⟨gh_mem2 (gh_b1 (gh_b1 h8)), of_decide_eq_true (gh_b2 (gh_b1 h8)), of_decide_eq_true (gh_b2 h8)⟩
end GhRest

theorem dJ0_coder_7d493_0 : decode cJ0_coder_7d493 0 = .ok (.getstatic 38, 3) := by decide +kernel
theorem dJ0_coder_7d493_3 : decode cJ0_coder_7d493 3 = .ok (.ifCond .eq 10, 3) := by decide +kernel
theorem dJ0_coder_7d493_6 : decode cJ0_coder_7d493 6 = .ok (.aload_n 0, 1) := by decide +kernel
theorem dJ0_coder_7d493_7 : decode cJ0_coder_7d493 7 = .ok (.getfield 15, 3) := by decide +kernel
theorem dJ0_coder_7d493_10 : decode cJ0_coder_7d493 10 = .ok (.goto 4, 3) := by decide +kernel
theorem dJ0_coder_7d493_13 : decode cJ0_coder_7d493 13 = .ok (.iconst 1, 1) := by decide +kernel
theorem dJ0_coder_7d493_14 : decode cJ0_coder_7d493 14 = .ok (.ireturn, 1) := by decide +kernel
theorem dJ0_isLatin1_aae02_0 : decode cJ0_isLatin1_aae02 0 = .ok (.getstatic 38, 3) := by decide +kernel
theorem dJ0_isLatin1_aae02_3 : decode cJ0_isLatin1_aae02 3 = .ok (.ifCond .eq 14, 3) := by decide +kernel
theorem dJ0_isLatin1_aae02_6 : decode cJ0_isLatin1_aae02 6 = .ok (.aload_n 0, 1) := by decide +kernel
theorem dJ0_isLatin1_aae02_7 : decode cJ0_isLatin1_aae02 7 = .ok (.getfield 15, 3) := by decide +kernel
theorem dJ0_isLatin1_aae02_10 : decode cJ0_isLatin1_aae02 10 = .ok (.ifCond .ne 7, 3) := by decide +kernel
theorem dJ0_isLatin1_aae02_13 : decode cJ0_isLatin1_aae02 13 = .ok (.iconst 1, 1) := by decide +kernel
theorem dJ0_isLatin1_aae02_14 : decode cJ0_isLatin1_aae02 14 = .ok (.goto 4, 3) := by decide +kernel
theorem dJ0_isLatin1_aae02_17 : decode cJ0_isLatin1_aae02 17 = .ok (.iconst 0, 1) := by decide +kernel
theorem dJ0_isLatin1_aae02_18 : decode cJ0_isLatin1_aae02 18 = .ok (.ireturn, 1) := by decide +kernel
theorem dJ0_length_8abf5_0 : decode cJ0_length_8abf5 0 = .ok (.aload_n 0, 1) := by decide +kernel
theorem dJ0_length_8abf5_1 : decode cJ0_length_8abf5 1 = .ok (.getfield 9, 3) := by decide +kernel
theorem dJ0_length_8abf5_4 : decode cJ0_length_8abf5 4 = .ok (.arraylength, 1) := by decide +kernel
theorem dJ0_length_8abf5_5 : decode cJ0_length_8abf5 5 = .ok (.aload_n 0, 1) := by decide +kernel
theorem dJ0_length_8abf5_6 : decode cJ0_length_8abf5 6 = .ok (.invokevirtual 335, 3) := by decide +kernel
theorem dJ0_length_8abf5_9 : decode cJ0_length_8abf5 9 = .ok (.ishr, 1) := by decide +kernel
theorem dJ0_length_8abf5_10 : decode cJ0_length_8abf5 10 = .ok (.ireturn, 1) := by decide +kernel
theorem dJ3_checkIndex_8e157_0 : decode cJ3_checkIndex_8e157 0 = .ok (.iload_n 0, 1) := by decide +kernel
theorem dJ3_checkIndex_8e157_1 : decode cJ3_checkIndex_8e157 1 = .ok (.ifCond .lt 8, 3) := by decide +kernel
theorem dJ3_checkIndex_8e157_4 : decode cJ3_checkIndex_8e157 4 = .ok (.iload_n 0, 1) := by decide +kernel
theorem dJ3_checkIndex_8e157_5 : decode cJ3_checkIndex_8e157 5 = .ok (.iload_n 1, 1) := by decide +kernel
theorem dJ3_checkIndex_8e157_6 : decode cJ3_checkIndex_8e157 6 = .ok (.if_icmp .lt 10, 3) := by decide +kernel
theorem dJ3_checkIndex_8e157_9 : decode cJ3_checkIndex_8e157 9 = .ok (.aload_n 2, 1) := by decide +kernel
theorem dJ3_checkIndex_8e157_10 : decode cJ3_checkIndex_8e157 10 = .ok (.iload_n 0, 1) := by decide +kernel
theorem dJ3_checkIndex_8e157_11 : decode cJ3_checkIndex_8e157 11 = .ok (.iload_n 1, 1) := by decide +kernel
theorem dJ3_checkIndex_8e157_12 : decode cJ3_checkIndex_8e157 12 = .ok (.invokestatic 95, 3) := by decide +kernel
theorem dJ3_checkIndex_8e157_15 : decode cJ3_checkIndex_8e157 15 = .ok (.athrow, 1) := by decide +kernel
theorem dJ3_checkIndex_8e157_16 : decode cJ3_checkIndex_8e157 16 = .ok (.iload_n 0, 1) := by decide +kernel
theorem dJ3_checkIndex_8e157_17 : decode cJ3_checkIndex_8e157 17 = .ok (.ireturn, 1) := by decide +kernel
theorem dJ0_checkIndex_df160_0 : decode cJ0_checkIndex_df160 0 = .ok (.iload_n 0, 1) := by decide +kernel
theorem dJ0_checkIndex_df160_1 : decode cJ0_checkIndex_df160 1 = .ok (.iload_n 1, 1) := by decide +kernel
theorem dJ0_checkIndex_df160_2 : decode cJ0_checkIndex_df160 2 = .ok (.getstatic 1053, 3) := by decide +kernel
theorem dJ0_checkIndex_df160_5 : decode cJ0_checkIndex_df160 5 = .ok (.invokestatic 1059, 3) := by decide +kernel
theorem dJ0_checkIndex_df160_8 : decode cJ0_checkIndex_df160 8 = .ok (.pop, 1) := by decide +kernel
theorem dJ0_checkIndex_df160_9 : decode cJ0_checkIndex_df160 9 = .ok (.return_, 1) := by decide +kernel
theorem dJ1_charAt_3b067_0 : decode cJ1_charAt_3b067 0 = .ok (.iload_n 1, 1) := by decide +kernel
theorem dJ1_charAt_3b067_1 : decode cJ1_charAt_3b067 1 = .ok (.aload_n 0, 1) := by decide +kernel
theorem dJ1_charAt_3b067_2 : decode cJ1_charAt_3b067 2 = .ok (.arraylength, 1) := by decide +kernel
theorem dJ1_charAt_3b067_3 : decode cJ1_charAt_3b067 3 = .ok (.invokestatic 9, 3) := by decide +kernel
theorem dJ1_charAt_3b067_6 : decode cJ1_charAt_3b067 6 = .ok (.aload_n 0, 1) := by decide +kernel
theorem dJ1_charAt_3b067_7 : decode cJ1_charAt_3b067 7 = .ok (.iload_n 1, 1) := by decide +kernel
theorem dJ1_charAt_3b067_8 : decode cJ1_charAt_3b067 8 = .ok (.baload, 1) := by decide +kernel
theorem dJ1_charAt_3b067_9 : decode cJ1_charAt_3b067 9 = .ok (.sipush 255, 3) := by decide +kernel
theorem dJ1_charAt_3b067_12 : decode cJ1_charAt_3b067 12 = .ok (.iand, 1) := by decide +kernel
theorem dJ1_charAt_3b067_13 : decode cJ1_charAt_3b067 13 = .ok (.i2c, 1) := by decide +kernel
theorem dJ1_charAt_3b067_14 : decode cJ1_charAt_3b067 14 = .ok (.ireturn, 1) := by decide +kernel
theorem dJ0_charAt_5068e_0 : decode cJ0_charAt_5068e 0 = .ok (.aload_n 0, 1) := by decide +kernel
theorem dJ0_charAt_5068e_1 : decode cJ0_charAt_5068e 1 = .ok (.invokevirtual 492, 3) := by decide +kernel
theorem dJ0_charAt_5068e_4 : decode cJ0_charAt_5068e 4 = .ok (.ifCond .eq 12, 3) := by decide +kernel
theorem dJ0_charAt_5068e_7 : decode cJ0_charAt_5068e 7 = .ok (.aload_n 0, 1) := by decide +kernel
theorem dJ0_charAt_5068e_8 : decode cJ0_charAt_5068e 8 = .ok (.getfield 9, 3) := by decide +kernel
theorem dJ0_charAt_5068e_11 : decode cJ0_charAt_5068e 11 = .ok (.iload_n 1, 1) := by decide +kernel
theorem dJ0_charAt_5068e_12 : decode cJ0_charAt_5068e 12 = .ok (.invokestatic 495, 3) := by decide +kernel
theorem dJ0_charAt_5068e_15 : decode cJ0_charAt_5068e 15 = .ok (.ireturn, 1) := by decide +kernel
theorem dJ0_charAt_5068e_16 : decode cJ0_charAt_5068e 16 = .ok (.aload_n 0, 1) := by decide +kernel
theorem dJ0_charAt_5068e_17 : decode cJ0_charAt_5068e 17 = .ok (.getfield 9, 3) := by decide +kernel
theorem dJ0_charAt_5068e_20 : decode cJ0_charAt_5068e 20 = .ok (.iload_n 1, 1) := by decide +kernel
theorem dJ0_charAt_5068e_21 : decode cJ0_charAt_5068e 21 = .ok (.invokestatic 498, 3) := by decide +kernel
theorem dJ0_charAt_5068e_24 : decode cJ0_charAt_5068e 24 = .ok (.ireturn, 1) := by decide +kernel
/-! ===== String constants: "dock" is 0, "price" is 1; their length and characters ===== -/
def gh_J (adK adV : Nat → Nat) (A : Nat → Prop) (U : State) (H : Heap) : Prop := vk_S 2 gh_sl gh_sb adK adV A U H ∧ va_Z RJ0 "COMPACT_STRINGS" "Z" (.int 1) A U H ∧ va_Zq RJ3 "SIOOBE_FORMATTER" "Ljava/util/function/BiFunction;" A U H ∧ vk_R RX6 102 "dock" (adK 0) U ∧ vk_R RX6 112 "price" (adK 1) U
theorem gh_J.warm {adK adV : Nat → Nat} {A : Nat → Prop} {s U : State} {H : Heap} (hW : s.WarmedH U.vm) (h : gh_J adK adV A s H) : gh_J adK adV A U H := ⟨vk_S.moved hW.alike h.1, va_Z.moved hW.alike h.2.1, va_Zq.moved hW.alike h.2.2.1, vk_R.warm hW h.2.2.2.1, vk_R.warm hW h.2.2.2.2⟩
theorem gh_J.same {adK adV : Nat → Nat} {A : Nat → Prop} {s U : State} {H : Heap} (hv : s.vm = U.vm) (h : gh_J adK adV A s H) : gh_J adK adV A U H := by
  have ha : s.vm.Alike U.vm := by rw [hv]; exact Vm.Alike.refl U.vm
  exact ⟨vk_S.moved ha h.1, va_Z.moved ha h.2.1, va_Zq.moved ha h.2.2.1, vk_R.same hv.symm h.2.2.2.1, vk_R.same hv.symm h.2.2.2.2⟩
theorem gh_J.kept {adK adV : Nat → Nat} {A : Nat → Prop} {U : State} {H H1 : Heap} (h : gh_J adK adV A U H) (hq : ∀ a : Nat, a < H.size → ¬ A a → H1[a]? = H[a]?) : gh_J adK adV A U H1 := ⟨vk_S.kept h.1 hq, va_Z.kept h.2.1 hq, va_Zq.kept h.2.2.1 hq, h.2.2.2⟩
theorem gh_J.narrow {adK adV : Nat → Nat} {A B : Nat → Prop} {U : State} {H : Heap} (h : gh_J adK adV A U H) (hAB : ∀ q, B q → A q) : gh_J adK adV B U H := ⟨vk_S.narrow h.1 hAB, va_Z.narrow h.2.1 hAB, va_Zq.narrow h.2.2.1 hAB, h.2.2.2⟩
def gj_Pc (adK adV : Nat → Nat) (H0 : Heap) (av : List Value) : Array Value → State → Prop := va_Pc av (fun U => U.heap = H0 ∧ gh_J adK adV (fun _ => False) U H0)
theorem gj_blind {adK adV : Nat → Nat} {H0 : Heap} {av : List Value} : FrameBlind (gj_Pc adK adV H0 av) := by
  intro a U g mk q
  obtain ⟨q0, q1, q2⟩ := q
  exact ⟨q0, q1, gh_J.same (s := U) (U := U.calling g mk a) rfl q2⟩
def gj_rm (f k : Nat) : Room := { frames := f, cells := 0, slots := 0, locals := k }
def gj_B (H0 : Heap) : Unit → State → Prop := fun _ t => t.heap = H0
theorem gj_good : ∀ w ∈ gh_tbl, w ∈ gh_tbl ∧ ((w.onTables && w.keeps) = true ∨ ∃ ty, w = .arrayClass ty) := fun w h => ⟨h, good_of_word (List.mem_filter.mp h).2⟩
theorem gj_goodc {y : MethodName} {b : ByteArray} {n : Nat} {r : Option FieldType} (h : Jvm.Cond.code y b n r ∈ gh_tbl) : GoodIn gh_tbl (.code y b n r :: gh_tbl) := by
  intro w hw
  rcases List.mem_cons.mp hw with rfl | hw
  · exact gj_good _ h
  · exact gj_good w hw
theorem gj_c_coder : (.code yJ0_coder_7d493 cJ0_coder_7d493 1 (some .byte) : Jvm.Cond) ∈ gh_tbl := gh_mem2 (p := 803) (by decide +kernel)
theorem gj_c_isLatin1 : (.code yJ0_isLatin1_aae02 cJ0_isLatin1_aae02 1 (some .boolean) : Jvm.Cond) ∈ gh_tbl := gh_mem2 (p := 813) (by decide +kernel)
theorem gj_c_length : (.code yJ0_length_8abf5 cJ0_length_8abf5 1 (some .int) : Jvm.Cond) ∈ gh_tbl := gh_mem2 (p := 799) (by decide +kernel)
theorem gj_c_pre : (.code yJ3_checkIndex_8e157 cJ3_checkIndex_8e157 3 (some .int) : Jvm.Cond) ∈ gh_tbl := gh_mem2 (p := 824) (by decide +kernel)
theorem gj_c_chk : (.code yJ0_checkIndex_df160 cJ0_checkIndex_df160 2 (none) : Jvm.Cond) ∈ gh_tbl := gh_mem2 (p := 819) (by decide +kernel)
theorem gj_c_lat : (.code yJ1_charAt_3b067 cJ1_charAt_3b067 2 (some .char) : Jvm.Cond) ∈ gh_tbl := gh_mem2 (p := 816) (by decide +kernel)
theorem gj_c_charAt : (.code yJ0_charAt_5068e cJ0_charAt_5068e 2 (some .char) : Jvm.Cond) ∈ gh_tbl := gh_mem2 (p := 809) (by decide +kernel)
set_option maxHeartbeats 4000000 in
set_option maxRecDepth 100000 in
theorem gj_coder (l : Launch) (adK adV : Nat → Nat) (H0 : Heap) (i : Nat) (hi : i < 2) : Met l yJ0_coder_7d493 (.code yJ0_coder_7d493 cJ0_coder_7d493 1 (some .byte) :: gh_tbl) (gj_rm 0 0) (gj_Pc adK adV H0 [.ref (adK i)]) (va_Qi (fun r _ => r = 0) (gj_B H0) (fun _ => False)) 0 0 (fun _ => False) := by
  refine Met.ofW (cc := cJ0_coder_7d493) (maxL := 1) (ret := some .byte) (by decide) rfl ?_
  intro p e s m args below meth c s₁ B hml hv
  obtain ⟨rfl, hH, hJ⟩ := hv
  have hx := B.exec
  have hb := B.bytes
  have hr := B.returns
  have hts0 := atoms_spec (ws := .code yJ0_coder_7d493 cJ0_coder_7d493 1 (some .byte) :: gh_tbl) B.pre
  have hts : ∀ w ∈ gh_tbl, w.before ([.ref (adK i)] : List Value).toArray s = true := fun w hw => hts0 w (List.mem_cons_of_mem _ hw)
  have hown : s.vm.findClass RJ0 = some m.cls := findClass_of_methodNamed B.named
  have hlocks := B.notSynchronized
  subst hH
  have hS : va_S (fun _ => False) s.heap s.heap [] := va_S.rf
  have hl := lv_entry ([.ref (adK i)]) (n := 1) (Nat.le_of_ble_eq_true rfl)
  rw [lg_entry_eq]
  generalize (lg_sl ([.ref (adK i)]) ++ List.replicate (1 - (lg_sl ([.ref (adK i)])).length) Slot.unset).toArray = ls at hl ⊢
  refine va_gets hx hb hJ.2.1 hS hown (hts (.fieldLink RJ0 38 "java/lang/String" "COMPACT_STRINGS" "Z") (gh_mem2 (p := 804) (by decide +kernel))) (fun _ h => h) dJ0_coder_7d493_0 ?_
  refine lv_if_eq (tgt := 13) hx hb dJ0_coder_7d493_3 (by decide) (fun hc => absurd hc (by decide)) (fun _ => ?_)
  refine lv_aload_n hx hb dJ0_coder_7d493_6 rfl (lv_at hl 0 rfl) ?_
  refine vk_getf hx hb (hJ.1.1 i hi).2.1 hS hown (hts (.fieldLink RJ0 15 "java/lang/String" "coder" "B") (gh_mem2 (p := 1400) (by decide +kernel))) (fun _ h => h) dJ0_coder_7d493_7 ?_
  refine lv_goto (tgt := 14) hx hb dJ0_coder_7d493_10 (by decide) ?_
  exact W.zret hx hb hr rfl (fun t ht hW => ⟨⟨0, (), rfl, rfl, ht⟩, hS.F ht⟩) hS.2.2 dJ0_coder_7d493_14
set_option maxHeartbeats 4000000 in
set_option maxRecDepth 100000 in
theorem gj_isLatin1 (l : Launch) (adK adV : Nat → Nat) (H0 : Heap) (i : Nat) (hi : i < 2) : Met l yJ0_isLatin1_aae02 (.code yJ0_isLatin1_aae02 cJ0_isLatin1_aae02 1 (some .boolean) :: gh_tbl) (gj_rm 0 0) (gj_Pc adK adV H0 [.ref (adK i)]) (va_Qi (fun r _ => r = 1) (gj_B H0) (fun _ => False)) 0 0 (fun _ => False) := by
  refine Met.ofW (cc := cJ0_isLatin1_aae02) (maxL := 1) (ret := some .boolean) (by decide) rfl ?_
  intro p e s m args below meth c s₁ B hml hv
  obtain ⟨rfl, hH, hJ⟩ := hv
  have hx := B.exec
  have hb := B.bytes
  have hr := B.returns
  have hts0 := atoms_spec (ws := .code yJ0_isLatin1_aae02 cJ0_isLatin1_aae02 1 (some .boolean) :: gh_tbl) B.pre
  have hts : ∀ w ∈ gh_tbl, w.before ([.ref (adK i)] : List Value).toArray s = true := fun w hw => hts0 w (List.mem_cons_of_mem _ hw)
  have hown : s.vm.findClass RJ0 = some m.cls := findClass_of_methodNamed B.named
  have hlocks := B.notSynchronized
  subst hH
  have hS : va_S (fun _ => False) s.heap s.heap [] := va_S.rf
  have hl := lv_entry ([.ref (adK i)]) (n := 1) (Nat.le_of_ble_eq_true rfl)
  rw [lg_entry_eq]
  generalize (lg_sl ([.ref (adK i)]) ++ List.replicate (1 - (lg_sl ([.ref (adK i)])).length) Slot.unset).toArray = ls at hl ⊢
  refine va_gets hx hb hJ.2.1 hS hown (hts (.fieldLink RJ0 38 "java/lang/String" "COMPACT_STRINGS" "Z") (gh_mem2 (p := 804) (by decide +kernel))) (fun _ h => h) dJ0_isLatin1_aae02_0 ?_
  refine lv_if_eq (tgt := 17) hx hb dJ0_isLatin1_aae02_3 (by decide) (fun hc => absurd hc (by decide)) (fun _ => ?_)
  refine lv_aload_n hx hb dJ0_isLatin1_aae02_6 rfl (lv_at hl 0 rfl) ?_
  refine vk_getf hx hb (hJ.1.1 i hi).2.1 hS hown (hts (.fieldLink RJ0 15 "java/lang/String" "coder" "B") (gh_mem2 (p := 1400) (by decide +kernel))) (fun _ h => h) dJ0_isLatin1_aae02_7 ?_
  refine lv_if_ne (tgt := 17) hx hb dJ0_isLatin1_aae02_10 (by decide) (fun hc => absurd rfl hc) (fun _ => ?_)
  refine lv_iconst (v := 1) hx hb dJ0_isLatin1_aae02_13 (by decide) ?_
  refine lv_goto (tgt := 18) hx hb dJ0_isLatin1_aae02_14 (by decide) ?_
  exact W.zret hx hb hr rfl (fun t ht hW => ⟨⟨1, (), rfl, rfl, ht⟩, hS.F ht⟩) hS.2.2 dJ0_isLatin1_aae02_18
set_option maxHeartbeats 4000000 in
set_option maxRecDepth 100000 in
theorem gj_length (l : Launch) (adK adV : Nat → Nat) (H0 : Heap) (i : Nat) (hi : i < 2) : Met l yJ0_length_8abf5 (.code yJ0_length_8abf5 cJ0_length_8abf5 1 (some .int) :: gh_tbl) (gj_rm 1 20) (gj_Pc adK adV H0 [.ref (adK i)]) (va_Qi (fun r _ => r = nI (gh_sl.getD i 0)) (gj_B H0) (fun _ => False)) 0 0 (fun _ => False) := by
  refine Met.ofW (cc := cJ0_length_8abf5) (maxL := 1) (ret := some .int) (by decide) rfl ?_
  intro p e s m args below meth c s₁ B hml hv
  obtain ⟨rfl, hH, hJ⟩ := hv
  have hx := B.exec
  have hb := B.bytes
  have hr := B.returns
  have hts0 := atoms_spec (ws := .code yJ0_length_8abf5 cJ0_length_8abf5 1 (some .int) :: gh_tbl) B.pre
  have hts : ∀ w ∈ gh_tbl, w.before ([.ref (adK i)] : List Value).toArray s = true := fun w hw => hts0 w (List.mem_cons_of_mem _ hw)
  have hown : s.vm.findClass RJ0 = some m.cls := findClass_of_methodNamed B.named
  have hlocks := B.notSynchronized
  subst hH
  have hS : va_S (fun _ => False) s.heap s.heap [] := va_S.rf
  have hl := lv_entry ([.ref (adK i)]) (n := 1) (Nat.le_of_ble_eq_true rfl)
  rw [lg_entry_eq]
  generalize (lg_sl ([.ref (adK i)]) ++ List.replicate (1 - (lg_sl ([.ref (adK i)])).length) Slot.unset).toArray = ls at hl ⊢
  refine lv_aload_n hx hb dJ0_length_8abf5_0 rfl (lv_at hl 0 rfl) ?_
  refine vk_getf hx hb (hJ.1.1 i hi).2.2.1 hS hown (hts (.fieldLink RJ0 9 "java/lang/String" "value" "[B") (gh_mem2 (p := 1399) (by decide +kernel))) (fun _ h => h) dJ0_length_8abf5_1 ?_
  refine va_tlen hx hb (hJ.1.1 i hi).2.2.2 hS (v := nI (gh_sl.getD i 0)) rfl dJ0_length_8abf5_4 ?_
  refine lv_aload_n hx hb dJ0_length_8abf5_5 rfl (lv_at hl 0 rfl) ?_
  refine va_calli (a := (Value.ref (adK i) :: []).toArray) (post := fun r _ => r = 0) (B := gj_B s.heap) (va_runV (C := RJ0) (As := []) (rest := [.int (nI (gh_sl.getD i 0))]) ⟨hx, hb, hml, hown, hts⟩ (gj_coder l adK adV s.heap i hi) ⟨callB_of 0 hts (gj_goodc gj_c_coder) rfl rfl rfl (hts (.initialized "java/lang/String") (gh_mem2 (p := 70) (by decide +kernel))) (hts (.methodLink RJ0 335 yJ0_coder_7d493) (gh_mem2 (p := 800) (by decide +kernel))) (by decide +kernel) ⟨by show (gj_rm 0 0).frames + 1 ≤ (gj_rm 1 20).frames; decide, by show 8 + (1 + 11) + (gj_rm 0 0).locals ≤ (gj_rm 1 20).locals; decide⟩, (hts (.instanceMethod yJ0_coder_7d493) (gh_mem2 (p := 801) (by decide +kernel))), (hts (.selects RJ0 yJ0_coder_7d493 yJ0_coder_7d493) (gh_mem2 (p := 802) (by decide +kernel)))⟩ ⟨gj_blind, vk_recv hJ.1 hi hS, fun U hU hW => ⟨rfl, hU, gh_J.warm hW hJ⟩⟩ rfl rfl hl.1 rfl (lv_room (Nat.le_of_ble_eq_true rfl)) dJ0_length_8abf5_6 ⟨Nat.zero_le _, Nat.zero_le _⟩) hS (fun q _ h => h.elim) (fun q h => h.elim) (fun r_1 u t H1 locs1 ht hvm hw hB hz1 hk1 hS1 => ?_)
  have e1 : H1 = s.heap := ht.symm.trans hB
  subst e1
  subst hw
  refine lv_ishr hx hb dJ0_length_8abf5_9 ?_
  have e2 : nI (gh_sl.getD i 0) >>> ((0 : Int32) &&& 31) = nI (gh_sl.getD i 0) := sc_shr0 (by match i, hi with | 0, _ => decide | 1, _ => decide)
  rw [e2]
  exact W.iret hx hb hr (fun t ht hW => ⟨⟨_, (), rfl, rfl, ht⟩, hS1.F ht⟩) hS1.2.2 dJ0_length_8abf5_10
set_option maxHeartbeats 4000000 in
set_option maxRecDepth 100000 in
theorem gj_pre (l : Launch) (adK adV : Nat → Nat) (H0 : Heap) (k : Int32) (n : Nat) (hk : vp_in k n) (hn : n < 2 ^ 31) : Met l yJ3_checkIndex_8e157 (.code yJ3_checkIndex_8e157 cJ3_checkIndex_8e157 3 (some .int) :: gh_tbl) (gj_rm 0 0) (gj_Pc adK adV H0 [.int k, .int (nI n), .null]) (va_Qi (fun r _ => r = k) (gj_B H0) (fun _ => False)) 0 0 (fun _ => False) := by
  refine Met.ofW (cc := cJ3_checkIndex_8e157) (maxL := 3) (ret := some .int) (by decide) rfl ?_
  intro p e s m args below meth c s₁ B hml hv
  obtain ⟨rfl, hH, hJ⟩ := hv
  have hx := B.exec
  have hb := B.bytes
  have hr := B.returns
  have hts0 := atoms_spec (ws := .code yJ3_checkIndex_8e157 cJ3_checkIndex_8e157 3 (some .int) :: gh_tbl) B.pre
  have hts : ∀ w ∈ gh_tbl, w.before ([.int k, .int (nI n), .null] : List Value).toArray s = true := fun w hw => hts0 w (List.mem_cons_of_mem _ hw)
  have hown : s.vm.findClass RJ3 = some m.cls := findClass_of_methodNamed B.named
  have hlocks := B.notSynchronized
  subst hH
  have hS : va_S (fun _ => False) s.heap s.heap [] := va_S.rf
  have hl := lv_entry ([.int k, .int (nI n), .null]) (n := 3) (Nat.le_of_ble_eq_true rfl)
  rw [lg_entry_eq]
  generalize (lg_sl ([.int k, .int (nI n), .null]) ++ List.replicate (3 - (lg_sl ([.int k, .int (nI n), .null])).length) Slot.unset).toArray = ls at hl ⊢
  have hq := vp_in_iff.mp hk
  refine lv_iload_n hx hb dJ3_checkIndex_8e157_0 rfl (lv_at hl 0 rfl) ?_
  refine lv_if_lt (tgt := 9) hx hb dJ3_checkIndex_8e157_1 (by decide) (fun hc => absurd hc (fun z => hk (Or.inl z))) (fun _ => ?_)
  refine lv_iload_n hx hb dJ3_checkIndex_8e157_4 rfl (lv_at hl 0 rfl) ?_
  refine lv_iload_n hx hb dJ3_checkIndex_8e157_5 rfl (lv_at hl 1 rfl) ?_
  refine lv_icmp_lt (tgt := 16) hx hb dJ3_checkIndex_8e157_6 (by decide) (fun _ => ?_) (fun hc => ?_)
  · refine lv_iload_n hx hb dJ3_checkIndex_8e157_16 rfl (lv_at hl 0 rfl) ?_
    exact W.iret hx hb hr (fun t ht hW => ⟨⟨_, (), rfl, rfl, ht⟩, hS.F ht⟩) hS.2.2 dJ3_checkIndex_8e157_17
  · refine absurd ?_ hc
    rw [Int32.lt_iff_toInt_lt, nI_toInt hn]
    omega
set_option maxHeartbeats 4000000 in
set_option maxRecDepth 100000 in
theorem gj_prf (l : Launch) (adK adV : Nat → Nat) (H0 : Heap) (k : Int32) (n : Nat) (tt : Nat) (hk : vp_in k n) (hn : n < 2 ^ 31) : Met l yJ3_checkIndex_8e157 (.code yJ3_checkIndex_8e157 cJ3_checkIndex_8e157 3 (some .int) :: gh_tbl) (gj_rm 0 0) (gj_Pc adK adV H0 [.int k, .int (nI n), .ref tt]) (va_Qi (fun r _ => r = k) (gj_B H0) (fun _ => False)) 0 0 (fun _ => False) := by
  refine Met.ofW (cc := cJ3_checkIndex_8e157) (maxL := 3) (ret := some .int) (by decide) rfl ?_
  intro p e s m args below meth c s₁ B hml hv
  obtain ⟨rfl, hH, hJ⟩ := hv
  have hx := B.exec
  have hb := B.bytes
  have hr := B.returns
  have hts0 := atoms_spec (ws := .code yJ3_checkIndex_8e157 cJ3_checkIndex_8e157 3 (some .int) :: gh_tbl) B.pre
  have hts : ∀ w ∈ gh_tbl, w.before ([.int k, .int (nI n), .ref tt] : List Value).toArray s = true := fun w hw => hts0 w (List.mem_cons_of_mem _ hw)
  have hown : s.vm.findClass RJ3 = some m.cls := findClass_of_methodNamed B.named
  have hlocks := B.notSynchronized
  subst hH
  have hS : va_S (fun _ => False) s.heap s.heap [] := va_S.rf
  have hl := lv_entry ([.int k, .int (nI n), .ref tt]) (n := 3) (Nat.le_of_ble_eq_true rfl)
  rw [lg_entry_eq]
  generalize (lg_sl ([.int k, .int (nI n), .ref tt]) ++ List.replicate (3 - (lg_sl ([.int k, .int (nI n), .ref tt])).length) Slot.unset).toArray = ls at hl ⊢
  have hq := vp_in_iff.mp hk
  refine lv_iload_n hx hb dJ3_checkIndex_8e157_0 rfl (lv_at hl 0 rfl) ?_
  refine lv_if_lt (tgt := 9) hx hb dJ3_checkIndex_8e157_1 (by decide) (fun hc => absurd hc (fun z => hk (Or.inl z))) (fun _ => ?_)
  refine lv_iload_n hx hb dJ3_checkIndex_8e157_4 rfl (lv_at hl 0 rfl) ?_
  refine lv_iload_n hx hb dJ3_checkIndex_8e157_5 rfl (lv_at hl 1 rfl) ?_
  refine lv_icmp_lt (tgt := 16) hx hb dJ3_checkIndex_8e157_6 (by decide) (fun _ => ?_) (fun hc => ?_)
  · refine lv_iload_n hx hb dJ3_checkIndex_8e157_16 rfl (lv_at hl 0 rfl) ?_
    exact W.iret hx hb hr (fun t ht hW => ⟨⟨_, (), rfl, rfl, ht⟩, hS.F ht⟩) hS.2.2 dJ3_checkIndex_8e157_17
  · refine absurd ?_ hc
    rw [Int32.lt_iff_toInt_lt, nI_toInt hn]
    omega
set_option maxHeartbeats 4000000 in
set_option maxRecDepth 100000 in
theorem gj_chk (l : Launch) (adK adV : Nat → Nat) (H0 : Heap) (k : Int32) (n : Nat) (hk : vp_in k n) (hn : n < 2 ^ 31) : Met l yJ0_checkIndex_df160 (.code yJ0_checkIndex_df160 cJ0_checkIndex_df160 2 (none) :: gh_tbl) (gj_rm 1 30) (gj_Pc adK adV H0 [.int k, .int (nI n)]) (va_Qv (fun _ => True) (gj_B H0) (fun _ => False)) 0 0 (fun _ => False) := by
  refine Met.ofW (cc := cJ0_checkIndex_df160) (maxL := 2) (ret := none) (by decide) rfl ?_
  intro p e s m args below meth c s₁ B hml hv
  obtain ⟨rfl, hH, hJ⟩ := hv
  have hx := B.exec
  have hb := B.bytes
  have hr := B.returns
  have hts0 := atoms_spec (ws := .code yJ0_checkIndex_df160 cJ0_checkIndex_df160 2 (none) :: gh_tbl) B.pre
  have hts : ∀ w ∈ gh_tbl, w.before ([.int k, .int (nI n)] : List Value).toArray s = true := fun w hw => hts0 w (List.mem_cons_of_mem _ hw)
  have hown : s.vm.findClass RJ0 = some m.cls := findClass_of_methodNamed B.named
  have hlocks := B.notSynchronized
  subst hH
  have hS : va_S (fun _ => False) s.heap s.heap [] := va_S.rf
  have hl := lv_entry ([.int k, .int (nI n)]) (n := 2) (Nat.le_of_ble_eq_true rfl)
  rw [lg_entry_eq]
  generalize (lg_sl ([.int k, .int (nI n)]) ++ List.replicate (2 - (lg_sl ([.int k, .int (nI n)])).length) Slot.unset).toArray = ls at hl ⊢
  refine lv_iload_n hx hb dJ0_checkIndex_df160_0 rfl (lv_at hl 0 rfl) ?_
  refine lv_iload_n hx hb dJ0_checkIndex_df160_1 rfl (lv_at hl 1 rfl) ?_
  rcases hJ.2.2.1 with hz | ⟨tt, hz⟩
  · refine va_gets hx hb hz hS hown (hts (.fieldLink RJ0 1053 "jdk/internal/util/Preconditions" "SIOOBE_FORMATTER" "Ljava/util/function/BiFunction;") (gh_mem2 (p := 820) (by decide +kernel))) (fun _ h => h) dJ0_checkIndex_df160_2 ?_
    refine va_calli (a := ([.int k, .int (nI n), .null] : List Value).toArray) (post := fun r _ => r = k) (B := gj_B s.heap) (va_runS (As := [.int k, .int (nI n), .null]) (rest := []) ⟨hx, hb, hml, hown, hts⟩ (gj_pre l adK adV s.heap k n hk hn) ⟨callB_of 3 hts (gj_goodc gj_c_pre) rfl rfl rfl (hts (.initialized "jdk/internal/util/Preconditions") (gh_mem2 (p := 72) (by decide +kernel))) (hts (.methodLink RJ0 1059 yJ3_checkIndex_8e157) (gh_mem2 (p := 822) (by decide +kernel))) (by decide +kernel) ⟨by show (gj_rm 0 0).frames + 1 ≤ (gj_rm 1 30).frames; decide, by show 8 + (3 + 11) + (gj_rm 0 0).locals ≤ (gj_rm 1 30).locals; decide⟩, (hts (.static yJ3_checkIndex_8e157) (gh_mem2 (p := 823) (by decide +kernel)))⟩ ⟨gj_blind, fun U hU hW => ⟨rfl, hU, gh_J.warm hW hJ⟩⟩ rfl rfl hl.1 rfl (lv_room (Nat.le_of_ble_eq_true rfl)) dJ0_checkIndex_df160_5 ⟨Nat.zero_le _, Nat.zero_le _⟩) hS (fun q _ h => h.elim) (fun q h => h.elim) (fun r_1 u t H1 locs1 ht hvm hw hB hz1 hk1 hS1 => ?_)
    have e1 : H1 = s.heap := ht.symm.trans hB
    subst e1
    refine lv_pop hx hb dJ0_checkIndex_df160_8 rfl ?_
    exact W.vret hx hb hr (fun t ht hW => ⟨⟨(), rfl, trivial, ht⟩, hS1.F ht⟩) hS1.2.2 dJ0_checkIndex_df160_9
  · refine va_gets hx hb hz hS hown (hts (.fieldLink RJ0 1053 "jdk/internal/util/Preconditions" "SIOOBE_FORMATTER" "Ljava/util/function/BiFunction;") (gh_mem2 (p := 820) (by decide +kernel))) (fun _ h => h) dJ0_checkIndex_df160_2 ?_
    refine va_calli (a := ([.int k, .int (nI n), .ref tt] : List Value).toArray) (post := fun r _ => r = k) (B := gj_B s.heap) (va_runS (As := [.int k, .int (nI n), .ref tt]) (rest := []) ⟨hx, hb, hml, hown, hts⟩ (gj_prf l adK adV s.heap k n tt hk hn) ⟨callB_of 3 hts (gj_goodc gj_c_pre) rfl rfl rfl (hts (.initialized "jdk/internal/util/Preconditions") (gh_mem2 (p := 72) (by decide +kernel))) (hts (.methodLink RJ0 1059 yJ3_checkIndex_8e157) (gh_mem2 (p := 822) (by decide +kernel))) (by decide +kernel) ⟨by show (gj_rm 0 0).frames + 1 ≤ (gj_rm 1 30).frames; decide, by show 8 + (3 + 11) + (gj_rm 0 0).locals ≤ (gj_rm 1 30).locals; decide⟩, (hts (.static yJ3_checkIndex_8e157) (gh_mem2 (p := 823) (by decide +kernel)))⟩ ⟨gj_blind, fun U hU hW => ⟨rfl, hU, gh_J.warm hW hJ⟩⟩ rfl rfl hl.1 rfl (lv_room (Nat.le_of_ble_eq_true rfl)) dJ0_checkIndex_df160_5 ⟨Nat.zero_le _, Nat.zero_le _⟩) hS (fun q _ h => h.elim) (fun q h => h.elim) (fun r_1 u t H1 locs1 ht hvm hw hB hz1 hk1 hS1 => ?_)
    have e1 : H1 = s.heap := ht.symm.trans hB
    subst e1
    refine lv_pop hx hb dJ0_checkIndex_df160_8 rfl ?_
    exact W.vret hx hb hr (fun t ht hW => ⟨⟨(), rfl, trivial, ht⟩, hS1.F ht⟩) hS1.2.2 dJ0_checkIndex_df160_9
theorem gh_sl_lt : ∀ i, i < 2 → gh_sl.getD i 0 < 2 ^ 31 := by decide
theorem gh_sc_nar : ∀ i, i < 2 → ∀ k, vp_in k (gh_sl.getD i 0) → narrow .char (.int (gh_sc i k)) = .int (gh_sc i k) := by
  intro i _ k _
  unfold gh_sc
  exact pk_nc _
set_option maxHeartbeats 4000000 in
set_option maxRecDepth 100000 in
theorem gj_lat (l : Launch) (adK adV : Nat → Nat) (H0 : Heap) (i : Nat) (hi : i < 2) (k : Int32) (hk : vp_in k (gh_sl.getD i 0)) : Met l yJ1_charAt_3b067 (.code yJ1_charAt_3b067 cJ1_charAt_3b067 2 (some .char) :: gh_tbl) (gj_rm 2 60) (gj_Pc adK adV H0 [.ref (adV i), .int k]) (va_Qi (fun r _ => r = gh_sc i k) (gj_B H0) (fun _ => False)) 0 0 (fun _ => False) := by
  refine Met.ofW (cc := cJ1_charAt_3b067) (maxL := 2) (ret := some .char) (by decide) rfl ?_
  intro p e s m args below meth c s₁ B hml hv
  obtain ⟨rfl, hH, hJ⟩ := hv
  have hx := B.exec
  have hb := B.bytes
  have hr := B.returns
  have hts0 := atoms_spec (ws := .code yJ1_charAt_3b067 cJ1_charAt_3b067 2 (some .char) :: gh_tbl) B.pre
  have hts : ∀ w ∈ gh_tbl, w.before ([.ref (adV i), .int k] : List Value).toArray s = true := fun w hw => hts0 w (List.mem_cons_of_mem _ hw)
  have hown : s.vm.findClass RJ1 = some m.cls := findClass_of_methodNamed B.named
  have hlocks := B.notSynchronized
  subst hH
  have hS : va_S (fun _ => False) s.heap s.heap [] := va_S.rf
  have hl := lv_entry ([.ref (adV i), .int k]) (n := 2) (Nat.le_of_ble_eq_true rfl)
  rw [lg_entry_eq]
  generalize (lg_sl ([.ref (adV i), .int k]) ++ List.replicate (2 - (lg_sl ([.ref (adV i), .int k])).length) Slot.unset).toArray = ls at hl ⊢
  have hT := (hJ.1.1 i hi).2.2.2
  have hn : gh_sl.getD i 0 < 2 ^ 31 := gh_sl_lt i hi
  refine lv_iload_n hx hb dJ1_charAt_3b067_0 rfl (lv_at hl 1 rfl) ?_
  refine lv_aload_n hx hb dJ1_charAt_3b067_1 rfl (lv_at hl 0 rfl) ?_
  refine va_tlen hx hb hT hS (v := nI (gh_sl.getD i 0)) rfl dJ1_charAt_3b067_2 ?_
  refine va_callv (a := ([.int k, .int (nI (gh_sl.getD i 0))] : List Value).toArray) (post := fun _ => True) (B := gj_B s.heap) (va_runS (As := [.int k, .int (nI (gh_sl.getD i 0))]) (rest := []) ⟨hx, hb, hml, hown, hts⟩ (gj_chk l adK adV s.heap k _ hk hn) ⟨callB_of 2 hts (gj_goodc gj_c_chk) rfl rfl rfl (hts (.initialized "java/lang/String") (gh_mem2 (p := 70) (by decide +kernel))) (hts (.methodLink RJ1 9 yJ0_checkIndex_df160) (gh_mem2 (p := 817) (by decide +kernel))) (by decide +kernel) ⟨by show (gj_rm 1 30).frames + 1 ≤ (gj_rm 2 60).frames; decide, by show 8 + (2 + 11) + (gj_rm 1 30).locals ≤ (gj_rm 2 60).locals; decide⟩, (hts (.static yJ0_checkIndex_df160) (gh_mem2 (p := 818) (by decide +kernel)))⟩ ⟨gj_blind, fun U hU hW => ⟨rfl, hU, gh_J.warm hW hJ⟩⟩ rfl rfl hl.1 rfl (lv_room (Nat.le_of_ble_eq_true rfl)) dJ1_charAt_3b067_3 ⟨Nat.zero_le _, Nat.zero_le _⟩) hS (fun q _ h => h.elim) (fun q h => h.elim) (fun u t H1 locs1 ht hvm hw hB hz1 hk1 hS1 => ?_)
  have e1 : H1 = s.heap := ht.symm.trans hB
  subst e1
  refine lv_aload_n hx hb dJ1_charAt_3b067_6 rfl (lv_at hl 0 rfl) ?_
  refine lv_iload_n hx hb dJ1_charAt_3b067_7 rfl (lv_at hl 1 rfl) ?_
  refine va_tb hx hb hT hS1 hk rfl dJ1_charAt_3b067_8 ?_
  refine lv_sipush (v := 255) hx hb dJ1_charAt_3b067_9 (by decide) ?_
  refine lv_iand hx hb dJ1_charAt_3b067_12 ?_
  refine lv_i2c (v := gh_sc i k) hx hb dJ1_charAt_3b067_13 (by rw [gh_sc]) ?_
  exact W.zret hx hb hr (gh_sc_nar i hi k hk) (fun t ht hW => ⟨⟨_, (), rfl, rfl, ht⟩, hS1.F ht⟩) hS1.2.2 dJ1_charAt_3b067_14
set_option maxHeartbeats 4000000 in
set_option maxRecDepth 100000 in
theorem gj_charAt (l : Launch) (adK adV : Nat → Nat) (H0 : Heap) (i : Nat) (hi : i < 2) (k : Int32) (hk : vp_in k (gh_sl.getD i 0)) : Met l yJ0_charAt_5068e (.code yJ0_charAt_5068e cJ0_charAt_5068e 2 (some .char) :: gh_tbl) (gj_rm 3 90) (gj_Pc adK adV H0 [.ref (adK i), .int k]) (va_Qi (fun r _ => r = gh_sc i k) (gj_B H0) (fun _ => False)) 0 0 (fun _ => False) := by
  refine Met.ofW (cc := cJ0_charAt_5068e) (maxL := 2) (ret := some .char) (by decide) rfl ?_
  intro p e s m args below meth c s₁ B hml hv
  obtain ⟨rfl, hH, hJ⟩ := hv
  have hx := B.exec
  have hb := B.bytes
  have hr := B.returns
  have hts0 := atoms_spec (ws := .code yJ0_charAt_5068e cJ0_charAt_5068e 2 (some .char) :: gh_tbl) B.pre
  have hts : ∀ w ∈ gh_tbl, w.before ([.ref (adK i), .int k] : List Value).toArray s = true := fun w hw => hts0 w (List.mem_cons_of_mem _ hw)
  have hown : s.vm.findClass RJ0 = some m.cls := findClass_of_methodNamed B.named
  have hlocks := B.notSynchronized
  subst hH
  have hS : va_S (fun _ => False) s.heap s.heap [] := va_S.rf
  have hl := lv_entry ([.ref (adK i), .int k]) (n := 2) (Nat.le_of_ble_eq_true rfl)
  rw [lg_entry_eq]
  generalize (lg_sl ([.ref (adK i), .int k]) ++ List.replicate (2 - (lg_sl ([.ref (adK i), .int k])).length) Slot.unset).toArray = ls at hl ⊢
  refine lv_aload_n hx hb dJ0_charAt_5068e_0 rfl (lv_at hl 0 rfl) ?_
  refine va_calli (a := (Value.ref (adK i) :: []).toArray) (post := fun r _ => r = 1) (B := gj_B s.heap) (va_runV (C := RJ0) (As := []) (rest := []) ⟨hx, hb, hml, hown, hts⟩ (gj_isLatin1 l adK adV s.heap i hi) ⟨callB_of 0 hts (gj_goodc gj_c_isLatin1) rfl rfl rfl (hts (.initialized "java/lang/String") (gh_mem2 (p := 70) (by decide +kernel))) (hts (.methodLink RJ0 492 yJ0_isLatin1_aae02) (gh_mem2 (p := 810) (by decide +kernel))) (by decide +kernel) ⟨by show (gj_rm 0 0).frames + 1 ≤ (gj_rm 3 90).frames; decide, by show 8 + (1 + 11) + (gj_rm 0 0).locals ≤ (gj_rm 3 90).locals; decide⟩, (hts (.instanceMethod yJ0_isLatin1_aae02) (gh_mem2 (p := 811) (by decide +kernel))), (hts (.selects RJ0 yJ0_isLatin1_aae02 yJ0_isLatin1_aae02) (gh_mem2 (p := 812) (by decide +kernel)))⟩ ⟨gj_blind, vk_recv hJ.1 hi hS, fun U hU hW => ⟨rfl, hU, gh_J.warm hW hJ⟩⟩ rfl rfl hl.1 rfl (lv_room (Nat.le_of_ble_eq_true rfl)) dJ0_charAt_5068e_1 ⟨Nat.zero_le _, Nat.zero_le _⟩) hS (fun q _ h => h.elim) (fun q h => h.elim) (fun r_1 u t H1 locs1 ht hvm hw hB hz1 hk1 hS1 => ?_)
  have e1 : H1 = s.heap := ht.symm.trans hB
  subst e1
  subst hw
  refine lv_if_eq (tgt := 16) hx hb dJ0_charAt_5068e_4 (by decide) (fun hc => absurd hc (by decide)) (fun _ => ?_)
  refine lv_aload_n hx hb dJ0_charAt_5068e_7 rfl (lv_at hl 0 rfl) ?_
  refine vk_getf hx hb (hJ.1.1 i hi).2.2.1 hS1 hown (hts (.fieldLink RJ0 9 "java/lang/String" "value" "[B") (gh_mem2 (p := 1399) (by decide +kernel))) (fun _ h => h) dJ0_charAt_5068e_8 ?_
  refine lv_iload_n hx hb dJ0_charAt_5068e_11 rfl (lv_at hl 1 rfl) ?_
  refine va_calli (a := ([.ref (adV i), .int k] : List Value).toArray) (post := fun r _ => r = gh_sc i k) (B := gj_B s.heap) (va_runS (As := [.ref (adV i), .int k]) (rest := []) ⟨hx, hb, hml, hown, hts⟩ (gj_lat l adK adV s.heap i hi k hk) ⟨callB_of 2 hts (gj_goodc gj_c_lat) rfl rfl rfl (hts (.initialized "java/lang/StringLatin1") (gh_mem2 (p := 71) (by decide +kernel))) (hts (.methodLink RJ0 495 yJ1_charAt_3b067) (gh_mem2 (p := 814) (by decide +kernel))) (by decide +kernel) ⟨by show (gj_rm 2 60).frames + 1 ≤ (gj_rm 3 90).frames; decide, by show 8 + (2 + 11) + (gj_rm 2 60).locals ≤ (gj_rm 3 90).locals; decide⟩, (hts (.static yJ1_charAt_3b067) (gh_mem2 (p := 815) (by decide +kernel)))⟩ ⟨gj_blind, fun U hU hW => ⟨rfl, hU, gh_J.warm hW hJ⟩⟩ rfl rfl hl.1 rfl (lv_room (Nat.le_of_ble_eq_true rfl)) dJ0_charAt_5068e_12 ⟨Nat.zero_le _, Nat.zero_le _⟩) hS1 (fun q _ h => h.elim) (fun q h => h.elim) (fun r_2 u2 t2 H2 locs2 ht2 hvm2 hw2 hB2 hz2 hk2 hS2 => ?_)
  have e2 : H2 = s.heap := ht2.symm.trans hB2
  subst e2
  subst hw2
  exact W.zret hx hb hr (gh_sc_nar i hi k hk) (fun t ht hW => ⟨⟨_, (), rfl, rfl, ht⟩, hS2.F ht⟩) hS2.2.2 dJ0_charAt_5068e_15
theorem gj_w_len : ((.methodLink RX6 93 yJ0_length_8abf5 : Jvm.Cond) ∈ gh_tbl) ∧ ((.methodLink RX6 98 yJ0_charAt_5068e : Jvm.Cond) ∈ gh_tbl) ∧ ((.initialized RJ0 : Jvm.Cond) ∈ gh_tbl) ∧ ((.instanceMethod yJ0_length_8abf5 : Jvm.Cond) ∈ gh_tbl) ∧ ((.instanceMethod yJ0_charAt_5068e : Jvm.Cond) ∈ gh_tbl) ∧ ((.selects RJ0 yJ0_length_8abf5 yJ0_length_8abf5 : Jvm.Cond) ∈ gh_tbl) ∧ ((.selects RJ0 yJ0_charAt_5068e yJ0_charAt_5068e : Jvm.Cond) ∈ gh_tbl) := ⟨gh_mem2 (p := 796) (by decide +kernel), gh_mem2 (p := 806) (by decide +kernel), gh_mem2 (p := 70) (by decide +kernel), gh_mem2 (p := 797) (by decide +kernel), gh_mem2 (p := 807) (by decide +kernel), gh_mem2 (p := 798) (by decide +kernel), gh_mem2 (p := 808) (by decide +kernel)⟩

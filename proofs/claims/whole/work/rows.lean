section
-- ===== PART A: goes FIRST, ahead of the names: the tables' words, and 'selects' of the private methods out of them =====
/-- a private method of a class that the tables say can be made, by its rows of tables_1 -/
def lw_okq (q : MethodName × Nat) : Prop := (q.1.cls ≠ "java/lang/invoke/MethodHandle" ∧ q.1.cls ≠ "java/lang/invoke/VarHandle") ∧ Cond.instantiable q.1.cls q.2 ∈ tables_1 ∧ Cond.privateMethod q.1 ∈ tables_1 ∧ Cond.instanceMethod q.1 ∈ tables_1
theorem lw_p0 : lw_okq (⟨"GrainHouse$Net", "spread", "(III)V"⟩, 10) := ⟨⟨by decide +kernel, by decide +kernel⟩, List.mem_of_getElem? (i := 77) (by decide +kernel), List.mem_of_getElem? (i := 440) (by decide +kernel), List.mem_of_getElem? (i := 441) (by decide +kernel)⟩
theorem lw_p1 : lw_okq (⟨"GrainHouse$Net", "costOf", "(II)I"⟩, 10) := ⟨⟨by decide +kernel, by decide +kernel⟩, List.mem_of_getElem? (i := 77) (by decide +kernel), List.mem_of_getElem? (i := 444) (by decide +kernel), List.mem_of_getElem? (i := 445) (by decide +kernel)⟩
theorem lw_p2 : lw_okq (⟨"GrainHouse$Net", "spreadOver", "(IIIII)V"⟩, 10) := ⟨⟨by decide +kernel, by decide +kernel⟩, List.mem_of_getElem? (i := 77) (by decide +kernel), List.mem_of_getElem? (i := 448) (by decide +kernel), List.mem_of_getElem? (i := 449) (by decide +kernel)⟩
theorem lw_p3 : lw_okq (⟨"GrainHouse$Net", "trace", "(II)V"⟩, 10) := ⟨⟨by decide +kernel, by decide +kernel⟩, List.mem_of_getElem? (i := 77) (by decide +kernel), List.mem_of_getElem? (i := 455) (by decide +kernel), List.mem_of_getElem? (i := 456) (by decide +kernel)⟩
theorem lw_p4 : lw_okq (⟨"GrainHouse$Net", "firstLeg", "(IIII)I"⟩, 10) := ⟨⟨by decide +kernel, by decide +kernel⟩, List.mem_of_getElem? (i := 77) (by decide +kernel), List.mem_of_getElem? (i := 459) (by decide +kernel), List.mem_of_getElem? (i := 460) (by decide +kernel)⟩
theorem lw_p5 : lw_okq (⟨"GrainHouse$Rush", "sortIn", "(I)V"⟩, 12) := ⟨⟨by decide +kernel, by decide +kernel⟩, List.mem_of_getElem? (i := 119) (by decide +kernel), List.mem_of_getElem? (i := 524) (by decide +kernel), List.mem_of_getElem? (i := 525) (by decide +kernel)⟩
theorem lw_p6 : lw_okq (⟨"GrainHouse$Rush", "tryAll", "(IIII)V"⟩, 12) := ⟨⟨by decide +kernel, by decide +kernel⟩, List.mem_of_getElem? (i := 119) (by decide +kernel), List.mem_of_getElem? (i := 545) (by decide +kernel), List.mem_of_getElem? (i := 546) (by decide +kernel)⟩
theorem lw_p7 : lw_okq (⟨"GrainHouse$Rush", "takes", "(II)I"⟩, 12) := ⟨⟨by decide +kernel, by decide +kernel⟩, List.mem_of_getElem? (i := 119) (by decide +kernel), List.mem_of_getElem? (i := 555) (by decide +kernel), List.mem_of_getElem? (i := 556) (by decide +kernel)⟩
theorem lw_p8 : lw_okq (⟨"GrainHouse$Rush", "atLeast", "(II)I"⟩, 12) := ⟨⟨by decide +kernel, by decide +kernel⟩, List.mem_of_getElem? (i := 119) (by decide +kernel), List.mem_of_getElem? (i := 559) (by decide +kernel), List.mem_of_getElem? (i := 560) (by decide +kernel)⟩
theorem lw_p9 : lw_okq (⟨"GrainHouse$Rush", "setEmpty", "()V"⟩, 12) := ⟨⟨by decide +kernel, by decide +kernel⟩, List.mem_of_getElem? (i := 119) (by decide +kernel), List.mem_of_getElem? (i := 563) (by decide +kernel), List.mem_of_getElem? (i := 564) (by decide +kernel)⟩
theorem lw_p10 : lw_okq (⟨"GrainHouse$FanPlan", "cheapest", "()Z"⟩, 15) := ⟨⟨by decide +kernel, by decide +kernel⟩, List.mem_of_getElem? (i := 167) (by decide +kernel), List.mem_of_getElem? (i := 609) (by decide +kernel), List.mem_of_getElem? (i := 610) (by decide +kernel)⟩
theorem lw_p11 : lw_okq (⟨"GrainHouse$FanPlan", "addHour", "(I)Z"⟩, 15) := ⟨⟨by decide +kernel, by decide +kernel⟩, List.mem_of_getElem? (i := 167) (by decide +kernel), List.mem_of_getElem? (i := 613) (by decide +kernel), List.mem_of_getElem? (i := 614) (by decide +kernel)⟩
theorem lw_p12 : lw_okq (⟨"GrainHouse$FanPlan", "reachBy", "(II)V"⟩, 15) := ⟨⟨by decide +kernel, by decide +kernel⟩, List.mem_of_getElem? (i := 167) (by decide +kernel), List.mem_of_getElem? (i := 617) (by decide +kernel), List.mem_of_getElem? (i := 618) (by decide +kernel)⟩
theorem lw_p13 : lw_okq (⟨"GrainHouse$FanPlan", "reach", "(III)V"⟩, 15) := ⟨⟨by decide +kernel, by decide +kernel⟩, List.mem_of_getElem? (i := 167) (by decide +kernel), List.mem_of_getElem? (i := 621) (by decide +kernel), List.mem_of_getElem? (i := 622) (by decide +kernel)⟩
theorem lw_p14 : lw_okq (⟨"GrainHouse$FanPlan", "reachFrom", "(II)V"⟩, 15) := ⟨⟨by decide +kernel, by decide +kernel⟩, List.mem_of_getElem? (i := 167) (by decide +kernel), List.mem_of_getElem? (i := 625) (by decide +kernel), List.mem_of_getElem? (i := 626) (by decide +kernel)⟩
theorem lw_p15 : lw_okq (⟨"GrainHouse$FanPlan", "shift", "(I)V"⟩, 15) := ⟨⟨by decide +kernel, by decide +kernel⟩, List.mem_of_getElem? (i := 167) (by decide +kernel), List.mem_of_getElem? (i := 629) (by decide +kernel), List.mem_of_getElem? (i := 630) (by decide +kernel)⟩
def lw_privs_1 : List (MethodName × Nat) := [(⟨"GrainHouse$Net", "spread", "(III)V"⟩, 10), (⟨"GrainHouse$Net", "costOf", "(II)I"⟩, 10), (⟨"GrainHouse$Net", "spreadOver", "(IIIII)V"⟩, 10), (⟨"GrainHouse$Net", "trace", "(II)V"⟩, 10), (⟨"GrainHouse$Net", "firstLeg", "(IIII)I"⟩, 10), (⟨"GrainHouse$Rush", "sortIn", "(I)V"⟩, 12), (⟨"GrainHouse$Rush", "tryAll", "(IIII)V"⟩, 12), (⟨"GrainHouse$Rush", "takes", "(II)I"⟩, 12), (⟨"GrainHouse$Rush", "atLeast", "(II)I"⟩, 12), (⟨"GrainHouse$Rush", "setEmpty", "()V"⟩, 12), (⟨"GrainHouse$FanPlan", "cheapest", "()Z"⟩, 15), (⟨"GrainHouse$FanPlan", "addHour", "(I)Z"⟩, 15), (⟨"GrainHouse$FanPlan", "reachBy", "(II)V"⟩, 15), (⟨"GrainHouse$FanPlan", "reach", "(III)V"⟩, 15), (⟨"GrainHouse$FanPlan", "reachFrom", "(II)V"⟩, 15), (⟨"GrainHouse$FanPlan", "shift", "(I)V"⟩, 15)]
theorem lw_r1 : ∀ q ∈ lw_privs_1, lw_okq q := List.forall_mem_cons.mpr ⟨lw_p0, List.forall_mem_cons.mpr ⟨lw_p1, List.forall_mem_cons.mpr ⟨lw_p2, List.forall_mem_cons.mpr ⟨lw_p3, List.forall_mem_cons.mpr ⟨lw_p4, List.forall_mem_cons.mpr ⟨lw_p5, List.forall_mem_cons.mpr ⟨lw_p6, List.forall_mem_cons.mpr ⟨lw_p7, List.forall_mem_cons.mpr ⟨lw_p8, List.forall_mem_cons.mpr ⟨lw_p9, List.forall_mem_cons.mpr ⟨lw_p10, List.forall_mem_cons.mpr ⟨lw_p11, List.forall_mem_cons.mpr ⟨lw_p12, List.forall_mem_cons.mpr ⟨lw_p13, List.forall_mem_cons.mpr ⟨lw_p14, List.forall_mem_cons.mpr ⟨lw_p15, fun _ h => absurd h List.not_mem_nil⟩⟩⟩⟩⟩⟩⟩⟩⟩⟩⟩⟩⟩⟩⟩⟩
theorem lw_p16 : lw_okq (⟨"GrainHouse$FanPlan", "paid", "()I"⟩, 15) := ⟨⟨by decide +kernel, by decide +kernel⟩, List.mem_of_getElem? (i := 167) (by decide +kernel), List.mem_of_getElem? (i := 633) (by decide +kernel), List.mem_of_getElem? (i := 634) (by decide +kernel)⟩
theorem lw_p17 : lw_okq (⟨"GrainHouse$FanPlan", "makeFirst", "()V"⟩, 15) := ⟨⟨by decide +kernel, by decide +kernel⟩, List.mem_of_getElem? (i := 167) (by decide +kernel), List.mem_of_getElem? (i := 637) (by decide +kernel), List.mem_of_getElem? (i := 638) (by decide +kernel)⟩
theorem lw_p18 : lw_okq (⟨"GrainHouse$FanPlan", "exchange", "(II)V"⟩, 15) := ⟨⟨by decide +kernel, by decide +kernel⟩, List.mem_of_getElem? (i := 167) (by decide +kernel), List.mem_of_getElem? (i := 641) (by decide +kernel), List.mem_of_getElem? (i := 642) (by decide +kernel)⟩
theorem lw_p19 : lw_okq (⟨"GrainHouse$FanPlan", "reachBySpare", "(I)V"⟩, 15) := ⟨⟨by decide +kernel, by decide +kernel⟩, List.mem_of_getElem? (i := 167) (by decide +kernel), List.mem_of_getElem? (i := 645) (by decide +kernel), List.mem_of_getElem? (i := 646) (by decide +kernel)⟩
theorem lw_p20 : lw_okq (⟨"GrainHouse$Blender", "reckon", "(LGrainHouse$Bins;I)V"⟩, 8) := ⟨⟨by decide +kernel, by decide +kernel⟩, List.mem_of_getElem? (i := 222) (by decide +kernel), List.mem_of_getElem? (i := 669) (by decide +kernel), List.mem_of_getElem? (i := 670) (by decide +kernel)⟩
theorem lw_p21 : lw_okq (⟨"GrainHouse$Blender", "tryAll", "(IJ)V"⟩, 8) := ⟨⟨by decide +kernel, by decide +kernel⟩, List.mem_of_getElem? (i := 222) (by decide +kernel), List.mem_of_getElem? (i := 677) (by decide +kernel), List.mem_of_getElem? (i := 678) (by decide +kernel)⟩
theorem lw_p22 : lw_okq (⟨"GrainHouse$Reader", "next", "(LGrainHouse$Tape;)V"⟩, 11) := ⟨⟨by decide +kernel, by decide +kernel⟩, List.mem_of_getElem? (i := 271) (by decide +kernel), List.mem_of_getElem? (i := 715) (by decide +kernel), List.mem_of_getElem? (i := 716) (by decide +kernel)⟩
theorem lw_p23 : lw_okq (⟨"GrainHouse$Reader", "readNumber", "(LGrainHouse$Tape;)V"⟩, 11) := ⟨⟨by decide +kernel, by decide +kernel⟩, List.mem_of_getElem? (i := 271) (by decide +kernel), List.mem_of_getElem? (i := 726) (by decide +kernel), List.mem_of_getElem? (i := 727) (by decide +kernel)⟩
theorem lw_p24 : lw_okq (⟨"GrainHouse$Reader", "faultHere", "(LGrainHouse$Tape;LGrainHouse$PriceList;)I"⟩, 11) := ⟨⟨by decide +kernel, by decide +kernel⟩, List.mem_of_getElem? (i := 271) (by decide +kernel), List.mem_of_getElem? (i := 732) (by decide +kernel), List.mem_of_getElem? (i := 733) (by decide +kernel)⟩
theorem lw_p25 : lw_okq (⟨"GrainHouse$Reader", "isWord", "(LGrainHouse$Tape;Ljava/lang/String;)Z"⟩, 11) := ⟨⟨by decide +kernel, by decide +kernel⟩, List.mem_of_getElem? (i := 271) (by decide +kernel), List.mem_of_getElem? (i := 737) (by decide +kernel), List.mem_of_getElem? (i := 738) (by decide +kernel)⟩
theorem lw_p26 : lw_okq (⟨"GrainHouse$Reader", "faultOfFirst", "(LGrainHouse$PriceList;)I"⟩, 11) := ⟨⟨by decide +kernel, by decide +kernel⟩, List.mem_of_getElem? (i := 271) (by decide +kernel), List.mem_of_getElem? (i := 794) (by decide +kernel), List.mem_of_getElem? (i := 795) (by decide +kernel)⟩
theorem lw_p27 : lw_okq (⟨"GrainHouse$Reader", "faultOfSecond", "()I"⟩, 11) := ⟨⟨by decide +kernel, by decide +kernel⟩, List.mem_of_getElem? (i := 271) (by decide +kernel), List.mem_of_getElem? (i := 807) (by decide +kernel), List.mem_of_getElem? (i := 808) (by decide +kernel)⟩
theorem lw_p28 : lw_okq (⟨"GrainHouse$Reader", "accept", "(LGrainHouse$Tape;LGrainHouse$PriceList;)V"⟩, 11) := ⟨⟨by decide +kernel, by decide +kernel⟩, List.mem_of_getElem? (i := 271) (by decide +kernel), List.mem_of_getElem? (i := 811) (by decide +kernel), List.mem_of_getElem? (i := 812) (by decide +kernel)⟩
theorem lw_p29 : lw_okq (⟨"GrainHouseModel", "canPut", "(III)Z"⟩, 63) := ⟨⟨by decide +kernel, by decide +kernel⟩, List.mem_of_getElem? (i := 873) (by decide +kernel), List.mem_of_getElem? (i := 1093) (by decide +kernel), List.mem_of_getElem? (i := 1094) (by decide +kernel)⟩
theorem lw_p30 : lw_okq (⟨"GrainHouseModel", "puts", "(IIIJ)V"⟩, 63) := ⟨⟨by decide +kernel, by decide +kernel⟩, List.mem_of_getElem? (i := 873) (by decide +kernel), List.mem_of_getElem? (i := 1097) (by decide +kernel), List.mem_of_getElem? (i := 1098) (by decide +kernel)⟩
theorem lw_p31 : lw_okq (⟨"GrainHouseModel", "isWay", "(III)Z"⟩, 63) := ⟨⟨by decide +kernel, by decide +kernel⟩, List.mem_of_getElem? (i := 873) (by decide +kernel), List.mem_of_getElem? (i := 1116) (by decide +kernel), List.mem_of_getElem? (i := 1117) (by decide +kernel)⟩
def lw_privs_2 : List (MethodName × Nat) := [(⟨"GrainHouse$FanPlan", "paid", "()I"⟩, 15), (⟨"GrainHouse$FanPlan", "makeFirst", "()V"⟩, 15), (⟨"GrainHouse$FanPlan", "exchange", "(II)V"⟩, 15), (⟨"GrainHouse$FanPlan", "reachBySpare", "(I)V"⟩, 15), (⟨"GrainHouse$Blender", "reckon", "(LGrainHouse$Bins;I)V"⟩, 8), (⟨"GrainHouse$Blender", "tryAll", "(IJ)V"⟩, 8), (⟨"GrainHouse$Reader", "next", "(LGrainHouse$Tape;)V"⟩, 11), (⟨"GrainHouse$Reader", "readNumber", "(LGrainHouse$Tape;)V"⟩, 11), (⟨"GrainHouse$Reader", "faultHere", "(LGrainHouse$Tape;LGrainHouse$PriceList;)I"⟩, 11), (⟨"GrainHouse$Reader", "isWord", "(LGrainHouse$Tape;Ljava/lang/String;)Z"⟩, 11), (⟨"GrainHouse$Reader", "faultOfFirst", "(LGrainHouse$PriceList;)I"⟩, 11), (⟨"GrainHouse$Reader", "faultOfSecond", "()I"⟩, 11), (⟨"GrainHouse$Reader", "accept", "(LGrainHouse$Tape;LGrainHouse$PriceList;)V"⟩, 11), (⟨"GrainHouseModel", "canPut", "(III)Z"⟩, 63), (⟨"GrainHouseModel", "puts", "(IIIJ)V"⟩, 63), (⟨"GrainHouseModel", "isWay", "(III)Z"⟩, 63)]
theorem lw_r2 : ∀ q ∈ lw_privs_2, lw_okq q := List.forall_mem_cons.mpr ⟨lw_p16, List.forall_mem_cons.mpr ⟨lw_p17, List.forall_mem_cons.mpr ⟨lw_p18, List.forall_mem_cons.mpr ⟨lw_p19, List.forall_mem_cons.mpr ⟨lw_p20, List.forall_mem_cons.mpr ⟨lw_p21, List.forall_mem_cons.mpr ⟨lw_p22, List.forall_mem_cons.mpr ⟨lw_p23, List.forall_mem_cons.mpr ⟨lw_p24, List.forall_mem_cons.mpr ⟨lw_p25, List.forall_mem_cons.mpr ⟨lw_p26, List.forall_mem_cons.mpr ⟨lw_p27, List.forall_mem_cons.mpr ⟨lw_p28, List.forall_mem_cons.mpr ⟨lw_p29, List.forall_mem_cons.mpr ⟨lw_p30, List.forall_mem_cons.mpr ⟨lw_p31, fun _ h => absurd h List.not_mem_nil⟩⟩⟩⟩⟩⟩⟩⟩⟩⟩⟩⟩⟩⟩⟩⟩
theorem lw_p32 : lw_okq (⟨"GrainHouseModel", "goes", "(II)V"⟩, 63) := ⟨⟨by decide +kernel, by decide +kernel⟩, List.mem_of_getElem? (i := 873) (by decide +kernel), List.mem_of_getElem? (i := 1120) (by decide +kernel), List.mem_of_getElem? (i := 1121) (by decide +kernel)⟩
theorem lw_p33 : lw_okq (⟨"GrainHouseModel", "lessens", "(IIIII)Z"⟩, 63) := ⟨⟨by decide +kernel, by decide +kernel⟩, List.mem_of_getElem? (i := 873) (by decide +kernel), List.mem_of_getElem? (i := 1125) (by decide +kernel), List.mem_of_getElem? (i := 1126) (by decide +kernel)⟩
theorem lw_p34 : lw_okq (⟨"GrainHouseModel", "legCost", "(II)I"⟩, 63) := ⟨⟨by decide +kernel, by decide +kernel⟩, List.mem_of_getElem? (i := 873) (by decide +kernel), List.mem_of_getElem? (i := 1129) (by decide +kernel), List.mem_of_getElem? (i := 1130) (by decide +kernel)⟩
theorem lw_p35 : lw_okq (⟨"GrainHouseModel", "nextLeg", "(III)I"⟩, 63) := ⟨⟨by decide +kernel, by decide +kernel⟩, List.mem_of_getElem? (i := 873) (by decide +kernel), List.mem_of_getElem? (i := 1137) (by decide +kernel), List.mem_of_getElem? (i := 1138) (by decide +kernel)⟩
theorem lw_p36 : lw_okq (⟨"GrainHouseModel", "dryOf", "(II)J"⟩, 63) := ⟨⟨by decide +kernel, by decide +kernel⟩, List.mem_of_getElem? (i := 873) (by decide +kernel), List.mem_of_getElem? (i := 1145) (by decide +kernel), List.mem_of_getElem? (i := 1146) (by decide +kernel)⟩
theorem lw_p37 : lw_okq (⟨"GrainHouseModel", "goesBy", "(III)I"⟩, 63) := ⟨⟨by decide +kernel, by decide +kernel⟩, List.mem_of_getElem? (i := 873) (by decide +kernel), List.mem_of_getElem? (i := 1149) (by decide +kernel), List.mem_of_getElem? (i := 1150) (by decide +kernel)⟩
theorem lw_p38 : lw_okq (⟨"GrainHouseModel", "takes", "(II)V"⟩, 63) := ⟨⟨by decide +kernel, by decide +kernel⟩, List.mem_of_getElem? (i := 873) (by decide +kernel), List.mem_of_getElem? (i := 1153) (by decide +kernel), List.mem_of_getElem? (i := 1154) (by decide +kernel)⟩
theorem lw_p39 : lw_okq (⟨"GrainHouseModel", "emptyAt", "(IZ)I"⟩, 63) := ⟨⟨by decide +kernel, by decide +kernel⟩, List.mem_of_getElem? (i := 873) (by decide +kernel), List.mem_of_getElem? (i := 1192) (by decide +kernel), List.mem_of_getElem? (i := 1193) (by decide +kernel)⟩
theorem lw_p40 : lw_okq (⟨"GrainHouseModel", "nextRow", "()Z"⟩, 63) := ⟨⟨by decide +kernel, by decide +kernel⟩, List.mem_of_getElem? (i := 873) (by decide +kernel), List.mem_of_getElem? (i := 1196) (by decide +kernel), List.mem_of_getElem? (i := 1197) (by decide +kernel)⟩
theorem lw_p41 : lw_okq (⟨"GrainHouseModel", "swaps", "(II)V"⟩, 63) := ⟨⟨by decide +kernel, by decide +kernel⟩, List.mem_of_getElem? (i := 873) (by decide +kernel), List.mem_of_getElem? (i := 1200) (by decide +kernel), List.mem_of_getElem? (i := 1201) (by decide +kernel)⟩
theorem lw_p42 : lw_okq (⟨"GrainHouseModel", "plans", "()I"⟩, 63) := ⟨⟨by decide +kernel, by decide +kernel⟩, List.mem_of_getElem? (i := 873) (by decide +kernel), List.mem_of_getElem? (i := 1227) (by decide +kernel), List.mem_of_getElem? (i := 1228) (by decide +kernel)⟩
theorem lw_p43 : lw_okq (⟨"GrainHouseModel", "walks", "(I)V"⟩, 63) := ⟨⟨by decide +kernel, by decide +kernel⟩, List.mem_of_getElem? (i := 873) (by decide +kernel), List.mem_of_getElem? (i := 1231) (by decide +kernel), List.mem_of_getElem? (i := 1232) (by decide +kernel)⟩
theorem lw_p44 : lw_okq (⟨"GrainHouseModel", "may", "(II)Z"⟩, 63) := ⟨⟨by decide +kernel, by decide +kernel⟩, List.mem_of_getElem? (i := 873) (by decide +kernel), List.mem_of_getElem? (i := 1235) (by decide +kernel), List.mem_of_getElem? (i := 1236) (by decide +kernel)⟩
theorem lw_p45 : lw_okq (⟨"GrainHouseModel", "reaches", "(III)Z"⟩, 63) := ⟨⟨by decide +kernel, by decide +kernel⟩, List.mem_of_getElem? (i := 873) (by decide +kernel), List.mem_of_getElem? (i := 1239) (by decide +kernel), List.mem_of_getElem? (i := 1240) (by decide +kernel)⟩
theorem lw_p46 : lw_okq (⟨"GrainHouseModel", "turns", "(II)V"⟩, 63) := ⟨⟨by decide +kernel, by decide +kernel⟩, List.mem_of_getElem? (i := 873) (by decide +kernel), List.mem_of_getElem? (i := 1243) (by decide +kernel), List.mem_of_getElem? (i := 1244) (by decide +kernel)⟩
theorem lw_p47 : lw_okq (⟨"GrainHouseModel", "isThere", "(II)Z"⟩, 63) := ⟨⟨by decide +kernel, by decide +kernel⟩, List.mem_of_getElem? (i := 873) (by decide +kernel), List.mem_of_getElem? (i := 1257) (by decide +kernel), List.mem_of_getElem? (i := 1258) (by decide +kernel)⟩
def lw_privs_3 : List (MethodName × Nat) := [(⟨"GrainHouseModel", "goes", "(II)V"⟩, 63), (⟨"GrainHouseModel", "lessens", "(IIIII)Z"⟩, 63), (⟨"GrainHouseModel", "legCost", "(II)I"⟩, 63), (⟨"GrainHouseModel", "nextLeg", "(III)I"⟩, 63), (⟨"GrainHouseModel", "dryOf", "(II)J"⟩, 63), (⟨"GrainHouseModel", "goesBy", "(III)I"⟩, 63), (⟨"GrainHouseModel", "takes", "(II)V"⟩, 63), (⟨"GrainHouseModel", "emptyAt", "(IZ)I"⟩, 63), (⟨"GrainHouseModel", "nextRow", "()Z"⟩, 63), (⟨"GrainHouseModel", "swaps", "(II)V"⟩, 63), (⟨"GrainHouseModel", "plans", "()I"⟩, 63), (⟨"GrainHouseModel", "walks", "(I)V"⟩, 63), (⟨"GrainHouseModel", "may", "(II)Z"⟩, 63), (⟨"GrainHouseModel", "reaches", "(III)Z"⟩, 63), (⟨"GrainHouseModel", "turns", "(II)V"⟩, 63), (⟨"GrainHouseModel", "isThere", "(II)Z"⟩, 63)]
theorem lw_r3 : ∀ q ∈ lw_privs_3, lw_okq q := List.forall_mem_cons.mpr ⟨lw_p32, List.forall_mem_cons.mpr ⟨lw_p33, List.forall_mem_cons.mpr ⟨lw_p34, List.forall_mem_cons.mpr ⟨lw_p35, List.forall_mem_cons.mpr ⟨lw_p36, List.forall_mem_cons.mpr ⟨lw_p37, List.forall_mem_cons.mpr ⟨lw_p38, List.forall_mem_cons.mpr ⟨lw_p39, List.forall_mem_cons.mpr ⟨lw_p40, List.forall_mem_cons.mpr ⟨lw_p41, List.forall_mem_cons.mpr ⟨lw_p42, List.forall_mem_cons.mpr ⟨lw_p43, List.forall_mem_cons.mpr ⟨lw_p44, List.forall_mem_cons.mpr ⟨lw_p45, List.forall_mem_cons.mpr ⟨lw_p46, List.forall_mem_cons.mpr ⟨lw_p47, fun _ h => absurd h List.not_mem_nil⟩⟩⟩⟩⟩⟩⟩⟩⟩⟩⟩⟩⟩⟩⟩⟩
theorem lw_p48 : lw_okq (⟨"GrainHouseModel", "blends", "(I)J"⟩, 63) := ⟨⟨by decide +kernel, by decide +kernel⟩, List.mem_of_getElem? (i := 873) (by decide +kernel), List.mem_of_getElem? (i := 1261) (by decide +kernel), List.mem_of_getElem? (i := 1262) (by decide +kernel)⟩
theorem lw_p49 : lw_okq (⟨"GrainHouseModel", "put", "(I)V"⟩, 63) := ⟨⟨by decide +kernel, by decide +kernel⟩, List.mem_of_getElem? (i := 873) (by decide +kernel), List.mem_of_getElem? (i := 1273) (by decide +kernel), List.mem_of_getElem? (i := 1274) (by decide +kernel)⟩
theorem lw_p50 : lw_okq (⟨"GrainHouseModel", "next", "(I)V"⟩, 63) := ⟨⟨by decide +kernel, by decide +kernel⟩, List.mem_of_getElem? (i := 873) (by decide +kernel), List.mem_of_getElem? (i := 1285) (by decide +kernel), List.mem_of_getElem? (i := 1286) (by decide +kernel)⟩
theorem lw_p51 : lw_okq (⟨"GrainHouseModel", "clause", "(I)V"⟩, 63) := ⟨⟨by decide +kernel, by decide +kernel⟩, List.mem_of_getElem? (i := 873) (by decide +kernel), List.mem_of_getElem? (i := 1305) (by decide +kernel), List.mem_of_getElem? (i := 1306) (by decide +kernel)⟩
theorem lw_p52 : lw_okq (⟨"GrainHouseModel", "errs", "(I)V"⟩, 63) := ⟨⟨by decide +kernel, by decide +kernel⟩, List.mem_of_getElem? (i := 873) (by decide +kernel), List.mem_of_getElem? (i := 1309) (by decide +kernel), List.mem_of_getElem? (i := 1310) (by decide +kernel)⟩
theorem lw_p53 : lw_okq (⟨"GrainHouseModel", "wasDock", "(I)Z"⟩, 63) := ⟨⟨by decide +kernel, by decide +kernel⟩, List.mem_of_getElem? (i := 873) (by decide +kernel), List.mem_of_getElem? (i := 1313) (by decide +kernel), List.mem_of_getElem? (i := 1314) (by decide +kernel)⟩
theorem lw_p54 : lw_okq (⟨"GrainHouseModel", "number", "(III)I"⟩, 63) := ⟨⟨by decide +kernel, by decide +kernel⟩, List.mem_of_getElem? (i := 873) (by decide +kernel), List.mem_of_getElem? (i := 1317) (by decide +kernel), List.mem_of_getElem? (i := 1318) (by decide +kernel)⟩
theorem lw_p55 : lw_okq (⟨"GrainHouseModel", "worthOf", "(I)I"⟩, 63) := ⟨⟨by decide +kernel, by decide +kernel⟩, List.mem_of_getElem? (i := 873) (by decide +kernel), List.mem_of_getElem? (i := 1329) (by decide +kernel), List.mem_of_getElem? (i := 1330) (by decide +kernel)⟩
def lw_privs_4 : List (MethodName × Nat) := [(⟨"GrainHouseModel", "blends", "(I)J"⟩, 63), (⟨"GrainHouseModel", "put", "(I)V"⟩, 63), (⟨"GrainHouseModel", "next", "(I)V"⟩, 63), (⟨"GrainHouseModel", "clause", "(I)V"⟩, 63), (⟨"GrainHouseModel", "errs", "(I)V"⟩, 63), (⟨"GrainHouseModel", "wasDock", "(I)Z"⟩, 63), (⟨"GrainHouseModel", "number", "(III)I"⟩, 63), (⟨"GrainHouseModel", "worthOf", "(I)I"⟩, 63)]
theorem lw_r4 : ∀ q ∈ lw_privs_4, lw_okq q := List.forall_mem_cons.mpr ⟨lw_p48, List.forall_mem_cons.mpr ⟨lw_p49, List.forall_mem_cons.mpr ⟨lw_p50, List.forall_mem_cons.mpr ⟨lw_p51, List.forall_mem_cons.mpr ⟨lw_p52, List.forall_mem_cons.mpr ⟨lw_p53, List.forall_mem_cons.mpr ⟨lw_p54, List.forall_mem_cons.mpr ⟨lw_p55, fun _ h => absurd h List.not_mem_nil⟩⟩⟩⟩⟩⟩⟩⟩
def lw_privs : List (MethodName × Nat) := lw_privs_1 ++ (lw_privs_2 ++ (lw_privs_3 ++ (lw_privs_4)))
def lw_tbl : List Cond := k2_sels lw_privs ++ tables_1
theorem lw_privs_ok : ∀ q ∈ lw_privs, lw_okq q := by
  show ∀ q ∈ lw_privs_1 ++ (lw_privs_2 ++ (lw_privs_3 ++ (lw_privs_4))), lw_okq q
  exact List.forall_mem_append.mpr ⟨lw_r1, List.forall_mem_append.mpr ⟨lw_r2, List.forall_mem_append.mpr ⟨lw_r3, lw_r4⟩⟩⟩

def RX0 : String := "GrainHouse$Bins"
def TX0 : u_T := fun k => match k with
  | 0 => ("GrainHouse$Bins", "kind", "[I", true)
  | 1 => ("GrainHouse$Bins", "kg", "[I", true)
  | 2 => ("GrainHouse$Bins", "room", "[I", true)
  | _ => ("GrainHouse$Bins", "grams", "[J", true)
def tyX0 : Nat → FieldType := fun k => match k with
  | 0 => .array .int
  | 1 => .array .int
  | 2 => .array .int
  | _ => .array .long
theorem nmX0 : ∀ a, a < 4 → ∀ b, b < 4 → a ≠ b → (TX0 a).2.1 ≠ (TX0 b).2.1 := by decide +kernel
theorem tyX0_ok : ∀ k, k < 4 → parseFieldDescriptor (TX0 k).2.2.1 = some (tyX0 k) := by decide +kernel
abbrev cX0_init : ByteArray := prog_2_method_1_code
def yX0_init : MethodName := ⟨RX0, "<init>", "()V"⟩
abbrev cX0_has : ByteArray := prog_2_method_2_code
def yX0_has : MethodName := ⟨RX0, "has", "(II)Z"⟩
abbrev cX0_canTake : ByteArray := prog_2_method_3_code
def yX0_canTake : MethodName := ⟨RX0, "canTake", "(II)Z"⟩
abbrev cX0_canPut : ByteArray := prog_2_method_4_code
def yX0_canPut : MethodName := ⟨RX0, "canPut", "(III)Z"⟩
abbrev cX0_part : ByteArray := prog_2_method_5_code
def yX0_part : MethodName := ⟨RX0, "part", "(II)J"⟩
abbrev cX0_take : ByteArray := prog_2_method_6_code
def yX0_take : MethodName := ⟨RX0, "take", "(II)J"⟩
abbrev cX0_put : ByteArray := prog_2_method_7_code
def yX0_put : MethodName := ⟨RX0, "put", "(IIIJ)V"⟩
abbrev cX0_moist : ByteArray := prog_2_method_8_code
def yX0_moist : MethodName := ⟨RX0, "moist", "(I)I"⟩
abbrev cX0_allGrams : ByteArray := prog_2_method_9_code
def yX0_allGrams : MethodName := ⟨RX0, "allGrams", "()J"⟩
def RX1 : String := "GrainHouse$Blender"
def TX1 : u_T := fun k => match k with
  | 0 => ("GrainHouse$Blender", "from", "[I", true)
  | 1 => ("GrainHouse$Blender", "most", "[I", true)
  | 2 => ("GrainHouse$Blender", "grams", "[J", true)
  | 3 => ("GrainHouse$Blender", "wettest", "[I", true)
  | 4 => ("GrainHouse$Blender", "chosen", "I", false)
  | 5 => ("GrainHouse$Blender", "leastGrams", "J", false)
  | 6 => ("GrainHouse$Blender", "tons", "[I", true)
  | _ => ("GrainHouse$Blender", "told", "Z", false)
def tyX1 : Nat → FieldType := fun k => match k with
  | 0 => .array .int
  | 1 => .array .int
  | 2 => .array .long
  | 3 => .array .int
  | 4 => .int
  | 5 => .long
  | 6 => .array .int
  | _ => .boolean
theorem nmX1 : ∀ a, a < 8 → ∀ b, b < 8 → a ≠ b → (TX1 a).2.1 ≠ (TX1 b).2.1 := by decide +kernel
theorem tyX1_ok : ∀ k, k < 8 → parseFieldDescriptor (TX1 k).2.2.1 = some (tyX1 k) := by decide +kernel
abbrev cX1_init : ByteArray := prog_3_method_1_code
def yX1_init : MethodName := ⟨RX1, "<init>", "()V"⟩
abbrev cX1_choose : ByteArray := prog_3_method_2_code
def yX1_choose : MethodName := ⟨RX1, "choose", "(LGrainHouse$Bins;II)Z"⟩
abbrev cX1_best : ByteArray := prog_3_method_3_code
def yX1_best : MethodName := ⟨RX1, "best", "(LGrainHouse$Bins;II)J"⟩
abbrev cX1_reckon : ByteArray := prog_3_method_4_code
def yX1_reckon : MethodName := ⟨RX1, "reckon", "(LGrainHouse$Bins;I)V"⟩
abbrev cX1_tryAll : ByteArray := prog_3_method_5_code
def yX1_tryAll : MethodName := ⟨RX1, "tryAll", "(IJ)V"⟩
def RX2 : String := "GrainHouse$FanPlan"
def TX2 : u_T := fun k => match k with
  | 0 => ("GrainHouse$FanPlan", "isDry", "[Z", true)
  | 1 => ("GrainHouse$FanPlan", "price", "[I", true)
  | 2 => ("GrainHouse$FanPlan", "need", "[I", true)
  | 3 => ("GrainHouse$FanPlan", "limit", "[I", true)
  | 4 => ("GrainHouse$FanPlan", "open", "[I", true)
  | 5 => ("GrainHouse$FanPlan", "used", "[I", true)
  | 6 => ("GrainHouse$FanPlan", "queue", "[I", true)
  | 7 => ("GrainHouse$FanPlan", "byBin", "[I", true)
  | 8 => ("GrainHouse$FanPlan", "fromHour", "[I", true)
  | 9 => ("GrainHouse$FanPlan", "on", "[I", true)
  | 10 => ("GrainHouse$FanPlan", "power", "I", false)
  | 11 => ("GrainHouse$FanPlan", "queued", "I", false)
  | 12 => ("GrainHouse$FanPlan", "seen", "I", false)
  | 13 => ("GrainHouse$FanPlan", "total", "I", false)
  | _ => ("GrainHouse$FanPlan", "known", "Z", false)
def tyX2 : Nat → FieldType := fun k => match k with
  | 0 => .array .boolean
  | 1 => .array .int
  | 2 => .array .int
  | 3 => .array .int
  | 4 => .array .int
  | 5 => .array .int
  | 6 => .array .int
  | 7 => .array .int
  | 8 => .array .int
  | 9 => .array .int
  | 10 => .int
  | 11 => .int
  | 12 => .int
  | 13 => .int
  | _ => .boolean
theorem nmX2 : ∀ a, a < 15 → ∀ b, b < 15 → a ≠ b → (TX2 a).2.1 ≠ (TX2 b).2.1 := by decide +kernel
theorem tyX2_ok : ∀ k, k < 15 → parseFieldDescriptor (TX2 k).2.2.1 = some (tyX2 k) := by decide +kernel
abbrev cX2_init : ByteArray := prog_4_method_1_code
def yX2_init : MethodName := ⟨RX2, "<init>", "()V"⟩
abbrev cX2_setHour : ByteArray := prog_4_method_2_code
def yX2_setHour : MethodName := ⟨RX2, "setHour", "(IZI)Z"⟩
abbrev cX2_setPower : ByteArray := prog_4_method_3_code
def yX2_setPower : MethodName := ⟨RX2, "setPower", "(I)Z"⟩
abbrev cX2_setNeed : ByteArray := prog_4_method_4_code
def yX2_setNeed : MethodName := ⟨RX2, "setNeed", "(III)Z"⟩
abbrev cX2_cost : ByteArray := prog_4_method_5_code
def yX2_cost : MethodName := ⟨RX2, "cost", "()I"⟩
abbrev cX2_paid : ByteArray := prog_4_method_6_code
def yX2_paid : MethodName := ⟨RX2, "paid", "()I"⟩
abbrev cX2_cheapest : ByteArray := prog_4_method_7_code
def yX2_cheapest : MethodName := ⟨RX2, "cheapest", "()Z"⟩
abbrev cX2_addHour : ByteArray := prog_4_method_8_code
def yX2_addHour : MethodName := ⟨RX2, "addHour", "(I)Z"⟩
abbrev cX2_reachBy : ByteArray := prog_4_method_9_code
def yX2_reachBy : MethodName := ⟨RX2, "reachBy", "(II)V"⟩
abbrev cX2_reach : ByteArray := prog_4_method_10_code
def yX2_reach : MethodName := ⟨RX2, "reach", "(III)V"⟩
abbrev cX2_reachFrom : ByteArray := prog_4_method_11_code
def yX2_reachFrom : MethodName := ⟨RX2, "reachFrom", "(II)V"⟩
abbrev cX2_shift : ByteArray := prog_4_method_12_code
def yX2_shift : MethodName := ⟨RX2, "shift", "(I)V"⟩
abbrev cX2_makeFirst : ByteArray := prog_4_method_13_code
def yX2_makeFirst : MethodName := ⟨RX2, "makeFirst", "()V"⟩
abbrev cX2_exchange : ByteArray := prog_4_method_14_code
def yX2_exchange : MethodName := ⟨RX2, "exchange", "(II)V"⟩
abbrev cX2_reachBySpare : ByteArray := prog_4_method_15_code
def yX2_reachBySpare : MethodName := ⟨RX2, "reachBySpare", "(I)V"⟩
def RX3 : String := "GrainHouse$Loads"
def TX3 : u_T := fun k => match k with
  | 0 => ("GrainHouse$Loads", "farmer", "[I", true)
  | 1 => ("GrainHouse$Loads", "kind", "[I", true)
  | 2 => ("GrainHouse$Loads", "moist", "[I", true)
  | 3 => ("GrainHouse$Loads", "grams", "[I", true)
  | _ => ("GrainHouse$Loads", "count", "I", false)
def tyX3 : Nat → FieldType := fun k => match k with
  | 0 => .array .int
  | 1 => .array .int
  | 2 => .array .int
  | 3 => .array .int
  | _ => .int
theorem nmX3 : ∀ a, a < 5 → ∀ b, b < 5 → a ≠ b → (TX3 a).2.1 ≠ (TX3 b).2.1 := by decide +kernel
theorem tyX3_ok : ∀ k, k < 5 → parseFieldDescriptor (TX3 k).2.2.1 = some (tyX3 k) := by decide +kernel
abbrev cX3_init : ByteArray := prog_5_method_1_code
def yX3_init : MethodName := ⟨RX3, "<init>", "()V"⟩
abbrev cX3_isFull : ByteArray := prog_5_method_2_code
def yX3_isFull : MethodName := ⟨RX3, "isFull", "()Z"⟩
abbrev cX3_add : ByteArray := prog_5_method_3_code
def yX3_add : MethodName := ⟨RX3, "add", "(IIIJ)I"⟩
abbrev cX3_value : ByteArray := prog_5_method_4_code
def yX3_value : MethodName := ⟨RX3, "value", "(ILGrainHouse$PriceList;)I"⟩
abbrev cX3_valueOf : ByteArray := prog_5_method_5_code
def yX3_valueOf : MethodName := ⟨RX3, "valueOf", "(ILGrainHouse$PriceList;)J"⟩
abbrev cX3_gramsOf : ByteArray := prog_5_method_6_code
def yX3_gramsOf : MethodName := ⟨RX3, "gramsOf", "(I)J"⟩
abbrev cX3_countOf : ByteArray := prog_5_method_7_code
def yX3_countOf : MethodName := ⟨RX3, "countOf", "(I)I"⟩
abbrev cX3_allGrams : ByteArray := prog_5_method_8_code
def yX3_allGrams : MethodName := ⟨RX3, "allGrams", "()J"⟩
def RX4 : String := "GrainHouse$Net"
def TX4 : u_T := fun k => match k with
  | 0 => ("GrainHouse$Net", "one", "[I", true)
  | 1 => ("GrainHouse$Net", "other", "[I", true)
  | 2 => ("GrainHouse$Net", "minutes", "[I", true)
  | 3 => ("GrainHouse$Net", "last", "[I", true)
  | 4 => ("GrainHouse$Net", "left", "[I", true)
  | 5 => ("GrainHouse$Net", "path", "[I", true)
  | 6 => ("GrainHouse$Net", "steps", "I", false)
  | 7 => ("GrainHouse$Net", "count", "I", false)
  | 8 => ("GrainHouse$Net", "cleanMinutes", "I", false)
  | _ => ("GrainHouse$Net", "minutesUsed", "J", false)
def tyX4 : Nat → FieldType := fun k => match k with
  | 0 => .array .int
  | 1 => .array .int
  | 2 => .array .int
  | 3 => .array .int
  | 4 => .array .int
  | 5 => .array .int
  | 6 => .int
  | 7 => .int
  | 8 => .int
  | _ => .long
theorem nmX4 : ∀ a, a < 10 → ∀ b, b < 10 → a ≠ b → (TX4 a).2.1 ≠ (TX4 b).2.1 := by decide +kernel
theorem tyX4_ok : ∀ k, k < 10 → parseFieldDescriptor (TX4 k).2.2.1 = some (tyX4 k) := by decide +kernel
abbrev cX4_init : ByteArray := prog_6_method_1_code
def yX4_init : MethodName := ⟨RX4, "<init>", "()V"⟩
abbrev cX4_add : ByteArray := prog_6_method_2_code
def yX4_add : MethodName := ⟨RX4, "add", "(III)I"⟩
abbrev cX4_find : ByteArray := prog_6_method_3_code
def yX4_find : MethodName := ⟨RX4, "find", "(III)I"⟩
abbrev cX4_costOf : ByteArray := prog_6_method_4_code
def yX4_costOf : MethodName := ⟨RX4, "costOf", "(II)I"⟩
abbrev cX4_spread : ByteArray := prog_6_method_5_code
def yX4_spread : MethodName := ⟨RX4, "spread", "(III)V"⟩
abbrev cX4_spreadOver : ByteArray := prog_6_method_6_code
def yX4_spreadOver : MethodName := ⟨RX4, "spreadOver", "(IIIII)V"⟩
abbrev cX4_trace : ByteArray := prog_6_method_7_code
def yX4_trace : MethodName := ⟨RX4, "trace", "(II)V"⟩
abbrev cX4_firstLeg : ByteArray := prog_6_method_8_code
def yX4_firstLeg : MethodName := ⟨RX4, "firstLeg", "(IIII)I"⟩
abbrev cX4_goBy : ByteArray := prog_6_method_9_code
def yX4_goBy : MethodName := ⟨RX4, "goBy", "(II)V"⟩
def RX5 : String := "GrainHouse$PriceList"
def TX5 : u_T := fun k => match k with
  | 0 => ("GrainHouse$PriceList", "price", "[I", true)
  | 1 => ("GrainHouse$PriceList", "priced", "[Z", true)
  | 2 => ("GrainHouse$PriceList", "dockAbove", "[I", true)
  | 3 => ("GrainHouse$PriceList", "dockLoss", "[I", true)
  | _ => ("GrainHouse$PriceList", "docks", "I", false)
def tyX5 : Nat → FieldType := fun k => match k with
  | 0 => .array .int
  | 1 => .array .boolean
  | 2 => .array .int
  | 3 => .array .int
  | _ => .int
theorem nmX5 : ∀ a, a < 5 → ∀ b, b < 5 → a ≠ b → (TX5 a).2.1 ≠ (TX5 b).2.1 := by decide +kernel
theorem tyX5_ok : ∀ k, k < 5 → parseFieldDescriptor (TX5 k).2.2.1 = some (tyX5 k) := by decide +kernel
abbrev cX5_init : ByteArray := prog_7_method_1_code
def yX5_init : MethodName := ⟨RX5, "<init>", "()V"⟩
abbrev cX5_clear : ByteArray := prog_7_method_2_code
def yX5_clear : MethodName := ⟨RX5, "clear", "()V"⟩
abbrev cX5_hasPrice : ByteArray := prog_7_method_3_code
def yX5_hasPrice : MethodName := ⟨RX5, "hasPrice", "(I)Z"⟩
abbrev cX5_hasDock : ByteArray := prog_7_method_4_code
def yX5_hasDock : MethodName := ⟨RX5, "hasDock", "(I)Z"⟩
abbrev cX5_isFull : ByteArray := prog_7_method_5_code
def yX5_isFull : MethodName := ⟨RX5, "isFull", "()Z"⟩
abbrev cX5_addPrice : ByteArray := prog_7_method_6_code
def yX5_addPrice : MethodName := ⟨RX5, "addPrice", "(II)V"⟩
abbrev cX5_addDock : ByteArray := prog_7_method_7_code
def yX5_addDock : MethodName := ⟨RX5, "addDock", "(II)V"⟩
abbrev cX5_value : ByteArray := prog_7_method_8_code
def yX5_value : MethodName := ⟨RX5, "value", "(III)I"⟩
def RX6 : String := "GrainHouse$Reader"
def TX6 : u_T := fun k => match k with
  | 0 => ("GrainHouse$Reader", "used", "Z", false)
  | 1 => ("GrainHouse$Reader", "fault", "I", false)
  | 2 => ("GrainHouse$Reader", "place", "I", false)
  | 3 => ("GrainHouse$Reader", "at", "I", false)
  | 4 => ("GrainHouse$Reader", "start", "I", false)
  | 5 => ("GrainHouse$Reader", "token", "I", false)
  | 6 => ("GrainHouse$Reader", "number", "I", false)
  | 7 => ("GrainHouse$Reader", "step", "I", false)
  | 8 => ("GrainHouse$Reader", "isDock", "Z", false)
  | 9 => ("GrainHouse$Reader", "first", "I", false)
  | _ => ("GrainHouse$Reader", "clauses", "I", false)
def tyX6 : Nat → FieldType := fun k => match k with
  | 0 => .boolean
  | 1 => .int
  | 2 => .int
  | 3 => .int
  | 4 => .int
  | 5 => .int
  | 6 => .int
  | 7 => .int
  | 8 => .boolean
  | 9 => .int
  | _ => .int
theorem nmX6 : ∀ a, a < 11 → ∀ b, b < 11 → a ≠ b → (TX6 a).2.1 ≠ (TX6 b).2.1 := by decide +kernel
theorem tyX6_ok : ∀ k, k < 11 → parseFieldDescriptor (TX6 k).2.2.1 = some (tyX6 k) := by decide +kernel
abbrev cX6_init : ByteArray := prog_8_method_1_code
def yX6_init : MethodName := ⟨RX6, "<init>", "()V"⟩
abbrev cX6_read : ByteArray := prog_8_method_2_code
def yX6_read : MethodName := ⟨RX6, "read", "(LGrainHouse$Tape;LGrainHouse$PriceList;)I"⟩
abbrev cX6_next : ByteArray := prog_8_method_3_code
def yX6_next : MethodName := ⟨RX6, "next", "(LGrainHouse$Tape;)V"⟩
abbrev cX6_readNumber : ByteArray := prog_8_method_4_code
def yX6_readNumber : MethodName := ⟨RX6, "readNumber", "(LGrainHouse$Tape;)V"⟩
abbrev cX6_isLetter : ByteArray := prog_8_method_5_code
def yX6_isLetter : MethodName := ⟨RX6, "isLetter", "(I)Z"⟩
abbrev cX6_isDigit : ByteArray := prog_8_method_6_code
def yX6_isDigit : MethodName := ⟨RX6, "isDigit", "(I)Z"⟩
abbrev cX6_isWord : ByteArray := prog_8_method_7_code
def yX6_isWord : MethodName := ⟨RX6, "isWord", "(LGrainHouse$Tape;Ljava/lang/String;)Z"⟩
abbrev cX6_faultHere : ByteArray := prog_8_method_8_code
def yX6_faultHere : MethodName := ⟨RX6, "faultHere", "(LGrainHouse$Tape;LGrainHouse$PriceList;)I"⟩
abbrev cX6_faultOfFirst : ByteArray := prog_8_method_9_code
def yX6_faultOfFirst : MethodName := ⟨RX6, "faultOfFirst", "(LGrainHouse$PriceList;)I"⟩
abbrev cX6_faultOfSecond : ByteArray := prog_8_method_10_code
def yX6_faultOfSecond : MethodName := ⟨RX6, "faultOfSecond", "()I"⟩
abbrev cX6_accept : ByteArray := prog_8_method_11_code
def yX6_accept : MethodName := ⟨RX6, "accept", "(LGrainHouse$Tape;LGrainHouse$PriceList;)V"⟩
def RX7 : String := "GrainHouse$Rush"
def TX7 : u_T := fun k => match k with
  | 0 => ("GrainHouse$Rush", "minute", "[I", true)
  | 1 => ("GrainHouse$Rush", "kind", "[I", true)
  | 2 => ("GrainHouse$Rush", "weight", "[I", true)
  | 3 => ("GrainHouse$Rush", "heaviest", "[I", true)
  | 4 => ("GrainHouse$Rush", "trial", "[I", true)
  | 5 => ("GrainHouse$Rush", "order", "[I", true)
  | 6 => ("GrainHouse$Rush", "empty", "[I", true)
  | 7 => ("GrainHouse$Rush", "count", "I", false)
  | 8 => ("GrainHouse$Rush", "unloadMinutes", "I", false)
  | 9 => ("GrainHouse$Rush", "changeMinutes", "I", false)
  | 10 => ("GrainHouse$Rush", "least", "I", false)
  | _ => ("GrainHouse$Rush", "known", "Z", false)
def tyX7 : Nat → FieldType := fun k => match k with
  | 0 => .array .int
  | 1 => .array .int
  | 2 => .array .int
  | 3 => .array .int
  | 4 => .array .int
  | 5 => .array .int
  | 6 => .array .int
  | 7 => .int
  | 8 => .int
  | 9 => .int
  | 10 => .int
  | _ => .boolean
theorem nmX7 : ∀ a, a < 12 → ∀ b, b < 12 → a ≠ b → (TX7 a).2.1 ≠ (TX7 b).2.1 := by decide +kernel
theorem tyX7_ok : ∀ k, k < 12 → parseFieldDescriptor (TX7 k).2.2.1 = some (tyX7 k) := by decide +kernel
abbrev cX7_init : ByteArray := prog_9_method_1_code
def yX7_init : MethodName := ⟨RX7, "<init>", "()V"⟩
abbrev cX7_add : ByteArray := prog_9_method_2_code
def yX7_add : MethodName := ⟨RX7, "add", "(III)I"⟩
abbrev cX7_sortIn : ByteArray := prog_9_method_3_code
def yX7_sortIn : MethodName := ⟨RX7, "sortIn", "(I)V"⟩
abbrev cX7_setPit : ByteArray := prog_9_method_4_code
def yX7_setPit : MethodName := ⟨RX7, "setPit", "(II)V"⟩
abbrev cX7_clear : ByteArray := prog_9_method_5_code
def yX7_clear : MethodName := ⟨RX7, "clear", "()I"⟩
abbrev cX7_waits : ByteArray := prog_9_method_6_code
def yX7_waits : MethodName := ⟨RX7, "waits", "()I"⟩
abbrev cX7_tryAll : ByteArray := prog_9_method_7_code
def yX7_tryAll : MethodName := ⟨RX7, "tryAll", "(IIII)V"⟩
abbrev cX7_takes : ByteArray := prog_9_method_8_code
def yX7_takes : MethodName := ⟨RX7, "takes", "(II)I"⟩
abbrev cX7_atLeast : ByteArray := prog_9_method_9_code
def yX7_atLeast : MethodName := ⟨RX7, "atLeast", "(II)I"⟩
abbrev cX7_setEmpty : ByteArray := prog_9_method_10_code
def yX7_setEmpty : MethodName := ⟨RX7, "setEmpty", "()V"⟩
def RX8 : String := "GrainHouse$Tape"
def TX8 : u_T := fun k => match k with
  | 0 => ("GrainHouse$Tape", "bytes", "[I", true)
  | _ => ("GrainHouse$Tape", "length", "I", false)
def tyX8 : Nat → FieldType := fun k => match k with
  | 0 => .array .int
  | _ => .int
theorem nmX8 : ∀ a, a < 2 → ∀ b, b < 2 → a ≠ b → (TX8 a).2.1 ≠ (TX8 b).2.1 := by decide +kernel
theorem tyX8_ok : ∀ k, k < 2 → parseFieldDescriptor (TX8 k).2.2.1 = some (tyX8 k) := by decide +kernel
abbrev cX8_init : ByteArray := prog_10_method_1_code
def yX8_init : MethodName := ⟨RX8, "<init>", "()V"⟩
abbrev cX8_hasRoom : ByteArray := prog_10_method_2_code
def yX8_hasRoom : MethodName := ⟨RX8, "hasRoom", "(I)Z"⟩
abbrev cX8_put : ByteArray := prog_10_method_3_code
def yX8_put : MethodName := ⟨RX8, "put", "(I)V"⟩
def RX9 : String := "GrainHouse"
def TX9 : u_T := fun k => match k with
  | 0 => ("GrainHouse", "bins", "LGrainHouse$Bins;", true)
  | 1 => ("GrainHouse", "loads", "LGrainHouse$Loads;", true)
  | 2 => ("GrainHouse", "net", "LGrainHouse$Net;", true)
  | 3 => ("GrainHouse", "queue", "LGrainHouse$Rush;", true)
  | 4 => ("GrainHouse", "plan", "LGrainHouse$FanPlan;", true)
  | 5 => ("GrainHouse", "blender", "LGrainHouse$Blender;", true)
  | 6 => ("GrainHouse", "tape", "LGrainHouse$Tape;", true)
  | 7 => ("GrainHouse", "reader", "LGrainHouse$Reader;", true)
  | 8 => ("GrainHouse", "prices", "LGrainHouse$PriceList;", false)
  | 9 => ("GrainHouse", "spare", "LGrainHouse$PriceList;", false)
  | 10 => ("GrainHouse", "water", "J", false)
  | 11 => ("GrainHouse", "shippedKg", "J", false)
  | _ => ("GrainHouse", "shippedDry", "J", false)
def tyX9 : Nat → FieldType := fun k => match k with
  | 0 => .object "GrainHouse$Bins"
  | 1 => .object "GrainHouse$Loads"
  | 2 => .object "GrainHouse$Net"
  | 3 => .object "GrainHouse$Rush"
  | 4 => .object "GrainHouse$FanPlan"
  | 5 => .object "GrainHouse$Blender"
  | 6 => .object "GrainHouse$Tape"
  | 7 => .object "GrainHouse$Reader"
  | 8 => .object "GrainHouse$PriceList"
  | 9 => .object "GrainHouse$PriceList"
  | 10 => .long
  | 11 => .long
  | _ => .long
theorem nmX9 : ∀ a, a < 13 → ∀ b, b < 13 → a ≠ b → (TX9 a).2.1 ≠ (TX9 b).2.1 := by decide +kernel
theorem tyX9_ok : ∀ k, k < 13 → parseFieldDescriptor (TX9 k).2.2.1 = some (tyX9 k) := by decide +kernel
abbrev cX9_init : ByteArray := prog_1_method_1_code
def yX9_init : MethodName := ⟨RX9, "<init>", "()V"⟩
abbrev cX9_holds : ByteArray := prog_1_method_2_code
def yX9_holds : MethodName := ⟨RX9, "holds", "(II)Z"⟩
abbrev cX9_load : ByteArray := prog_1_method_3_code
def yX9_load : MethodName := ⟨RX9, "load", "(IIIII)I"⟩
abbrev cX9_leg : ByteArray := prog_1_method_4_code
def yX9_leg : MethodName := ⟨RX9, "leg", "(III)I"⟩
abbrev cX9_cleaning : ByteArray := prog_1_method_5_code
def yX9_cleaning : MethodName := ⟨RX9, "cleaning", "(I)Z"⟩
abbrev cX9_way : ByteArray := prog_1_method_6_code
def yX9_way : MethodName := ⟨RX9, "way", "(III)I"⟩
abbrev cX9_wayLeg : ByteArray := prog_1_method_7_code
def yX9_wayLeg : MethodName := ⟨RX9, "wayLeg", "(IIII)I"⟩
abbrev cX9_move : ByteArray := prog_1_method_8_code
def yX9_move : MethodName := ⟨RX9, "move", "(III)I"⟩
abbrev cX9_dry : ByteArray := prog_1_method_9_code
def yX9_dry : MethodName := ⟨RX9, "dry", "(IIII)I"⟩
abbrev cX9_ship : ByteArray := prog_1_method_10_code
def yX9_ship : MethodName := ⟨RX9, "ship", "(II)J"⟩
abbrev cX9_binOf : ByteArray := prog_1_method_11_code
def yX9_binOf : MethodName := ⟨RX9, "binOf", "(II)I"⟩
abbrev cX9_dryIn : ByteArray := prog_1_method_12_code
def yX9_dryIn : MethodName := ⟨RX9, "dryIn", "(I)J"⟩
abbrev cX9_truck : ByteArray := prog_1_method_13_code
def yX9_truck : MethodName := ⟨RX9, "truck", "(III)I"⟩
abbrev cX9_pit : ByteArray := prog_1_method_14_code
def yX9_pit : MethodName := ⟨RX9, "pit", "(II)Z"⟩
abbrev cX9_rush : ByteArray := prog_1_method_15_code
def yX9_rush : MethodName := ⟨RX9, "rush", "()I"⟩
abbrev cX9_served : ByteArray := prog_1_method_16_code
def yX9_served : MethodName := ⟨RX9, "served", "(II)I"⟩
abbrev cX9_gone : ByteArray := prog_1_method_17_code
def yX9_gone : MethodName := ⟨RX9, "gone", "()I"⟩
abbrev cX9_hour : ByteArray := prog_1_method_18_code
def yX9_hour : MethodName := ⟨RX9, "hour", "(IZI)Z"⟩
abbrev cX9_needs : ByteArray := prog_1_method_19_code
def yX9_needs : MethodName := ⟨RX9, "needs", "(III)Z"⟩
abbrev cX9_fans : ByteArray := prog_1_method_20_code
def yX9_fans : MethodName := ⟨RX9, "fans", "()I"⟩
abbrev cX9_fansOf : ByteArray := prog_1_method_21_code
def yX9_fansOf : MethodName := ⟨RX9, "fansOf", "(I)I"⟩
abbrev cX9_blend : ByteArray := prog_1_method_22_code
def yX9_blend : MethodName := ⟨RX9, "blend", "(IIII)J"⟩
abbrev cX9_blended : ByteArray := prog_1_method_23_code
def yX9_blended : MethodName := ⟨RX9, "blended", "(I)I"⟩
abbrev cX9_feed : ByteArray := prog_1_method_24_code
def yX9_feed : MethodName := ⟨RX9, "feed", "(IIIII)I"⟩
abbrev cX9_end : ByteArray := prog_1_method_25_code
def yX9_end : MethodName := ⟨RX9, "end", "(I)I"⟩
abbrev cX9_list : ByteArray := prog_1_method_26_code
def yX9_list : MethodName := ⟨RX9, "list", "()I"⟩
abbrev cX9_fault : ByteArray := prog_1_method_27_code
def yX9_fault : MethodName := ⟨RX9, "fault", "(I)I"⟩
abbrev cX9_worth : ByteArray := prog_1_method_28_code
def yX9_worth : MethodName := ⟨RX9, "worth", "(I)I"⟩
abbrev cX9_account : ByteArray := prog_1_method_29_code
def yX9_account : MethodName := ⟨RX9, "account", "(II)J"⟩
abbrev cX9_about : ByteArray := prog_1_method_30_code
def yX9_about : MethodName := ⟨RX9, "about", "(I)J"⟩
abbrev cX9_within : ByteArray := prog_1_method_31_code
def yX9_within : MethodName := ⟨RX9, "within", "(III)Z"⟩
abbrev cX9_isBin : ByteArray := prog_1_method_32_code
def yX9_isBin : MethodName := ⟨RX9, "isBin", "(I)Z"⟩
abbrev cX9_isKind : ByteArray := prog_1_method_33_code
def yX9_isKind : MethodName := ⟨RX9, "isKind", "(I)Z"⟩
abbrev cX9_isFarmer : ByteArray := prog_1_method_34_code
def yX9_isFarmer : MethodName := ⟨RX9, "isFarmer", "(I)Z"⟩
def RX10 : String := "GrainHouseModel"
def TX10 : u_T := fun k => match k with
  | 0 => ("GrainHouseModel", "holds", "[I", true)
  | 1 => ("GrainHouseModel", "kindIn", "[I", true)
  | 2 => ("GrainHouseModel", "kgIn", "[I", true)
  | 3 => ("GrainHouseModel", "dryIn", "[J", true)
  | 4 => ("GrainHouseModel", "loads", "I", false)
  | 5 => ("GrainHouseModel", "loadFarmer", "[I", true)
  | 6 => ("GrainHouseModel", "loadKind", "[I", true)
  | 7 => ("GrainHouseModel", "loadMoist", "[I", true)
  | 8 => ("GrainHouseModel", "loadDry", "[J", true)
  | 9 => ("GrainHouseModel", "legs", "I", false)
  | 10 => ("GrainHouseModel", "legA", "[I", true)
  | 11 => ("GrainHouseModel", "legB", "[I", true)
  | 12 => ("GrainHouseModel", "legMinutes", "[I", true)
  | 13 => ("GrainHouseModel", "legKind", "[I", true)
  | 14 => ("GrainHouseModel", "cleaning", "I", false)
  | 15 => ("GrainHouseModel", "used", "I", false)
  | 16 => ("GrainHouseModel", "water", "J", false)
  | 17 => ("GrainHouseModel", "shipped", "J", false)
  | 18 => ("GrainHouseModel", "shippedDry", "J", false)
  | 19 => ("GrainHouseModel", "trucks", "I", false)
  | 20 => ("GrainHouseModel", "truckMinute", "[I", true)
  | 21 => ("GrainHouseModel", "truckKind", "[I", true)
  | 22 => ("GrainHouseModel", "truckWeight", "[I", true)
  | 23 => ("GrainHouseModel", "unload", "I", false)
  | 24 => ("GrainHouseModel", "change", "I", false)
  | 25 => ("GrainHouseModel", "isDry", "[Z", true)
  | 26 => ("GrainHouseModel", "cost", "[I", true)
  | 27 => ("GrainHouseModel", "needs", "[I", true)
  | 28 => ("GrainHouseModel", "ahead", "[I", true)
  | 29 => ("GrainHouseModel", "power", "I", false)
  | 30 => ("GrainHouseModel", "tape", "[B", true)
  | 31 => ("GrainHouseModel", "taped", "I", false)
  | 32 => ("GrainHouseModel", "at", "I", false)
  | 33 => ("GrainHouseModel", "token", "I", false)
  | 34 => ("GrainHouseModel", "sort", "I", false)
  | 35 => ("GrainHouseModel", "told", "I", false)
  | 36 => ("GrainHouseModel", "wrong", "I", false)
  | 37 => ("GrainHouseModel", "wrongAt", "I", false)
  | 38 => ("GrainHouseModel", "fault", "I", false)
  | 39 => ("GrainHouseModel", "faultAt", "I", false)
  | 40 => ("GrainHouseModel", "newPrice", "[I", true)
  | 41 => ("GrainHouseModel", "newDocks", "I", false)
  | 42 => ("GrainHouseModel", "newDockAt", "[I", true)
  | 43 => ("GrainHouseModel", "newDock", "[I", true)
  | 44 => ("GrainHouseModel", "price", "[I", true)
  | 45 => ("GrainHouseModel", "docks", "I", false)
  | 46 => ("GrainHouseModel", "dockAt", "[I", true)
  | 47 => ("GrainHouseModel", "dock", "[I", true)
  | 48 => ("GrainHouseModel", "left", "[I", true)
  | 49 => ("GrainHouseModel", "went", "[I", true)
  | 50 => ("GrainHouseModel", "row", "[I", true)
  | 51 => ("GrainHouseModel", "best", "[I", true)
  | 52 => ("GrainHouseModel", "waited", "I", false)
  | 53 => ("GrainHouseModel", "on", "[Z", true)
  | 54 => ("GrainHouseModel", "isFixed", "[Z", true)
  | 55 => ("GrainHouseModel", "load", "[I", true)
  | 56 => ("GrainHouseModel", "dist", "[I", true)
  | 57 => ("GrainHouseModel", "from", "[I", true)
  | 58 => ("GrainHouseModel", "tons", "[I", true)
  | 59 => ("GrainHouseModel", "part", "[I", true)
  | 60 => ("GrainHouseModel", "who", "[I", true)
  | 61 => ("GrainHouseModel", "tonsTold", "[I", true)
  | _ => ("GrainHouseModel", "isBlended", "Z", false)
def tyX10 : Nat → FieldType := fun k => match k with
  | 0 => .array .int
  | 1 => .array .int
  | 2 => .array .int
  | 3 => .array .long
  | 4 => .int
  | 5 => .array .int
  | 6 => .array .int
  | 7 => .array .int
  | 8 => .array .long
  | 9 => .int
  | 10 => .array .int
  | 11 => .array .int
  | 12 => .array .int
  | 13 => .array .int
  | 14 => .int
  | 15 => .int
  | 16 => .long
  | 17 => .long
  | 18 => .long
  | 19 => .int
  | 20 => .array .int
  | 21 => .array .int
  | 22 => .array .int
  | 23 => .int
  | 24 => .int
  | 25 => .array .boolean
  | 26 => .array .int
  | 27 => .array .int
  | 28 => .array .int
  | 29 => .int
  | 30 => .array .byte
  | 31 => .int
  | 32 => .int
  | 33 => .int
  | 34 => .int
  | 35 => .int
  | 36 => .int
  | 37 => .int
  | 38 => .int
  | 39 => .int
  | 40 => .array .int
  | 41 => .int
  | 42 => .array .int
  | 43 => .array .int
  | 44 => .array .int
  | 45 => .int
  | 46 => .array .int
  | 47 => .array .int
  | 48 => .array .int
  | 49 => .array .int
  | 50 => .array .int
  | 51 => .array .int
  | 52 => .int
  | 53 => .array .boolean
  | 54 => .array .boolean
  | 55 => .array .int
  | 56 => .array .int
  | 57 => .array .int
  | 58 => .array .int
  | 59 => .array .int
  | 60 => .array .int
  | 61 => .array .int
  | _ => .boolean
theorem nmX10 : ∀ a, a < 63 → ∀ b, b < 63 → a ≠ b → (TX10 a).2.1 ≠ (TX10 b).2.1 := by decide +kernel
theorem tyX10_ok : ∀ k, k < 63 → parseFieldDescriptor (TX10 k).2.2.1 = some (tyX10 k) := by decide +kernel
abbrev cX10_init : ByteArray := prog_12_method_1_code
def yX10_init : MethodName := ⟨RX10, "<init>", "()V"⟩
abbrev cX10_in : ByteArray := prog_12_method_2_code
def yX10_in : MethodName := ⟨RX10, "in", "(JJJ)Z"⟩
abbrev cX10_isBin : ByteArray := prog_12_method_3_code
def yX10_isBin : MethodName := ⟨RX10, "isBin", "(I)Z"⟩
abbrev cX10_isKind : ByteArray := prog_12_method_4_code
def yX10_isKind : MethodName := ⟨RX10, "isKind", "(I)Z"⟩
abbrev cX10_holds : ByteArray := prog_12_method_5_code
def yX10_holds : MethodName := ⟨RX10, "holds", "(II)Z"⟩
abbrev cX10_canPut : ByteArray := prog_12_method_6_code
def yX10_canPut : MethodName := ⟨RX10, "canPut", "(III)Z"⟩
abbrev cX10_puts : ByteArray := prog_12_method_7_code
def yX10_puts : MethodName := ⟨RX10, "puts", "(IIIJ)V"⟩
abbrev cX10_dryOf : ByteArray := prog_12_method_8_code
def yX10_dryOf : MethodName := ⟨RX10, "dryOf", "(II)J"⟩
abbrev cX10_moistOf : ByteArray := prog_12_method_9_code
def yX10_moistOf : MethodName := ⟨RX10, "moistOf", "(JJ)I"⟩
abbrev cX10_load : ByteArray := prog_12_method_10_code
def yX10_load : MethodName := ⟨RX10, "load", "(IIIII)I"⟩
abbrev cX10_leg : ByteArray := prog_12_method_11_code
def yX10_leg : MethodName := ⟨RX10, "leg", "(III)I"⟩
abbrev cX10_cleaning : ByteArray := prog_12_method_12_code
def yX10_cleaning : MethodName := ⟨RX10, "cleaning", "(I)Z"⟩
abbrev cX10_legCost : ByteArray := prog_12_method_13_code
def yX10_legCost : MethodName := ⟨RX10, "legCost", "(II)I"⟩
abbrev cX10_goes : ByteArray := prog_12_method_14_code
def yX10_goes : MethodName := ⟨RX10, "goes", "(II)V"⟩
abbrev cX10_lessens : ByteArray := prog_12_method_15_code
def yX10_lessens : MethodName := ⟨RX10, "lessens", "(IIIII)Z"⟩
abbrev cX10_isWay : ByteArray := prog_12_method_16_code
def yX10_isWay : MethodName := ⟨RX10, "isWay", "(III)Z"⟩
abbrev cX10_way : ByteArray := prog_12_method_17_code
def yX10_way : MethodName := ⟨RX10, "way", "(III)I"⟩
abbrev cX10_nextLeg : ByteArray := prog_12_method_18_code
def yX10_nextLeg : MethodName := ⟨RX10, "nextLeg", "(III)I"⟩
abbrev cX10_wayLeg : ByteArray := prog_12_method_19_code
def yX10_wayLeg : MethodName := ⟨RX10, "wayLeg", "(IIII)I"⟩
abbrev cX10_goesBy : ByteArray := prog_12_method_20_code
def yX10_goesBy : MethodName := ⟨RX10, "goesBy", "(III)I"⟩
abbrev cX10_takes : ByteArray := prog_12_method_21_code
def yX10_takes : MethodName := ⟨RX10, "takes", "(II)V"⟩
abbrev cX10_move : ByteArray := prog_12_method_22_code
def yX10_move : MethodName := ⟨RX10, "move", "(III)I"⟩
abbrev cX10_dry : ByteArray := prog_12_method_23_code
def yX10_dry : MethodName := ⟨RX10, "dry", "(IIII)I"⟩
abbrev cX10_ship : ByteArray := prog_12_method_24_code
def yX10_ship : MethodName := ⟨RX10, "ship", "(II)J"⟩
abbrev cX10_binOf : ByteArray := prog_12_method_25_code
def yX10_binOf : MethodName := ⟨RX10, "binOf", "(II)I"⟩
abbrev cX10_dryIn : ByteArray := prog_12_method_26_code
def yX10_dryIn : MethodName := ⟨RX10, "dryIn", "(I)J"⟩
abbrev cX10_truck : ByteArray := prog_12_method_27_code
def yX10_truck : MethodName := ⟨RX10, "truck", "(III)I"⟩
abbrev cX10_pit : ByteArray := prog_12_method_28_code
def yX10_pit : MethodName := ⟨RX10, "pit", "(II)Z"⟩
abbrev cX10_emptyAt : ByteArray := prog_12_method_29_code
def yX10_emptyAt : MethodName := ⟨RX10, "emptyAt", "(IZ)I"⟩
abbrev cX10_nextRow : ByteArray := prog_12_method_30_code
def yX10_nextRow : MethodName := ⟨RX10, "nextRow", "()Z"⟩
abbrev cX10_swaps : ByteArray := prog_12_method_31_code
def yX10_swaps : MethodName := ⟨RX10, "swaps", "(II)V"⟩
abbrev cX10_rush : ByteArray := prog_12_method_32_code
def yX10_rush : MethodName := ⟨RX10, "rush", "()I"⟩
abbrev cX10_served : ByteArray := prog_12_method_33_code
def yX10_served : MethodName := ⟨RX10, "served", "(II)I"⟩
abbrev cX10_gone : ByteArray := prog_12_method_34_code
def yX10_gone : MethodName := ⟨RX10, "gone", "()I"⟩
abbrev cX10_hour : ByteArray := prog_12_method_35_code
def yX10_hour : MethodName := ⟨RX10, "hour", "(IZI)Z"⟩
abbrev cX10_needs : ByteArray := prog_12_method_36_code
def yX10_needs : MethodName := ⟨RX10, "needs", "(III)Z"⟩
abbrev cX10_may : ByteArray := prog_12_method_37_code
def yX10_may : MethodName := ⟨RX10, "may", "(II)Z"⟩
abbrev cX10_reaches : ByteArray := prog_12_method_38_code
def yX10_reaches : MethodName := ⟨RX10, "reaches", "(III)Z"⟩
abbrev cX10_walks : ByteArray := prog_12_method_39_code
def yX10_walks : MethodName := ⟨RX10, "walks", "(I)V"⟩
abbrev cX10_turns : ByteArray := prog_12_method_40_code
def yX10_turns : MethodName := ⟨RX10, "turns", "(II)V"⟩
abbrev cX10_plans : ByteArray := prog_12_method_41_code
def yX10_plans : MethodName := ⟨RX10, "plans", "()I"⟩
abbrev cX10_fans : ByteArray := prog_12_method_42_code
def yX10_fans : MethodName := ⟨RX10, "fans", "()I"⟩
abbrev cX10_fansOf : ByteArray := prog_12_method_43_code
def yX10_fansOf : MethodName := ⟨RX10, "fansOf", "(I)I"⟩
abbrev cX10_blends : ByteArray := prog_12_method_44_code
def yX10_blends : MethodName := ⟨RX10, "blends", "(I)J"⟩
abbrev cX10_isThere : ByteArray := prog_12_method_45_code
def yX10_isThere : MethodName := ⟨RX10, "isThere", "(II)Z"⟩
abbrev cX10_blend : ByteArray := prog_12_method_46_code
def yX10_blend : MethodName := ⟨RX10, "blend", "(IIII)J"⟩
abbrev cX10_blended : ByteArray := prog_12_method_47_code
def yX10_blended : MethodName := ⟨RX10, "blended", "(I)I"⟩
abbrev cX10_put : ByteArray := prog_12_method_48_code
def yX10_put : MethodName := ⟨RX10, "put", "(I)V"⟩
abbrev cX10_feed : ByteArray := prog_12_method_49_code
def yX10_feed : MethodName := ⟨RX10, "feed", "(IIIII)I"⟩
abbrev cX10_end : ByteArray := prog_12_method_50_code
def yX10_end : MethodName := ⟨RX10, "end", "(I)I"⟩
abbrev cX10_isLetter : ByteArray := prog_12_method_51_code
def yX10_isLetter : MethodName := ⟨RX10, "isLetter", "(I)Z"⟩
abbrev cX10_wordOf : ByteArray := prog_12_method_52_code
def yX10_wordOf : MethodName := ⟨RX10, "wordOf", "(J)I"⟩
abbrev cX10_next : ByteArray := prog_12_method_53_code
def yX10_next : MethodName := ⟨RX10, "next", "(I)V"⟩
abbrev cX10_errs : ByteArray := prog_12_method_54_code
def yX10_errs : MethodName := ⟨RX10, "errs", "(I)V"⟩
abbrev cX10_wasDock : ByteArray := prog_12_method_55_code
def yX10_wasDock : MethodName := ⟨RX10, "wasDock", "(I)Z"⟩
abbrev cX10_number : ByteArray := prog_12_method_56_code
def yX10_number : MethodName := ⟨RX10, "number", "(III)I"⟩
abbrev cX10_clause : ByteArray := prog_12_method_57_code
def yX10_clause : MethodName := ⟨RX10, "clause", "(I)V"⟩
abbrev cX10_list : ByteArray := prog_12_method_58_code
def yX10_list : MethodName := ⟨RX10, "list", "()I"⟩
abbrev cX10_fault : ByteArray := prog_12_method_59_code
def yX10_fault : MethodName := ⟨RX10, "fault", "(I)I"⟩
abbrev cX10_worthOf : ByteArray := prog_12_method_60_code
def yX10_worthOf : MethodName := ⟨RX10, "worthOf", "(I)I"⟩
abbrev cX10_worth : ByteArray := prog_12_method_61_code
def yX10_worth : MethodName := ⟨RX10, "worth", "(I)I"⟩
abbrev cX10_account : ByteArray := prog_12_method_62_code
def yX10_account : MethodName := ⟨RX10, "account", "(II)J"⟩
abbrev cX10_about : ByteArray := prog_12_method_63_code
def yX10_about : MethodName := ⟨RX10, "about", "(I)J"⟩
def RJ0 : String := "java/lang/String"
abbrev cJ0_length_8abf5 : ByteArray := prog_14_method_54_code
def yJ0_length_8abf5 : MethodName := ⟨RJ0, "length", "()I"⟩
abbrev cJ0_charAt_5068e : ByteArray := prog_14_method_56_code
def yJ0_charAt_5068e : MethodName := ⟨RJ0, "charAt", "(I)C"⟩
abbrev cJ0_coder_7d493 : ByteArray := prog_14_method_152_code
def yJ0_coder_7d493 : MethodName := ⟨RJ0, "coder", "()B"⟩
abbrev cJ0_isLatin1_aae02 : ByteArray := prog_14_method_154_code
def yJ0_isLatin1_aae02 : MethodName := ⟨RJ0, "isLatin1", "()Z"⟩
abbrev cJ0_checkIndex_df160 : ByteArray := prog_14_method_155_code
def yJ0_checkIndex_df160 : MethodName := ⟨RJ0, "checkIndex", "(II)V"⟩
def RJ1 : String := "java/lang/StringLatin1"
abbrev cJ1_charAt_3b067 : ByteArray := prog_15_method_2_code
def yJ1_charAt_3b067 : MethodName := ⟨RJ1, "charAt", "([BI)C"⟩
def RJ10 : String := "java/lang/System"
def RJ3 : String := "jdk/internal/util/Preconditions"
abbrev cJ3_checkIndex_8e157 : ByteArray := prog_18_method_11_code
def yJ3_checkIndex_8e157 : MethodName := ⟨RJ3, "checkIndex", "(IILjava/util/function/BiFunction;)I"⟩
def RL : String := "GrainHouseLaw"
abbrev cL_law : ByteArray := code
def yL_law : MethodName := ⟨RL, "law", "([I)Z"⟩
abbrev vwCl : List vw_C := [(RX0, TX0, 4), (RX1, TX1, 8), (RX2, TX2, 15), (RX3, TX3, 5), (RX4, TX4, 10), (RX5, TX5, 5), (RX6, TX6, 11), (RX7, TX7, 12), (RX8, TX8, 2), (RX9, TX9, 13), (RX10, TX10, 63)]
end
section
/-! ===== THE PURE MACHINE: the bytecode over a memory of numbered cells (no heap, no classes); everything of the machine is proved once over it (part 03 ..) ===== -/
/-- the shape of a cell: an array (type 0 int, 1 long, 2 byte, 3 boolean; length), or an object of a class -/
abbrev gh_Sh : Type := (Nat × Nat) ⊕ Nat
/-- the memory: shapes; ints, longs, references by cell and place -/
abbrev gh_M : Type := List gh_Sh × (Nat → Nat → Int32) × (Nat → Nat → Int64) × (Nat → Nat → Option Nat)
/-- the memory, and how many cells and slots were made -/
abbrev gh_W : Type := gh_M × Nat × Nat
abbrev gh_L : Type := List (Nat × Value)
/-- an instruction, its length, its operands as they are resolved -/
abbrev gh_E : Type := Instr × Nat × Nat × Nat × Int32 × Int64
abbrev gh_S : Type := Nat × gh_L × List Value × gh_W
abbrev gh_R : Type := Option Value × gh_W
/-- the kinds of a class's fields: 0 int, 1 long, 2 reference, 3 boolean -/
def gh_ft : Nat → List Nat
  | 0 => [2, 2, 2, 2]
  | 1 => [2, 2, 2, 2, 0, 1, 2, 3]
  | 2 => [2, 2, 2, 2, 2, 2, 2, 2, 2, 2, 0, 0, 0, 0, 3]
  | 3 => [2, 2, 2, 2, 0]
  | 4 => [2, 2, 2, 2, 2, 2, 0, 0, 0, 1]
  | 5 => [2, 2, 2, 2, 0]
  | 6 => [3, 0, 0, 0, 0, 0, 0, 0, 3, 0, 0]
  | 7 => [2, 2, 2, 2, 2, 2, 2, 0, 0, 0, 0, 3]
  | 8 => [2, 0]
  | 9 => [2, 2, 2, 2, 2, 2, 2, 2, 2, 2, 1, 1, 1]
  | 10 => [2, 2, 2, 2, 0, 2, 2, 2, 2, 0, 2, 2, 2, 2, 0, 0, 1, 1, 1, 0, 2, 2, 2, 0, 0, 2, 2, 2, 2, 0, 2, 0, 0, 0, 0, 0, 0, 0, 0, 0, 2, 0, 2, 2, 2, 0, 2, 2, 2, 2, 2, 2, 0, 2, 2, 2, 2, 2, 2, 2, 2, 2, 3]
  | _ => []
/-- what a constructor makes: cells, slots -/
def gh_bud : Nat → Nat × Nat
  | 0 => (4, 32)
  | 9 => (5, 104)
  | 14 => (10, 104)
  | 29 => (4, 400)
  | 37 => (6, 157)
  | 46 => (4, 24)
  | 54 => (0, 0)
  | 65 => (7, 49)
  | 75 => (1, 200)
  | 78 => (55, 1171)
  | 112 => (39, 1129)
  | _ => (0, 0)
/-- the class of a method -/
def gh_oc (z : Nat) : Nat :=
  bif Nat.ble z 8 then 0 else
  bif Nat.ble z 13 then 1 else
  bif Nat.ble z 28 then 2 else
  bif Nat.ble z 36 then 3 else
  bif Nat.ble z 45 then 4 else
  bif Nat.ble z 53 then 5 else
  bif Nat.ble z 64 then 6 else
  bif Nat.ble z 74 then 7 else
  bif Nat.ble z 77 then 8 else
  bif Nat.ble z 111 then 9 else
  bif Nat.ble z 174 then 10 else
  11
/-- the script's reference; the String constants' are behind it -/
def gh_SC : Nat := 5000
def gh_up {α : Type} (I : Nat → Nat → α) (c : Nat) (f : Nat → α) : Nat → Nat → α := fun d => bif Nat.beq d c then f else I d
theorem gh_up_eq {α : Type} (I : Nat → Nat → α) (c : Nat) (f : Nat → α) : gh_up I c f c = f := by simp [gh_up]
theorem gh_up_ne {α : Type} (I : Nat → Nat → α) {c d : Nat} (f : Nat → α) (h : d ≠ c) : gh_up I c f d = I d := by
  have : Nat.beq d c = false := by
    cases hb : Nat.beq d c with
    | false => rfl
    | true => exact absurd (Nat.eq_of_beq_eq_true hb) h
  simp [gh_up, this]
def gh_in (i : Int32) (n : Nat) : Bool := !(decide (i < 0) || Nat.ble n i.toNatClampNeg)
theorem gh_in_iff {i : Int32} {n : Nat} : gh_in i n = true ↔ vp_in i n := by
  unfold gh_in vp_in
  have e : Nat.ble n i.toNatClampNeg = decide (n ≤ i.toNatClampNeg) := by
    rw [Bool.eq_iff_iff]
    simp only [decide_eq_true_eq]
    exact ⟨Nat.le_of_ble_eq_true, Nat.ble_eq_true_of_le⟩
  rw [e]
  simp
/-! locals -/
def gh_lk : gh_L → Nat → Option Value
  | [], _ => none
  | q :: t, i => bif Nat.beq q.1 i then some q.2 else gh_lk t i
def gh_s1 (lv : gh_L) (i : Nat) (v : Value) : gh_L := (i, v) :: lv.filter (fun q => !(q.1 == i) && !(q.1 + 1 == i && q.2.category == 2))
def gh_s2 (lv : gh_L) (i : Nat) (v : Value) : gh_L := (i, v) :: lv.filter (fun q => !(q.1 == i) && (!(q.1 == i + 1) && !(q.1 + 1 == i && q.2.category == 2)))
/-! what an instruction that touches no local does: the next pc, stack and memory, or the answer -/
abbrev gh_N : Type := (Nat × List Value × gh_W) ⊕ gh_R
def gh_k (pc : Nat) (st : List Value) (W : gh_W) : Option gh_N := some (.inl (pc, st, W))
def gh_ii (f : Int32 → Int32 → Int32) (pc : Nat) (st : List Value) (W : gh_W) : Option gh_N := match st with
  | .int y :: .int x :: r => gh_k (pc + 1) (.int (f x y) :: r) W
  | _ => none
def gh_jj (f : Int64 → Int64 → Int64) (pc : Nat) (st : List Value) (W : gh_W) : Option gh_N := match st with
  | .long y :: .long x :: r => gh_k (pc + 1) (.long (f x y) :: r) W
  | _ => none
def gh_iid (f : Int32 → Int32 → Int32) (pc : Nat) (st : List Value) (W : gh_W) : Option gh_N := match st with
  | .int y :: .int x :: r => if y = 0 then none else gh_k (pc + 1) (.int (f x y) :: r) W
  | _ => none
def gh_jjd (pc : Nat) (st : List Value) (W : gh_W) : Option gh_N := match st with
  | .long y :: .long x :: r => if y = 0 then none else gh_k (pc + 1) (.long (x / y) :: r) W
  | _ => none
def gh_lcmp (pc : Nat) (st : List Value) (W : gh_W) : Option gh_N := match st with
  | .long y :: .long x :: r => gh_k (pc + 1) (.int (lg_cmp x y) :: r) W
  | _ => none
def gh_i (f : Int32 → Int32) (pc : Nat) (st : List Value) (W : gh_W) : Option gh_N := match st with
  | .int x :: r => gh_k (pc + 1) (.int (f x) :: r) W
  | _ => none
def gh_i2l (pc : Nat) (st : List Value) (W : gh_W) : Option gh_N := match st with
  | .int x :: r => gh_k (pc + 1) (.long x.toInt64 :: r) W
  | _ => none
def gh_l2i (pc : Nat) (st : List Value) (W : gh_W) : Option gh_N := match st with
  | .long x :: r => gh_k (pc + 1) (.int x.toInt32 :: r) W
  | _ => none
def gh_dup (pc : Nat) (st : List Value) (W : gh_W) : Option gh_N := match st with
  | .int x :: r => gh_k (pc + 1) (.int x :: .int x :: r) W
  | .ref x :: r => gh_k (pc + 1) (.ref x :: .ref x :: r) W
  | _ => none
def gh_dup2 (pc : Nat) (st : List Value) (W : gh_W) : Option gh_N := match st with
  | .long x :: r => gh_k (pc + 1) (.long x :: .long x :: r) W
  | .int x :: .ref y :: r => gh_k (pc + 1) (.int x :: .ref y :: .int x :: .ref y :: r) W
  | _ => none
def gh_pop (pc : Nat) (st : List Value) (W : gh_W) : Option gh_N := match st with
  | .int _ :: r => gh_k (pc + 1) r W
  | _ => none
def gh_cmp (c : Jvm.ClassFile.Cond) (x y : Int32) : Bool := match c with
  | .eq => decide (x = y)
  | .ne => decide (x ≠ y)
  | .lt => decide (x < y)
  | .ge => decide (y ≤ x)
  | .gt => decide (y < x)
  | .le => decide (x ≤ y)
def gh_if (c : Jvm.ClassFile.Cond) (u pc : Nat) (st : List Value) (W : gh_W) : Option gh_N := match st with
  | .int x :: r => bif gh_cmp c x 0 then gh_k u r W else gh_k (pc + 3) r W
  | _ => none
def gh_icmp (c : Jvm.ClassFile.Cond) (u pc : Nat) (st : List Value) (W : gh_W) : Option gh_N := match st with
  | .int y :: .int x :: r => bif gh_cmp c x y then gh_k u r W else gh_k (pc + 3) r W
  | _ => none
def gh_to (pc : Nat) (off : Int) (st : List Value) (W : gh_W) : Option gh_N := if 0 ≤ (pc : Int) + off then gh_k ((pc : Int) + off).toNat st W else none
def gh_tab (d lo hi : Int) (offs : Array Int) (pc : Nat) (st : List Value) (W : gh_W) : Option gh_N := match st with
  | .int x :: r => if x.toInt < lo ∨ hi < x.toInt then gh_to pc d r W else match offs[(x.toInt - lo).toNat]? with
    | some off => gh_to pc off r W
    | none => none
  | _ => none
def gh_luk (d : Int) (ps : Array (Int × Int)) (pc : Nat) (st : List Value) (W : gh_W) : Option gh_N := match st with
  | .int x :: r => if (ps.toList.zip (ps.toList.drop 1)).all (fun (a, next) => a.1 < next.1) = true then gh_to pc (Op.lookupswitch.offset ps.toList d x.toInt) r W else none
  | _ => none
def gh_isB (x : Int32) : Bool := decide (x = 0) || decide (x = 1)
/-- a field read: u its class, v its place -/
def gh_get (u v pc : Nat) (st : List Value) (W : gh_W) : Option gh_N := match st with
  | .ref c :: r => match W.1.1[c]? with
    | some (.inr ci) => bif Nat.beq ci u then (match (gh_ft u)[v]? with
      | some 1 => gh_k (pc + 3) (.long (W.1.2.2.1 c v) :: r) W
      | some 2 => (match W.1.2.2.2 c v with
        | some q => gh_k (pc + 3) (.ref q :: r) W
        | none => none)
      | some _ => gh_k (pc + 3) (.int (W.1.2.1 c v) :: r) W
      | none => none) else none
    | _ => none
  | _ => none
def gh_mI (M : gh_M) (c : Nat) (f : Nat → Int32) : gh_M := (M.1, gh_up M.2.1 c f, M.2.2.1, M.2.2.2)
def gh_mL (M : gh_M) (c : Nat) (f : Nat → Int64) : gh_M := (M.1, M.2.1, gh_up M.2.2.1 c f, M.2.2.2)
def gh_mR (M : gh_M) (c : Nat) (f : Nat → Option Nat) : gh_M := (M.1, M.2.1, M.2.2.1, gh_up M.2.2.2 c f)
def gh_upR (f : Nat → Option Nat) (k : Nat) (x : Option Nat) : Nat → Option Nat := fun j => if j = k then x else f j
/-- a field written: w = 1 where it is final (then only in a constructor) -/
def gh_put (ini : Bool) (u v : Nat) (w : Int32) (pc : Nat) (st : List Value) (W : gh_W) : Option gh_N := match st with
  | x :: .ref c :: r => match W.1.1[c]? with
    | some (.inr ci) => bif Nat.beq ci u && (decide (w = 0) || ini) then (match (gh_ft u)[v]?, x with
      | some 0, .int a => gh_k (pc + 3) r (gh_mI W.1 c (upd (W.1.2.1 c) v a), W.2)
      | some 1, .long a => gh_k (pc + 3) r (gh_mL W.1 c (vp_updL (W.1.2.2.1 c) v a), W.2)
      | some 2, .ref a => bif !Nat.blt a W.1.1.length then none else gh_k (pc + 3) r (gh_mR W.1 c (gh_upR (W.1.2.2.2 c) v (some a)), W.2)
      | some 3, .int a => bif gh_isB a then gh_k (pc + 3) r (gh_mI W.1 c (upd (W.1.2.1 c) v a), W.2) else none
      | _, _ => none) else none
    | _ => none
  | _ => none
def gh_iald (sc : Option (Nat × (Nat → Int32))) (pc : Nat) (st : List Value) (W : gh_W) : Option gh_N := match st with
  | .int i :: .ref c :: r => match W.1.1[c]? with
    | some (.inl (0, n)) => bif gh_in i n then gh_k (pc + 1) (.int (W.1.2.1 c i.toNatClampNeg) :: r) W else none
    | some _ => none
    | none => match sc with
      | some (L, xs) => bif Nat.beq c gh_SC && gh_in i L then gh_k (pc + 1) (.int (xs i.toNatClampNeg) :: r) W else none
      | none => none
  | _ => none
def gh_lald (pc : Nat) (st : List Value) (W : gh_W) : Option gh_N := match st with
  | .int i :: .ref c :: r => match W.1.1[c]? with
    | some (.inl (1, n)) => bif gh_in i n then gh_k (pc + 1) (.long (W.1.2.2.1 c i.toNatClampNeg) :: r) W else none
    | _ => none
  | _ => none
def gh_bald (pc : Nat) (st : List Value) (W : gh_W) : Option gh_N := match st with
  | .int i :: .ref c :: r => match W.1.1[c]? with
    | some (.inl (2, n)) => bif gh_in i n then gh_k (pc + 1) (.int (W.1.2.1 c i.toNatClampNeg) :: r) W else none
    | some (.inl (3, n)) => bif gh_in i n then gh_k (pc + 1) (.int (W.1.2.1 c i.toNatClampNeg) :: r) W else none
    | _ => none
  | _ => none
def gh_iast (pc : Nat) (st : List Value) (W : gh_W) : Option gh_N := match st with
  | .int x :: .int i :: .ref c :: r => match W.1.1[c]? with
    | some (.inl (0, n)) => bif gh_in i n then gh_k (pc + 1) r (gh_mI W.1 c (upd (W.1.2.1 c) i.toNatClampNeg x), W.2) else none
    | _ => none
  | _ => none
def gh_last (pc : Nat) (st : List Value) (W : gh_W) : Option gh_N := match st with
  | .long x :: .int i :: .ref c :: r => match W.1.1[c]? with
    | some (.inl (1, n)) => bif gh_in i n then gh_k (pc + 1) r (gh_mL W.1 c (vp_updL (W.1.2.2.1 c) i.toNatClampNeg x), W.2) else none
    | _ => none
  | _ => none
def gh_bast (pc : Nat) (st : List Value) (W : gh_W) : Option gh_N := match st with
  | .int x :: .int i :: .ref c :: r => match W.1.1[c]? with
    | some (.inl (2, n)) => bif gh_in i n then gh_k (pc + 1) r (gh_mI W.1 c (upd (W.1.2.1 c) i.toNatClampNeg (vp_nar .byte x)), W.2) else none
    | some (.inl (3, n)) => bif gh_in i n then gh_k (pc + 1) r (gh_mI W.1 c (upd (W.1.2.1 c) i.toNatClampNeg (vp_nar .boolean x)), W.2) else none
    | _ => none
  | _ => none
def gh_alen (sc : Option (Nat × (Nat → Int32))) (pc : Nat) (st : List Value) (W : gh_W) : Option gh_N := match st with
  | .ref c :: r => match W.1.1[c]? with
    | some (.inl (t, n)) => bif Nat.ble t 3 then gh_k (pc + 1) (.int (Int32.ofNat n) :: r) W else none
    | some _ => none
    | none => match sc with
      | some (L, _) => bif Nat.beq c gh_SC then gh_k (pc + 1) (.int (Int32.ofNat L) :: r) W else none
      | none => none
  | _ => none
/-! String constants: "dock" is 0, "price" is 1 -/
def gh_sl : List Nat := [4, 5]
def gh_sb : List (List Int32) := [[100, 111, 99, 107], [112, 114, 105, 99, 101]]
def gh_sc (i : Nat) (k : Int32) : Int32 := ((((gh_sb.getD i []).getD k.toNatClampNeg 0) &&& 255).toUInt32 % 65536).toInt32
def gh_six (c : Nat) : Option Nat := bif Nat.beq c (gh_SC + 1) then some 0 else bif Nat.beq c (gh_SC + 2) then some 1 else none
/-- a new cell: its places hold 0 or nothing -/
def gh_mk (M : gh_M) (sh : gh_Sh) : gh_M := (M.1 ++ [sh], gh_up M.2.1 M.1.length (fun _ => 0), gh_up M.2.2.1 M.1.length (fun _ => 0), gh_up M.2.2.2 M.1.length (fun _ => none))
def gh_new (bc bs u pc : Nat) (st : List Value) (W : gh_W) : Option gh_N :=
  bif Nat.ble (W.2.1 + 1) bc && Nat.ble (W.2.2 + (gh_ft u).length) bs && Nat.blt u 11 then gh_k (pc + 3) (.ref W.1.1.length :: st) (gh_mk W.1 (.inr u), W.2.1 + 1, W.2.2 + (gh_ft u).length) else none
def gh_newa (bc bs u pc : Nat) (st : List Value) (W : gh_W) : Option gh_N := match st with
  | .int n :: r => bif !decide (n < 0) && Nat.ble n.toNatClampNeg 1000 && Nat.ble (W.2.1 + 1) bc && Nat.ble (W.2.2 + n.toNatClampNeg) bs && Nat.ble u 3 then gh_k (pc + 2) (.ref W.1.1.length :: r) (gh_mk W.1 (.inl (u, n.toNatClampNeg)), W.2.1 + 1, W.2.2 + n.toNatClampNeg) else none
  | _ => none
/-! calls -/
abbrev gh_O : Type := Nat → List Value → gh_M → Option (Option Value × gh_M)
def gh_rm (r : List Value) : Bool := Nat.ble (r.map fun v => v.category).sum 8
def gh_cal (O : gh_O) (bc bs u pc : Nat) (As r : List Value) (W : gh_W) : Option gh_N :=
  bif gh_rm r && Nat.ble (W.2.1 + (gh_bud u).1) bc && Nat.ble (W.2.2 + (gh_bud u).2) bs then (match O u As W.1 with
    | some (none, M') => gh_k (pc + 3) r (M', W.2.1 + (gh_bud u).1, W.2.2 + (gh_bud u).2)
    | some (some x, M') => gh_k (pc + 3) (x :: r) (M', W.2.1 + (gh_bud u).1, W.2.2 + (gh_bud u).2)
    | none => none) else none
def gh_ivs (O : gh_O) (bc bs u v pc : Nat) (st : List Value) (W : gh_W) : Option gh_N :=
  bif Nat.ble v st.length then gh_cal O bc bs u pc (st.take v).reverse (st.drop v) W else none
def gh_sln (pc : Nat) (st : List Value) (W : gh_W) : Option gh_N := match st with
  | .ref c :: r => (match gh_six c with
    | some i => bif gh_rm r then gh_k (pc + 3) (.int (nI (gh_sl.getD i 0)) :: r) W else none
    | none => none)
  | _ => none
def gh_sch (pc : Nat) (st : List Value) (W : gh_W) : Option gh_N := match st with
  | .int k :: .ref c :: r => (match gh_six c with
    | some i => bif gh_rm r && gh_in k (gh_sl.getD i 0) then gh_k (pc + 3) (.int (gh_sc i k) :: r) W else none
    | none => none)
  | _ => none
def gh_ivv (O : gh_O) (bc bs u v pc : Nat) (st : List Value) (W : gh_W) : Option gh_N :=
  bif Nat.ble v st.length then (match st.drop v with
    | .ref b :: r => (match W.1.1[b]? with
      | some (.inr ci) => bif Nat.beq ci (gh_oc u) then gh_cal O bc bs u pc (.ref b :: (st.take v).reverse) r W else none
      | _ => none)
    | _ => none) else none
def gh_mmx (pc : Nat) (st : List Value) (W : gh_W) : Option gh_N := match st with
  | .int y :: .int x :: r => bif gh_rm r then gh_k (pc + 3) (.int (if x < y then y else x) :: r) W else none
  | _ => none
def gh_mmn (pc : Nat) (st : List Value) (W : gh_W) : Option gh_N := match st with
  | .int y :: .int x :: r => bif gh_rm r then gh_k (pc + 3) (.int (if y < x then y else x) :: r) W else none
  | _ => none
def gh_mml (pc : Nat) (st : List Value) (W : gh_W) : Option gh_N := match st with
  | .long y :: .long x :: r => bif gh_rm r then gh_k (pc + 3) (.long (if y < x then x else y) :: r) W else none
  | _ => none
def gh_acp (pc : Nat) (st : List Value) (W : gh_W) : Option gh_N := match st with
  | .int n :: .int dp :: .ref a :: .int sp :: .ref b :: r => (match W.1.1[a]?, W.1.1[b]? with
    | some (.inl (0, n1)), some (.inl (0, n0)) => bif gh_rm r && !decide (sp < 0) && !decide (dp < 0) && !decide (n < 0) && Nat.ble (sp.toNatClampNeg + n.toNatClampNeg) n0 && Nat.ble (dp.toNatClampNeg + n.toNatClampNeg) n1 then
        gh_k (pc + 3) r (gh_mI W.1 a (va_cpy (W.1.2.1 b) (W.1.2.1 a) sp.toNatClampNeg dp.toNatClampNeg n.toNatClampNeg), W.2) else none
    | _, _ => none)
  | _ => none
def gh_oi (pc : Nat) (st : List Value) (W : gh_W) : Option gh_N := match st with
  | .ref _ :: r => bif gh_rm r then gh_k (pc + 3) r W else none
  | _ => none
/-- the methods of the JDK: 1000 max, 1001 min, 1002 max of longs, 1003 arraycopy; 2000 Object() -/
def gh_sta (O : gh_O) (bc bs u v pc : Nat) (st : List Value) (W : gh_W) : Option gh_N := match u with
  | 1000 => gh_mmx pc st W
  | 1001 => gh_mmn pc st W
  | 1002 => gh_mml pc st W
  | 1003 => gh_acp pc st W
  | _ => gh_ivs O bc bs u v pc st W
def gh_spe (O : gh_O) (bc bs u v pc : Nat) (st : List Value) (W : gh_W) : Option gh_N := match u with
  | 2000 => gh_oi pc st W
  | _ => bif Nat.ble (v + 1) st.length then (match st.drop v with
    | .ref b :: r => gh_cal O bc bs u pc (.ref b :: (st.take v).reverse) r W
    | _ => none) else none
/-- 1004 String.length, 1005 String.charAt -/
def gh_vir (O : gh_O) (bc bs u v pc : Nat) (st : List Value) (W : gh_W) : Option gh_N := match u with
  | 1004 => gh_sln pc st W
  | 1005 => gh_sch pc st W
  | _ => gh_ivv O bc bs u v pc st W
def gh_ire (zr : Bool) (st : List Value) (W : gh_W) : Option gh_N := match st with
  | [.int x] => bif !zr || gh_isB x then some (.inr (some (.int x), W)) else none
  | _ => none
def gh_lre (st : List Value) (W : gh_W) : Option gh_N := match st with
  | [.long x] => some (.inr (some (.long x), W))
  | _ => none
def gh_vre (st : List Value) (W : gh_W) : Option gh_N := match st with
  | [] => some (.inr (none, W))
  | _ => none
/-- bc, bs: cells and slots that may be made; sc: the script; zr: it returns a boolean; ini: it is a constructor -/
def gh_rest (O : gh_O) (bc bs : Nat) (sc : Option (Nat × (Nat → Int32))) (zr ini : Bool) (i : Instr) (u v : Nat) (w : Int32) (x : Int64) (pc : Nat) (st : List Value) (W : gh_W) : Option gh_N := match i with
  | .iconst _ => gh_k (pc + 1) (.int w :: st) W
  | .bipush _ => gh_k (pc + 2) (.int w :: st) W
  | .sipush _ => gh_k (pc + 3) (.int w :: st) W
  | .lconst _ => gh_k (pc + 1) (.long x :: st) W
  | .ldc _ => bif Nat.beq v 0 then gh_k (pc + 2) (.int w :: st) W else gh_k (pc + 2) (.ref (gh_SC + v) :: st) W
  | .ldc_w _ => gh_k (pc + 3) (.int w :: st) W
  | .ldc2_w _ => gh_k (pc + 3) (.long x :: st) W
  | .iadd => gh_ii (fun a b => a + b) pc st W
  | .isub => gh_ii (fun a b => a - b) pc st W
  | .imul => gh_ii (fun a b => a * b) pc st W
  | .iand => gh_ii (fun a b => a &&& b) pc st W
  | .ior => gh_ii (fun a b => a ||| b) pc st W
  | .ixor => gh_ii (fun a b => a ^^^ b) pc st W
  | .ishl => gh_ii (fun a b => a <<< (b &&& 31)) pc st W
  | .ishr => gh_ii (fun a b => a >>> (b &&& 31)) pc st W
  | .iushr => gh_ii (fun a b => (a.toUInt32 >>> (b.toUInt32 &&& Int32.toUInt32 31)).toInt32) pc st W
  | .idiv => gh_iid (fun a b => a / b) pc st W
  | .irem => gh_iid (fun a b => a - a / b * b) pc st W
  | .ineg => gh_i (fun a => -a) pc st W
  | .i2b => gh_i (fun a => a.toInt8.toInt32) pc st W
  | .ladd => gh_jj (fun a b => a + b) pc st W
  | .lsub => gh_jj (fun a b => a - b) pc st W
  | .lmul => gh_jj (fun a b => a * b) pc st W
  | .ldiv => gh_jjd pc st W
  | .lcmp => gh_lcmp pc st W
  | .i2l => gh_i2l pc st W
  | .l2i => gh_l2i pc st W
  | .dup => gh_dup pc st W
  | .dup2 => gh_dup2 pc st W
  | .pop => gh_pop pc st W
  | .ifCond c _ => gh_if c u pc st W
  | .if_icmp c _ => gh_icmp c u pc st W
  | .goto _ => gh_k u st W
  | .tableswitch d lo hi offs => gh_tab d lo hi offs pc st W
  | .lookupswitch d ps => gh_luk d ps pc st W
  | .getfield _ => gh_get u v pc st W
  | .putfield _ => gh_put ini u v w pc st W
  | .iaload => gh_iald sc pc st W
  | .laload => gh_lald pc st W
  | .baload => gh_bald pc st W
  | .iastore => gh_iast pc st W
  | .lastore => gh_last pc st W
  | .bastore => gh_bast pc st W
  | .arraylength => gh_alen sc pc st W
  | .invokestatic _ => gh_sta O bc bs u v pc st W
  | .invokevirtual _ => gh_vir O bc bs u v pc st W
  | .ireturn => gh_ire zr st W
  | .lreturn => gh_lre st W
  | .return_ => gh_vre st W
  | _ => none
def gh_go (pc : Nat) (lv : gh_L) (st : List Value) (W : gh_W) : Option (gh_S ⊕ gh_R) := some (.inl (pc, lv, st, W))
def gh_il (o : Option Value) (pc : Nat) (lv : gh_L) (st : List Value) (W : gh_W) : Option (gh_S ⊕ gh_R) := match o with
  | some (.int x) => gh_go pc lv (.int x :: st) W
  | _ => none
def gh_jl (o : Option Value) (pc : Nat) (lv : gh_L) (st : List Value) (W : gh_W) : Option (gh_S ⊕ gh_R) := match o with
  | some (.long x) => gh_go pc lv (.long x :: st) W
  | _ => none
def gh_al (o : Option Value) (pc : Nat) (lv : gh_L) (st : List Value) (W : gh_W) : Option (gh_S ⊕ gh_R) := match o with
  | some (.ref x) => gh_go pc lv (.ref x :: st) W
  | _ => none
def gh_is (j : Nat) (pc : Nat) (lv : gh_L) (st : List Value) (W : gh_W) : Option (gh_S ⊕ gh_R) := match st with
  | .int x :: r => gh_go pc (gh_s1 lv j (.int x)) r W
  | _ => none
def gh_js (j : Nat) (pc : Nat) (lv : gh_L) (st : List Value) (W : gh_W) : Option (gh_S ⊕ gh_R) := match st with
  | .long x :: r => gh_go pc (gh_s2 lv j (.long x)) r W
  | _ => none
def gh_as (j : Nat) (pc : Nat) (lv : gh_L) (st : List Value) (W : gh_W) : Option (gh_S ⊕ gh_R) := match st with
  | .ref x :: r => gh_go pc (gh_s1 lv j (.ref x)) r W
  | _ => none
def gh_inc (j : Nat) (w : Int32) (pc : Nat) (lv : gh_L) (st : List Value) (W : gh_W) : Option (gh_S ⊕ gh_R) := match gh_lk lv j with
  | some (.int a) => gh_go (pc + 3) (gh_s1 lv j (.int (a + w))) st W
  | _ => none
def gh_lift (lv : gh_L) (o : Option gh_N) : Option (gh_S ⊕ gh_R) := match o with
  | some (.inl (pc, st, W)) => gh_go pc lv st W
  | some (.inr r) => some (.inr r)
  | none => none
/-- a reference to a cell that stands, or to the script or a constant -/
def gh_vv (n : Nat) (x : Value) : Bool := match x with
  | .ref c => Nat.blt c n || Nat.ble gh_SC c
  | _ => true
/-- behind what makes cells, only what refers to standing cells is known of the locals -/
def gh_lifv (n : Nat) (lv : gh_L) (st : List Value) (o : Option gh_N) : Option (gh_S ⊕ gh_R) :=
  bif st.all (gh_vv n) && Nat.blt n gh_SC then gh_lift (lv.filter (fun q => gh_vv n q.2)) o else none
def gh_stp (O : gh_O) (bc bs : Nat) (sc : Option (Nat × (Nat → Int32))) (zr ini : Bool) (i : Instr) (u v : Nat) (w : Int32) (x : Int64) (pc : Nat) (lv : gh_L) (st : List Value) (W : gh_W) : Option (gh_S ⊕ gh_R) := match i with
  | .iload j => gh_il (gh_lk lv j) (pc + 2) lv st W
  | .iload_n j => gh_il (gh_lk lv j.val) (pc + 1) lv st W
  | .lload j => gh_jl (gh_lk lv j) (pc + 2) lv st W
  | .lload_n j => gh_jl (gh_lk lv j.val) (pc + 1) lv st W
  | .aload_n j => gh_al (gh_lk lv j.val) (pc + 1) lv st W
  | .istore j => gh_is j (pc + 2) lv st W
  | .istore_n j => gh_is j.val (pc + 1) lv st W
  | .lstore j => gh_js j (pc + 2) lv st W
  | .lstore_n j => gh_js j.val (pc + 1) lv st W
  | .astore_n j => gh_as j.val (pc + 1) lv st W
  | .iinc j _ => gh_inc j w pc lv st W
  | .new _ => gh_lifv W.1.1.length lv st (gh_new bc bs u pc st W)
  | .newarray _ => gh_lifv W.1.1.length lv st (gh_newa bc bs u pc st W)
  | .invokespecial _ => gh_lifv W.1.1.length lv st (gh_spe O bc bs u v pc st W)
  | i => gh_lift lv (gh_rest O bc bs sc zr ini i u v w x pc st W)
def gh_step (O : gh_O) (f : Nat → Option gh_E) (bc bs : Nat) (sc : Option (Nat × (Nat → Int32))) (zr ini : Bool) (σ : gh_S) : Option (gh_S ⊕ gh_R) := match f σ.1 with
  | some (i, _, u, v, w, x) => gh_stp O bc bs sc zr ini i u v w x σ.1 σ.2.1 σ.2.2.1 σ.2.2.2
  | none => none
def gh_run (O : gh_O) (f : Nat → Option gh_E) (bc bs : Nat) (sc : Option (Nat × (Nat → Int32))) (zr ini : Bool) : Nat → gh_S → Option gh_R
  | 0, _ => none
  | n + 1, σ => match gh_step O f bc bs sc zr ini σ with
    | some (.inl τ) => gh_run O f bc bs sc zr ini n τ
    | some (.inr r) => some r
    | none => none
end
section
/-! ===== STATIC: names, words and links by number ===== -/
def gh_Rn : Nat → String
  | 0 => RX0
  | 1 => RX1
  | 2 => RX2
  | 3 => RX3
  | 4 => RX4
  | 5 => RX5
  | 6 => RX6
  | 7 => RX7
  | 8 => RX8
  | 9 => RX9
  | 10 => RX10
  | _ => RL
def gh_Tn : Nat → u_T
  | 0 => TX0
  | 1 => TX1
  | 2 => TX2
  | 3 => TX3
  | 4 => TX4
  | 5 => TX5
  | 6 => TX6
  | 7 => TX7
  | 8 => TX8
  | 9 => TX9
  | 10 => TX10
  | _ => TX10
def gh_tn : Nat → Nat → FieldType
  | 0 => tyX0
  | 1 => tyX1
  | 2 => tyX2
  | 3 => tyX3
  | 4 => tyX4
  | 5 => tyX5
  | 6 => tyX6
  | 7 => tyX7
  | 8 => tyX8
  | 9 => tyX9
  | 10 => tyX10
  | _ => tyX10
def gh_ty : Nat → FieldType
  | 0 => .int
  | 1 => .long
  | 2 => .byte
  | _ => .boolean
def gh_tbl : List Jvm.Cond := lw_tbl.filter goodWord
theorem gh_mem {p : Nat} {w : Jvm.Cond} (h : lw_tbl[p]? = some w) (g : goodWord w = true) : w ∈ gh_tbl := List.mem_filter.mpr ⟨List.mem_of_getElem? h, g⟩
theorem gh_mem2 {p : Nat} {w : Jvm.Cond} (h : (decide (lw_tbl[p]? = some w) && goodWord w) = true) : w ∈ gh_tbl := by
  simp only [Bool.and_eq_true, decide_eq_true_eq] at h
  exact gh_mem h.1 h.2
def gh_ys : List MethodName := [yX0_init, yX0_has, yX0_canTake, yX0_canPut, yX0_part, yX0_take, yX0_put, yX0_moist, yX0_allGrams, yX1_init, yX1_choose, yX1_best, yX1_reckon, yX1_tryAll, yX2_init, yX2_setHour, yX2_setPower, yX2_setNeed, yX2_cost, yX2_paid, yX2_cheapest, yX2_addHour, yX2_reachBy, yX2_reach, yX2_reachFrom, yX2_shift, yX2_makeFirst, yX2_exchange, yX2_reachBySpare, yX3_init, yX3_isFull, yX3_add, yX3_value, yX3_valueOf, yX3_gramsOf, yX3_countOf, yX3_allGrams, yX4_init, yX4_add, yX4_find, yX4_costOf, yX4_spread, yX4_spreadOver, yX4_trace, yX4_firstLeg, yX4_goBy, yX5_init, yX5_clear, yX5_hasPrice, yX5_hasDock, yX5_isFull, yX5_addPrice, yX5_addDock, yX5_value, yX6_init, yX6_read, yX6_next, yX6_readNumber, yX6_isLetter, yX6_isDigit, yX6_isWord, yX6_faultHere, yX6_faultOfFirst, yX6_faultOfSecond, yX6_accept, yX7_init, yX7_add, yX7_sortIn, yX7_setPit, yX7_clear, yX7_waits, yX7_tryAll, yX7_takes, yX7_atLeast, yX7_setEmpty, yX8_init, yX8_hasRoom, yX8_put, yX9_init, yX9_holds, yX9_load, yX9_leg, yX9_cleaning, yX9_way, yX9_wayLeg, yX9_move, yX9_dry, yX9_ship, yX9_binOf, yX9_dryIn, yX9_truck, yX9_pit, yX9_rush, yX9_served, yX9_gone, yX9_hour, yX9_needs, yX9_fans, yX9_fansOf, yX9_blend, yX9_blended, yX9_feed, yX9_end, yX9_list, yX9_fault, yX9_worth, yX9_account, yX9_about, yX9_within, yX9_isBin, yX9_isKind, yX9_isFarmer, yX10_init, yX10_in, yX10_isBin, yX10_isKind, yX10_holds, yX10_canPut, yX10_puts, yX10_dryOf, yX10_moistOf, yX10_load, yX10_leg, yX10_cleaning, yX10_legCost, yX10_goes, yX10_lessens, yX10_isWay, yX10_way, yX10_nextLeg, yX10_wayLeg, yX10_goesBy, yX10_takes, yX10_move, yX10_dry, yX10_ship, yX10_binOf, yX10_dryIn, yX10_truck, yX10_pit, yX10_emptyAt, yX10_nextRow, yX10_swaps, yX10_rush, yX10_served, yX10_gone, yX10_hour, yX10_needs, yX10_may, yX10_reaches, yX10_walks, yX10_turns, yX10_plans, yX10_fans, yX10_fansOf, yX10_blends, yX10_isThere, yX10_blend, yX10_blended, yX10_put, yX10_feed, yX10_end, yX10_isLetter, yX10_wordOf, yX10_next, yX10_errs, yX10_wasDock, yX10_number, yX10_clause, yX10_list, yX10_fault, yX10_worthOf, yX10_worth, yX10_account, yX10_about]
def gh_cs : List ByteArray := [cX0_init, cX0_has, cX0_canTake, cX0_canPut, cX0_part, cX0_take, cX0_put, cX0_moist, cX0_allGrams, cX1_init, cX1_choose, cX1_best, cX1_reckon, cX1_tryAll, cX2_init, cX2_setHour, cX2_setPower, cX2_setNeed, cX2_cost, cX2_paid, cX2_cheapest, cX2_addHour, cX2_reachBy, cX2_reach, cX2_reachFrom, cX2_shift, cX2_makeFirst, cX2_exchange, cX2_reachBySpare, cX3_init, cX3_isFull, cX3_add, cX3_value, cX3_valueOf, cX3_gramsOf, cX3_countOf, cX3_allGrams, cX4_init, cX4_add, cX4_find, cX4_costOf, cX4_spread, cX4_spreadOver, cX4_trace, cX4_firstLeg, cX4_goBy, cX5_init, cX5_clear, cX5_hasPrice, cX5_hasDock, cX5_isFull, cX5_addPrice, cX5_addDock, cX5_value, cX6_init, cX6_read, cX6_next, cX6_readNumber, cX6_isLetter, cX6_isDigit, cX6_isWord, cX6_faultHere, cX6_faultOfFirst, cX6_faultOfSecond, cX6_accept, cX7_init, cX7_add, cX7_sortIn, cX7_setPit, cX7_clear, cX7_waits, cX7_tryAll, cX7_takes, cX7_atLeast, cX7_setEmpty, cX8_init, cX8_hasRoom, cX8_put, cX9_init, cX9_holds, cX9_load, cX9_leg, cX9_cleaning, cX9_way, cX9_wayLeg, cX9_move, cX9_dry, cX9_ship, cX9_binOf, cX9_dryIn, cX9_truck, cX9_pit, cX9_rush, cX9_served, cX9_gone, cX9_hour, cX9_needs, cX9_fans, cX9_fansOf, cX9_blend, cX9_blended, cX9_feed, cX9_end, cX9_list, cX9_fault, cX9_worth, cX9_account, cX9_about, cX9_within, cX9_isBin, cX9_isKind, cX9_isFarmer, cX10_init, cX10_in, cX10_isBin, cX10_isKind, cX10_holds, cX10_canPut, cX10_puts, cX10_dryOf, cX10_moistOf, cX10_load, cX10_leg, cX10_cleaning, cX10_legCost, cX10_goes, cX10_lessens, cX10_isWay, cX10_way, cX10_nextLeg, cX10_wayLeg, cX10_goesBy, cX10_takes, cX10_move, cX10_dry, cX10_ship, cX10_binOf, cX10_dryIn, cX10_truck, cX10_pit, cX10_emptyAt, cX10_nextRow, cX10_swaps, cX10_rush, cX10_served, cX10_gone, cX10_hour, cX10_needs, cX10_may, cX10_reaches, cX10_walks, cX10_turns, cX10_plans, cX10_fans, cX10_fansOf, cX10_blends, cX10_isThere, cX10_blend, cX10_blended, cX10_put, cX10_feed, cX10_end, cX10_isLetter, cX10_wordOf, cX10_next, cX10_errs, cX10_wasDock, cX10_number, cX10_clause, cX10_list, cX10_fault, cX10_worthOf, cX10_worth, cX10_account, cX10_about]
def gh_ls : List Nat := [2, 3, 3, 4, 3, 5, 6, 2, 4, 1, 5, 5, 5, 14, 2, 4, 2, 4, 1, 3, 4, 5, 5, 4, 4, 6, 4, 5, 3, 1, 1, 6, 3, 6, 5, 4, 4, 1, 4, 6, 4, 6, 7, 7, 10, 4, 1, 2, 2, 3, 1, 3, 3, 8, 1, 4, 2, 2, 1, 1, 4, 3, 3, 2, 3, 1, 4, 3, 3, 2, 1, 10, 4, 8, 4, 1, 2, 3, 1, 3, 8, 4, 2, 4, 5, 6, 8, 5, 3, 2, 4, 3, 1, 3, 1, 4, 4, 1, 2, 5, 2, 6, 2, 3, 2, 2, 3, 2, 3, 1, 1, 1, 2, 6, 1, 1, 3, 4, 6, 3, 6, 8, 4, 2, 3, 7, 6, 4, 4, 7, 8, 8, 3, 7, 9, 5, 4, 2, 4, 3, 8, 5, 4, 5, 4, 2, 4, 4, 3, 4, 7, 5, 5, 1, 4, 5, 3, 16, 2, 2, 6, 2, 1, 2, 6, 2, 4, 5, 6, 4, 2, 6, 2, 6, 7]
def gh_rs : List (Option FieldType) := [none, some .boolean, some .boolean, some .boolean, some .long, some .long, none, some .int, some .long, none, some .boolean, some .long, none, none, none, some .boolean, some .boolean, some .boolean, some .int, some .int, some .boolean, some .boolean, none, none, none, none, none, none, none, none, some .boolean, some .int, some .int, some .long, some .long, some .int, some .long, none, some .int, some .int, some .int, none, none, none, some .int, none, none, none, some .boolean, some .boolean, some .boolean, none, none, some .int, none, some .int, none, none, some .boolean, some .boolean, some .boolean, some .int, some .int, some .int, none, none, some .int, none, none, some .int, some .int, none, some .int, some .int, none, none, some .boolean, none, none, some .boolean, some .int, some .int, some .boolean, some .int, some .int, some .int, some .int, some .long, some .int, some .long, some .int, some .boolean, some .int, some .int, some .int, some .boolean, some .boolean, some .int, some .int, some .long, some .int, some .int, some .int, some .int, some .int, some .int, some .long, some .long, some .boolean, some .boolean, some .boolean, some .boolean, none, some .boolean, some .boolean, some .boolean, some .boolean, some .boolean, none, some .long, some .int, some .int, some .int, some .boolean, some .int, none, some .boolean, some .boolean, some .int, some .int, some .int, some .int, none, some .int, some .int, some .long, some .int, some .long, some .int, some .boolean, some .int, some .boolean, none, some .int, some .int, some .int, some .boolean, some .boolean, some .boolean, some .boolean, none, none, some .int, some .int, some .int, some .long, some .boolean, some .long, some .int, none, some .int, some .int, some .boolean, some .int, none, none, some .boolean, some .int, none, some .int, some .int, some .int, some .int, some .long, some .long]
def gh_ps : List Nat := [0, 2, 2, 3, 2, 2, 4, 1, 0, 0, 3, 3, 2, 2, 0, 3, 1, 3, 0, 0, 0, 1, 2, 3, 2, 1, 0, 2, 1, 0, 0, 4, 2, 2, 1, 1, 0, 0, 3, 3, 2, 3, 5, 2, 4, 2, 0, 0, 1, 1, 0, 2, 2, 3, 0, 2, 1, 1, 1, 1, 2, 2, 1, 0, 2, 0, 3, 1, 2, 0, 0, 4, 2, 2, 0, 0, 1, 1, 0, 2, 5, 3, 1, 3, 4, 3, 4, 2, 2, 1, 3, 2, 0, 2, 0, 3, 3, 0, 1, 4, 1, 5, 1, 0, 1, 1, 2, 1, 3, 1, 1, 1, 0, 3, 1, 1, 2, 3, 4, 2, 2, 5, 3, 1, 2, 2, 5, 3, 3, 3, 4, 3, 2, 3, 4, 2, 2, 1, 3, 2, 2, 0, 2, 0, 2, 0, 3, 3, 2, 3, 1, 2, 0, 0, 1, 1, 2, 4, 1, 1, 5, 1, 1, 1, 1, 1, 1, 3, 1, 0, 1, 1, 1, 2, 1]
/-- 0 static, 1 instance, 2 constructor -/
def gh_ks : List Nat := [2, 1, 1, 1, 1, 1, 1, 1, 1, 2, 1, 1, 1, 1, 2, 1, 1, 1, 1, 1, 1, 1, 1, 1, 1, 1, 1, 1, 1, 2, 1, 1, 1, 1, 1, 1, 1, 2, 1, 1, 1, 1, 1, 1, 1, 1, 2, 1, 1, 1, 1, 1, 1, 1, 2, 1, 1, 1, 0, 0, 1, 1, 1, 1, 1, 2, 1, 1, 1, 1, 1, 1, 1, 1, 1, 2, 1, 1, 2, 1, 1, 1, 1, 1, 1, 1, 1, 1, 1, 1, 1, 1, 1, 1, 1, 1, 1, 1, 1, 1, 1, 1, 1, 1, 1, 1, 1, 1, 0, 0, 0, 0, 2, 0, 0, 0, 1, 1, 1, 1, 0, 1, 1, 1, 1, 1, 1, 1, 1, 1, 1, 1, 1, 1, 1, 1, 1, 1, 1, 1, 1, 1, 1, 1, 1, 1, 1, 1, 1, 1, 1, 1, 1, 1, 1, 1, 1, 1, 1, 1, 1, 1, 0, 0, 1, 1, 1, 1, 1, 1, 1, 1, 1, 1, 1]
def gh_pos : List (Nat × Nat × Nat × Nat) := [(86, 85, 0, 58), (719, 717, 718, 58), (529, 527, 528, 58), (460, 458, 459, 58), (542, 540, 541, 58), (538, 536, 537, 58), (465, 463, 464, 58), (550, 548, 549, 58), (923, 921, 922, 58), (281, 280, 0, 63), (715, 713, 714, 63), (723, 721, 722, 63), (727, 726, 20, 63), (735, 734, 21, 63), (226, 225, 0, 62), (641, 639, 640, 62), (650, 648, 649, 62), (654, 652, 653, 62), (663, 661, 662, 62), (691, 690, 16, 62), (667, 666, 10, 62), (671, 670, 11, 62), (675, 674, 12, 62), (679, 678, 13, 62), (683, 682, 14, 62), (687, 686, 15, 62), (695, 694, 17, 62), (699, 698, 18, 62), (703, 702, 19, 62), (113, 112, 0, 59), (456, 454, 455, 59), (469, 467, 468, 59), (891, 889, 890, 59), (910, 908, 909, 59), (906, 904, 905, 59), (915, 913, 914, 59), (927, 925, 926, 59), (136, 135, 0, 60), (478, 476, 477, 60), (491, 489, 490, 60), (502, 501, 1, 60), (498, 497, 0, 60), (506, 505, 2, 60), (513, 512, 3, 60), (517, 516, 4, 60), (534, 532, 533, 60), (373, 372, 0, 66), (769, 767, 768, 66), (860, 858, 859, 66), (856, 854, 855, 66), (847, 845, 846, 66), (878, 876, 877, 66), (873, 871, 872, 66), (895, 893, 894, 66), (330, 329, 0, 65), (765, 763, 764, 65), (773, 772, 22, 65), (784, 783, 23, 65), (776, 775, 0, 65), (780, 779, 0, 65), (795, 794, 25, 65), (790, 789, 24, 65), (852, 851, 26, 65), (865, 864, 27, 65), (869, 868, 28, 65), (178, 177, 0, 61), (576, 574, 575, 61), (582, 581, 5, 61), (590, 588, 589, 61), (633, 631, 632, 61), (598, 596, 597, 61), (603, 602, 6, 61), (613, 612, 7, 61), (617, 616, 8, 61), (621, 620, 9, 61), (314, 313, 0, 64), (748, 746, 747, 64), (752, 750, 751, 64), (78, 77, 0, 57), (434, 432, 433, 57), (445, 443, 444, 57), (474, 472, 473, 57), (483, 481, 482, 57), (487, 485, 486, 57), (521, 519, 520, 57), (525, 523, 524, 57), (546, 544, 545, 57), (559, 557, 558, 57), (564, 562, 563, 57), (568, 566, 567, 57), (572, 570, 571, 57), (586, 584, 585, 57), (594, 592, 593, 57), (625, 623, 624, 57), (629, 627, 628, 57), (637, 635, 636, 57), (646, 644, 645, 57), (659, 657, 658, 57), (707, 705, 706, 57), (711, 709, 710, 57), (740, 738, 739, 57), (744, 742, 743, 57), (757, 755, 756, 57), (761, 759, 760, 57), (883, 881, 882, 57), (887, 885, 886, 57), (902, 900, 901, 57), (919, 917, 918, 57), (440, 439, 0, 57), (437, 436, 0, 57), (451, 450, 0, 57), (448, 447, 0, 57), (932, 931, 0, 67), (1135, 1134, 0, 67), (1131, 1130, 0, 67), (1144, 1143, 0, 67), (1128, 1126, 1127, 67), (1151, 1150, 29, 67), (1155, 1154, 30, 67), (1203, 1202, 36, 67), (1219, 1218, 0, 67), (1140, 1138, 1139, 67), (1159, 1157, 1158, 67), (1165, 1163, 1164, 67), (1187, 1186, 34, 67), (1178, 1177, 32, 67), (1183, 1182, 33, 67), (1174, 1173, 31, 67), (1170, 1168, 1169, 67), (1195, 1194, 35, 67), (1191, 1189, 1190, 67), (1207, 1206, 37, 67), (1211, 1210, 38, 67), (1199, 1197, 1198, 67), (1215, 1213, 1214, 67), (1224, 1222, 1223, 67), (1229, 1227, 1228, 67), (1233, 1231, 1232, 67), (1237, 1235, 1236, 67), (1242, 1240, 1241, 67), (1250, 1249, 39, 67), (1254, 1253, 40, 67), (1258, 1257, 41, 67), (1246, 1244, 1245, 67), (1262, 1260, 1261, 67), (1267, 1265, 1266, 67), (1271, 1269, 1270, 67), (1275, 1273, 1274, 67), (1293, 1292, 44, 67), (1297, 1296, 45, 67), (1289, 1288, 43, 67), (1301, 1300, 46, 67), (1285, 1284, 42, 67), (1281, 1279, 1280, 67), (1305, 1303, 1304, 67), (1319, 1318, 48, 67), (1315, 1314, 47, 67), (1309, 1307, 1308, 67), (1323, 1321, 1322, 67), (1331, 1330, 49, 67), (1327, 1325, 1326, 67), (1335, 1333, 1334, 67), (1346, 1345, 0, 67), (1354, 1353, 0, 67), (1343, 1342, 50, 67), (1367, 1366, 52, 67), (1371, 1370, 53, 67), (1375, 1374, 54, 67), (1363, 1362, 51, 67), (1339, 1337, 1338, 67), (1379, 1377, 1378, 67), (1387, 1386, 55, 67), (1383, 1381, 1382, 67), (1393, 1391, 1392, 67), (1398, 1396, 1397, 67)]
def gh_yn (z : Nat) : MethodName := gh_ys.getD z yL_law
def gh_cn (z : Nat) : ByteArray := gh_cs.getD z code
def gh_ln (z : Nat) : Nat := gh_ls.getD z 0
def gh_rn (z : Nat) : Option FieldType := gh_rs.getD z none
def gh_pn (z : Nat) : Nat := gh_ps.getD z 0
def gh_kn (z : Nat) : Nat := gh_ks.getD z 0
def gh_NZ : Nat := 175
def gh_okm (z : Nat) (q : Nat × Nat × Nat × Nat) : Bool :=
  (decide (lw_tbl[q.2.2.2]? = some (.initialized (gh_yn z).cls)) && goodWord (.initialized (gh_yn z).cls))
  && decide ((gh_yn z).cls = gh_Rn (gh_oc z)) && decide ((gh_yn z).cls ≠ "java/lang/invoke/MethodHandle") && decide ((gh_yn z).cls ≠ "java/lang/invoke/VarHandle")
  && decide ((parseMethodDescriptor (gh_yn z).desc).map (fun d => d.parameters.length) = some (gh_pn z)) && plainName (gh_yn z).cls && Nat.ble (gh_ln z) 40
  && (match gh_kn z with
    | 0 => (decide (lw_tbl[q.2.1]? = some (.static (gh_yn z))) && goodWord (.static (gh_yn z)))
    | 1 => (decide (lw_tbl[q.2.1]? = some (.instanceMethod (gh_yn z))) && goodWord (.instanceMethod (gh_yn z))) && (decide (lw_tbl[q.2.2.1]? = some (.selects (gh_yn z).cls (gh_yn z) (gh_yn z))) && goodWord (.selects (gh_yn z).cls (gh_yn z) (gh_yn z)))
    | _ => (decide (lw_tbl[q.2.1]? = some (.instanceMethod (gh_yn z))) && goodWord (.instanceMethod (gh_yn z))) && decide ((gh_yn z).name = "<init>") && decide (gh_rn z = none))
set_option maxRecDepth 100000 in
theorem gh_okm_all : (List.range 175).all (fun z => gh_okm z (gh_pos.getD z (0, 0, 0, 0))) = true := by decide +kernel
theorem gh_okm_of {z : Nat} (h : z < gh_NZ) : gh_okm z (gh_pos.getD z (0, 0, 0, 0)) = true := List.all_eq_true.mp gh_okm_all z (List.mem_range.mpr h)
set_option maxRecDepth 100000 in
theorem gh_codes : (gh_pos.map (fun q => q.1)).map (fun i => lw_tbl[i]?) = (List.range 175).map (fun z => some (Jvm.Cond.code (gh_yn z) (gh_cn z) (gh_ln z) (gh_rn z))) := by rfl
theorem gh_code_in {z : Nat} (h : z < gh_NZ) : Jvm.Cond.code (gh_yn z) (gh_cn z) (gh_ln z) (gh_rn z) ∈ gh_tbl := by
  have hz : z < 175 := h
  have e := congrArg (fun l => l[z]?) gh_codes
  simp only [List.getElem?_map, List.getElem?_range hz, Option.map_some] at e
  cases hp : gh_pos[z]? with
  | none => rw [hp] at e; cases e
  | some q =>
    rw [hp] at e
    exact gh_mem (p := q.1) (Option.some.inj e) rfl
def gh_flt : List (Nat × Nat × Nat × Nat) := [(0, 9, 0, 0), (9, 143, 0, 0), (0, 15, 0, 1), (9, 94, 0, 1), (1, 62, 0, 1), (0, 18, 0, 2), (9, 98, 0, 2), (0, 21, 0, 3), (9, 163, 0, 3), (3, 11, 3, 0), (3, 15, 3, 1), (3, 18, 3, 2), (3, 21, 3, 3), (3, 24, 3, 4), (9, 240, 3, 4), (4, 11, 4, 0), (4, 15, 4, 1), (4, 18, 4, 2), (4, 21, 4, 3), (4, 24, 4, 4), (4, 27, 4, 5), (9, 136, 4, 5), (4, 30, 4, 6), (9, 133, 4, 6), (4, 34, 4, 7), (9, 256, 4, 7), (4, 37, 4, 8), (9, 126, 4, 8), (4, 40, 4, 9), (9, 257, 4, 9), (7, 11, 7, 0), (7, 15, 7, 1), (7, 18, 7, 2), (7, 21, 7, 3), (7, 24, 7, 4), (7, 27, 7, 5), (9, 178, 7, 5), (7, 30, 7, 6), (9, 181, 7, 6), (7, 33, 7, 7), (9, 175, 7, 7), (7, 37, 7, 8), (9, 265, 7, 8), (7, 40, 7, 9), (9, 268, 7, 9), (7, 43, 7, 10), (7, 46, 7, 11), (2, 11, 2, 0), (2, 15, 2, 1), (2, 19, 2, 2), (2, 22, 2, 3), (2, 25, 2, 4), (2, 28, 2, 5), (2, 31, 2, 6), (2, 34, 2, 7), (2, 37, 2, 8), (2, 40, 2, 9), (9, 200, 2, 9), (2, 43, 2, 10), (9, 271, 2, 10), (2, 47, 2, 11), (2, 50, 2, 12), (2, 53, 2, 13), (2, 56, 2, 14), (1, 11, 1, 0), (1, 15, 1, 1), (1, 18, 1, 2), (1, 22, 1, 3), (1, 25, 1, 4), (1, 29, 1, 5), (1, 33, 1, 6), (9, 215, 1, 6), (1, 36, 1, 7), (9, 211, 1, 7), (8, 9, 8, 0), (6, 68, 8, 0), (8, 13, 8, 1), (6, 51, 8, 1), (9, 224, 8, 1), (6, 9, 6, 0), (9, 231, 6, 0), (6, 15, 6, 1), (9, 234, 6, 1), (6, 19, 6, 2), (9, 237, 6, 2), (6, 22, 6, 3), (6, 25, 6, 4), (6, 28, 6, 5), (6, 31, 6, 6), (6, 34, 6, 7), (6, 37, 6, 8), (6, 40, 6, 9), (6, 43, 6, 10), (5, 9, 5, 0), (5, 15, 5, 1), (5, 19, 5, 2), (5, 22, 5, 3), (5, 25, 5, 4), (9, 10, 9, 0), (9, 19, 9, 1), (9, 26, 9, 2), (9, 33, 9, 3), (9, 40, 9, 4), (9, 47, 9, 5), (9, 54, 9, 6), (9, 61, 9, 7), (9, 68, 9, 8), (9, 72, 9, 9), (9, 75, 9, 10), (9, 79, 9, 11), (9, 82, 9, 12), (10, 7, 10, 0), (10, 13, 10, 1), (10, 16, 10, 2), (10, 19, 10, 3), (10, 175, 10, 4), (10, 23, 10, 5), (10, 26, 10, 6), (10, 29, 10, 7), (10, 32, 10, 8), (10, 190, 10, 9), (10, 35, 10, 10), (10, 38, 10, 11), (10, 41, 10, 12), (10, 44, 10, 13), (10, 47, 10, 14), (10, 215, 10, 15), (10, 234, 10, 16), (10, 240, 10, 17), (10, 243, 10, 18), (10, 248, 10, 19), (10, 51, 10, 20), (10, 54, 10, 21), (10, 57, 10, 22), (10, 60, 10, 23), (10, 63, 10, 24), (10, 66, 10, 25), (10, 70, 10, 26), (10, 73, 10, 27), (10, 76, 10, 28), (10, 79, 10, 29), (10, 82, 10, 30), (10, 305, 10, 31), (10, 323, 10, 32), (10, 326, 10, 33), (10, 329, 10, 34), (10, 341, 10, 35), (10, 349, 10, 36), (10, 352, 10, 37), (10, 86, 10, 38), (10, 89, 10, 39), (10, 92, 10, 40), (10, 355, 10, 41), (10, 95, 10, 42), (10, 98, 10, 43), (10, 101, 10, 44), (10, 373, 10, 45), (10, 104, 10, 46), (10, 107, 10, 47), (10, 110, 10, 48), (10, 113, 10, 49), (10, 116, 10, 50), (10, 119, 10, 51), (10, 251, 10, 52), (10, 122, 10, 53), (10, 125, 10, 54), (10, 128, 10, 55), (10, 131, 10, 56), (10, 134, 10, 57), (10, 137, 10, 58), (10, 140, 10, 59), (10, 143, 10, 60), (10, 146, 10, 61), (10, 301, 10, 62)]
def gh_flp : List Nat := [89, 90, 91, 92, 93, 94, 95, 96, 97, 115, 116, 117, 118, 119, 120, 138, 139, 140, 141, 142, 143, 144, 145, 146, 147, 148, 149, 150, 151, 152, 180, 181, 182, 183, 184, 185, 186, 187, 188, 189, 190, 191, 192, 193, 194, 195, 196, 228, 229, 230, 231, 232, 233, 234, 235, 236, 237, 238, 239, 240, 241, 242, 243, 244, 283, 284, 285, 286, 287, 288, 289, 290, 291, 292, 316, 317, 318, 319, 320, 332, 333, 334, 335, 336, 337, 338, 339, 340, 341, 342, 343, 344, 345, 375, 376, 377, 378, 379, 391, 392, 393, 394, 395, 396, 397, 398, 399, 400, 401, 402, 403, 935, 936, 937, 938, 939, 940, 941, 942, 943, 944, 945, 946, 947, 948, 949, 950, 951, 952, 953, 954, 955, 956, 957, 958, 959, 960, 961, 962, 963, 964, 965, 966, 967, 968, 969, 970, 971, 972, 973, 974, 975, 976, 977, 978, 979, 980, 981, 982, 983, 984, 985, 986, 987, 988, 989, 990, 991, 992, 993, 994, 995, 996, 997]
abbrev gh_flw (q : Nat × Nat × Nat × Nat) : Jvm.Cond := .fieldLink (gh_Rn q.1) q.2.1 ((gh_Tn q.2.2.1) q.2.2.2).1 ((gh_Tn q.2.2.1) q.2.2.2).2.1 ((gh_Tn q.2.2.1) q.2.2.2).2.2.1
theorem gh_zip {α : Type} {l : List α} {ps : List Nat} {f : α → Jvm.Cond} (hl : l.length = ps.length) (h : (l.zip ps).all (fun q => decide (lw_tbl[q.2]? = some (f q.1)) && goodWord (f q.1)) = true) : ∀ a ∈ l, f a ∈ gh_tbl := by
  intro a ha
  obtain ⟨i, hi⟩ := List.getElem?_of_mem ha
  have hil : i < l.length := (List.getElem?_eq_some_iff.mp hi).1
  have hip : i < ps.length := hl ▸ hil
  have hz : (l.zip ps)[i]? = some (a, ps[i]) := by
    rw [List.getElem?_zip_eq_some]
    exact ⟨hi, List.getElem?_eq_getElem hip⟩
  exact gh_mem2 (List.all_eq_true.mp h _ (List.mem_of_getElem? hz))
set_option maxRecDepth 100000 in
theorem gh_flt_ok : ∀ q ∈ gh_flt, gh_flw q ∈ gh_tbl := gh_zip (ps := gh_flp) rfl (by decide +kernel)
def gh_clt : List (Nat × Nat × Nat) := [(11, 7, 9), (9, 7, 0), (9, 16, 3), (9, 23, 4), (9, 30, 7), (9, 37, 2), (9, 44, 1), (9, 51, 8), (9, 58, 6), (9, 65, 5), (11, 10, 10)]
def gh_clp : List Nat := [74, 82, 109, 132, 174, 222, 277, 310, 326, 369, 928]
set_option maxRecDepth 100000 in
theorem gh_clt_ok : ∀ q ∈ gh_clt, (fun q : Nat × Nat × Nat => Jvm.Cond.classLink (gh_Rn q.1) q.2.1 (gh_Rn q.2.2)) q ∈ gh_tbl := gh_zip (ps := gh_clp) rfl (by decide +kernel)
def gh_kit : List (Nat × Nat × Int32) := [(0, 25, 100000), (9, 89, 500000), (9, 107, 40000), (4, 55, 1000000), (7, 64, 2147483647), (6, 82, 1000000), (10, 149, 100000), (10, 195, 100000000), (10, 348, 99999)]
set_option maxRecDepth 100000 in
theorem gh_kit_ok : ∀ q ∈ gh_kit, (fun q : Nat × Nat × Int32 => Jvm.Cond.constant (gh_Rn q.1) q.2.1 q.2.2) q ∈ gh_tbl := gh_zip (ps := [88, 441, 452, 494, 599, 785, 934, 1179, 1359]) rfl (by decide +kernel)
def gh_kjt : List (Nat × Nat × Int64) := [(0, 38, 1000), (9, 161, (-1)), (1, 52, 9223372036854775807), (1, 54, 1000), (1, 60, (-1)), (5, 37, 1000000), (5, 45, 100), (10, 150, 7), (10, 162, 500000), (10, 166, 9), (10, 156, 3), (10, 171, 40000), (10, 173, 400), (10, 186, 11), (10, 188, 60), (10, 193, 99), (10, 228, 300), (10, 164, 1000), (10, 238, (-1)), (10, 246, 999), (10, 269, 8), (10, 271, 12), (10, 290, 255), (10, 292, 20), (10, 311, 97), (10, 313, 122), (10, 315, 65), (10, 317, 90), (10, 335, 64), (10, 319, 818583781), (10, 321, 9631979), (10, 344, 48), (10, 346, 57), (10, 376, 1000000), (10, 378, 100), (10, 384, 2)]
set_option maxRecDepth 100000 in
theorem gh_kjt_ok : ∀ q ∈ gh_kjt, (fun q : Nat × Nat × Int64 => Jvm.Cond.constantLong (gh_Rn q.1) q.2.1 q.2.2) q ∈ gh_tbl := gh_zip (ps := [551, 560, 730, 731, 736, 896, 898, 1132, 1136, 1141, 1145, 1146, 1147, 1160, 1161, 1166, 1216, 1220, 1225, 1238, 1276, 1277, 1310, 1311, 1347, 1348, 1349, 1350, 1351, 1355, 1356, 1357, 1358, 1388, 1389, 1394]) rfl (by decide +kernel)
def gh_mlt : List (Nat × Nat × Nat) := [(11, 9, 78), (9, 9, 0), (9, 39, 14), (11, 13, 79), (9, 85, 109), (9, 90, 108), (11, 18, 80), (9, 101, 111), (9, 104, 110), (9, 108, 30), (9, 112, 3), (9, 115, 6), (9, 119, 31), (3, 28, 30), (11, 23, 81), (9, 123, 38), (11, 28, 82), (11, 33, 83), (9, 130, 39), (4, 56, 41), (4, 64, 40), (4, 68, 42), (4, 60, 43), (4, 77, 44), (11, 37, 84), (11, 42, 85), (9, 139, 2), (9, 146, 45), (9, 150, 5), (0, 34, 4), (11, 46, 86), (9, 154, 7), (9, 158, 4), (11, 50, 87), (11, 55, 88), (11, 60, 89), (11, 65, 90), (9, 167, 66), (7, 58, 67), (11, 69, 91), (9, 168, 68), (11, 73, 92), (9, 171, 70), (7, 65, 71), (7, 84, 72), (7, 87, 73), (7, 69, 74), (11, 78, 93), (11, 82, 94), (9, 184, 69), (11, 86, 95), (9, 187, 15), (11, 91, 96), (9, 191, 16), (9, 194, 17), (11, 96, 97), (9, 197, 18), (2, 68, 20), (2, 79, 21), (2, 82, 22), (2, 93, 23), (2, 86, 24), (2, 89, 25), (2, 72, 19), (2, 76, 26), (2, 97, 27), (2, 100, 28), (11, 100, 98), (11, 105, 99), (9, 203, 10), (1, 40, 1), (9, 207, 11), (1, 46, 12), (1, 71, 4), (1, 56, 13), (11, 110, 100), (11, 114, 101), (9, 218, 76), (9, 221, 77), (8, 17, 76), (11, 118, 102), (11, 122, 103), (9, 227, 55), (6, 46, 47), (6, 56, 56), (6, 72, 58), (6, 76, 59), (6, 79, 57), (6, 60, 61), (6, 104, 60), (6, 108, 50), (6, 114, 62), (6, 121, 49), (6, 124, 48), (6, 118, 63), (6, 64, 64), (6, 127, 52), (5, 33, 50), (6, 131, 51), (11, 126, 104), (11, 130, 105), (9, 241, 32), (3, 32, 53), (11, 134, 106), (9, 245, 34), (9, 249, 33), (3, 38, 32), (9, 253, 35), (11, 138, 107), (9, 260, 8), (9, 264, 36), (11, 12, 112), (11, 17, 116), (10, 158, 114), (10, 152, 113), (11, 22, 121), (10, 168, 115), (10, 178, 117), (10, 182, 118), (11, 27, 122), (11, 32, 123), (11, 36, 128), (10, 208, 127), (10, 204, 125), (10, 196, 126), (10, 200, 124), (11, 41, 130), (10, 211, 129), (11, 45, 133), (10, 218, 119), (10, 222, 131), (10, 225, 132), (11, 49, 134), (10, 230, 120), (11, 54, 135), (11, 59, 136), (11, 64, 137), (11, 68, 138), (11, 72, 139), (11, 77, 143), (10, 257, 140), (10, 261, 141), (10, 254, 142), (11, 81, 144), (10, 265, 143), (11, 85, 145), (11, 90, 146), (11, 95, 147), (11, 99, 153), (10, 287, 152), (10, 280, 150), (10, 273, 148), (10, 277, 149), (10, 284, 151), (11, 104, 154), (11, 109, 157), (10, 294, 156), (10, 297, 155), (11, 113, 158), (11, 117, 160), (10, 308, 159), (11, 121, 161), (11, 125, 169), (10, 361, 164), (10, 332, 162), (10, 337, 163), (10, 370, 168), (10, 358, 165), (10, 364, 166), (10, 367, 167), (11, 129, 170), (11, 133, 172), (10, 380, 171), (11, 137, 173), (11, 141, 174)]
set_option maxRecDepth 100000 in
theorem gh_mlt_ok : ∀ q ∈ gh_mlt, (fun q : Nat × Nat × Nat => Jvm.Cond.methodLink (gh_Rn q.1) q.2.1 (gh_yn q.2.2)) q ∈ gh_tbl := gh_zip (ps := [76, 84, 224, 431, 435, 438, 442, 446, 449, 453, 457, 462, 466, 470, 471, 475, 480, 484, 488, 495, 499, 503, 510, 514, 518, 522, 526, 531, 535, 539, 543, 547, 555, 556, 561, 565, 569, 573, 579, 583, 587, 591, 595, 600, 610, 614, 618, 622, 626, 630, 634, 638, 643, 647, 651, 656, 660, 664, 668, 672, 676, 680, 684, 688, 692, 696, 700, 704, 708, 712, 716, 720, 724, 729, 732, 737, 741, 745, 749, 753, 754, 758, 762, 766, 770, 774, 778, 781, 787, 792, 844, 849, 853, 857, 862, 866, 870, 874, 875, 880, 884, 888, 892, 899, 903, 907, 911, 912, 916, 920, 924, 930, 1125, 1129, 1133, 1137, 1142, 1148, 1152, 1156, 1162, 1167, 1171, 1175, 1180, 1184, 1188, 1192, 1196, 1200, 1204, 1208, 1212, 1217, 1221, 1226, 1230, 1234, 1239, 1243, 1247, 1251, 1255, 1259, 1263, 1264, 1268, 1272, 1278, 1282, 1286, 1290, 1294, 1298, 1302, 1306, 1312, 1316, 1320, 1324, 1328, 1332, 1336, 1340, 1344, 1352, 1360, 1364, 1368, 1372, 1376, 1380, 1384, 1390, 1395]) rfl (by decide +kernel)
/-- links to private members of nest mates: they are held by the state, not by the tables' words -/
def gh_mnt : List (Nat × Nat × Nat × Nat) := [(9, 18, 29, 9), (9, 25, 37, 9), (9, 32, 65, 9), (9, 46, 9, 9), (9, 53, 75, 9), (9, 60, 54, 9), (9, 67, 46, 9), (0, 26, 109, 9), (4, 44, 108, 9), (4, 48, 110, 9), (4, 52, 109, 9), (0, 30, 108, 9), (7, 50, 108, 9), (7, 54, 110, 9), (2, 60, 108, 9), (2, 64, 109, 9), (6, 89, 108, 9), (5, 29, 110, 9)]
def gh_mnw (q : Nat × Nat × Nat × Nat) : Jvm.Cond := .methodLinkNest (gh_Rn q.1) q.2.1 (gh_yn q.2.2.1) (gh_Rn q.2.2.2)
set_option maxRecDepth 100000 in
theorem gh_mnt_ok : ∀ q ∈ gh_mnt, gh_mnw q ∈ lw_tbl := by
  have h : (gh_mnt.zip [111, 134, 176, 279, 312, 328, 371, 461, 479, 492, 493, 530, 577, 578, 642, 655, 777, 861]).all (fun q => decide (lw_tbl[q.2]? = some (gh_mnw q.1))) = true := by decide +kernel
  intro a ha
  obtain ⟨i, hi⟩ := List.getElem?_of_mem ha
  have hil : i < gh_mnt.length := (List.getElem?_eq_some_iff.mp hi).1
  have hip : i < [111, 134, 176, 279, 312, 328, 371, 461, 479, 492, 493, 530, 577, 578, 642, 655, 777, 861].length := hil
  have hz : (gh_mnt.zip [111, 134, 176, 279, 312, 328, 371, 461, 479, 492, 493, 530, 577, 578, 642, 655, 777, 861])[i]? = some (a, [111, 134, 176, 279, 312, 328, 371, 461, 479, 492, 493, 530, 577, 578, 642, 655, 777, 861][i]) := by
    rw [List.getElem?_zip_eq_some]
    exact ⟨hi, List.getElem?_eq_getElem hip⟩
  exact List.mem_of_getElem? (of_decide_eq_true (List.all_eq_true.mp h _ (List.mem_of_getElem? hz)))
def gh_xn : Nat → MethodName
  | 1000 => Lib.Math.max.name
  | 1001 => Lib.Math.min.name
  | 1002 => Lib.MathLoose.max_long.x
  | 1003 => arraycopyName
  | 2000 => Lib.objectInit
  | _ => Lib.objectInit
def gh_xlt : List (Nat × Nat × Nat) := [(9, 1, 2000), (0, 3, 2000), (3, 3, 2000), (4, 5, 2000), (7, 3, 2000), (2, 3, 2000), (1, 5, 2000), (8, 1, 2000), (6, 3, 2000), (5, 3, 2000), (4, 72, 1001), (0, 40, 1002), (7, 72, 1003), (7, 78, 1000), (1, 65, 1001), (6, 83, 1001), (5, 39, 1001), (10, 1, 2000)]
set_option maxRecDepth 100000 in
theorem gh_xlt_ok : ∀ q ∈ gh_xlt, (fun q : Nat × Nat × Nat => Jvm.Cond.methodLink (gh_Rn q.1) q.2.1 (gh_xn q.2.2)) q ∈ gh_tbl := gh_zip (ps := [79, 87, 114, 137, 179, 227, 282, 315, 331, 374, 507, 552, 604, 607, 728, 786, 897, 933]) rfl (by decide +kernel)
theorem gh_w_xst0 : (.static Lib.Math.max.name : Jvm.Cond) ∈ gh_tbl := gh_mem2 (p := 608) (by decide +kernel)
theorem gh_w_xst1 : (.static Lib.Math.min.name : Jvm.Cond) ∈ gh_tbl := gh_mem2 (p := 508) (by decide +kernel)
theorem gh_w_xst2 : (.static Lib.MathLoose.max_long.x : Jvm.Cond) ∈ gh_tbl := gh_mem2 (p := 553) (by decide +kernel)
theorem gh_w_xst3 : (.static arraycopyName : Jvm.Cond) ∈ gh_tbl := gh_mem2 (p := 605) (by decide +kernel)
theorem gh_w_nat : (.native arraycopyName : Jvm.Cond) ∈ gh_tbl := gh_mem2 (p := 606) (by decide +kernel)
theorem gh_w_im : (.initialized "java/lang/Math" : Jvm.Cond) ∈ gh_tbl := gh_mem2 (p := 68) (by decide +kernel)
theorem gh_w_is : (.initialized "java/lang/System" : Jvm.Cond) ∈ gh_tbl := gh_mem2 (p := 69) (by decide +kernel)
theorem gh_w_c0 : (.code Lib.Math.max.name Lib.Math.max.code 2 (some .int) : Jvm.Cond) ∈ gh_tbl := gh_mem2 (p := 609) (by decide +kernel)
theorem gh_w_c1 : (.code Lib.Math.min.name Lib.Math.min.code 2 (some .int) : Jvm.Cond) ∈ gh_tbl := gh_mem2 (p := 509) (by decide +kernel)
theorem gh_w_c2 : (.code Lib.MathLoose.max_long.x Lib.MathLoose.max_long.code 4 (some .long) : Jvm.Cond) ∈ gh_tbl := gh_mem2 (p := 554) (by decide +kernel)
theorem gh_w_oi : (.instanceMethod Lib.objectInit : Jvm.Cond) ∈ gh_tbl := gh_mem2 (p := 80) (by decide +kernel)
theorem gh_w_oc : (.code Lib.objectInit ⟨#[0xb1]⟩ 1 none : Jvm.Cond) ∈ gh_tbl := gh_mem2 (p := 81) (by decide +kernel)
theorem gh_w_ac : ∀ t, t ≤ 3 → Jvm.Cond.arrayClass (gh_ty t) ∈ gh_tbl := by
  intro t h
  match t, h with
  | 0, _ => exact gh_mem2 (p := 107) (by decide +kernel)
  | 1, _ => exact gh_mem2 (p := 108) (by decide +kernel)
  | 2, _ => exact gh_mem2 (p := 879) (by decide +kernel)
  | 3, _ => exact gh_mem2 (p := 276) (by decide +kernel)
theorem gh_w_in : ∀ u, u < 11 → (Jvm.Cond.instantiable (gh_Rn u) (gh_ft u).length ∈ gh_tbl ∧ Jvm.Cond.initialized (gh_Rn u) ∈ gh_tbl) := by
  intro u h
  match u, h with
  | 0, _ => exact ⟨gh_mem2 (p := 83) (by decide +kernel), gh_mem2 (p := 58) (by decide +kernel)⟩
  | 1, _ => exact ⟨gh_mem2 (p := 278) (by decide +kernel), gh_mem2 (p := 63) (by decide +kernel)⟩
  | 2, _ => exact ⟨gh_mem2 (p := 223) (by decide +kernel), gh_mem2 (p := 62) (by decide +kernel)⟩
  | 3, _ => exact ⟨gh_mem2 (p := 110) (by decide +kernel), gh_mem2 (p := 59) (by decide +kernel)⟩
  | 4, _ => exact ⟨gh_mem2 (p := 133) (by decide +kernel), gh_mem2 (p := 60) (by decide +kernel)⟩
  | 5, _ => exact ⟨gh_mem2 (p := 370) (by decide +kernel), gh_mem2 (p := 66) (by decide +kernel)⟩
  | 6, _ => exact ⟨gh_mem2 (p := 327) (by decide +kernel), gh_mem2 (p := 65) (by decide +kernel)⟩
  | 7, _ => exact ⟨gh_mem2 (p := 175) (by decide +kernel), gh_mem2 (p := 61) (by decide +kernel)⟩
  | 8, _ => exact ⟨gh_mem2 (p := 311) (by decide +kernel), gh_mem2 (p := 64) (by decide +kernel)⟩
  | 9, _ => exact ⟨gh_mem2 (p := 75) (by decide +kernel), gh_mem2 (p := 57) (by decide +kernel)⟩
  | 10, _ => exact ⟨gh_mem2 (p := 929) (by decide +kernel), gh_mem2 (p := 67) (by decide +kernel)⟩
theorem gh_u0 : ∀ w ∈ u_ws RX0 TX0 4, w ∈ gh_tbl := by
  have h : (u_ws RX0 TX0 4).all goodWord = true := by decide +kernel
  have e : u_ws RX0 TX0 4 = [98, 100, 102, 104].filterMap (fun i => lw_tbl[i]?) := by decide +kernel
  intro w hw
  have g := List.all_eq_true.mp h w hw
  rw [e] at hw
  obtain ⟨i, -, hi⟩ := List.mem_filterMap.mp hw
  exact gh_mem hi g
theorem gh_u1 : ∀ w ∈ u_ws RX1 TX1 8, w ∈ gh_tbl := by
  have h : (u_ws RX1 TX1 8).all goodWord = true := by decide +kernel
  have e : u_ws RX1 TX1 8 = [293, 295, 297, 299, 301, 303, 305, 307].filterMap (fun i => lw_tbl[i]?) := by decide +kernel
  intro w hw
  have g := List.all_eq_true.mp h w hw
  rw [e] at hw
  obtain ⟨i, -, hi⟩ := List.mem_filterMap.mp hw
  exact gh_mem hi g
theorem gh_u2 : ∀ w ∈ u_ws RX2 TX2 15, w ∈ gh_tbl := by
  have h : (u_ws RX2 TX2 15).all goodWord = true := by decide +kernel
  have e : u_ws RX2 TX2 15 = [245, 247, 249, 251, 253, 255, 257, 259, 261, 263, 265, 267, 269, 271, 273].filterMap (fun i => lw_tbl[i]?) := by decide +kernel
  intro w hw
  have g := List.all_eq_true.mp h w hw
  rw [e] at hw
  obtain ⟨i, -, hi⟩ := List.mem_filterMap.mp hw
  exact gh_mem hi g
theorem gh_u3 : ∀ w ∈ u_ws RX3 TX3 5, w ∈ gh_tbl := by
  have h : (u_ws RX3 TX3 5).all goodWord = true := by decide +kernel
  have e : u_ws RX3 TX3 5 = [121, 123, 125, 127, 129].filterMap (fun i => lw_tbl[i]?) := by decide +kernel
  intro w hw
  have g := List.all_eq_true.mp h w hw
  rw [e] at hw
  obtain ⟨i, -, hi⟩ := List.mem_filterMap.mp hw
  exact gh_mem hi g
theorem gh_u4 : ∀ w ∈ u_ws RX4 TX4 10, w ∈ gh_tbl := by
  have h : (u_ws RX4 TX4 10).all goodWord = true := by decide +kernel
  have e : u_ws RX4 TX4 10 = [153, 155, 157, 159, 161, 163, 165, 167, 169, 171].filterMap (fun i => lw_tbl[i]?) := by decide +kernel
  intro w hw
  have g := List.all_eq_true.mp h w hw
  rw [e] at hw
  obtain ⟨i, -, hi⟩ := List.mem_filterMap.mp hw
  exact gh_mem hi g
theorem gh_u5 : ∀ w ∈ u_ws RX5 TX5 5, w ∈ gh_tbl := by
  have h : (u_ws RX5 TX5 5).all goodWord = true := by decide +kernel
  have e : u_ws RX5 TX5 5 = [380, 382, 384, 386, 388].filterMap (fun i => lw_tbl[i]?) := by decide +kernel
  intro w hw
  have g := List.all_eq_true.mp h w hw
  rw [e] at hw
  obtain ⟨i, -, hi⟩ := List.mem_filterMap.mp hw
  exact gh_mem hi g
theorem gh_u6 : ∀ w ∈ u_ws RX6 TX6 11, w ∈ gh_tbl := by
  have h : (u_ws RX6 TX6 11).all goodWord = true := by decide +kernel
  have e : u_ws RX6 TX6 11 = [346, 348, 350, 352, 354, 356, 358, 360, 362, 364, 366].filterMap (fun i => lw_tbl[i]?) := by decide +kernel
  intro w hw
  have g := List.all_eq_true.mp h w hw
  rw [e] at hw
  obtain ⟨i, -, hi⟩ := List.mem_filterMap.mp hw
  exact gh_mem hi g
theorem gh_u7 : ∀ w ∈ u_ws RX7 TX7 12, w ∈ gh_tbl := by
  have h : (u_ws RX7 TX7 12).all goodWord = true := by decide +kernel
  have e : u_ws RX7 TX7 12 = [197, 199, 201, 203, 205, 207, 209, 211, 213, 215, 217, 219].filterMap (fun i => lw_tbl[i]?) := by decide +kernel
  intro w hw
  have g := List.all_eq_true.mp h w hw
  rw [e] at hw
  obtain ⟨i, -, hi⟩ := List.mem_filterMap.mp hw
  exact gh_mem hi g
theorem gh_u8 : ∀ w ∈ u_ws RX8 TX8 2, w ∈ gh_tbl := by
  have h : (u_ws RX8 TX8 2).all goodWord = true := by decide +kernel
  have e : u_ws RX8 TX8 2 = [321, 323].filterMap (fun i => lw_tbl[i]?) := by decide +kernel
  intro w hw
  have g := List.all_eq_true.mp h w hw
  rw [e] at hw
  obtain ⟨i, -, hi⟩ := List.mem_filterMap.mp hw
  exact gh_mem hi g
theorem gh_u9 : ∀ w ∈ u_ws RX9 TX9 13, w ∈ gh_tbl := by
  have h : (u_ws RX9 TX9 13).all goodWord = true := by decide +kernel
  have e : u_ws RX9 TX9 13 = [404, 406, 408, 410, 412, 414, 416, 418, 420, 422, 424, 426, 428].filterMap (fun i => lw_tbl[i]?) := by decide +kernel
  intro w hw
  have g := List.all_eq_true.mp h w hw
  rw [e] at hw
  obtain ⟨i, -, hi⟩ := List.mem_filterMap.mp hw
  exact gh_mem hi g
theorem gh_u10 : ∀ w ∈ u_ws RX10 TX10 63, w ∈ gh_tbl := by
  have h : (u_ws RX10 TX10 63).all goodWord = true := by decide +kernel
  have e : u_ws RX10 TX10 63 = [998, 1000, 1002, 1004, 1006, 1008, 1010, 1012, 1014, 1016, 1018, 1020, 1022, 1024, 1026, 1028, 1030, 1032, 1034, 1036, 1038, 1040, 1042, 1044, 1046, 1048, 1050, 1052, 1054, 1056, 1058, 1060, 1062, 1064, 1066, 1068, 1070, 1072, 1074, 1076, 1078, 1080, 1082, 1084, 1086, 1088, 1090, 1092, 1094, 1096, 1098, 1100, 1102, 1104, 1106, 1108, 1110, 1112, 1114, 1116, 1118, 1120, 1122].filterMap (fun i => lw_tbl[i]?) := by decide +kernel
  intro w hw
  have g := List.all_eq_true.mp h w hw
  rw [e] at hw
  obtain ⟨i, -, hi⟩ := List.mem_filterMap.mp hw
  exact gh_mem hi g
theorem gh_cl : ∀ u, u < 11 → (vwCl[u]? = some (gh_Rn u, gh_Tn u, (gh_ft u).length) ∧ (∀ w ∈ u_ws (gh_Rn u) (gh_Tn u) (gh_ft u).length, w ∈ gh_tbl) ∧ (∀ k, k < (gh_ft u).length → parseFieldDescriptor (gh_Tn u k).2.2.1 = some (gh_tn u k)) ∧ (∀ a, a < (gh_ft u).length → ∀ b, b < (gh_ft u).length → a ≠ b → (gh_Tn u a).2.1 ≠ (gh_Tn u b).2.1)) := by
  intro u h
  match u, h with
  | 0, _ => exact ⟨rfl, gh_u0, tyX0_ok, nmX0⟩
  | 1, _ => exact ⟨rfl, gh_u1, tyX1_ok, nmX1⟩
  | 2, _ => exact ⟨rfl, gh_u2, tyX2_ok, nmX2⟩
  | 3, _ => exact ⟨rfl, gh_u3, tyX3_ok, nmX3⟩
  | 4, _ => exact ⟨rfl, gh_u4, tyX4_ok, nmX4⟩
  | 5, _ => exact ⟨rfl, gh_u5, tyX5_ok, nmX5⟩
  | 6, _ => exact ⟨rfl, gh_u6, tyX6_ok, nmX6⟩
  | 7, _ => exact ⟨rfl, gh_u7, tyX7_ok, nmX7⟩
  | 8, _ => exact ⟨rfl, gh_u8, tyX8_ok, nmX8⟩
  | 9, _ => exact ⟨rfl, gh_u9, tyX9_ok, nmX9⟩
  | 10, _ => exact ⟨rfl, gh_u10, tyX10_ok, nmX10⟩
def gh_kd : FieldType → Nat
  | .long => 1
  | .boolean => 3
  | .int => 0
  | .array _ => 2
  | .object _ => 2
  | _ => 9
theorem gh_kds : ∀ u, u < 11 → ∀ k, k < (gh_ft u).length → (gh_ft u)[k]? = some (gh_kd (gh_tn u k)) := by decide +kernel
end
section
theorem dJ0_coder_7d493_0 : decode cJ0_coder_7d493 0 = .ok (.getstatic 38, 3) := by decide +kernel
theorem dJ0_coder_7d493_3 : decode cJ0_coder_7d493 3 = .ok (.ifCond .eq 10, 3) := by decide +kernel
theorem dJ0_coder_7d493_6 : decode cJ0_coder_7d493 6 = .ok (.aload_n 0, 1) := by decide +kernel
theorem dJ0_coder_7d493_7 : decode cJ0_coder_7d493 7 = .ok (.getfield 15, 3) := by decide +kernel
theorem dJ0_coder_7d493_10 : decode cJ0_coder_7d493 10 = .ok (.goto 4, 3) := by decide +kernel
theorem dJ0_coder_7d493_13 : decode cJ0_coder_7d493 13 = .ok (.iconst 1, 1) := by decide +kernel
theorem dJ0_coder_7d493_14 : decode cJ0_coder_7d493 14 = .ok (.ireturn, 1) := by decide +kernel
theorem dJ0_isLatin1_aae02_0 : decode cJ0_isLatin1_aae02 0 = .ok (.getstatic 38, 3) := by decide +kernel
theorem dJ0_isLatin1_aae02_3 : decode cJ0_isLatin1_aae02 3 = .ok (.ifCond .eq 14, 3) := by decide +kernel
theorem dJ0_isLatin1_aae02_6 : decode cJ0_isLatin1_aae02 6 = .ok (.aload_n 0, 1) := by decide +kernel
theorem dJ0_isLatin1_aae02_7 : decode cJ0_isLatin1_aae02 7 = .ok (.getfield 15, 3) := by decide +kernel
theorem dJ0_isLatin1_aae02_10 : decode cJ0_isLatin1_aae02 10 = .ok (.ifCond .ne 7, 3) := by decide +kernel
theorem dJ0_isLatin1_aae02_13 : decode cJ0_isLatin1_aae02 13 = .ok (.iconst 1, 1) := by decide +kernel
theorem dJ0_isLatin1_aae02_14 : decode cJ0_isLatin1_aae02 14 = .ok (.goto 4, 3) := by decide +kernel
theorem dJ0_isLatin1_aae02_17 : decode cJ0_isLatin1_aae02 17 = .ok (.iconst 0, 1) := by decide +kernel
theorem dJ0_isLatin1_aae02_18 : decode cJ0_isLatin1_aae02 18 = .ok (.ireturn, 1) := by decide +kernel
theorem dJ0_length_8abf5_0 : decode cJ0_length_8abf5 0 = .ok (.aload_n 0, 1) := by decide +kernel
theorem dJ0_length_8abf5_1 : decode cJ0_length_8abf5 1 = .ok (.getfield 9, 3) := by decide +kernel
theorem dJ0_length_8abf5_4 : decode cJ0_length_8abf5 4 = .ok (.arraylength, 1) := by decide +kernel
theorem dJ0_length_8abf5_5 : decode cJ0_length_8abf5 5 = .ok (.aload_n 0, 1) := by decide +kernel
theorem dJ0_length_8abf5_6 : decode cJ0_length_8abf5 6 = .ok (.invokevirtual 335, 3) := by decide +kernel
theorem dJ0_length_8abf5_9 : decode cJ0_length_8abf5 9 = .ok (.ishr, 1) := by decide +kernel
theorem dJ0_length_8abf5_10 : decode cJ0_length_8abf5 10 = .ok (.ireturn, 1) := by decide +kernel
theorem dJ3_checkIndex_8e157_0 : decode cJ3_checkIndex_8e157 0 = .ok (.iload_n 0, 1) := by decide +kernel
theorem dJ3_checkIndex_8e157_1 : decode cJ3_checkIndex_8e157 1 = .ok (.ifCond .lt 8, 3) := by decide +kernel
theorem dJ3_checkIndex_8e157_4 : decode cJ3_checkIndex_8e157 4 = .ok (.iload_n 0, 1) := by decide +kernel
theorem dJ3_checkIndex_8e157_5 : decode cJ3_checkIndex_8e157 5 = .ok (.iload_n 1, 1) := by decide +kernel
theorem dJ3_checkIndex_8e157_6 : decode cJ3_checkIndex_8e157 6 = .ok (.if_icmp .lt 10, 3) := by decide +kernel
theorem dJ3_checkIndex_8e157_9 : decode cJ3_checkIndex_8e157 9 = .ok (.aload_n 2, 1) := by decide +kernel
theorem dJ3_checkIndex_8e157_10 : decode cJ3_checkIndex_8e157 10 = .ok (.iload_n 0, 1) := by decide +kernel
theorem dJ3_checkIndex_8e157_11 : decode cJ3_checkIndex_8e157 11 = .ok (.iload_n 1, 1) := by decide +kernel
theorem dJ3_checkIndex_8e157_12 : decode cJ3_checkIndex_8e157 12 = .ok (.invokestatic 95, 3) := by decide +kernel
theorem dJ3_checkIndex_8e157_15 : decode cJ3_checkIndex_8e157 15 = .ok (.athrow, 1) := by decide +kernel
theorem dJ3_checkIndex_8e157_16 : decode cJ3_checkIndex_8e157 16 = .ok (.iload_n 0, 1) := by decide +kernel
theorem dJ3_checkIndex_8e157_17 : decode cJ3_checkIndex_8e157 17 = .ok (.ireturn, 1) := by decide +kernel
theorem dJ0_checkIndex_df160_0 : decode cJ0_checkIndex_df160 0 = .ok (.iload_n 0, 1) := by decide +kernel
theorem dJ0_checkIndex_df160_1 : decode cJ0_checkIndex_df160 1 = .ok (.iload_n 1, 1) := by decide +kernel
theorem dJ0_checkIndex_df160_2 : decode cJ0_checkIndex_df160 2 = .ok (.getstatic 1053, 3) := by decide +kernel
theorem dJ0_checkIndex_df160_5 : decode cJ0_checkIndex_df160 5 = .ok (.invokestatic 1059, 3) := by decide +kernel
theorem dJ0_checkIndex_df160_8 : decode cJ0_checkIndex_df160 8 = .ok (.pop, 1) := by decide +kernel
theorem dJ0_checkIndex_df160_9 : decode cJ0_checkIndex_df160 9 = .ok (.return_, 1) := by decide +kernel
theorem dJ1_charAt_3b067_0 : decode cJ1_charAt_3b067 0 = .ok (.iload_n 1, 1) := by decide +kernel
theorem dJ1_charAt_3b067_1 : decode cJ1_charAt_3b067 1 = .ok (.aload_n 0, 1) := by decide +kernel
theorem dJ1_charAt_3b067_2 : decode cJ1_charAt_3b067 2 = .ok (.arraylength, 1) := by decide +kernel
theorem dJ1_charAt_3b067_3 : decode cJ1_charAt_3b067 3 = .ok (.invokestatic 9, 3) := by decide +kernel
theorem dJ1_charAt_3b067_6 : decode cJ1_charAt_3b067 6 = .ok (.aload_n 0, 1) := by decide +kernel
theorem dJ1_charAt_3b067_7 : decode cJ1_charAt_3b067 7 = .ok (.iload_n 1, 1) := by decide +kernel
theorem dJ1_charAt_3b067_8 : decode cJ1_charAt_3b067 8 = .ok (.baload, 1) := by decide +kernel
theorem dJ1_charAt_3b067_9 : decode cJ1_charAt_3b067 9 = .ok (.sipush 255, 3) := by decide +kernel
theorem dJ1_charAt_3b067_12 : decode cJ1_charAt_3b067 12 = .ok (.iand, 1) := by decide +kernel
theorem dJ1_charAt_3b067_13 : decode cJ1_charAt_3b067 13 = .ok (.i2c, 1) := by decide +kernel
theorem dJ1_charAt_3b067_14 : decode cJ1_charAt_3b067 14 = .ok (.ireturn, 1) := by decide +kernel
theorem dJ0_charAt_5068e_0 : decode cJ0_charAt_5068e 0 = .ok (.aload_n 0, 1) := by decide +kernel
theorem dJ0_charAt_5068e_1 : decode cJ0_charAt_5068e 1 = .ok (.invokevirtual 492, 3) := by decide +kernel
theorem dJ0_charAt_5068e_4 : decode cJ0_charAt_5068e 4 = .ok (.ifCond .eq 12, 3) := by decide +kernel
theorem dJ0_charAt_5068e_7 : decode cJ0_charAt_5068e 7 = .ok (.aload_n 0, 1) := by decide +kernel
theorem dJ0_charAt_5068e_8 : decode cJ0_charAt_5068e 8 = .ok (.getfield 9, 3) := by decide +kernel
theorem dJ0_charAt_5068e_11 : decode cJ0_charAt_5068e 11 = .ok (.iload_n 1, 1) := by decide +kernel
theorem dJ0_charAt_5068e_12 : decode cJ0_charAt_5068e 12 = .ok (.invokestatic 495, 3) := by decide +kernel
theorem dJ0_charAt_5068e_15 : decode cJ0_charAt_5068e 15 = .ok (.ireturn, 1) := by decide +kernel
theorem dJ0_charAt_5068e_16 : decode cJ0_charAt_5068e 16 = .ok (.aload_n 0, 1) := by decide +kernel
theorem dJ0_charAt_5068e_17 : decode cJ0_charAt_5068e 17 = .ok (.getfield 9, 3) := by decide +kernel
theorem dJ0_charAt_5068e_20 : decode cJ0_charAt_5068e 20 = .ok (.iload_n 1, 1) := by decide +kernel
theorem dJ0_charAt_5068e_21 : decode cJ0_charAt_5068e 21 = .ok (.invokestatic 498, 3) := by decide +kernel
theorem dJ0_charAt_5068e_24 : decode cJ0_charAt_5068e 24 = .ok (.ireturn, 1) := by decide +kernel
/-! ===== String constants: "dock" is 0, "price" is 1; their length and characters ===== -/
def gh_J (adK adV : Nat → Nat) (A : Nat → Prop) (U : State) (H : Heap) : Prop := vk_S 2 gh_sl gh_sb adK adV A U H ∧ va_Z RJ0 "COMPACT_STRINGS" "Z" (.int 1) A U H ∧ va_Zq RJ3 "SIOOBE_FORMATTER" "Ljava/util/function/BiFunction;" A U H ∧ vk_R RX6 102 "dock" (adK 0) U ∧ vk_R RX6 112 "price" (adK 1) U
theorem gh_J.warm {adK adV : Nat → Nat} {A : Nat → Prop} {s U : State} {H : Heap} (hW : s.WarmedH U.vm) (h : gh_J adK adV A s H) : gh_J adK adV A U H := ⟨vk_S.moved hW.alike h.1, va_Z.moved hW.alike h.2.1, va_Zq.moved hW.alike h.2.2.1, vk_R.warm hW h.2.2.2.1, vk_R.warm hW h.2.2.2.2⟩
theorem gh_J.same {adK adV : Nat → Nat} {A : Nat → Prop} {s U : State} {H : Heap} (hv : s.vm = U.vm) (h : gh_J adK adV A s H) : gh_J adK adV A U H := by
  have ha : s.vm.Alike U.vm := by rw [hv]; exact Vm.Alike.refl U.vm
  exact ⟨vk_S.moved ha h.1, va_Z.moved ha h.2.1, va_Zq.moved ha h.2.2.1, vk_R.same hv.symm h.2.2.2.1, vk_R.same hv.symm h.2.2.2.2⟩
theorem gh_J.kept {adK adV : Nat → Nat} {A : Nat → Prop} {U : State} {H H1 : Heap} (h : gh_J adK adV A U H) (hq : ∀ a : Nat, a < H.size → ¬ A a → H1[a]? = H[a]?) : gh_J adK adV A U H1 := ⟨vk_S.kept h.1 hq, va_Z.kept h.2.1 hq, va_Zq.kept h.2.2.1 hq, h.2.2.2⟩
theorem gh_J.narrow {adK adV : Nat → Nat} {A B : Nat → Prop} {U : State} {H : Heap} (h : gh_J adK adV A U H) (hAB : ∀ q, B q → A q) : gh_J adK adV B U H := ⟨vk_S.narrow h.1 hAB, va_Z.narrow h.2.1 hAB, va_Zq.narrow h.2.2.1 hAB, h.2.2.2⟩
def gj_Pc (adK adV : Nat → Nat) (H0 : Heap) (av : List Value) : Array Value → State → Prop := va_Pc av (fun U => U.heap = H0 ∧ gh_J adK adV (fun _ => False) U H0)
theorem gj_blind {adK adV : Nat → Nat} {H0 : Heap} {av : List Value} : FrameBlind (gj_Pc adK adV H0 av) := by
  intro a U g mk q
  obtain ⟨q0, q1, q2⟩ := q
  exact ⟨q0, q1, gh_J.same (s := U) (U := U.calling g mk a) rfl q2⟩
def gj_rm (f k : Nat) : Room := { frames := f, cells := 0, slots := 0, locals := k }
def gj_B (H0 : Heap) : Unit → State → Prop := fun _ t => t.heap = H0
theorem gj_good : ∀ w ∈ gh_tbl, w ∈ gh_tbl ∧ ((w.onTables && w.keeps) = true ∨ ∃ ty, w = .arrayClass ty) := fun w h => ⟨h, good_of_word (List.mem_filter.mp h).2⟩
theorem gj_goodc {y : MethodName} {b : ByteArray} {n : Nat} {r : Option FieldType} (h : Jvm.Cond.code y b n r ∈ gh_tbl) : GoodIn gh_tbl (.code y b n r :: gh_tbl) := by
  intro w hw
  rcases List.mem_cons.mp hw with rfl | hw
  · exact gj_good _ h
  · exact gj_good w hw
theorem gj_c_coder : (.code yJ0_coder_7d493 cJ0_coder_7d493 1 (some .byte) : Jvm.Cond) ∈ gh_tbl := gh_mem2 (p := 803) (by decide +kernel)
theorem gj_c_isLatin1 : (.code yJ0_isLatin1_aae02 cJ0_isLatin1_aae02 1 (some .boolean) : Jvm.Cond) ∈ gh_tbl := gh_mem2 (p := 813) (by decide +kernel)
theorem gj_c_length : (.code yJ0_length_8abf5 cJ0_length_8abf5 1 (some .int) : Jvm.Cond) ∈ gh_tbl := gh_mem2 (p := 799) (by decide +kernel)
theorem gj_c_pre : (.code yJ3_checkIndex_8e157 cJ3_checkIndex_8e157 3 (some .int) : Jvm.Cond) ∈ gh_tbl := gh_mem2 (p := 824) (by decide +kernel)
theorem gj_c_chk : (.code yJ0_checkIndex_df160 cJ0_checkIndex_df160 2 (none) : Jvm.Cond) ∈ gh_tbl := gh_mem2 (p := 819) (by decide +kernel)
theorem gj_c_lat : (.code yJ1_charAt_3b067 cJ1_charAt_3b067 2 (some .char) : Jvm.Cond) ∈ gh_tbl := gh_mem2 (p := 816) (by decide +kernel)
theorem gj_c_charAt : (.code yJ0_charAt_5068e cJ0_charAt_5068e 2 (some .char) : Jvm.Cond) ∈ gh_tbl := gh_mem2 (p := 809) (by decide +kernel)
set_option maxHeartbeats 4000000 in
set_option maxRecDepth 100000 in
theorem gj_coder (l : Launch) (adK adV : Nat → Nat) (H0 : Heap) (i : Nat) (hi : i < 2) : Met l yJ0_coder_7d493 (.code yJ0_coder_7d493 cJ0_coder_7d493 1 (some .byte) :: gh_tbl) (gj_rm 0 0) (gj_Pc adK adV H0 [.ref (adK i)]) (va_Qi (fun r _ => r = 0) (gj_B H0) (fun _ => False)) 0 0 (fun _ => False) := by
  refine Met.ofW (cc := cJ0_coder_7d493) (maxL := 1) (ret := some .byte) (by decide) rfl ?_
  intro p e s m args below meth c s₁ B hml hv
  obtain ⟨rfl, hH, hJ⟩ := hv
  have hx := B.exec
  have hb := B.bytes
  have hr := B.returns
  have hts0 := atoms_spec (ws := .code yJ0_coder_7d493 cJ0_coder_7d493 1 (some .byte) :: gh_tbl) B.pre
  have hts : ∀ w ∈ gh_tbl, w.before ([.ref (adK i)] : List Value).toArray s = true := fun w hw => hts0 w (List.mem_cons_of_mem _ hw)
  have hown : s.vm.findClass RJ0 = some m.cls := findClass_of_methodNamed B.named
  have hlocks := B.notSynchronized
  subst hH
  have hS : va_S (fun _ => False) s.heap s.heap [] := va_S.rf
  have hl := lv_entry ([.ref (adK i)]) (n := 1) (Nat.le_of_ble_eq_true rfl)
  rw [lg_entry_eq]
  generalize (lg_sl ([.ref (adK i)]) ++ List.replicate (1 - (lg_sl ([.ref (adK i)])).length) Slot.unset).toArray = ls at hl ⊢
  refine va_gets hx hb hJ.2.1 hS hown (hts (.fieldLink RJ0 38 "java/lang/String" "COMPACT_STRINGS" "Z") (gh_mem2 (p := 804) (by decide +kernel))) (fun _ h => h) dJ0_coder_7d493_0 ?_
  refine lv_if_eq (tgt := 13) hx hb dJ0_coder_7d493_3 (by decide) (fun hc => absurd hc (by decide)) (fun _ => ?_)
  refine lv_aload_n hx hb dJ0_coder_7d493_6 rfl (lv_at hl 0 rfl) ?_
  refine vk_getf hx hb (hJ.1.1 i hi).2.1 hS hown (hts (.fieldLink RJ0 15 "java/lang/String" "coder" "B") (gh_mem2 (p := 1400) (by decide +kernel))) (fun _ h => h) dJ0_coder_7d493_7 ?_
  refine lv_goto (tgt := 14) hx hb dJ0_coder_7d493_10 (by decide) ?_
  exact W.zret hx hb hr rfl (fun t ht hW => ⟨⟨0, (), rfl, rfl, ht⟩, hS.F ht⟩) hS.2.2 dJ0_coder_7d493_14
set_option maxHeartbeats 4000000 in
set_option maxRecDepth 100000 in
theorem gj_isLatin1 (l : Launch) (adK adV : Nat → Nat) (H0 : Heap) (i : Nat) (hi : i < 2) : Met l yJ0_isLatin1_aae02 (.code yJ0_isLatin1_aae02 cJ0_isLatin1_aae02 1 (some .boolean) :: gh_tbl) (gj_rm 0 0) (gj_Pc adK adV H0 [.ref (adK i)]) (va_Qi (fun r _ => r = 1) (gj_B H0) (fun _ => False)) 0 0 (fun _ => False) := by
  refine Met.ofW (cc := cJ0_isLatin1_aae02) (maxL := 1) (ret := some .boolean) (by decide) rfl ?_
  intro p e s m args below meth c s₁ B hml hv
  obtain ⟨rfl, hH, hJ⟩ := hv
  have hx := B.exec
  have hb := B.bytes
  have hr := B.returns
  have hts0 := atoms_spec (ws := .code yJ0_isLatin1_aae02 cJ0_isLatin1_aae02 1 (some .boolean) :: gh_tbl) B.pre
  have hts : ∀ w ∈ gh_tbl, w.before ([.ref (adK i)] : List Value).toArray s = true := fun w hw => hts0 w (List.mem_cons_of_mem _ hw)
  have hown : s.vm.findClass RJ0 = some m.cls := findClass_of_methodNamed B.named
  have hlocks := B.notSynchronized
  subst hH
  have hS : va_S (fun _ => False) s.heap s.heap [] := va_S.rf
  have hl := lv_entry ([.ref (adK i)]) (n := 1) (Nat.le_of_ble_eq_true rfl)
  rw [lg_entry_eq]
  generalize (lg_sl ([.ref (adK i)]) ++ List.replicate (1 - (lg_sl ([.ref (adK i)])).length) Slot.unset).toArray = ls at hl ⊢
  refine va_gets hx hb hJ.2.1 hS hown (hts (.fieldLink RJ0 38 "java/lang/String" "COMPACT_STRINGS" "Z") (gh_mem2 (p := 804) (by decide +kernel))) (fun _ h => h) dJ0_isLatin1_aae02_0 ?_
  refine lv_if_eq (tgt := 17) hx hb dJ0_isLatin1_aae02_3 (by decide) (fun hc => absurd hc (by decide)) (fun _ => ?_)
  refine lv_aload_n hx hb dJ0_isLatin1_aae02_6 rfl (lv_at hl 0 rfl) ?_
  refine vk_getf hx hb (hJ.1.1 i hi).2.1 hS hown (hts (.fieldLink RJ0 15 "java/lang/String" "coder" "B") (gh_mem2 (p := 1400) (by decide +kernel))) (fun _ h => h) dJ0_isLatin1_aae02_7 ?_
  refine lv_if_ne (tgt := 17) hx hb dJ0_isLatin1_aae02_10 (by decide) (fun hc => absurd rfl hc) (fun _ => ?_)
  refine lv_iconst (v := 1) hx hb dJ0_isLatin1_aae02_13 (by decide) ?_
  refine lv_goto (tgt := 18) hx hb dJ0_isLatin1_aae02_14 (by decide) ?_
  exact W.zret hx hb hr rfl (fun t ht hW => ⟨⟨1, (), rfl, rfl, ht⟩, hS.F ht⟩) hS.2.2 dJ0_isLatin1_aae02_18
set_option maxHeartbeats 4000000 in
set_option maxRecDepth 100000 in
theorem gj_length (l : Launch) (adK adV : Nat → Nat) (H0 : Heap) (i : Nat) (hi : i < 2) : Met l yJ0_length_8abf5 (.code yJ0_length_8abf5 cJ0_length_8abf5 1 (some .int) :: gh_tbl) (gj_rm 1 20) (gj_Pc adK adV H0 [.ref (adK i)]) (va_Qi (fun r _ => r = nI (gh_sl.getD i 0)) (gj_B H0) (fun _ => False)) 0 0 (fun _ => False) := by
  refine Met.ofW (cc := cJ0_length_8abf5) (maxL := 1) (ret := some .int) (by decide) rfl ?_
  intro p e s m args below meth c s₁ B hml hv
  obtain ⟨rfl, hH, hJ⟩ := hv
  have hx := B.exec
  have hb := B.bytes
  have hr := B.returns
  have hts0 := atoms_spec (ws := .code yJ0_length_8abf5 cJ0_length_8abf5 1 (some .int) :: gh_tbl) B.pre
  have hts : ∀ w ∈ gh_tbl, w.before ([.ref (adK i)] : List Value).toArray s = true := fun w hw => hts0 w (List.mem_cons_of_mem _ hw)
  have hown : s.vm.findClass RJ0 = some m.cls := findClass_of_methodNamed B.named
  have hlocks := B.notSynchronized
  subst hH
  have hS : va_S (fun _ => False) s.heap s.heap [] := va_S.rf
  have hl := lv_entry ([.ref (adK i)]) (n := 1) (Nat.le_of_ble_eq_true rfl)
  rw [lg_entry_eq]
  generalize (lg_sl ([.ref (adK i)]) ++ List.replicate (1 - (lg_sl ([.ref (adK i)])).length) Slot.unset).toArray = ls at hl ⊢
  refine lv_aload_n hx hb dJ0_length_8abf5_0 rfl (lv_at hl 0 rfl) ?_
  refine vk_getf hx hb (hJ.1.1 i hi).2.2.1 hS hown (hts (.fieldLink RJ0 9 "java/lang/String" "value" "[B") (gh_mem2 (p := 1399) (by decide +kernel))) (fun _ h => h) dJ0_length_8abf5_1 ?_
  refine va_tlen hx hb (hJ.1.1 i hi).2.2.2 hS (v := nI (gh_sl.getD i 0)) rfl dJ0_length_8abf5_4 ?_
  refine lv_aload_n hx hb dJ0_length_8abf5_5 rfl (lv_at hl 0 rfl) ?_
  refine va_calli (a := (Value.ref (adK i) :: []).toArray) (post := fun r _ => r = 0) (B := gj_B s.heap) (va_runV (C := RJ0) (As := []) (rest := [.int (nI (gh_sl.getD i 0))]) ⟨hx, hb, hml, hown, hts⟩ (gj_coder l adK adV s.heap i hi) ⟨callB_of 0 hts (gj_goodc gj_c_coder) rfl rfl rfl (hts (.initialized "java/lang/String") (gh_mem2 (p := 70) (by decide +kernel))) (hts (.methodLink RJ0 335 yJ0_coder_7d493) (gh_mem2 (p := 800) (by decide +kernel))) (by decide +kernel) ⟨by show (gj_rm 0 0).frames + 1 ≤ (gj_rm 1 20).frames; decide, by show 8 + (1 + 11) + (gj_rm 0 0).locals ≤ (gj_rm 1 20).locals; decide⟩, (hts (.instanceMethod yJ0_coder_7d493) (gh_mem2 (p := 801) (by decide +kernel))), (hts (.selects RJ0 yJ0_coder_7d493 yJ0_coder_7d493) (gh_mem2 (p := 802) (by decide +kernel)))⟩ ⟨gj_blind, vk_recv hJ.1 hi hS, fun U hU hW => ⟨rfl, hU, gh_J.warm hW hJ⟩⟩ rfl rfl hl.1 rfl (lv_room (Nat.le_of_ble_eq_true rfl)) dJ0_length_8abf5_6 ⟨Nat.zero_le _, Nat.zero_le _⟩) hS (fun q _ h => h.elim) (fun q h => h.elim) (fun r_1 u t H1 locs1 ht hvm hw hB hz1 hk1 hS1 => ?_)
  have e1 : H1 = s.heap := ht.symm.trans hB
  subst e1
  subst hw
  refine lv_ishr hx hb dJ0_length_8abf5_9 ?_
  have e2 : nI (gh_sl.getD i 0) >>> ((0 : Int32) &&& 31) = nI (gh_sl.getD i 0) := sc_shr0 (by match i, hi with | 0, _ => decide | 1, _ => decide)
  rw [e2]
  exact W.iret hx hb hr (fun t ht hW => ⟨⟨_, (), rfl, rfl, ht⟩, hS1.F ht⟩) hS1.2.2 dJ0_length_8abf5_10
set_option maxHeartbeats 4000000 in
set_option maxRecDepth 100000 in
theorem gj_pre (l : Launch) (adK adV : Nat → Nat) (H0 : Heap) (k : Int32) (n : Nat) (hk : vp_in k n) (hn : n < 2 ^ 31) : Met l yJ3_checkIndex_8e157 (.code yJ3_checkIndex_8e157 cJ3_checkIndex_8e157 3 (some .int) :: gh_tbl) (gj_rm 0 0) (gj_Pc adK adV H0 [.int k, .int (nI n), .null]) (va_Qi (fun r _ => r = k) (gj_B H0) (fun _ => False)) 0 0 (fun _ => False) := by
  refine Met.ofW (cc := cJ3_checkIndex_8e157) (maxL := 3) (ret := some .int) (by decide) rfl ?_
  intro p e s m args below meth c s₁ B hml hv
  obtain ⟨rfl, hH, hJ⟩ := hv
  have hx := B.exec
  have hb := B.bytes
  have hr := B.returns
  have hts0 := atoms_spec (ws := .code yJ3_checkIndex_8e157 cJ3_checkIndex_8e157 3 (some .int) :: gh_tbl) B.pre
  have hts : ∀ w ∈ gh_tbl, w.before ([.int k, .int (nI n), .null] : List Value).toArray s = true := fun w hw => hts0 w (List.mem_cons_of_mem _ hw)
  have hown : s.vm.findClass RJ3 = some m.cls := findClass_of_methodNamed B.named
  have hlocks := B.notSynchronized
  subst hH
  have hS : va_S (fun _ => False) s.heap s.heap [] := va_S.rf
  have hl := lv_entry ([.int k, .int (nI n), .null]) (n := 3) (Nat.le_of_ble_eq_true rfl)
  rw [lg_entry_eq]
  generalize (lg_sl ([.int k, .int (nI n), .null]) ++ List.replicate (3 - (lg_sl ([.int k, .int (nI n), .null])).length) Slot.unset).toArray = ls at hl ⊢
  have hq := vp_in_iff.mp hk
  refine lv_iload_n hx hb dJ3_checkIndex_8e157_0 rfl (lv_at hl 0 rfl) ?_
  refine lv_if_lt (tgt := 9) hx hb dJ3_checkIndex_8e157_1 (by decide) (fun hc => absurd hc (fun z => hk (Or.inl z))) (fun _ => ?_)
  refine lv_iload_n hx hb dJ3_checkIndex_8e157_4 rfl (lv_at hl 0 rfl) ?_
  refine lv_iload_n hx hb dJ3_checkIndex_8e157_5 rfl (lv_at hl 1 rfl) ?_
  refine lv_icmp_lt (tgt := 16) hx hb dJ3_checkIndex_8e157_6 (by decide) (fun _ => ?_) (fun hc => ?_)
  · refine lv_iload_n hx hb dJ3_checkIndex_8e157_16 rfl (lv_at hl 0 rfl) ?_
    exact W.iret hx hb hr (fun t ht hW => ⟨⟨_, (), rfl, rfl, ht⟩, hS.F ht⟩) hS.2.2 dJ3_checkIndex_8e157_17
  · refine absurd ?_ hc
    rw [Int32.lt_iff_toInt_lt, nI_toInt hn]
    omega
set_option maxHeartbeats 4000000 in
set_option maxRecDepth 100000 in
theorem gj_prf (l : Launch) (adK adV : Nat → Nat) (H0 : Heap) (k : Int32) (n : Nat) (tt : Nat) (hk : vp_in k n) (hn : n < 2 ^ 31) : Met l yJ3_checkIndex_8e157 (.code yJ3_checkIndex_8e157 cJ3_checkIndex_8e157 3 (some .int) :: gh_tbl) (gj_rm 0 0) (gj_Pc adK adV H0 [.int k, .int (nI n), .ref tt]) (va_Qi (fun r _ => r = k) (gj_B H0) (fun _ => False)) 0 0 (fun _ => False) := by
  refine Met.ofW (cc := cJ3_checkIndex_8e157) (maxL := 3) (ret := some .int) (by decide) rfl ?_
  intro p e s m args below meth c s₁ B hml hv
  obtain ⟨rfl, hH, hJ⟩ := hv
  have hx := B.exec
  have hb := B.bytes
  have hr := B.returns
  have hts0 := atoms_spec (ws := .code yJ3_checkIndex_8e157 cJ3_checkIndex_8e157 3 (some .int) :: gh_tbl) B.pre
  have hts : ∀ w ∈ gh_tbl, w.before ([.int k, .int (nI n), .ref tt] : List Value).toArray s = true := fun w hw => hts0 w (List.mem_cons_of_mem _ hw)
  have hown : s.vm.findClass RJ3 = some m.cls := findClass_of_methodNamed B.named
  have hlocks := B.notSynchronized
  subst hH
  have hS : va_S (fun _ => False) s.heap s.heap [] := va_S.rf
  have hl := lv_entry ([.int k, .int (nI n), .ref tt]) (n := 3) (Nat.le_of_ble_eq_true rfl)
  rw [lg_entry_eq]
  generalize (lg_sl ([.int k, .int (nI n), .ref tt]) ++ List.replicate (3 - (lg_sl ([.int k, .int (nI n), .ref tt])).length) Slot.unset).toArray = ls at hl ⊢
  have hq := vp_in_iff.mp hk
  refine lv_iload_n hx hb dJ3_checkIndex_8e157_0 rfl (lv_at hl 0 rfl) ?_
  refine lv_if_lt (tgt := 9) hx hb dJ3_checkIndex_8e157_1 (by decide) (fun hc => absurd hc (fun z => hk (Or.inl z))) (fun _ => ?_)
  refine lv_iload_n hx hb dJ3_checkIndex_8e157_4 rfl (lv_at hl 0 rfl) ?_
  refine lv_iload_n hx hb dJ3_checkIndex_8e157_5 rfl (lv_at hl 1 rfl) ?_
  refine lv_icmp_lt (tgt := 16) hx hb dJ3_checkIndex_8e157_6 (by decide) (fun _ => ?_) (fun hc => ?_)
  · refine lv_iload_n hx hb dJ3_checkIndex_8e157_16 rfl (lv_at hl 0 rfl) ?_
    exact W.iret hx hb hr (fun t ht hW => ⟨⟨_, (), rfl, rfl, ht⟩, hS.F ht⟩) hS.2.2 dJ3_checkIndex_8e157_17
  · refine absurd ?_ hc
    rw [Int32.lt_iff_toInt_lt, nI_toInt hn]
    omega
set_option maxHeartbeats 4000000 in
set_option maxRecDepth 100000 in
theorem gj_chk (l : Launch) (adK adV : Nat → Nat) (H0 : Heap) (k : Int32) (n : Nat) (hk : vp_in k n) (hn : n < 2 ^ 31) : Met l yJ0_checkIndex_df160 (.code yJ0_checkIndex_df160 cJ0_checkIndex_df160 2 (none) :: gh_tbl) (gj_rm 1 30) (gj_Pc adK adV H0 [.int k, .int (nI n)]) (va_Qv (fun _ => True) (gj_B H0) (fun _ => False)) 0 0 (fun _ => False) := by
  refine Met.ofW (cc := cJ0_checkIndex_df160) (maxL := 2) (ret := none) (by decide) rfl ?_
  intro p e s m args below meth c s₁ B hml hv
  obtain ⟨rfl, hH, hJ⟩ := hv
  have hx := B.exec
  have hb := B.bytes
  have hr := B.returns
  have hts0 := atoms_spec (ws := .code yJ0_checkIndex_df160 cJ0_checkIndex_df160 2 (none) :: gh_tbl) B.pre
  have hts : ∀ w ∈ gh_tbl, w.before ([.int k, .int (nI n)] : List Value).toArray s = true := fun w hw => hts0 w (List.mem_cons_of_mem _ hw)
  have hown : s.vm.findClass RJ0 = some m.cls := findClass_of_methodNamed B.named
  have hlocks := B.notSynchronized
  subst hH
  have hS : va_S (fun _ => False) s.heap s.heap [] := va_S.rf
  have hl := lv_entry ([.int k, .int (nI n)]) (n := 2) (Nat.le_of_ble_eq_true rfl)
  rw [lg_entry_eq]
  generalize (lg_sl ([.int k, .int (nI n)]) ++ List.replicate (2 - (lg_sl ([.int k, .int (nI n)])).length) Slot.unset).toArray = ls at hl ⊢
  refine lv_iload_n hx hb dJ0_checkIndex_df160_0 rfl (lv_at hl 0 rfl) ?_
  refine lv_iload_n hx hb dJ0_checkIndex_df160_1 rfl (lv_at hl 1 rfl) ?_
  rcases hJ.2.2.1 with hz | ⟨tt, hz⟩
  · refine va_gets hx hb hz hS hown (hts (.fieldLink RJ0 1053 "jdk/internal/util/Preconditions" "SIOOBE_FORMATTER" "Ljava/util/function/BiFunction;") (gh_mem2 (p := 820) (by decide +kernel))) (fun _ h => h) dJ0_checkIndex_df160_2 ?_
    refine va_calli (a := ([.int k, .int (nI n), .null] : List Value).toArray) (post := fun r _ => r = k) (B := gj_B s.heap) (va_runS (As := [.int k, .int (nI n), .null]) (rest := []) ⟨hx, hb, hml, hown, hts⟩ (gj_pre l adK adV s.heap k n hk hn) ⟨callB_of 3 hts (gj_goodc gj_c_pre) rfl rfl rfl (hts (.initialized "jdk/internal/util/Preconditions") (gh_mem2 (p := 72) (by decide +kernel))) (hts (.methodLink RJ0 1059 yJ3_checkIndex_8e157) (gh_mem2 (p := 822) (by decide +kernel))) (by decide +kernel) ⟨by show (gj_rm 0 0).frames + 1 ≤ (gj_rm 1 30).frames; decide, by show 8 + (3 + 11) + (gj_rm 0 0).locals ≤ (gj_rm 1 30).locals; decide⟩, (hts (.static yJ3_checkIndex_8e157) (gh_mem2 (p := 823) (by decide +kernel)))⟩ ⟨gj_blind, fun U hU hW => ⟨rfl, hU, gh_J.warm hW hJ⟩⟩ rfl rfl hl.1 rfl (lv_room (Nat.le_of_ble_eq_true rfl)) dJ0_checkIndex_df160_5 ⟨Nat.zero_le _, Nat.zero_le _⟩) hS (fun q _ h => h.elim) (fun q h => h.elim) (fun r_1 u t H1 locs1 ht hvm hw hB hz1 hk1 hS1 => ?_)
    have e1 : H1 = s.heap := ht.symm.trans hB
    subst e1
    refine lv_pop hx hb dJ0_checkIndex_df160_8 rfl ?_
    exact W.vret hx hb hr (fun t ht hW => ⟨⟨(), rfl, trivial, ht⟩, hS1.F ht⟩) hS1.2.2 dJ0_checkIndex_df160_9
  · refine va_gets hx hb hz hS hown (hts (.fieldLink RJ0 1053 "jdk/internal/util/Preconditions" "SIOOBE_FORMATTER" "Ljava/util/function/BiFunction;") (gh_mem2 (p := 820) (by decide +kernel))) (fun _ h => h) dJ0_checkIndex_df160_2 ?_
    refine va_calli (a := ([.int k, .int (nI n), .ref tt] : List Value).toArray) (post := fun r _ => r = k) (B := gj_B s.heap) (va_runS (As := [.int k, .int (nI n), .ref tt]) (rest := []) ⟨hx, hb, hml, hown, hts⟩ (gj_prf l adK adV s.heap k n tt hk hn) ⟨callB_of 3 hts (gj_goodc gj_c_pre) rfl rfl rfl (hts (.initialized "jdk/internal/util/Preconditions") (gh_mem2 (p := 72) (by decide +kernel))) (hts (.methodLink RJ0 1059 yJ3_checkIndex_8e157) (gh_mem2 (p := 822) (by decide +kernel))) (by decide +kernel) ⟨by show (gj_rm 0 0).frames + 1 ≤ (gj_rm 1 30).frames; decide, by show 8 + (3 + 11) + (gj_rm 0 0).locals ≤ (gj_rm 1 30).locals; decide⟩, (hts (.static yJ3_checkIndex_8e157) (gh_mem2 (p := 823) (by decide +kernel)))⟩ ⟨gj_blind, fun U hU hW => ⟨rfl, hU, gh_J.warm hW hJ⟩⟩ rfl rfl hl.1 rfl (lv_room (Nat.le_of_ble_eq_true rfl)) dJ0_checkIndex_df160_5 ⟨Nat.zero_le _, Nat.zero_le _⟩) hS (fun q _ h => h.elim) (fun q h => h.elim) (fun r_1 u t H1 locs1 ht hvm hw hB hz1 hk1 hS1 => ?_)
    have e1 : H1 = s.heap := ht.symm.trans hB
    subst e1
    refine lv_pop hx hb dJ0_checkIndex_df160_8 rfl ?_
    exact W.vret hx hb hr (fun t ht hW => ⟨⟨(), rfl, trivial, ht⟩, hS1.F ht⟩) hS1.2.2 dJ0_checkIndex_df160_9
theorem gh_sl_lt : ∀ i, i < 2 → gh_sl.getD i 0 < 2 ^ 31 := by decide
theorem gh_sc_nar : ∀ i, i < 2 → ∀ k, vp_in k (gh_sl.getD i 0) → narrow .char (.int (gh_sc i k)) = .int (gh_sc i k) := by
  intro i _ k _
  unfold gh_sc
  exact pk_nc _
set_option maxHeartbeats 4000000 in
set_option maxRecDepth 100000 in
theorem gj_lat (l : Launch) (adK adV : Nat → Nat) (H0 : Heap) (i : Nat) (hi : i < 2) (k : Int32) (hk : vp_in k (gh_sl.getD i 0)) : Met l yJ1_charAt_3b067 (.code yJ1_charAt_3b067 cJ1_charAt_3b067 2 (some .char) :: gh_tbl) (gj_rm 2 60) (gj_Pc adK adV H0 [.ref (adV i), .int k]) (va_Qi (fun r _ => r = gh_sc i k) (gj_B H0) (fun _ => False)) 0 0 (fun _ => False) := by
  refine Met.ofW (cc := cJ1_charAt_3b067) (maxL := 2) (ret := some .char) (by decide) rfl ?_
  intro p e s m args below meth c s₁ B hml hv
  obtain ⟨rfl, hH, hJ⟩ := hv
  have hx := B.exec
  have hb := B.bytes
  have hr := B.returns
  have hts0 := atoms_spec (ws := .code yJ1_charAt_3b067 cJ1_charAt_3b067 2 (some .char) :: gh_tbl) B.pre
  have hts : ∀ w ∈ gh_tbl, w.before ([.ref (adV i), .int k] : List Value).toArray s = true := fun w hw => hts0 w (List.mem_cons_of_mem _ hw)
  have hown : s.vm.findClass RJ1 = some m.cls := findClass_of_methodNamed B.named
  have hlocks := B.notSynchronized
  subst hH
  have hS : va_S (fun _ => False) s.heap s.heap [] := va_S.rf
  have hl := lv_entry ([.ref (adV i), .int k]) (n := 2) (Nat.le_of_ble_eq_true rfl)
  rw [lg_entry_eq]
  generalize (lg_sl ([.ref (adV i), .int k]) ++ List.replicate (2 - (lg_sl ([.ref (adV i), .int k])).length) Slot.unset).toArray = ls at hl ⊢
  have hT := (hJ.1.1 i hi).2.2.2
  have hn : gh_sl.getD i 0 < 2 ^ 31 := gh_sl_lt i hi
  refine lv_iload_n hx hb dJ1_charAt_3b067_0 rfl (lv_at hl 1 rfl) ?_
  refine lv_aload_n hx hb dJ1_charAt_3b067_1 rfl (lv_at hl 0 rfl) ?_
  refine va_tlen hx hb hT hS (v := nI (gh_sl.getD i 0)) rfl dJ1_charAt_3b067_2 ?_
  refine va_callv (a := ([.int k, .int (nI (gh_sl.getD i 0))] : List Value).toArray) (post := fun _ => True) (B := gj_B s.heap) (va_runS (As := [.int k, .int (nI (gh_sl.getD i 0))]) (rest := []) ⟨hx, hb, hml, hown, hts⟩ (gj_chk l adK adV s.heap k _ hk hn) ⟨callB_of 2 hts (gj_goodc gj_c_chk) rfl rfl rfl (hts (.initialized "java/lang/String") (gh_mem2 (p := 70) (by decide +kernel))) (hts (.methodLink RJ1 9 yJ0_checkIndex_df160) (gh_mem2 (p := 817) (by decide +kernel))) (by decide +kernel) ⟨by show (gj_rm 1 30).frames + 1 ≤ (gj_rm 2 60).frames; decide, by show 8 + (2 + 11) + (gj_rm 1 30).locals ≤ (gj_rm 2 60).locals; decide⟩, (hts (.static yJ0_checkIndex_df160) (gh_mem2 (p := 818) (by decide +kernel)))⟩ ⟨gj_blind, fun U hU hW => ⟨rfl, hU, gh_J.warm hW hJ⟩⟩ rfl rfl hl.1 rfl (lv_room (Nat.le_of_ble_eq_true rfl)) dJ1_charAt_3b067_3 ⟨Nat.zero_le _, Nat.zero_le _⟩) hS (fun q _ h => h.elim) (fun q h => h.elim) (fun u t H1 locs1 ht hvm hw hB hz1 hk1 hS1 => ?_)
  have e1 : H1 = s.heap := ht.symm.trans hB
  subst e1
  refine lv_aload_n hx hb dJ1_charAt_3b067_6 rfl (lv_at hl 0 rfl) ?_
  refine lv_iload_n hx hb dJ1_charAt_3b067_7 rfl (lv_at hl 1 rfl) ?_
  refine va_tb hx hb hT hS1 hk rfl dJ1_charAt_3b067_8 ?_
  refine lv_sipush (v := 255) hx hb dJ1_charAt_3b067_9 (by decide) ?_
  refine lv_iand hx hb dJ1_charAt_3b067_12 ?_
  refine lv_i2c (v := gh_sc i k) hx hb dJ1_charAt_3b067_13 (by rw [gh_sc]) ?_
  exact W.zret hx hb hr (gh_sc_nar i hi k hk) (fun t ht hW => ⟨⟨_, (), rfl, rfl, ht⟩, hS1.F ht⟩) hS1.2.2 dJ1_charAt_3b067_14
set_option maxHeartbeats 4000000 in
set_option maxRecDepth 100000 in
theorem gj_charAt (l : Launch) (adK adV : Nat → Nat) (H0 : Heap) (i : Nat) (hi : i < 2) (k : Int32) (hk : vp_in k (gh_sl.getD i 0)) : Met l yJ0_charAt_5068e (.code yJ0_charAt_5068e cJ0_charAt_5068e 2 (some .char) :: gh_tbl) (gj_rm 3 90) (gj_Pc adK adV H0 [.ref (adK i), .int k]) (va_Qi (fun r _ => r = gh_sc i k) (gj_B H0) (fun _ => False)) 0 0 (fun _ => False) := by
  refine Met.ofW (cc := cJ0_charAt_5068e) (maxL := 2) (ret := some .char) (by decide) rfl ?_
  intro p e s m args below meth c s₁ B hml hv
  obtain ⟨rfl, hH, hJ⟩ := hv
  have hx := B.exec
  have hb := B.bytes
  have hr := B.returns
  have hts0 := atoms_spec (ws := .code yJ0_charAt_5068e cJ0_charAt_5068e 2 (some .char) :: gh_tbl) B.pre
  have hts : ∀ w ∈ gh_tbl, w.before ([.ref (adK i), .int k] : List Value).toArray s = true := fun w hw => hts0 w (List.mem_cons_of_mem _ hw)
  have hown : s.vm.findClass RJ0 = some m.cls := findClass_of_methodNamed B.named
  have hlocks := B.notSynchronized
  subst hH
  have hS : va_S (fun _ => False) s.heap s.heap [] := va_S.rf
  have hl := lv_entry ([.ref (adK i), .int k]) (n := 2) (Nat.le_of_ble_eq_true rfl)
  rw [lg_entry_eq]
  generalize (lg_sl ([.ref (adK i), .int k]) ++ List.replicate (2 - (lg_sl ([.ref (adK i), .int k])).length) Slot.unset).toArray = ls at hl ⊢
  refine lv_aload_n hx hb dJ0_charAt_5068e_0 rfl (lv_at hl 0 rfl) ?_
  refine va_calli (a := (Value.ref (adK i) :: []).toArray) (post := fun r _ => r = 1) (B := gj_B s.heap) (va_runV (C := RJ0) (As := []) (rest := []) ⟨hx, hb, hml, hown, hts⟩ (gj_isLatin1 l adK adV s.heap i hi) ⟨callB_of 0 hts (gj_goodc gj_c_isLatin1) rfl rfl rfl (hts (.initialized "java/lang/String") (gh_mem2 (p := 70) (by decide +kernel))) (hts (.methodLink RJ0 492 yJ0_isLatin1_aae02) (gh_mem2 (p := 810) (by decide +kernel))) (by decide +kernel) ⟨by show (gj_rm 0 0).frames + 1 ≤ (gj_rm 3 90).frames; decide, by show 8 + (1 + 11) + (gj_rm 0 0).locals ≤ (gj_rm 3 90).locals; decide⟩, (hts (.instanceMethod yJ0_isLatin1_aae02) (gh_mem2 (p := 811) (by decide +kernel))), (hts (.selects RJ0 yJ0_isLatin1_aae02 yJ0_isLatin1_aae02) (gh_mem2 (p := 812) (by decide +kernel)))⟩ ⟨gj_blind, vk_recv hJ.1 hi hS, fun U hU hW => ⟨rfl, hU, gh_J.warm hW hJ⟩⟩ rfl rfl hl.1 rfl (lv_room (Nat.le_of_ble_eq_true rfl)) dJ0_charAt_5068e_1 ⟨Nat.zero_le _, Nat.zero_le _⟩) hS (fun q _ h => h.elim) (fun q h => h.elim) (fun r_1 u t H1 locs1 ht hvm hw hB hz1 hk1 hS1 => ?_)
  have e1 : H1 = s.heap := ht.symm.trans hB
  subst e1
  subst hw
  refine lv_if_eq (tgt := 16) hx hb dJ0_charAt_5068e_4 (by decide) (fun hc => absurd hc (by decide)) (fun _ => ?_)
  refine lv_aload_n hx hb dJ0_charAt_5068e_7 rfl (lv_at hl 0 rfl) ?_
  refine vk_getf hx hb (hJ.1.1 i hi).2.2.1 hS1 hown (hts (.fieldLink RJ0 9 "java/lang/String" "value" "[B") (gh_mem2 (p := 1399) (by decide +kernel))) (fun _ h => h) dJ0_charAt_5068e_8 ?_
  refine lv_iload_n hx hb dJ0_charAt_5068e_11 rfl (lv_at hl 1 rfl) ?_
  refine va_calli (a := ([.ref (adV i), .int k] : List Value).toArray) (post := fun r _ => r = gh_sc i k) (B := gj_B s.heap) (va_runS (As := [.ref (adV i), .int k]) (rest := []) ⟨hx, hb, hml, hown, hts⟩ (gj_lat l adK adV s.heap i hi k hk) ⟨callB_of 2 hts (gj_goodc gj_c_lat) rfl rfl rfl (hts (.initialized "java/lang/StringLatin1") (gh_mem2 (p := 71) (by decide +kernel))) (hts (.methodLink RJ0 495 yJ1_charAt_3b067) (gh_mem2 (p := 814) (by decide +kernel))) (by decide +kernel) ⟨by show (gj_rm 2 60).frames + 1 ≤ (gj_rm 3 90).frames; decide, by show 8 + (2 + 11) + (gj_rm 2 60).locals ≤ (gj_rm 3 90).locals; decide⟩, (hts (.static yJ1_charAt_3b067) (gh_mem2 (p := 815) (by decide +kernel)))⟩ ⟨gj_blind, fun U hU hW => ⟨rfl, hU, gh_J.warm hW hJ⟩⟩ rfl rfl hl.1 rfl (lv_room (Nat.le_of_ble_eq_true rfl)) dJ0_charAt_5068e_12 ⟨Nat.zero_le _, Nat.zero_le _⟩) hS1 (fun q _ h => h.elim) (fun q h => h.elim) (fun r_2 u2 t2 H2 locs2 ht2 hvm2 hw2 hB2 hz2 hk2 hS2 => ?_)
  have e2 : H2 = s.heap := ht2.symm.trans hB2
  subst e2
  subst hw2
  exact W.zret hx hb hr (gh_sc_nar i hi k hk) (fun t ht hW => ⟨⟨_, (), rfl, rfl, ht⟩, hS2.F ht⟩) hS2.2.2 dJ0_charAt_5068e_15
theorem gj_w_len : ((.methodLink RX6 93 yJ0_length_8abf5 : Jvm.Cond) ∈ gh_tbl) ∧ ((.methodLink RX6 98 yJ0_charAt_5068e : Jvm.Cond) ∈ gh_tbl) ∧ ((.initialized RJ0 : Jvm.Cond) ∈ gh_tbl) ∧ ((.instanceMethod yJ0_length_8abf5 : Jvm.Cond) ∈ gh_tbl) ∧ ((.instanceMethod yJ0_charAt_5068e : Jvm.Cond) ∈ gh_tbl) ∧ ((.selects RJ0 yJ0_length_8abf5 yJ0_length_8abf5 : Jvm.Cond) ∈ gh_tbl) ∧ ((.selects RJ0 yJ0_charAt_5068e yJ0_charAt_5068e : Jvm.Cond) ∈ gh_tbl) := ⟨gh_mem2 (p := 796) (by decide +kernel), gh_mem2 (p := 806) (by decide +kernel), gh_mem2 (p := 70) (by decide +kernel), gh_mem2 (p := 797) (by decide +kernel), gh_mem2 (p := 807) (by decide +kernel), gh_mem2 (p := 798) (by decide +kernel), gh_mem2 (p := 808) (by decide +kernel)⟩
end
section
/-! ===== THE WORLD OF A PURE MEMORY: its cells at addresses ad ===== -/
def gh_tv (ad : Nat → Nat) (v : Value) : Value := match v with
  | .ref c => .ref (ad c)
  | v => v
theorem gh_tv_cat (ad : Nat → Nat) (v : Value) : (gh_tv ad v).category = v.category := by cases v <;> rfl
def gh_fv (ad : Nat → Nat) (M : gh_M) (c k kd : Nat) : Value := match kd with
  | 1 => .long (M.2.2.1 c k)
  | 2 => va_rf ((M.2.2.2 c k).map ad)
  | _ => .int (M.2.1 c k)
def gh_fs (ad : Nat → Nat) (M : gh_M) (c ci : Nat) : List Value := (gh_ft ci).mapIdx (fun k kd => gh_fv ad M c k kd)
def gh_ae (M : gh_M) (c t n : Nat) : vp_A := match t with
  | 1 => (n, .inr (.inl (M.2.2.1 c)))
  | _ => (n, .inl (M.2.1 c))
def gh_ent (ad : Nat → Nat) (ca : Nat → ClassId) (M : gh_M) (c : Nat) (sh : gh_Sh) : Nat × va_E := match sh with
  | .inl q => (ad c, .inl (ca q.1, gh_ae M c q.1 q.2))
  | .inr ci => (ad c, .inr (ci, gh_fs ad M c ci))
def gh_ws (ad : Nat → Nat) (ca : Nat → ClassId) (M : gh_M) : va_W := M.1.mapIdx (fun c sh => gh_ent ad ca M c sh)
theorem gh_ws_get {ad : Nat → Nat} {ca : Nat → ClassId} {M : gh_M} {c : Nat} : (gh_ws ad ca M)[c]? = (M.1[c]?).map (fun sh => gh_ent ad ca M c sh) := by
  simp [gh_ws, List.getElem?_mapIdx]
theorem gh_ws_len {ad : Nat → Nat} {ca : Nat → ClassId} {M : gh_M} : (gh_ws ad ca M).length = M.1.length := by simp [gh_ws]
theorem gh_ent_fst {ad : Nat → Nat} {ca : Nat → ClassId} {M : gh_M} {c : Nat} {sh : gh_Sh} : (gh_ent ad ca M c sh).1 = ad c := by
  cases sh <;> rfl
/-- the references of a memory stand -/
def gh_wf (M : gh_M) : Prop := ∀ c k q, M.2.2.2 c k = some q → q < M.1.length
theorem gh_ent_congr {ad ad' : Nat → Nat} {ca : Nat → ClassId} {M M' : gh_M} {c : Nat} {sh : gh_Sh} (h0 : ad' c = ad c) (h1 : M'.2.1 c = M.2.1 c) (h2 : M'.2.2.1 c = M.2.2.1 c) (h3 : M'.2.2.2 c = M.2.2.2 c) (h4 : ∀ k q, M.2.2.2 c k = some q → ad' q = ad q) : gh_ent ad' ca M' c sh = gh_ent ad ca M c sh := by
  cases sh with
  | inl q =>
    have e : gh_ae M' c q.1 q.2 = gh_ae M c q.1 q.2 := by
      unfold gh_ae
      rw [h1, h2]
    simp only [gh_ent, h0, e]
  | inr ci =>
    have e : gh_fs ad' M' c ci = gh_fs ad M c ci := by
      unfold gh_fs
      congr 1
      funext k kd
      unfold gh_fv
      rw [h1, h2, h3]
      have : (M.2.2.2 c k).map ad' = (M.2.2.2 c k).map ad := by
        cases hq : M.2.2.2 c k with
        | none => rfl
        | some q => simp [h4 k q hq]
      rw [this]
    simp only [gh_ent, h0, e]
/-- one cell written -/
theorem gh_ws_set {ad : Nat → Nat} {ca : Nat → ClassId} {M M' : gh_M} {c : Nat} {sh : gh_Sh} (hs : M.1[c]? = some sh) (h0 : M'.1 = M.1) (h1 : ∀ d, d ≠ c → M'.2.1 d = M.2.1 d) (h2 : ∀ d, d ≠ c → M'.2.2.1 d = M.2.2.1 d) (h3 : ∀ d, d ≠ c → M'.2.2.2 d = M.2.2.2 d) :
    gh_ws ad ca M' = (gh_ws ad ca M).set c (gh_ent ad ca M' c sh) := by
  have hc : c < M.1.length := (List.getElem?_eq_some_iff.mp hs).1
  apply List.ext_getElem?
  intro j
  rw [gh_ws_get, h0]
  by_cases hj : j = c
  · subst hj
    rw [List.getElem?_set_self (by rw [gh_ws_len]; exact hc), hs]
    rfl
  · rw [List.getElem?_set_ne (fun q => hj q.symm), gh_ws_get]
    cases hq : M.1[j]? with
    | none => rfl
    | some sh' =>
      simp only [Option.map_some]
      rw [gh_ent_congr (M' := M') (M := M) rfl (h1 j hj) (h2 j hj) (h3 j hj) (fun _ _ _ => rfl)]
theorem gh_ws_mI {ad : Nat → Nat} {ca : Nat → ClassId} {M : gh_M} {c : Nat} {sh : gh_Sh} (f : Nat → Int32) (hs : M.1[c]? = some sh) : gh_ws ad ca (gh_mI M c f) = (gh_ws ad ca M).set c (gh_ent ad ca (gh_mI M c f) c sh) :=
  gh_ws_set hs rfl (fun _ h => gh_up_ne _ _ h) (fun _ _ => rfl) (fun _ _ => rfl)
theorem gh_ws_mL {ad : Nat → Nat} {ca : Nat → ClassId} {M : gh_M} {c : Nat} {sh : gh_Sh} (f : Nat → Int64) (hs : M.1[c]? = some sh) : gh_ws ad ca (gh_mL M c f) = (gh_ws ad ca M).set c (gh_ent ad ca (gh_mL M c f) c sh) :=
  gh_ws_set hs rfl (fun _ _ => rfl) (fun _ h => gh_up_ne _ _ h) (fun _ _ => rfl)
theorem gh_ws_mR {ad : Nat → Nat} {ca : Nat → ClassId} {M : gh_M} {c : Nat} {sh : gh_Sh} (f : Nat → Option Nat) (hs : M.1[c]? = some sh) : gh_ws ad ca (gh_mR M c f) = (gh_ws ad ca M).set c (gh_ent ad ca (gh_mR M c f) c sh) :=
  gh_ws_set hs rfl (fun _ _ => rfl) (fun _ _ => rfl) (fun _ h => gh_up_ne _ _ h)
/-- a cell made -/
theorem gh_ws_mk {ad : Nat → Nat} {ca : Nat → ClassId} {M : gh_M} (hw : gh_wf M) (sh : gh_Sh) (q : Nat) :
    gh_ws (va_up ad M.1.length q) ca (gh_mk M sh) = gh_ws ad ca M ++ [gh_ent (va_up ad M.1.length q) ca (gh_mk M sh) M.1.length sh] := by
  apply List.ext_getElem?
  intro j
  rw [gh_ws_get]
  show ((M.1 ++ [sh])[j]?).map _ = _
  by_cases hj : j < M.1.length
  · rw [List.getElem?_append_left hj, List.getElem?_append_left (by rw [gh_ws_len]; exact hj), gh_ws_get]
    have hne : j ≠ M.1.length := by omega
    cases hq : M.1[j]? with
    | none => rfl
    | some sh' =>
      simp only [Option.map_some]
      rw [gh_ent_congr (ad := ad) (ad' := va_up ad M.1.length q) (M' := gh_mk M sh) (M := M) (by simp [va_up, hne]) (gh_up_ne _ _ hne) (gh_up_ne _ _ hne) (gh_up_ne _ _ hne) (fun k r hr => by
        have := hw _ _ _ hr
        have hr2 : r ≠ M.1.length := by omega
        simp [va_up, hr2])]
  · by_cases hj2 : j = M.1.length
    · subst hj2
      rw [List.getElem?_append_right (Nat.le_refl _), List.getElem?_append_right (by rw [gh_ws_len]; exact Nat.le_refl _), gh_ws_len]
      simp
    · rw [List.getElem?_append_right (by omega), List.getElem?_append_right (by rw [gh_ws_len]; omega), gh_ws_len]
      have : j - M.1.length ≠ 0 := by omega
      cases hx : j - M.1.length with
      | zero => exact absurd hx this
      | succ n => rfl
theorem gh_wf_mI {M : gh_M} (h : gh_wf M) (c : Nat) (f : Nat → Int32) : gh_wf (gh_mI M c f) := h
theorem gh_wf_mL {M : gh_M} (h : gh_wf M) (c : Nat) (f : Nat → Int64) : gh_wf (gh_mL M c f) := h
theorem gh_wf_mR {M : gh_M} (h : gh_wf M) (c k a : Nat) (ha : a < M.1.length) : gh_wf (gh_mR M c (gh_upR (M.2.2.2 c) k (some a))) := by
  intro d j q hq
  show q < M.1.length
  have hq : gh_up M.2.2.2 c (gh_upR (M.2.2.2 c) k (some a)) d j = some q := hq
  by_cases hd : d = c
  · subst hd
    rw [gh_up_eq] at hq
    unfold gh_upR at hq
    split at hq
    · cases hq; exact ha
    · exact h _ _ _ hq
  · rw [gh_up_ne _ _ hd] at hq
    exact h _ _ _ hq
theorem gh_wf_mk {M : gh_M} (h : gh_wf M) (sh : gh_Sh) : gh_wf (gh_mk M sh) := by
  intro d j q hq
  show q < (M.1 ++ [sh]).length
  have hq : gh_up M.2.2.2 M.1.length (fun _ => none) d j = some q := hq
  rw [List.length_append]
  by_cases hd : d = M.1.length
  · subst hd
    rw [gh_up_eq] at hq
    cases hq
  · rw [gh_up_ne _ _ hd] at hq
    have := h _ _ _ hq
    omega
/-! locals -/
def gh_tl (ad : Nat → Nat) (lv : gh_L) : gh_L := lv.map (fun q => (q.1, gh_tv ad q.2))
theorem gh_lk_mem {lv : gh_L} {i : Nat} {v : Value} (h : gh_lk lv i = some v) : (i, v) ∈ lv := by
  induction lv with
  | nil => cases h
  | cons q t ih =>
    rw [gh_lk] at h
    cases hb : Nat.beq q.1 i with
    | true =>
      rw [hb] at h
      have e := Nat.eq_of_beq_eq_true hb
      cases h
      subst e
      exact List.mem_cons_self
    | false =>
      rw [hb] at h
      exact List.mem_cons_of_mem _ (ih h)
theorem gh_lk_slot {ad : Nat → Nat} {lv : gh_L} {i nL : Nat} {v : Value} {ls : Array Slot} (h : lv_has ls nL (gh_tl ad lv)) (hi : gh_lk lv i = some v) : ls[i]? = some (.val (gh_tv ad v)) :=
  h.2.2 (i, gh_tv ad v) (List.mem_map.mpr ⟨(i, v), gh_lk_mem hi, rfl⟩)
theorem gh_lk_place {ad : Nat → Nat} {lv : gh_L} {i : Nat} {v : Value} (hi : gh_lk lv i = some v) : ∃ k : Nat, (gh_tl ad lv)[k]? = some (i, gh_tv ad v) :=
  List.getElem?_of_mem (List.mem_map.mpr ⟨(i, v), gh_lk_mem hi, rfl⟩)
theorem gh_tl_s1 {ad : Nat → Nat} {lv : gh_L} {i : Nat} {v : Value} : (i, gh_tv ad v) :: (gh_tl ad lv).filter (fun q => !(q.1 == i) && !(q.1 + 1 == i && q.2.category == 2)) = gh_tl ad (gh_s1 lv i v) := by
  simp only [gh_tl, gh_s1, List.map_cons, List.filter_map]
  congr 3
  funext q
  simp only [Function.comp_apply, gh_tv_cat]
theorem gh_tl_s2 {ad : Nat → Nat} {lv : gh_L} {i : Nat} {v : Value} : (i, gh_tv ad v) :: (gh_tl ad lv).filter (fun q => !(q.1 == i) && (!(q.1 == i + 1) && !(q.1 + 1 == i && q.2.category == 2))) = gh_tl ad (gh_s2 lv i v) := by
  simp only [gh_tl, gh_s2, List.map_cons, List.filter_map]
  congr 3
  funext q
  simp only [Function.comp_apply, gh_tv_cat]
theorem gh_has_filter {ad : Nat → Nat} {lv : gh_L} {nL : Nat} {ls : Array Slot} (f : Nat × Value → Bool) (h : lv_has ls nL (gh_tl ad lv)) : lv_has ls nL (gh_tl ad (lv.filter f)) :=
  ⟨h.1, h.2.1, fun q hq => h.2.2 q (by
    obtain ⟨a, ha, rfl⟩ := List.mem_map.mp hq
    exact List.mem_map.mpr ⟨a, (List.mem_filter.mp ha).1, rfl⟩)⟩
/-- addresses that agree on what stands -/
def gh_ag (n : Nat) (ad ad' : Nat → Nat) : Prop := ∀ c, (c < n ∨ gh_SC ≤ c) → ad' c = ad c
theorem gh_ag_tv {n : Nat} {ad ad' : Nat → Nat} (h : gh_ag n ad ad') {v : Value} (hv : gh_vv n v = true) : gh_tv ad' v = gh_tv ad v := by
  cases v with
  | ref c =>
    have hv : (Nat.blt c n || Nat.ble gh_SC c) = true := hv
    rw [Bool.or_eq_true] at hv
    have : ad' c = ad c := h c (hv.imp (fun z => Nat.le_of_ble_eq_true z) (fun z => Nat.le_of_ble_eq_true z))
    simp [gh_tv, this]
  | _ => rfl
theorem gh_ag_st {n : Nat} {ad ad' : Nat → Nat} (h : gh_ag n ad ad') {st : List Value} (hv : st.all (gh_vv n) = true) : st.map (gh_tv ad') = st.map (gh_tv ad) := by
  apply List.map_congr_left
  intro v hm
  exact gh_ag_tv h (List.all_eq_true.mp hv v hm)
theorem gh_ag_tl {n : Nat} {ad ad' : Nat → Nat} (h : gh_ag n ad ad') (lv : gh_L) : gh_tl ad' (lv.filter (fun q => gh_vv n q.2)) = gh_tl ad (lv.filter (fun q => gh_vv n q.2)) := by
  apply List.map_congr_left
  intro q hm
  rw [gh_ag_tv h (List.mem_filter.mp hm).2]
theorem gh_ag_up {n : Nat} (ad : Nat → Nat) (q : Nat) (hn : n < gh_SC) : gh_ag n ad (va_up ad n q) := by
  intro c hc
  have : c ≠ n := by omega
  simp [va_up, this]
theorem gh_ag_tr {n n' : Nat} {ad ad' ad'' : Nat → Nat} (hn : n ≤ n') (h : gh_ag n ad ad') (h' : gh_ag n' ad' ad'') : gh_ag n ad ad'' := fun c hc => (h' c (hc.imp (fun z => by omega) id)).trans (h c hc)
/-- a field written, as the list of fields has it -/
theorem gh_fs_get {ad : Nat → Nat} {M : gh_M} {c ci k kd : Nat} (h : (gh_ft ci)[k]? = some kd) : (gh_fs ad M c ci)[k]? = some (gh_fv ad M c k kd) := by
  simp [gh_fs, List.getElem?_mapIdx, h]
theorem gh_fs_len {ad : Nat → Nat} {M : gh_M} {c ci : Nat} : (gh_fs ad M c ci).length = (gh_ft ci).length := by simp [gh_fs]
theorem gh_fs_set {ad : Nat → Nat} {M M' : gh_M} {c ci k kd : Nat} {v : Value} (hk : (gh_ft ci)[k]? = some kd) (hv : gh_fv ad M' c k kd = v) (hn : ∀ j e, (gh_ft ci)[j]? = some e → j ≠ k → gh_fv ad M' c j e = gh_fv ad M c j e) : (gh_fs ad M c ci).set k v = gh_fs ad M' c ci := by
  have hkl : k < (gh_ft ci).length := (List.getElem?_eq_some_iff.mp hk).1
  apply List.ext_getElem?
  intro j
  by_cases hj : j = k
  · subst hj
    rw [List.getElem?_set_self (by rw [gh_fs_len]; exact hkl), gh_fs_get hk, hv]
  · rw [List.getElem?_set_ne (fun q => hj q.symm)]
    cases he : (gh_ft ci)[j]? with
    | none => simp [gh_fs, List.getElem?_mapIdx, he]
    | some e => rw [gh_fs_get he, gh_fs_get he, hn j e he hj]
end
section
/-! ===== WHAT IS CHECKED OF AN INSTRUCTION AHEAD, and what a step tells ===== -/
def gh_tys (ca : Nat → ClassId) : List (ClassId × FieldType) := [(ca 0, .int), (ca 1, .long), (ca 2, .byte), (ca 3, .boolean)]
theorem gh_tys_get {ca : Nat → ClassId} : ∀ t, t ≤ 3 → (gh_tys ca)[t]? = some (ca t, gh_ty t) := by
  intro t h
  match t, h with
  | 0, _ => rfl
  | 1, _ => rfl
  | 2, _ => rfl
  | 3, _ => rfl
/-- o: the class that owns the code; nL: its locals; rt: what it returns -/
def gh_ck (o nL : Nat) (rt : Option FieldType) (pc : Nat) (i : Instr) (len u v : Nat) (w : Int32) (x : Int64) : Bool := match i with
  | .iconst n => Nat.beq len 1 && decide (Int32.ofInt n = w)
  | .bipush n => Nat.beq len 2 && decide ((Int8.ofInt n).toInt32 = w)
  | .sipush n => Nat.beq len 3 && decide ((Int16.ofInt n).toInt32 = w)
  | .lconst n => Nat.beq len 1 && decide (Int64.ofNat (n : Nat) = x)
  | .ldc k => Nat.beq len 2 && (bif Nat.beq v 0 then gh_kit.contains (o, k, w) else Nat.beq o 6 && ((Nat.beq v 1 && Nat.beq k 102) || (Nat.beq v 2 && Nat.beq k 112)))
  | .ldc_w k => Nat.beq len 3 && gh_kit.contains (o, k, w)
  | .ldc2_w k => Nat.beq len 3 && gh_kjt.contains (o, k, x)
  | .iload _ => Nat.beq len 2
  | .lload _ => Nat.beq len 2
  | .istore j => Nat.beq len 2 && Nat.blt j nL
  | .istore_n j => Nat.beq len 1 && Nat.blt j.val nL
  | .astore_n j => Nat.beq len 1 && Nat.blt j.val nL
  | .lstore j => Nat.beq len 2 && Nat.blt (j + 1) nL
  | .lstore_n j => Nat.beq len 1 && Nat.blt (j.val + 1) nL
  | .iinc j n => Nat.beq len 3 && decide (Int32.ofInt n = w) && Nat.blt j nL
  | .ifCond _ off => Nat.beq len 3 && decide ((pc : Int) + off = (u : Int))
  | .if_icmp _ off => Nat.beq len 3 && decide ((pc : Int) + off = (u : Int))
  | .goto off => Nat.beq len 3 && decide ((pc : Int) + off = (u : Int))
  | .tableswitch .. => true
  | .lookupswitch .. => true
  | .getfield k => Nat.beq len 3 && gh_flt.contains (o, k, u, v) && Nat.blt u 11 && Nat.blt v (gh_ft u).length
  | .putfield k => Nat.beq len 3 && gh_flt.contains (o, k, u, v) && Nat.blt u 11 && Nat.blt v (gh_ft u).length && (bif (gh_Tn u v).2.2.2 then decide (w = 1) && decide ((gh_Tn u v).1 = gh_Rn o) else true)
  | .new k => Nat.beq len 3 && gh_clt.contains (o, k, u)
  | .newarray t => Nat.beq len 2 && decide (newarray.typeOf t = gh_ty u)
  | .invokestatic k => Nat.beq len 3 && (bif Nat.blt u gh_NZ then Nat.beq (gh_kn u) 0 && Nat.beq v (gh_pn u) && Nat.beq (gh_bud u).1 0 && Nat.beq (gh_bud u).2 0 && (gh_mlt.contains (o, k, u) || gh_mnt.contains (o, k, u, 9)) else Nat.ble 1000 u && Nat.ble u 1003 && gh_xlt.contains (o, k, u))
  | .invokevirtual k => Nat.beq len 3 && (bif Nat.blt u gh_NZ then Nat.beq (gh_kn u) 1 && Nat.beq v (gh_pn u) && Nat.beq (gh_bud u).1 0 && Nat.beq (gh_bud u).2 0 && gh_mlt.contains (o, k, u) else Nat.beq o 6 && ((Nat.beq u 1004 && Nat.beq k 93) || (Nat.beq u 1005 && Nat.beq k 98)))
  | .invokespecial k => Nat.beq len 3 && (bif Nat.beq u 2000 then gh_xlt.contains (o, k, u) else Nat.blt u gh_NZ && Nat.beq (gh_kn u) 2 && Nat.beq v (gh_pn u) && (gh_mlt.contains (o, k, u) || gh_mnt.contains (o, k, u, 9)))
  | .ireturn => Nat.beq len 1 && (decide (rt = some .int) || decide (rt = some .boolean))
  | .lreturn => Nat.beq len 1 && decide (rt = some .long)
  | .return_ => Nat.beq len 1 && decide (rt = none)
  | _ => Nat.beq len 1
theorem gh_k_inv {pc : Nat} {st : List Value} {W : gh_W} {pc' : Nat} {st' : List Value} {W' : gh_W} (h : gh_k pc st W = some (.inl (pc', st', W'))) : pc' = pc ∧ st' = st ∧ W' = W := by
  unfold gh_k at h
  cases h
  exact ⟨rfl, rfl, rfl⟩
theorem gh_k_nr {pc : Nat} {st : List Value} {W : gh_W} {r : gh_R} (h : gh_k pc st W = some (.inr r)) : False := by
  unfold gh_k at h
  cases h
theorem gh_ii_inv {f : Int32 → Int32 → Int32} {pc : Nat} {st : List Value} {W : gh_W} {pc' : Nat} {st' : List Value} {W' : gh_W} (h : gh_ii f pc st W = some (.inl (pc', st', W'))) : ∃ x y r, st = .int y :: .int x :: r ∧ pc' = pc + 1 ∧ st' = .int (f x y) :: r ∧ W' = W := by
  unfold gh_ii at h
  split at h
  · obtain ⟨rfl, rfl, rfl⟩ := gh_k_inv h
    exact ⟨_, _, _, rfl, rfl, rfl, rfl⟩
  · cases h
theorem gh_jj_inv {f : Int64 → Int64 → Int64} {pc : Nat} {st : List Value} {W : gh_W} {pc' : Nat} {st' : List Value} {W' : gh_W} (h : gh_jj f pc st W = some (.inl (pc', st', W'))) : ∃ x y r, st = .long y :: .long x :: r ∧ pc' = pc + 1 ∧ st' = .long (f x y) :: r ∧ W' = W := by
  unfold gh_jj at h
  split at h
  · obtain ⟨rfl, rfl, rfl⟩ := gh_k_inv h
    exact ⟨_, _, _, rfl, rfl, rfl, rfl⟩
  · cases h
theorem gh_lcmp_inv  {pc : Nat} {st : List Value} {W : gh_W} {pc' : Nat} {st' : List Value} {W' : gh_W} (h : gh_lcmp pc st W = some (.inl (pc', st', W'))) : ∃ x y r, st = .long y :: .long x :: r ∧ pc' = pc + 1 ∧ st' = .int (lg_cmp x y) :: r ∧ W' = W := by
  unfold gh_lcmp at h
  split at h
  · obtain ⟨rfl, rfl, rfl⟩ := gh_k_inv h
    exact ⟨_, _, _, rfl, rfl, rfl, rfl⟩
  · cases h
theorem gh_iid_inv {f : Int32 → Int32 → Int32} {pc : Nat} {st : List Value} {W : gh_W} {pc' : Nat} {st' : List Value} {W' : gh_W} (h : gh_iid f pc st W = some (.inl (pc', st', W'))) : ∃ x y r, st = .int y :: .int x :: r ∧ ¬ y = 0 ∧ pc' = pc + 1 ∧ st' = .int (f x y) :: r ∧ W' = W := by
  unfold gh_iid at h
  split at h
  · split at h
    · cases h
    · rename_i hne
      obtain ⟨rfl, rfl, rfl⟩ := gh_k_inv h
      exact ⟨_, _, _, rfl, hne, rfl, rfl, rfl⟩
  · cases h
theorem gh_jjd_inv  {pc : Nat} {st : List Value} {W : gh_W} {pc' : Nat} {st' : List Value} {W' : gh_W} (h : gh_jjd pc st W = some (.inl (pc', st', W'))) : ∃ x y r, st = .long y :: .long x :: r ∧ ¬ y = 0 ∧ pc' = pc + 1 ∧ st' = .long (x / y) :: r ∧ W' = W := by
  unfold gh_jjd at h
  split at h
  · split at h
    · cases h
    · rename_i hne
      obtain ⟨rfl, rfl, rfl⟩ := gh_k_inv h
      exact ⟨_, _, _, rfl, hne, rfl, rfl, rfl⟩
  · cases h
theorem gh_i_inv {f : Int32 → Int32} {pc : Nat} {st : List Value} {W : gh_W} {pc' : Nat} {st' : List Value} {W' : gh_W} (h : gh_i f pc st W = some (.inl (pc', st', W'))) : ∃ x r, st = .int x :: r ∧ pc' = pc + 1 ∧ st' = .int (f x) :: r ∧ W' = W := by
  unfold gh_i at h
  split at h
  · obtain ⟨rfl, rfl, rfl⟩ := gh_k_inv h
    exact ⟨_, _, rfl, rfl, rfl, rfl⟩
  · cases h
theorem gh_i2l_inv  {pc : Nat} {st : List Value} {W : gh_W} {pc' : Nat} {st' : List Value} {W' : gh_W} (h : gh_i2l pc st W = some (.inl (pc', st', W'))) : ∃ x r, st = .int x :: r ∧ pc' = pc + 1 ∧ st' = .long x.toInt64 :: r ∧ W' = W := by
  unfold gh_i2l at h
  split at h
  · obtain ⟨rfl, rfl, rfl⟩ := gh_k_inv h
    exact ⟨_, _, rfl, rfl, rfl, rfl⟩
  · cases h
theorem gh_l2i_inv  {pc : Nat} {st : List Value} {W : gh_W} {pc' : Nat} {st' : List Value} {W' : gh_W} (h : gh_l2i pc st W = some (.inl (pc', st', W'))) : ∃ x r, st = .long x :: r ∧ pc' = pc + 1 ∧ st' = .int x.toInt32 :: r ∧ W' = W := by
  unfold gh_l2i at h
  split at h
  · obtain ⟨rfl, rfl, rfl⟩ := gh_k_inv h
    exact ⟨_, _, rfl, rfl, rfl, rfl⟩
  · cases h
theorem gh_pop_inv  {pc : Nat} {st : List Value} {W : gh_W} {pc' : Nat} {st' : List Value} {W' : gh_W} (h : gh_pop pc st W = some (.inl (pc', st', W'))) : ∃ x r, st = .int x :: r ∧ pc' = pc + 1 ∧ st' = r ∧ W' = W := by
  unfold gh_pop at h
  split at h
  · obtain ⟨rfl, rfl, rfl⟩ := gh_k_inv h
    exact ⟨_, _, rfl, rfl, rfl, rfl⟩
  · cases h
theorem gh_dup_inv {pc : Nat} {st : List Value} {W : gh_W} {pc' : Nat} {st' : List Value} {W' : gh_W} (h : gh_dup pc st W = some (.inl (pc', st', W'))) : ∃ x r, x.category = 1 ∧ st = x :: r ∧ pc' = pc + 1 ∧ st' = x :: x :: r ∧ W' = W := by
  unfold gh_dup at h
  split at h
  · obtain ⟨rfl, rfl, rfl⟩ := gh_k_inv h
    exact ⟨_, _, rfl, rfl, rfl, rfl, rfl⟩
  · obtain ⟨rfl, rfl, rfl⟩ := gh_k_inv h
    exact ⟨_, _, rfl, rfl, rfl, rfl, rfl⟩
  · cases h
theorem gh_dup2_inv {pc : Nat} {st : List Value} {W : gh_W} {pc' : Nat} {st' : List Value} {W' : gh_W} (h : gh_dup2 pc st W = some (.inl (pc', st', W'))) : (∃ x r, st = .long x :: r ∧ pc' = pc + 1 ∧ st' = .long x :: .long x :: r ∧ W' = W) ∨ (∃ x y r, st = .int x :: .ref y :: r ∧ pc' = pc + 1 ∧ st' = .int x :: .ref y :: .int x :: .ref y :: r ∧ W' = W) := by
  unfold gh_dup2 at h
  split at h
  · obtain ⟨rfl, rfl, rfl⟩ := gh_k_inv h
    exact Or.inl ⟨_, _, rfl, rfl, rfl, rfl⟩
  · obtain ⟨rfl, rfl, rfl⟩ := gh_k_inv h
    exact Or.inr ⟨_, _, _, rfl, rfl, rfl, rfl⟩
  · cases h
theorem gh_if_inv {c : Jvm.ClassFile.Cond} {u pc : Nat} {st : List Value} {W : gh_W} {pc' : Nat} {st' : List Value} {W' : gh_W} (h : gh_if c u pc st W = some (.inl (pc', st', W'))) : ∃ x r, st = .int x :: r ∧ pc' = (bif gh_cmp c x 0 then u else pc + 3) ∧ st' = r ∧ W' = W := by
  unfold gh_if at h
  split at h
  · rename_i x r
    refine ⟨x, r, rfl, ?_⟩
    cases hc : gh_cmp c x 0 <;> rw [hc] at h <;> exact gh_k_inv h
  · cases h
theorem gh_icmp_inv {c : Jvm.ClassFile.Cond} {u pc : Nat} {st : List Value} {W : gh_W} {pc' : Nat} {st' : List Value} {W' : gh_W} (h : gh_icmp c u pc st W = some (.inl (pc', st', W'))) : ∃ x y r, st = .int y :: .int x :: r ∧ pc' = (bif gh_cmp c x y then u else pc + 3) ∧ st' = r ∧ W' = W := by
  unfold gh_icmp at h
  split at h
  · rename_i y x r
    refine ⟨x, y, r, rfl, ?_⟩
    cases hc : gh_cmp c x y <;> rw [hc] at h <;> exact gh_k_inv h
  · cases h
theorem gh_to_inv {pc : Nat} {off : Int} {st : List Value} {W : gh_W} {pc' : Nat} {st' : List Value} {W' : gh_W} (h : gh_to pc off st W = some (.inl (pc', st', W'))) : (pc : Int) + off = (pc' : Int) ∧ st' = st ∧ W' = W := by
  unfold gh_to at h
  split at h
  · rename_i h0
    obtain ⟨rfl, rfl, rfl⟩ := gh_k_inv h
    exact ⟨(Int.toNat_of_nonneg h0).symm, rfl, rfl⟩
  · cases h
theorem gh_tab_inv {d lo hi : Int} {offs : Array Int} {pc : Nat} {st : List Value} {W : gh_W} {pc' : Nat} {st' : List Value} {W' : gh_W} (h : gh_tab d lo hi offs pc st W = some (.inl (pc', st', W'))) : ∃ x r, st = .int x :: r ∧ st' = r ∧ W' = W ∧ (((x.toInt < lo ∨ hi < x.toInt) ∧ (pc : Int) + d = (pc' : Int)) ∨ (¬ x.toInt < lo ∧ ¬ hi < x.toInt ∧ ∃ off, offs[(x.toInt - lo).toNat]? = some off ∧ (pc : Int) + off = (pc' : Int))) := by
  unfold gh_tab at h
  split at h
  · rename_i x r
    refine ⟨x, r, rfl, ?_⟩
    split at h
    · rename_i hx
      obtain ⟨e, rfl, rfl⟩ := gh_to_inv h
      exact ⟨rfl, rfl, Or.inl ⟨hx, e⟩⟩
    · rename_i hx
      split at h
      · rename_i off ho
        obtain ⟨e, rfl, rfl⟩ := gh_to_inv h
        exact ⟨rfl, rfl, Or.inr ⟨fun z => hx (Or.inl z), fun z => hx (Or.inr z), off, ho, e⟩⟩
      · cases h
  · cases h
theorem gh_luk_inv {d : Int} {ps : Array (Int × Int)} {pc : Nat} {st : List Value} {W : gh_W} {pc' : Nat} {st' : List Value} {W' : gh_W} (h : gh_luk d ps pc st W = some (.inl (pc', st', W'))) : ∃ x r, st = .int x :: r ∧ st' = r ∧ W' = W ∧ (ps.toList.zip (ps.toList.drop 1)).all (fun (a, next) => a.1 < next.1) = true ∧ (pc : Int) + Op.lookupswitch.offset ps.toList d x.toInt = (pc' : Int) := by
  unfold gh_luk at h
  split at h
  · rename_i x r
    refine ⟨x, r, rfl, ?_⟩
    split at h
    · rename_i hx
      obtain ⟨e, rfl, rfl⟩ := gh_to_inv h
      exact ⟨rfl, rfl, hx, e⟩
    · cases h
  · cases h
theorem gh_bif {b : Bool} {α : Type} {x : Option α} {y : α} (h : (bif b then x else none) = some y) : b = true ∧ x = some y := by
  cases b
  · cases h
  · exact ⟨rfl, h⟩
theorem gh_get_inv {u v pc : Nat} {st : List Value} {W : gh_W} {pc' : Nat} {st' : List Value} {W' : gh_W} (h : gh_get u v pc st W = some (.inl (pc', st', W'))) : ∃ c r kd y, st = .ref c :: r ∧ W.1.1[c]? = some (.inr u) ∧ (gh_ft u)[v]? = some kd ∧ (∀ ad : Nat → Nat, gh_fv ad W.1 c v kd = gh_tv ad y) ∧ pc' = pc + 3 ∧ st' = y :: r ∧ W' = W := by
  unfold gh_get at h
  split at h
  · rename_i c r
    split at h
    · rename_i ci hci
      obtain ⟨hb, h⟩ := gh_bif h
      have e := Nat.eq_of_beq_eq_true hb
      subst e
      split at h
      · rename_i hk
        obtain ⟨rfl, rfl, rfl⟩ := gh_k_inv h
        exact ⟨c, r, _, _, rfl, hci, hk, fun _ => rfl, rfl, rfl, rfl⟩
      · rename_i hk
        split at h
        · rename_i q hq
          obtain ⟨rfl, rfl, rfl⟩ := gh_k_inv h
          exact ⟨c, r, _, .ref q, rfl, hci, hk, fun ad => by simp [gh_fv, hq, va_rf, gh_tv], rfl, rfl, rfl⟩
        · cases h
      · rename_i kd h1 h2 hk
        obtain ⟨rfl, rfl, rfl⟩ := gh_k_inv h
        refine ⟨c, r, kd, .int (W'.1.2.1 c v), rfl, hci, hk, fun ad => ?_, rfl, rfl, rfl⟩
        unfold gh_fv
        split
        · exact absurd rfl h1
        · exact absurd rfl h2
        · rfl
      · cases h
    · cases h
  · cases h
theorem gh_put_inv {ini : Bool} {u v : Nat} {w : Int32} {pc : Nat} {st : List Value} {W : gh_W} {pc' : Nat} {st' : List Value} {W' : gh_W} (h : gh_put ini u v w pc st W = some (.inl (pc', st', W'))) : ∃ x c r, st = x :: .ref c :: r ∧ W.1.1[c]? = some (.inr u) ∧ (w = 0 ∨ ini = true) ∧ pc' = pc + 3 ∧ st' = r ∧
    ((∃ a, (gh_ft u)[v]? = some 0 ∧ x = .int a ∧ W' = (gh_mI W.1 c (upd (W.1.2.1 c) v a), W.2)) ∨ (∃ a, (gh_ft u)[v]? = some 1 ∧ x = .long a ∧ W' = (gh_mL W.1 c (vp_updL (W.1.2.2.1 c) v a), W.2)) ∨ (∃ a, (gh_ft u)[v]? = some 2 ∧ x = .ref a ∧ a < W.1.1.length ∧ W' = (gh_mR W.1 c (gh_upR (W.1.2.2.2 c) v (some a)), W.2)) ∨ (∃ a, (gh_ft u)[v]? = some 3 ∧ x = .int a ∧ gh_isB a = true ∧ W' = (gh_mI W.1 c (upd (W.1.2.1 c) v a), W.2))) := by
  unfold gh_put at h
  split at h
  · rename_i x c r
    split at h
    · rename_i ci hci
      obtain ⟨hb, h2⟩ := gh_bif h
      clear h
      have h := h2
      clear h2
      rw [Bool.and_eq_true, Bool.or_eq_true, decide_eq_true_eq] at hb
      have e := Nat.eq_of_beq_eq_true hb.1
      subst e
      refine ⟨x, c, r, rfl, hci, hb.2, ?_⟩
      split at h
      · rename_i a hk
        obtain ⟨rfl, rfl, rfl⟩ := gh_k_inv h
        exact ⟨rfl, rfl, Or.inl ⟨a, hk, rfl, rfl⟩⟩
      · rename_i a hk
        obtain ⟨rfl, rfl, rfl⟩ := gh_k_inv h
        exact ⟨rfl, rfl, Or.inr (Or.inl ⟨a, hk, rfl, rfl⟩)⟩
      · rename_i a hk
        cases hl : Nat.blt a W.1.1.length with
        | false => rw [hl] at h; cases h
        | true =>
          rw [hl] at h
          obtain ⟨rfl, rfl, rfl⟩ := gh_k_inv h
          exact ⟨rfl, rfl, Or.inr (Or.inr (Or.inl ⟨a, hk, rfl, Nat.le_of_ble_eq_true hl, rfl⟩))⟩
      · rename_i a hk
        obtain ⟨hB, h⟩ := gh_bif h
        obtain ⟨rfl, rfl, rfl⟩ := gh_k_inv h
        exact ⟨rfl, rfl, Or.inr (Or.inr (Or.inr ⟨a, hk, rfl, hB, rfl⟩))⟩
      · cases h
    · cases h
  · cases h
theorem gh_iald_inv {sc : Option (Nat × (Nat → Int32))} {pc : Nat} {st : List Value} {W : gh_W} {pc' : Nat} {st' : List Value} {W' : gh_W} (h : gh_iald sc pc st W = some (.inl (pc', st', W'))) : ∃ i c r, st = .int i :: .ref c :: r ∧ pc' = pc + 1 ∧ W' = W ∧ ((∃ n, W.1.1[c]? = some (.inl (0, n)) ∧ vp_in i n ∧ st' = .int (W.1.2.1 c i.toNatClampNeg) :: r) ∨ (∃ L xs, sc = some (L, xs) ∧ c = gh_SC ∧ vp_in i L ∧ st' = .int (xs i.toNatClampNeg) :: r)) := by
  unfold gh_iald at h
  split at h
  · rename_i i c r
    refine ⟨i, c, r, rfl, ?_⟩
    split at h
    · rename_i n hn
      obtain ⟨hb, h⟩ := gh_bif h
      obtain ⟨rfl, rfl, rfl⟩ := gh_k_inv h
      exact ⟨rfl, rfl, Or.inl ⟨n, hn, gh_in_iff.mp hb, rfl⟩⟩
    · cases h
    · split at h
      · rename_i L xs
        obtain ⟨hb, h⟩ := gh_bif h
        rw [Bool.and_eq_true] at hb
        obtain ⟨rfl, rfl, rfl⟩ := gh_k_inv h
        exact ⟨rfl, rfl, Or.inr ⟨L, xs, rfl, Nat.eq_of_beq_eq_true hb.1, gh_in_iff.mp hb.2, rfl⟩⟩
      · cases h
  · cases h
theorem gh_lald_inv {pc : Nat} {st : List Value} {W : gh_W} {pc' : Nat} {st' : List Value} {W' : gh_W} (h : gh_lald pc st W = some (.inl (pc', st', W'))) : ∃ i c r n, st = .int i :: .ref c :: r ∧ pc' = pc + 1 ∧ W' = W ∧ W.1.1[c]? = some (.inl (1, n)) ∧ vp_in i n ∧ st' = .long (W.1.2.2.1 c i.toNatClampNeg) :: r := by
  unfold gh_lald at h
  split at h
  · rename_i i c r
    split at h
    · rename_i n hn
      obtain ⟨hb, h⟩ := gh_bif h
      obtain ⟨rfl, rfl, rfl⟩ := gh_k_inv h
      exact ⟨i, c, r, n, rfl, rfl, rfl, hn, gh_in_iff.mp hb, rfl⟩
    · cases h
  · cases h
theorem gh_bald_inv {pc : Nat} {st : List Value} {W : gh_W} {pc' : Nat} {st' : List Value} {W' : gh_W} (h : gh_bald pc st W = some (.inl (pc', st', W'))) : ∃ i c r n, st = .int i :: .ref c :: r ∧ pc' = pc + 1 ∧ W' = W ∧ (W.1.1[c]? = some (.inl (2, n)) ∨ W.1.1[c]? = some (.inl (3, n))) ∧ vp_in i n ∧ st' = .int (W.1.2.1 c i.toNatClampNeg) :: r := by
  unfold gh_bald at h
  split at h
  · rename_i i c r
    split at h
    · rename_i n hn
      obtain ⟨hb, h⟩ := gh_bif h
      obtain ⟨rfl, rfl, rfl⟩ := gh_k_inv h
      exact ⟨i, c, r, n, rfl, rfl, rfl, Or.inl hn, gh_in_iff.mp hb, rfl⟩
    · rename_i n hn
      obtain ⟨hb, h⟩ := gh_bif h
      obtain ⟨rfl, rfl, rfl⟩ := gh_k_inv h
      exact ⟨i, c, r, n, rfl, rfl, rfl, Or.inr hn, gh_in_iff.mp hb, rfl⟩
    · cases h
  · cases h
theorem gh_iast_inv {pc : Nat} {st : List Value} {W : gh_W} {pc' : Nat} {st' : List Value} {W' : gh_W} (h : gh_iast pc st W = some (.inl (pc', st', W'))) : ∃ x i c r n, st = .int x :: .int i :: .ref c :: r ∧ pc' = pc + 1 ∧ st' = r ∧ W.1.1[c]? = some (.inl (0, n)) ∧ vp_in i n ∧ W' = (gh_mI W.1 c (upd (W.1.2.1 c) i.toNatClampNeg x), W.2) := by
  unfold gh_iast at h
  split at h
  · rename_i x i c r
    split at h
    · rename_i n hn
      obtain ⟨hb, h⟩ := gh_bif h
      obtain ⟨rfl, rfl, rfl⟩ := gh_k_inv h
      exact ⟨x, i, c, _, n, rfl, rfl, rfl, hn, gh_in_iff.mp hb, rfl⟩
    · cases h
  · cases h
theorem gh_last_inv {pc : Nat} {st : List Value} {W : gh_W} {pc' : Nat} {st' : List Value} {W' : gh_W} (h : gh_last pc st W = some (.inl (pc', st', W'))) : ∃ x i c r n, st = .long x :: .int i :: .ref c :: r ∧ pc' = pc + 1 ∧ st' = r ∧ W.1.1[c]? = some (.inl (1, n)) ∧ vp_in i n ∧ W' = (gh_mL W.1 c (vp_updL (W.1.2.2.1 c) i.toNatClampNeg x), W.2) := by
  unfold gh_last at h
  split at h
  · rename_i x i c r
    split at h
    · rename_i n hn
      obtain ⟨hb, h⟩ := gh_bif h
      obtain ⟨rfl, rfl, rfl⟩ := gh_k_inv h
      exact ⟨x, i, c, _, n, rfl, rfl, rfl, hn, gh_in_iff.mp hb, rfl⟩
    · cases h
  · cases h
theorem gh_bast_inv {pc : Nat} {st : List Value} {W : gh_W} {pc' : Nat} {st' : List Value} {W' : gh_W} (h : gh_bast pc st W = some (.inl (pc', st', W'))) : ∃ x i c r n, st = .int x :: .int i :: .ref c :: r ∧ pc' = pc + 1 ∧ st' = r ∧ vp_in i n ∧ ((W.1.1[c]? = some (.inl (2, n)) ∧ W' = (gh_mI W.1 c (upd (W.1.2.1 c) i.toNatClampNeg (vp_nar .byte x)), W.2)) ∨ (W.1.1[c]? = some (.inl (3, n)) ∧ W' = (gh_mI W.1 c (upd (W.1.2.1 c) i.toNatClampNeg (vp_nar .boolean x)), W.2))) := by
  unfold gh_bast at h
  split at h
  · rename_i x i c r
    split at h
    · rename_i n hn
      obtain ⟨hb, h⟩ := gh_bif h
      obtain ⟨rfl, rfl, rfl⟩ := gh_k_inv h
      exact ⟨x, i, c, _, n, rfl, rfl, rfl, gh_in_iff.mp hb, Or.inl ⟨hn, rfl⟩⟩
    · rename_i n hn
      obtain ⟨hb, h⟩ := gh_bif h
      obtain ⟨rfl, rfl, rfl⟩ := gh_k_inv h
      exact ⟨x, i, c, _, n, rfl, rfl, rfl, gh_in_iff.mp hb, Or.inr ⟨hn, rfl⟩⟩
    · cases h
  · cases h
theorem gh_alen_inv {sc : Option (Nat × (Nat → Int32))} {pc : Nat} {st : List Value} {W : gh_W} {pc' : Nat} {st' : List Value} {W' : gh_W} (h : gh_alen sc pc st W = some (.inl (pc', st', W'))) : ∃ c r, st = .ref c :: r ∧ pc' = pc + 1 ∧ W' = W ∧ ((∃ t n, W.1.1[c]? = some (.inl (t, n)) ∧ t ≤ 3 ∧ st' = .int (Int32.ofNat n) :: r) ∨ (∃ L xs, sc = some (L, xs) ∧ c = gh_SC ∧ st' = .int (Int32.ofNat L) :: r)) := by
  unfold gh_alen at h
  split at h
  · rename_i c r
    refine ⟨c, r, rfl, ?_⟩
    split at h
    · rename_i t n hn
      obtain ⟨hb, h⟩ := gh_bif h
      obtain ⟨rfl, rfl, rfl⟩ := gh_k_inv h
      exact ⟨rfl, rfl, Or.inl ⟨t, n, hn, Nat.le_of_ble_eq_true hb, rfl⟩⟩
    · cases h
    · split at h
      · rename_i L xs
        obtain ⟨hb, h⟩ := gh_bif h
        obtain ⟨rfl, rfl, rfl⟩ := gh_k_inv h
        exact ⟨rfl, rfl, Or.inr ⟨L, xs, rfl, Nat.eq_of_beq_eq_true hb, rfl⟩⟩
      · cases h
  · cases h
theorem gh_new_inv {bc bs u pc : Nat} {st : List Value} {W : gh_W} {pc' : Nat} {st' : List Value} {W' : gh_W} (h : gh_new bc bs u pc st W = some (.inl (pc', st', W'))) : W.2.1 + 1 ≤ bc ∧ W.2.2 + (gh_ft u).length ≤ bs ∧ u < 11 ∧ pc' = pc + 3 ∧ st' = .ref W.1.1.length :: st ∧ W' = (gh_mk W.1 (.inr u), W.2.1 + 1, W.2.2 + (gh_ft u).length) := by
  unfold gh_new at h
  obtain ⟨hb, h⟩ := gh_bif h
  simp only [Bool.and_eq_true] at hb
  obtain ⟨rfl, rfl, rfl⟩ := gh_k_inv h
  exact ⟨Nat.le_of_ble_eq_true hb.1.1, Nat.le_of_ble_eq_true hb.1.2, Nat.le_of_ble_eq_true hb.2, rfl, rfl, rfl⟩
theorem gh_newa_inv {bc bs u pc : Nat} {st : List Value} {W : gh_W} {pc' : Nat} {st' : List Value} {W' : gh_W} (h : gh_newa bc bs u pc st W = some (.inl (pc', st', W'))) : ∃ n r, st = .int n :: r ∧ ¬ n < 0 ∧ n.toNatClampNeg ≤ 1000 ∧ W.2.1 + 1 ≤ bc ∧ W.2.2 + n.toNatClampNeg ≤ bs ∧ u ≤ 3 ∧ pc' = pc + 2 ∧ st' = .ref W.1.1.length :: r ∧ W' = (gh_mk W.1 (.inl (u, n.toNatClampNeg)), W.2.1 + 1, W.2.2 + n.toNatClampNeg) := by
  unfold gh_newa at h
  split at h
  · rename_i n r
    obtain ⟨hb, h⟩ := gh_bif h
    simp only [Bool.and_eq_true, Bool.not_eq_true', decide_eq_false_iff_not] at hb
    obtain ⟨rfl, rfl, rfl⟩ := gh_k_inv h
    exact ⟨n, r, rfl, hb.1.1.1.1, Nat.le_of_ble_eq_true hb.1.1.1.2, Nat.le_of_ble_eq_true hb.1.1.2, Nat.le_of_ble_eq_true hb.1.2, Nat.le_of_ble_eq_true hb.2, rfl, rfl, rfl⟩
  · cases h
theorem gh_cal_inv {O : gh_O} {bc bs u pc : Nat} {As r : List Value} {W : gh_W} {pc' : Nat} {st' : List Value} {W' : gh_W} (h : gh_cal O bc bs u pc As r W = some (.inl (pc', st', W'))) : gh_rm r = true ∧ W.2.1 + (gh_bud u).1 ≤ bc ∧ W.2.2 + (gh_bud u).2 ≤ bs ∧ pc' = pc + 3 ∧ ∃ y M', O u As W.1 = some (y, M') ∧ st' = y.toList ++ r ∧ W' = (M', W.2.1 + (gh_bud u).1, W.2.2 + (gh_bud u).2) := by
  unfold gh_cal at h
  obtain ⟨hb, h⟩ := gh_bif h
  simp only [Bool.and_eq_true] at hb
  refine ⟨hb.1.1, Nat.le_of_ble_eq_true hb.1.2, Nat.le_of_ble_eq_true hb.2, ?_⟩
  split at h
  · rename_i M' hO
    obtain ⟨rfl, rfl, rfl⟩ := gh_k_inv h
    exact ⟨rfl, none, M', hO, rfl, rfl⟩
  · rename_i x M' hO
    obtain ⟨rfl, rfl, rfl⟩ := gh_k_inv h
    exact ⟨rfl, some x, M', hO, rfl, rfl⟩
  · cases h
theorem gh_ivs_inv {O : gh_O} {bc bs u v pc : Nat} {st : List Value} {W : gh_W} {y : gh_N} (h : gh_ivs O bc bs u v pc st W = some y) : v ≤ st.length ∧ gh_cal O bc bs u pc (st.take v).reverse (st.drop v) W = some y := by
  unfold gh_ivs at h
  obtain ⟨hb, h⟩ := gh_bif h
  exact ⟨Nat.le_of_ble_eq_true hb, h⟩
theorem gh_ivv_inv {O : gh_O} {bc bs u v pc : Nat} {st : List Value} {W : gh_W} {y : gh_N} (h : gh_ivv O bc bs u v pc st W = some y) : v ≤ st.length ∧ ∃ b r, st.drop v = .ref b :: r ∧ W.1.1[b]? = some (.inr (gh_oc u)) ∧ gh_cal O bc bs u pc (.ref b :: (st.take v).reverse) r W = some y := by
  unfold gh_ivv at h
  obtain ⟨hb, h⟩ := gh_bif h
  refine ⟨Nat.le_of_ble_eq_true hb, ?_⟩
  split at h
  · rename_i b r hd
    split at h
    · rename_i ci hci
      obtain ⟨hb2, h2⟩ := gh_bif h
      have e := Nat.eq_of_beq_eq_true hb2
      rw [e] at hci
      exact ⟨b, r, hd, hci, h2⟩
    · cases h
  · cases h
theorem gh_spe_inv {O : gh_O} {bc bs u v pc : Nat} {st : List Value} {W : gh_W} {y : gh_N} (hu : u ≠ 2000) (h : gh_spe O bc bs u v pc st W = some y) : v + 1 ≤ st.length ∧ ∃ b r, st.drop v = .ref b :: r ∧ gh_cal O bc bs u pc (.ref b :: (st.take v).reverse) r W = some y := by
  unfold gh_spe at h
  split at h
  · exact absurd rfl hu
  · obtain ⟨hb, h⟩ := gh_bif h
    refine ⟨Nat.le_of_ble_eq_true hb, ?_⟩
    split at h
    · rename_i b r hd
      exact ⟨b, r, hd, h⟩
    · cases h
theorem gh_oi_inv {pc : Nat} {st : List Value} {W : gh_W} {pc' : Nat} {st' : List Value} {W' : gh_W} (h : gh_oi pc st W = some (.inl (pc', st', W'))) : ∃ c r, st = .ref c :: r ∧ gh_rm r = true ∧ pc' = pc + 3 ∧ st' = r ∧ W' = W := by
  unfold gh_oi at h
  split at h
  · rename_i c r
    obtain ⟨hb, h⟩ := gh_bif h
    obtain ⟨rfl, rfl, rfl⟩ := gh_k_inv h
    exact ⟨c, _, rfl, hb, rfl, rfl, rfl⟩
  · cases h
theorem gh_mmx_inv {pc : Nat} {st : List Value} {W : gh_W} {pc' : Nat} {st' : List Value} {W' : gh_W} (h : gh_mmx pc st W = some (.inl (pc', st', W'))) : ∃ x y r, st = .int y :: .int x :: r ∧ gh_rm r = true ∧ pc' = pc + 3 ∧ st' = .int (if x < y then y else x) :: r ∧ W' = W := by
  unfold gh_mmx at h
  split at h
  · rename_i y x r
    obtain ⟨hb, h⟩ := gh_bif h
    obtain ⟨rfl, rfl, rfl⟩ := gh_k_inv h
    exact ⟨x, y, r, rfl, hb, rfl, rfl, rfl⟩
  · cases h
theorem gh_mmn_inv {pc : Nat} {st : List Value} {W : gh_W} {pc' : Nat} {st' : List Value} {W' : gh_W} (h : gh_mmn pc st W = some (.inl (pc', st', W'))) : ∃ x y r, st = .int y :: .int x :: r ∧ gh_rm r = true ∧ pc' = pc + 3 ∧ st' = .int (if y < x then y else x) :: r ∧ W' = W := by
  unfold gh_mmn at h
  split at h
  · rename_i y x r
    obtain ⟨hb, h⟩ := gh_bif h
    obtain ⟨rfl, rfl, rfl⟩ := gh_k_inv h
    exact ⟨x, y, r, rfl, hb, rfl, rfl, rfl⟩
  · cases h
theorem gh_mml_inv {pc : Nat} {st : List Value} {W : gh_W} {pc' : Nat} {st' : List Value} {W' : gh_W} (h : gh_mml pc st W = some (.inl (pc', st', W'))) : ∃ x y r, st = .long y :: .long x :: r ∧ gh_rm r = true ∧ pc' = pc + 3 ∧ st' = .long (if y < x then x else y) :: r ∧ W' = W := by
  unfold gh_mml at h
  split at h
  · rename_i y x r
    obtain ⟨hb, h⟩ := gh_bif h
    obtain ⟨rfl, rfl, rfl⟩ := gh_k_inv h
    exact ⟨x, y, r, rfl, hb, rfl, rfl, rfl⟩
  · cases h
theorem gh_acp_inv {pc : Nat} {st : List Value} {W : gh_W} {pc' : Nat} {st' : List Value} {W' : gh_W} (h : gh_acp pc st W = some (.inl (pc', st', W'))) : ∃ n dp a sp b r n0 n1, st = .int n :: .int dp :: .ref a :: .int sp :: .ref b :: r ∧ W.1.1[a]? = some (.inl (0, n1)) ∧ W.1.1[b]? = some (.inl (0, n0)) ∧ gh_rm r = true ∧ ¬ sp < 0 ∧ ¬ dp < 0 ∧ ¬ n < 0 ∧ sp.toNatClampNeg + n.toNatClampNeg ≤ n0 ∧ dp.toNatClampNeg + n.toNatClampNeg ≤ n1 ∧ pc' = pc + 3 ∧ st' = r ∧ W' = (gh_mI W.1 a (va_cpy (W.1.2.1 b) (W.1.2.1 a) sp.toNatClampNeg dp.toNatClampNeg n.toNatClampNeg), W.2) := by
  unfold gh_acp at h
  split at h
  · rename_i n dp a sp b r
    split at h
    · rename_i n1 n0 h1 h0
      obtain ⟨hb, h⟩ := gh_bif h
      simp only [Bool.and_eq_true, Bool.not_eq_true', decide_eq_false_iff_not] at hb
      obtain ⟨rfl, rfl, rfl⟩ := gh_k_inv h
      exact ⟨n, dp, a, sp, b, _, n0, n1, rfl, h1, h0, hb.1.1.1.1.1, hb.1.1.1.1.2, hb.1.1.1.2, hb.1.1.2, Nat.le_of_ble_eq_true hb.1.2, Nat.le_of_ble_eq_true hb.2, rfl, rfl, rfl⟩
    · cases h
  · cases h
theorem gh_six_inv {c i : Nat} (h : gh_six c = some i) : (c = gh_SC + 1 ∧ i = 0) ∨ (c = gh_SC + 2 ∧ i = 1) := by
  unfold gh_six at h
  cases h1 : Nat.beq c (gh_SC + 1) with
  | true =>
    rw [h1] at h
    cases h
    exact Or.inl ⟨Nat.eq_of_beq_eq_true h1, rfl⟩
  | false =>
    rw [h1] at h
    have h := gh_bif h
    cases h.2
    exact Or.inr ⟨Nat.eq_of_beq_eq_true h.1, rfl⟩
theorem gh_sln_inv {pc : Nat} {st : List Value} {W : gh_W} {pc' : Nat} {st' : List Value} {W' : gh_W} (h : gh_sln pc st W = some (.inl (pc', st', W'))) : ∃ c i r, st = .ref c :: r ∧ gh_six c = some i ∧ gh_rm r = true ∧ pc' = pc + 3 ∧ st' = .int (nI (gh_sl.getD i 0)) :: r ∧ W' = W := by
  unfold gh_sln at h
  split at h
  · rename_i c r
    split at h
    · rename_i i hi
      obtain ⟨hb, h⟩ := gh_bif h
      obtain ⟨rfl, rfl, rfl⟩ := gh_k_inv h
      exact ⟨c, i, r, rfl, hi, hb, rfl, rfl, rfl⟩
    · cases h
  · cases h
theorem gh_sch_inv {pc : Nat} {st : List Value} {W : gh_W} {pc' : Nat} {st' : List Value} {W' : gh_W} (h : gh_sch pc st W = some (.inl (pc', st', W'))) : ∃ k c i r, st = .int k :: .ref c :: r ∧ gh_six c = some i ∧ gh_rm r = true ∧ vp_in k (gh_sl.getD i 0) ∧ pc' = pc + 3 ∧ st' = .int (gh_sc i k) :: r ∧ W' = W := by
  unfold gh_sch at h
  split at h
  · rename_i k c r
    split at h
    · rename_i i hi
      obtain ⟨hb, h⟩ := gh_bif h
      rw [Bool.and_eq_true] at hb
      obtain ⟨rfl, rfl, rfl⟩ := gh_k_inv h
      exact ⟨k, c, i, r, rfl, hi, hb.1, gh_in_iff.mp hb.2, rfl, rfl, rfl⟩
    · cases h
  · cases h
end
section
/-! ===== EACH STEP OF THE PURE MACHINE IS A STEP OF THE MACHINE ===== -/
def gh_X (D : va_G) (ca : Nat → ClassId) (U : State) : Prop := va_K D vwCl (gh_tys ca) U ∧ ∀ q ∈ gh_mnt, va_Nw (gh_mnw q) U
theorem gh_X.warm {D : va_G} {ca : Nat → ClassId} {s U : State} (hW : s.WarmedH U.vm) (h : gh_X D ca s) : gh_X D ca U := ⟨va_K.moved hW.alike h.1, fun q hq => va_Nw.warmM hW (h.2 q hq)⟩
theorem gh_X.same {D : va_G} {ca : Nat → ClassId} {s U : State} (hW : s.vm = U.vm) (h : gh_X D ca s) : gh_X D ca U := ⟨va_K.moved (by rw [hW]; exact Vm.Alike.refl U.vm) h.1, fun q hq => va_Nw.same rfl hW (h.2 q hq)⟩
/-- what stands through a body: the machine, the code, the words, the classes, what may be written -/
def gh_C (p : Program) (s : State) (m : MethodId) (args : Array Value) (c : Code) (cc : ByteArray) (nL o : Nat) (D : va_G) (ca : Nat → ClassId) (adK adV : Nat → Nat) (A : Nat → Prop) : Prop :=
  p.tables.exec = Jvm.exec ∧ c.code = cc ∧ c.maxLocals = nL ∧ s.vm.findClass (gh_Rn o) = some m.cls ∧ (∀ w ∈ gh_tbl, w.before args s = true) ∧ gh_X D ca s ∧ (∀ q, s.heap.size ≤ q → A q) ∧ gh_J adK adV A s s.heap
/-- the world now -/
def gh_Wd (D : va_G) (ca : Nat → ClassId) (A : Nat → Prop) (s : State) (ad : Nat → Nat) (M : gh_M) (H : Heap) (locs : List Loc) : Prop :=
  va_P D vwCl (gh_ws ad ca M) H ∧ va_D A (gh_ws ad ca M) ∧ va_S A s.heap H locs
/-- the script, where there is one -/
def gh_Sc (sc : Option (Nat × (Nat → Int32))) (b : Nat) (A : Nat → Prop) (s : State) : Prop := ∀ L xs, sc = some (L, xs) → va_X b L xs s s.heap ∧ b < s.heap.size ∧ ¬ A b
/-! contracts of the pure machine's methods -/
/-- where the String constants lie -/
def gh_ad (adK ad : Nat → Nat) : Prop := ad (gh_SC + 1) = adK 0 ∧ ad (gh_SC + 2) = adK 1
def gh_Pc (D : va_G) (ca : Nat → ClassId) (adK adV ad : Nat → Nat) (sz : Nat) (As : List Value) (M : gh_M) : Array Value → State → Prop :=
  va_Pc (As.map (gh_tv ad)) (fun U => U.heap.size = sz ∧ va_P D vwCl (gh_ws ad ca M) U.heap ∧ gh_X D ca U ∧ va_D (fun _ => True) (gh_ws ad ca M) ∧ gh_J adK adV (va_A (gh_ws ad ca M) sz) U U.heap ∧ gh_ad adK ad)
def gh_B (D : va_G) (ca : Nat → ClassId) (z : Nat) (ad : Nat → Nat) (sz : Nat) (M M' : gh_M) (ad' : Nat → Nat) (t : State) : Prop :=
  va_P D vwCl (gh_ws ad' ca M') t.heap ∧ va_D (va_A (gh_ws ad ca M) sz) (gh_ws ad' ca M') ∧ gh_ag M.1.length ad ad' ∧ ((gh_bud z).1 = 0 → ad' = ad)
def gh_Qc (D : va_G) (ca : Nat → ClassId) (z : Nat) (ad : Nat → Nat) (sz : Nat) (M : gh_M) (y : Option Value) (M' : gh_M) : Array Value → State → Outcome → State → Prop := match y with
  | none => va_Qv (fun _ => True) (gh_B D ca z ad sz M M') (va_A (gh_ws ad ca M) sz)
  | some (.int x) => va_Qi (fun r _ => r = x) (gh_B D ca z ad sz M M') (va_A (gh_ws ad ca M) sz)
  | some (.long x) => va_Ql (fun r _ => r = x) (gh_B D ca z ad sz M M') (va_A (gh_ws ad ca M) sz)
  | some _ => fun _ _ _ _ => False
def gh_rmz (d z : Nat) : Room := { frames := d + 6, cells := (gh_bud z).1, slots := (gh_bud z).2, locals := 60 * d + 400 }
def gh_Met (l : Launch) (D : va_G) (ca : Nat → ClassId) (adK adV : Nat → Nat) (d z : Nat) (ad : Nat → Nat) (sz : Nat) (As : List Value) (M : gh_M) (y : Option Value) (M' : gh_M) : Prop :=
  Met l (gh_yn z) (.code (gh_yn z) (gh_cn z) (gh_ln z) (gh_rn z) :: gh_tbl) (gh_rmz d z) (gh_Pc D ca adK adV ad sz As M) (gh_Qc D ca z ad sz M y M') (gh_bud z).1 (gh_bud z).2 (va_A (gh_ws ad ca M) sz)
def gh_Os (l : Launch) (D : va_G) (ca : Nat → ClassId) (adK adV : Nat → Nat) (d : Nat) (O : gh_O) : Prop := ∀ z As M y M', z < gh_NZ → O z As M = some (y, M') → gh_wf M → gh_wf M' ∧ M.1.length ≤ M'.1.length ∧ (∀ x, y = some x → (∃ i, x = .int i) ∨ ∃ i, x = .long i) ∧ ∀ ad sz, gh_Met l D ca adK adV d z ad sz As M y M'
theorem gh_Pc_blind {D : va_G} {ca : Nat → ClassId} {adK adV ad : Nat → Nat} {sz : Nat} {As : List Value} {M : gh_M} : FrameBlind (gh_Pc D ca adK adV ad sz As M) := by
  intro a U g mk q
  obtain ⟨q0, q1, qP, qX, qD, qJ, qA⟩ := q
  exact ⟨q0, q1, qP, gh_X.same (s := U) (U := U.calling g mk a) rfl qX, qD, gh_J.same (s := U) (U := U.calling g mk a) rfl qJ, qA⟩
theorem gh_get_arr {ad : Nat → Nat} {ca : Nat → ClassId} {M : gh_M} {c t n : Nat} (h : M.1[c]? = some (.inl (t, n))) : (gh_ws ad ca M)[c]? = some (ad c, .inl (ca t, gh_ae M c t n)) := by
  rw [gh_ws_get, h]
  rfl
theorem gh_get_obj {ad : Nat → Nat} {ca : Nat → ClassId} {M : gh_M} {c ci : Nat} (h : M.1[c]? = some (.inr ci)) : (gh_ws ad ca M)[c]? = some (ad c, .inr (ci, gh_fs ad M c ci)) := by
  rw [gh_ws_get, h]
  rfl
theorem gh_ent_mI {ad : Nat → Nat} {ca : Nat → ClassId} {M : gh_M} {c t n : Nat} {f : Nat → Int32} (ht : t ≠ 1) : gh_ent ad ca (gh_mI M c f) c (.inl (t, n)) = (ad c, .inl (ca t, n, .inl f)) := by
  have e : (gh_mI M c f).2.1 c = f := gh_up_eq _ _ _
  simp only [gh_ent, gh_ae]
  rw [e]
theorem gh_ent_mL {ad : Nat → Nat} {ca : Nat → ClassId} {M : gh_M} {c n : Nat} {f : Nat → Int64} : gh_ent ad ca (gh_mL M c f) c (.inl (1, n)) = (ad c, .inl (ca 1, n, .inr (.inl f))) := by
  have e : (gh_mL M c f).2.2.1 c = f := gh_up_eq _ _ _
  simp only [gh_ent, gh_ae, e]
theorem gh_ae_i {M : gh_M} {c t n : Nat} (ht : t ≠ 1) : gh_ae M c t n = (n, .inl (M.2.1 c)) := by
  unfold gh_ae
  split
  · exact absurd rfl ht
  · rfl
section GhSound
variable {p : Program} {l : Launch} {e : Env} {R : Room} {s : State} {m : MethodId} {args : Array Value} {below : List Frame} {meth : Method} {c : Code} {Q : State → Prop} {cc : ByteArray} {nL o : Nat} {D : va_G} {ca : Nat → ClassId} {A : Nat → Prop} {rt : Option FieldType} {ls : Array Slot} {H : Heap} {locs : List Loc} {adK adV ad : Nat → Nat}
theorem gh_sub {M : gh_M} (C : gh_C p s m args c cc nL o D ca adK adV A) (hW : gh_Wd D ca A s ad M H locs) : ∀ q, va_A (gh_ws ad ca M) H.size q → A q := by
  intro q h
  rcases h with ⟨k, x, hk⟩ | h
  · exact hW.2.1.2 k _ hk
  · exact C.2.2.2.2.2.2.1 q (Nat.le_trans hW.2.2.1 h)

theorem gh_snd_get {u v k pc : Nat} {r : List Value} {M : gh_M} {cells slots q kd : Nat} {y : Value} (C : gh_C p s m args c cc nL o D ca adK adV A) (hW : gh_Wd D ca A s ad M H locs) (hd : decode cc pc = .ok (.getfield k, 3)) (hk : (o, k, u, v) ∈ gh_flt) (hu : u < 11) (hv : v < (gh_ft u).length) (hs : M.1[q]? = some (.inr u)) (hkd : (gh_ft u)[v]? = some kd) (hy : gh_fv ad M q v kd = gh_tv ad y)
    (kk : W p l e R s m args below meth c H locs cells slots Q (F0 m (pc + 3) ls ((y :: r).map (gh_tv ad)))) : W p l e R s m args below meth c H locs cells slots Q (F0 m pc ls ((.ref q :: r).map (gh_tv ad))) := by
  obtain ⟨hx, hb, hml, hown, hts, hX, hA, hJ⟩ := C
  obtain ⟨hcl, hin, hty, hnm⟩ := gh_cl u hu
  refine va_get (D := D) (cl := vwCl) (ws := gh_ws ad ca M) (ci := u) (C := gh_Rn u) (T := gh_Tn u) (N := (gh_ft u).length) (ref := (gh_Tn u v).1) hx hb hts hin hown hX.1 hW.1 q (gh_get_obj hs) hcl v hv (hts _ (gh_flt_ok _ hk)) (fun _ h => h) (gh_fs_get hkd) hd ?_
  rw [hy]
  exact kk
theorem gh_snd_put {u v k pc : Nat} {w : Int32} {ini : Bool} {r : List Value} {M M' : gh_M} {cells slots q : Nat} {y : Value} (C : gh_C p s m args c cc nL o D ca adK adV A) (hW : gh_Wd D ca A s ad M H locs) (hd : decode cc pc = .ok (.putfield k, 3)) (hk : (o, k, u, v) ∈ gh_flt) (hu : u < 11) (hv : v < (gh_ft u).length) (hs : M.1[q]? = some (.inr u))
    (hw : w = 0 ∨ ini = true) (hfw : (gh_Tn u v).2.2.2 = true → w = 1 ∧ (gh_Tn u v).1 = gh_Rn o) (hini : ini = true → meth.name = "<init>")
    (hn : narrow (gh_tn u v) (gh_tv ad y) = gh_tv ad y) (hf : fits (gh_tn u v) (gh_tv ad y) = true) (he : gh_ws ad ca M' = (gh_ws ad ca M).set q (ad q, .inr (u, (gh_fs ad M q u).set v (gh_tv ad y))))
    (kk : ∀ H' locs', gh_Wd D ca A s ad M' H' locs' → W p l e R s m args below meth c H' locs' cells slots Q (F0 m (pc + 3) ls (r.map (gh_tv ad)))) : W p l e R s m args below meth c H locs cells slots Q (F0 m pc ls ((y :: .ref q :: r).map (gh_tv ad))) := by
  obtain ⟨hx, hb, hml, hown, hts, hX, hA, hJ⟩ := C
  obtain ⟨hcl, hin, hty, hnm⟩ := gh_cl u hu
  cases hfin : (gh_Tn u v).2.2.2 with
  | false =>
    refine va_put (D := D) (cl := vwCl) (ws := gh_ws ad ca M) (ci := u) (C := gh_Rn u) (T := gh_Tn u) (N := (gh_ft u).length) (ref := (gh_Tn u v).1) (v := gh_tv ad y) (ty := gh_tn u v) hx hb hts hin (gh_tn u) hty hnm hown hX.1 hW.1 hW.2.1 hW.2.2 q (gh_get_obj hs) hcl v hv (hts _ (gh_flt_ok _ hk)) (fun _ h => h) hfin (hty v hv) hn hf (by rw [gh_fs_len]; exact hv) hd (fun H1 locs1 h1 h2 h3 => ?_)
    rw [← he] at h1 h2
    exact kk H1 locs1 ⟨h1, h2, h3⟩
  | true =>
    have hw1 := hfw hfin
    have hi : ini = true := hw.resolve_left (fun z => by rw [hw1.1] at z; exact absurd z (by decide))
    refine va_putF (D := D) (cl := vwCl) (ws := gh_ws ad ca M) (ci := u) (C := gh_Rn u) (T := gh_Tn u) (N := (gh_ft u).length) (ref := (gh_Tn u v).1) (v := gh_tv ad y) (ty := gh_tn u v) hx hb hts hin (gh_tn u) hty hnm hown hX.1 hW.1 hW.2.1 hW.2.2 q (gh_get_obj hs) hcl v hv (hts _ (gh_flt_ok _ hk)) (fun _ h => h) hfin (hini hi) hw1.2 (hty v hv) hn hf (by rw [gh_fs_len]; exact hv) hd (fun H1 locs1 h1 h2 h3 => ?_)
    rw [← he] at h1 h2
    exact kk H1 locs1 ⟨h1, h2, h3⟩
theorem gh_kind0 {t : FieldType} (h : gh_kd t = 0) : t = .int := by cases t <;> first | rfl | (exact absurd h (by decide)) | (simp [gh_kd] at h)
theorem gh_kind1 {t : FieldType} (h : gh_kd t = 1) : t = .long := by cases t <;> first | rfl | (exact absurd h (by decide)) | (simp [gh_kd] at h)
theorem gh_kind3 {t : FieldType} (h : gh_kd t = 3) : t = .boolean := by cases t <;> first | rfl | (exact absurd h (by decide)) | (simp [gh_kd] at h)
theorem gh_kind2 {t : FieldType} (h : gh_kd t = 2) (a : Nat) : narrow t (.ref a) = .ref a ∧ fits t (.ref a) = true := by cases t <;> first | exact ⟨rfl, rfl⟩ | (exact absurd h (by decide)) | (simp [gh_kd] at h)
theorem gh_fs_putI {M : gh_M} {q u v : Nat} {kd : Nat} {a : Int32} (hs : M.1[q]? = some (.inr u)) (hkd : (gh_ft u)[v]? = some kd) (h1 : kd ≠ 1) (h2 : kd ≠ 2) : gh_ws ad ca (gh_mI M q (upd (M.2.1 q) v a)) = (gh_ws ad ca M).set q (ad q, .inr (u, (gh_fs ad M q u).set v (.int a))) := by
  rw [gh_ws_mI _ hs]
  congr 1
  have er : (gh_mI M q (upd (M.2.1 q) v a)).2.1 q = upd (M.2.1 q) v a := gh_up_eq _ _ _
  rw [gh_fs_set (M' := gh_mI M q (upd (M.2.1 q) v a)) hkd]
  · rfl
  · unfold gh_fv
    split
    · exact absurd rfl h1
    · exact absurd rfl h2
    · rw [er]; simp [upd]
  · intro j k hk hj
    unfold gh_fv
    rw [er]
    simp [upd, hj, gh_mI]
theorem gh_fs_putL {M : gh_M} {q u v : Nat} {a : Int64} (hs : M.1[q]? = some (.inr u)) (hkd : (gh_ft u)[v]? = some 1) : gh_ws ad ca (gh_mL M q (vp_updL (M.2.2.1 q) v a)) = (gh_ws ad ca M).set q (ad q, .inr (u, (gh_fs ad M q u).set v (.long a))) := by
  rw [gh_ws_mL _ hs]
  congr 1
  have er : (gh_mL M q (vp_updL (M.2.2.1 q) v a)).2.2.1 q = vp_updL (M.2.2.1 q) v a := gh_up_eq _ _ _
  rw [gh_fs_set (M' := gh_mL M q (vp_updL (M.2.2.1 q) v a)) hkd]
  · rfl
  · simp [gh_fv, er, vp_updL]
  · intro j k hk hj
    unfold gh_fv
    rw [er]
    simp [vp_updL, hj, gh_mL]
theorem gh_fs_putR {M : gh_M} {q u v a : Nat} (hs : M.1[q]? = some (.inr u)) (hkd : (gh_ft u)[v]? = some 2) : gh_ws ad ca (gh_mR M q (gh_upR (M.2.2.2 q) v (some a))) = (gh_ws ad ca M).set q (ad q, .inr (u, (gh_fs ad M q u).set v (.ref (ad a)))) := by
  rw [gh_ws_mR _ hs]
  congr 1
  have er : (gh_mR M q (gh_upR (M.2.2.2 q) v (some a))).2.2.2 q = gh_upR (M.2.2.2 q) v (some a) := gh_up_eq _ _ _
  rw [gh_fs_set (M' := gh_mR M q (gh_upR (M.2.2.2 q) v (some a))) hkd]
  · rfl
  · simp [gh_fv, er, gh_upR, va_rf]
  · intro j k hk hj
    unfold gh_fv
    rw [er]
    simp [gh_upR, hj, gh_mR]
end GhSound
end
section
/-! ===== the instructions that touch no local ===== -/
section GhRest
variable {p : Program} {l : Launch} {e : Env} {R : Room} {s : State} {m : MethodId} {args : Array Value} {below : List Frame} {meth : Method} {c : Code} {Q : State → Prop} {cc : ByteArray} {nL o : Nat} {D : va_G} {ca : Nat → ClassId} {A : Nat → Prop} {rt : Option FieldType} {ls : Array Slot} {H : Heap} {locs : List Loc} {adK adV ad : Nat → Nat}
theorem gh_cat (ad : Nat → Nat) (r : List Value) : ((r.map (gh_tv ad)).map fun v => v.category).sum = (r.map fun v => v.category).sum := by
  rw [List.map_map]
  congr 1
  apply List.map_congr_left
  intro v _
  exact gh_tv_cat ad v
theorem gh_rm_le {r : List Value} (h : gh_rm r = true) : (r.map fun v => v.category).sum ≤ 8 := Nat.le_of_ble_eq_true h
theorem gh_b1 {a b : Bool} (h : (a && b) = true) : a = true := (Bool.and_eq_true _ _ ▸ h).1
theorem gh_b2 {a b : Bool} (h : (a && b) = true) : b = true := (Bool.and_eq_true _ _ ▸ h).2
theorem gh_be {a b : Nat} (h : Nat.beq a b = true) : a = b := Nat.eq_of_beq_eq_true h
theorem gh_bl {a b : Nat} (h : Nat.blt a b = true) : a < b := Nat.le_of_ble_eq_true h
theorem gh_bc {α : Type} {_i : DecidableEq α} {l : List α} {a : α} (h : l.contains a = true) : a ∈ l := List.contains_iff_mem.mp h
/-- a call: the callee's contract, from any kind of run -/
theorem gh_snd_call {z pc : Nat} {a : Array Value} {r st0 : List Value} {M M' : gh_M} {cells slots : Nat} {y : Option Value} (C : gh_C p s m args c cc nL o D ca adK adV A) (hW : gh_Wd D ca A s ad M H locs)
    (hy : ∀ x, y = some x → (∃ i, x = .int i) ∨ ∃ i, x = .long i)
    (hr : va_Run p l e R s m args below meth c H locs cells slots (gh_bud z).1 (gh_bud z).2 (F0 m pc ls st0) (r.map (gh_tv ad)) (gh_Qc D ca z ad H.size M y M' a) (va_A (gh_ws ad ca M) H.size))
    (kk : ∀ ad' H' locs', gh_Wd D ca A s ad' M' H' locs' → gh_ag M.1.length ad ad' → ((gh_bud z).1 = 0 → ad' = ad) → W p l e R s m args below meth c H' locs' (cells + (gh_bud z).1) (slots + (gh_bud z).2) Q (F0 m (pc + 3) ls (y.toList ++ r.map (gh_tv ad)))) : W p l e R s m args below meth c H locs cells slots Q (F0 m pc ls st0) := by
  have hs := gh_sub C hW
  have fin : ∀ (u : Nat → Nat) (t : State) (H1 : Heap) (locs1 : List Loc), t.heap = H1 → gh_B D ca z ad H.size M M' u t → va_S A s.heap H1 locs1 → gh_Wd D ca A s u M' H1 locs1 ∧ gh_ag M.1.length ad u ∧ ((gh_bud z).1 = 0 → u = ad) := by
    intro u t H1 locs1 ht hB hS
    obtain ⟨b1, b2, b3, b4⟩ := hB
    rw [ht] at b1
    exact ⟨⟨b1, b2.weaken (fun k q _ h => hs _ h), hS⟩, b3, b4⟩
  cases y with
  | none =>
    refine va_callv (a := a) (post := fun _ => True) (B := gh_B D ca z ad H.size M M') hr hW.2.2 (fun q _ h => hs q h) hs (fun u t H1 locs1 ht hvm hw hB hz1 hk1 hS => ?_)
    obtain ⟨f1, f2, f3⟩ := fin u t H1 locs1 ht hB hS
    exact kk u H1 locs1 f1 f2 f3
  | some x =>
    rcases hy x rfl with ⟨i, rfl⟩ | ⟨i, rfl⟩
    · refine va_calli (a := a) (post := fun r _ => r = i) (B := gh_B D ca z ad H.size M M') hr hW.2.2 (fun q _ h => hs q h) hs (fun r1 u t H1 locs1 ht hvm hw hB hz1 hk1 hS => ?_)
      obtain ⟨f1, f2, f3⟩ := fin u t H1 locs1 ht hB hS
      subst hw
      exact kk u H1 locs1 f1 f2 f3
    · refine va_calll (a := a) (post := fun r _ => r = i) (B := gh_B D ca z ad H.size M M') hr hW.2.2 (fun q _ h => hs q h) hs (fun r1 u t H1 locs1 ht hvm hw hB hz1 hk1 hS => ?_)
      obtain ⟨f1, f2, f3⟩ := fin u t H1 locs1 ht hB hS
      subst hw
      exact kk u H1 locs1 f1 f2 f3
theorem gh_pre {z : Nat} {As : List Value} {M : gh_M} (C : gh_C p s m args c cc nL o D ca adK adV A) (hW : gh_Wd D ca A s ad M H locs) (had : gh_ad adK ad) : PreS s H (gh_Pc D ca adK adV ad H.size As M) (As.map (gh_tv ad)) :=
  ⟨gh_Pc_blind, fun U hU hWm => ⟨rfl, by rw [hU], by rw [hU]; exact hW.1, gh_X.warm hWm C.2.2.2.2.2.1, hW.2.1.weaken (fun _ _ _ _ => trivial), by rw [hU]; exact gh_J.warm hWm ((C.2.2.2.2.2.2.2.kept hW.2.2.2.1).narrow (gh_sub C hW)), had⟩⟩
theorem gh_stk {st : List Value} {v : Nat} (ad : Nat → Nat) : st.map (gh_tv ad) = (((st.take v).reverse).map (gh_tv ad)).reverse ++ (st.drop v).map (gh_tv ad) := by
  rw [← List.map_reverse, List.reverse_reverse, ← List.map_append, List.take_append_drop]
theorem gh_good : ∀ w ∈ gh_tbl, w ∈ gh_tbl ∧ ((w.onTables && w.keeps) = true ∨ ∃ ty, w = .arrayClass ty) := fun w h => ⟨h, good_of_word (List.mem_filter.mp h).2⟩
theorem gh_goodc {z : Nat} (hz : z < gh_NZ) : GoodIn gh_tbl (.code (gh_yn z) (gh_cn z) (gh_ln z) (gh_rn z) :: gh_tbl) := by
  intro w hw
  rcases List.mem_cons.mp hw with rfl | hw
  · exact gh_good _ (gh_code_in hz)
  · exact gh_good w hw
/-- what a method's row in the tables gives -/
theorem gh_mfacts {z : Nat} (hz : z < gh_NZ) : Jvm.Cond.initialized (gh_yn z).cls ∈ gh_tbl ∧ (gh_yn z).cls = gh_Rn (gh_oc z) ∧ ((gh_yn z).cls ≠ "java/lang/invoke/MethodHandle" ∧ (gh_yn z).cls ≠ "java/lang/invoke/VarHandle" ∧ (parseMethodDescriptor (gh_yn z).desc).map (fun d => d.parameters.length) = some (gh_pn z)) ∧ plainName (gh_yn z).cls = true ∧ gh_ln z ≤ 40 ∧
    (gh_kn z = 0 → Jvm.Cond.static (gh_yn z) ∈ gh_tbl) ∧ (gh_kn z = 1 → Jvm.Cond.instanceMethod (gh_yn z) ∈ gh_tbl ∧ Jvm.Cond.selects (gh_yn z).cls (gh_yn z) (gh_yn z) ∈ gh_tbl) ∧ (gh_kn z = 2 → Jvm.Cond.instanceMethod (gh_yn z) ∈ gh_tbl ∧ (gh_yn z).name = "<init>" ∧ gh_rn z = none) := by
  have h := gh_okm_of hz
  unfold gh_okm at h
  have h8 := gh_b2 h
  have h7 := gh_b2 (gh_b1 h)
  have h6 := gh_b2 (gh_b1 (gh_b1 h))
  have h5 := gh_b2 (gh_b1 (gh_b1 (gh_b1 h)))
  have h4 := gh_b2 (gh_b1 (gh_b1 (gh_b1 (gh_b1 h))))
  have h3 := gh_b2 (gh_b1 (gh_b1 (gh_b1 (gh_b1 (gh_b1 h)))))
  have h2 := gh_b2 (gh_b1 (gh_b1 (gh_b1 (gh_b1 (gh_b1 (gh_b1 h))))))
  have h1 := gh_b1 (gh_b1 (gh_b1 (gh_b1 (gh_b1 (gh_b1 (gh_b1 h))))))
  refine ⟨gh_mem2 h1, of_decide_eq_true h2, ⟨of_decide_eq_true h3, of_decide_eq_true h4, of_decide_eq_true h5⟩, h6, Nat.le_of_ble_eq_true h7, fun k => ?_, fun k => ?_, fun k => ?_⟩
  · rw [k] at h8
    exact gh_mem2 h8
  · rw [k] at h8
    exact ⟨gh_mem2 (gh_b1 h8), gh_mem2 (gh_b2 h8)⟩
  · rw [k] at h8
    exact ⟨gh_mem2 (gh_b1 (gh_b1 h8)), of_decide_eq_true (gh_b2 (gh_b1 h8)), of_decide_eq_true (gh_b2 h8)⟩
end GhRest
end
section
section GhRest2
variable {p : Program} {l : Launch} {e : Env} {R : Room} {s : State} {m : MethodId} {args : Array Value} {below : List Frame} {meth : Method} {c : Code} {Q : State → Prop} {cc : ByteArray} {nL o : Nat} {D : va_G} {ca : Nat → ClassId} {A : Nat → Prop} {rt : Option FieldType} {ls : Array Slot} {H : Heap} {locs : List Loc} {adK adV ad : Nat → Nat}
theorem gh_snd_sta {d z k v pc : Nat} {O : gh_O} {bc bs : Nat} {st : List Value} {Wm W' : gh_W} {pc' : Nat} {st' : List Value} (C : gh_C p s m args c cc nL o D ca adK adV A) (hd : decode cc pc = .ok (.invokestatic k, 3)) (hz : z < gh_NZ) (hkn : gh_kn z = 0) (hv : v = gh_pn z) (hb0 : (gh_bud z).1 = 0) (hlk : (o, k, z) ∈ gh_mlt ∨ (o, k, z, 9) ∈ gh_mnt)
    (h : gh_ivs O bc bs z v pc st Wm = some (.inl (pc', st', W'))) (hls : ls.size = nL) (hW : gh_Wd D ca A s ad Wm.1 H locs) (hwf : gh_wf Wm.1) (had : gh_ad adK ad) (hR : d + 7 ≤ R.frames ∧ 60 * d + 460 ≤ R.locals ∧ R.cells = bc ∧ R.slots = bs) (hO : gh_Os l D ca adK adV d O)
    (kk : ∀ H' locs', gh_Wd D ca A s ad W'.1 H' locs' → gh_wf W'.1 → Wm.1.1.length ≤ W'.1.1.length → W p l e R s m args below meth c H' locs' W'.2.1 W'.2.2 Q (F0 m pc' ls (st'.map (gh_tv ad)))) : W p l e R s m args below meth c H locs Wm.2.1 Wm.2.2 Q (F0 m pc ls (st.map (gh_tv ad))) := by
  obtain ⟨hlen, h⟩ := gh_ivs_inv h
  obtain ⟨hrm, hc1, hc2, rfl, y, M', hOz, rfl, rfl⟩ := gh_cal_inv h
  obtain ⟨hwf', hle, hy, hM⟩ := hO z _ _ _ _ hz hOz hwf
  obtain ⟨f1, f2, f3, f4, f5, f6, f7, f8⟩ := gh_mfacts hz
  have hC := C
  obtain ⟨hx, hb, hml, hown, hts, hX, hA, hJ⟩ := C
  have hroom : (gh_rmz d z).frames + 1 ≤ R.frames ∧ 8 + (gh_ln z + 11) + (gh_rmz d z).locals ≤ R.locals := ⟨hR.1, by show 8 + (gh_ln z + 11) + (60 * d + 400) ≤ R.locals; omega⟩
  have hrs : (((st.drop v).map (gh_tv ad)).map fun v => v.category).sum ≤ 8 := by rw [gh_cat]; exact gh_rm_le hrm
  have hnA : (((st.take v).reverse).map (gh_tv ad)).length = gh_pn z := by simp [hlen, ← hv]
  have run : va_Run p l e R s m args below meth c H locs Wm.2.1 Wm.2.2 (gh_bud z).1 (gh_bud z).2 (F0 m pc ls (st.map (gh_tv ad))) ((st.drop v).map (gh_tv ad)) (gh_Qc D ca z ad H.size Wm.1 y M' (((st.take v).reverse).map (gh_tv ad)).toArray) (va_A (gh_ws ad ca Wm.1) H.size) := by
    rcases hlk with hlk | hlk
    · exact va_runS ⟨hx, hb, hml, hown, hts⟩ (hM ad H.size) ⟨callB_of (gh_pn z) hts (gh_goodc hz) rfl rfl rfl (hts _ f1) (hts _ (gh_mlt_ok _ hlk)) f3 hroom, hts _ (f6 hkn)⟩ (gh_pre (z := z) hC hW had) rfl hnA hls (gh_stk ad) (lv_room hrs) hd ⟨by rw [hR.2.2.1]; exact hc1, by rw [hR.2.2.2]; exact hc2⟩
    · exact va_runSN ⟨hx, hb, hml, hown, hts⟩ (hM ad H.size) ⟨va_cnB (gh_pn z) hts (gh_goodc hz) rfl rfl rfl (hX.2 _ hlk) (hts _ f1) f3 hroom, hts _ (f6 hkn), trivial⟩ (gh_pre (z := z) hC hW had) rfl hnA hls (gh_stk ad) (lv_room hrs) hd ⟨by rw [hR.2.2.1]; exact hc1, by rw [hR.2.2.2]; exact hc2⟩
  refine gh_snd_call (z := z) hC hW hy run (fun ad' H' locs' hW' hag h0 => ?_)
  have ea := h0 hb0
  subst ea
  have k2 := kk H' locs' hW' hwf' hle
  have e1 : (y.toList ++ st.drop v).map (gh_tv ad') = y.toList ++ (st.drop v).map (gh_tv ad') := by
    rw [List.map_append]
    congr 1
    cases y with
    | none => rfl
    | some x => rcases hy x rfl with ⟨i, rfl⟩ | ⟨i, rfl⟩ <;> rfl
  rw [e1] at k2
  exact k2
theorem gh_snd_vir {d z k v pc : Nat} {O : gh_O} {bc bs : Nat} {st : List Value} {Wm W' : gh_W} {pc' : Nat} {st' : List Value} (C : gh_C p s m args c cc nL o D ca adK adV A) (hd : decode cc pc = .ok (.invokevirtual k, 3)) (hz : z < gh_NZ) (hkn : gh_kn z = 1) (hv : v = gh_pn z) (hb0 : (gh_bud z).1 = 0) (hlk : (o, k, z) ∈ gh_mlt)
    (h : gh_ivv O bc bs z v pc st Wm = some (.inl (pc', st', W'))) (hls : ls.size = nL) (hW : gh_Wd D ca A s ad Wm.1 H locs) (hwf : gh_wf Wm.1) (had : gh_ad adK ad) (hR : d + 7 ≤ R.frames ∧ 60 * d + 460 ≤ R.locals ∧ R.cells = bc ∧ R.slots = bs) (hO : gh_Os l D ca adK adV d O)
    (kk : ∀ H' locs', gh_Wd D ca A s ad W'.1 H' locs' → gh_wf W'.1 → Wm.1.1.length ≤ W'.1.1.length → W p l e R s m args below meth c H' locs' W'.2.1 W'.2.2 Q (F0 m pc' ls (st'.map (gh_tv ad)))) : W p l e R s m args below meth c H locs Wm.2.1 Wm.2.2 Q (F0 m pc ls (st.map (gh_tv ad))) := by
  obtain ⟨hlen, b, r, hdr, hsh, h⟩ := gh_ivv_inv h
  obtain ⟨hrm, hc1, hc2, rfl, y, M', hOz, rfl, rfl⟩ := gh_cal_inv h
  obtain ⟨hwf', hle, hy, hM⟩ := hO z _ _ _ _ hz hOz hwf
  obtain ⟨f1, f2, f3, f4, f5, f6, f7, f8⟩ := gh_mfacts hz
  have hC := C
  obtain ⟨hx, hb, hml, hown, hts, hX, hA, hJ⟩ := C
  have hroom : (gh_rmz d z).frames + 1 ≤ R.frames ∧ 8 + (gh_ln z + 11) + (gh_rmz d z).locals ≤ R.locals := ⟨hR.1, by show 8 + (gh_ln z + 11) + (60 * d + 400) ≤ R.locals; omega⟩
  have hrs : ((r.map (gh_tv ad)).map fun v => v.category).sum ≤ 8 := by rw [gh_cat]; exact gh_rm_le hrm
  have hnA : (((st.take v).reverse).map (gh_tv ad)).length = gh_pn z := by simp [hlen, ← hv]
  have hu : gh_oc z < 11 := by
    have hq := hW.1 b _ (gh_get_obj hsh)
    obtain ⟨q, hq1, -⟩ := hq
    have := (List.getElem?_eq_some_iff.mp hq1).1
    exact this
  have hpre := gh_pre (z := z) (As := .ref b :: (st.take v).reverse) hC hW had
  have hst : st.map (gh_tv ad) = (((st.take v).reverse).map (gh_tv ad)).reverse ++ Value.ref (ad b) :: r.map (gh_tv ad) := by
    rw [gh_stk (v := v) ad, hdr]
    rfl
  have run : va_Run p l e R s m args below meth c H locs Wm.2.1 Wm.2.2 (gh_bud z).1 (gh_bud z).2 (F0 m pc ls (st.map (gh_tv ad))) (r.map (gh_tv ad)) (gh_Qc D ca z ad H.size Wm.1 y M' (Value.ref (ad b) :: ((st.take v).reverse).map (gh_tv ad)).toArray) (va_A (gh_ws ad ca Wm.1) H.size) :=
    va_runV (C := (gh_yn z).cls) ⟨hx, hb, hml, hown, hts⟩ (hM ad H.size) ⟨callB_of (gh_pn z) hts (gh_goodc hz) rfl rfl rfl (hts _ f1) (hts _ (gh_mlt_ok _ hlk)) f3 hroom, hts _ (f7 hkn).1, hts _ (f7 hkn).2⟩ ⟨hpre.1, by
      have := va_recv (q0 := b) hX.1 hW.1 (gh_cl (gh_oc z) hu).1 (gh_get_obj hsh)
      rw [f2]
      exact this, hpre.2⟩ rfl hnA hls hst (lv_room hrs) hd ⟨by rw [hR.2.2.1]; exact hc1, by rw [hR.2.2.2]; exact hc2⟩
  refine gh_snd_call (z := z) hC hW hy run (fun ad' H' locs' hW' hag h0 => ?_)
  have ea := h0 hb0
  subst ea
  have k2 := kk H' locs' hW' hwf' hle
  have e1 : (y.toList ++ r).map (gh_tv ad') = y.toList ++ r.map (gh_tv ad') := by
    rw [List.map_append]
    congr 1
    cases y with
    | none => rfl
    | some x => rcases hy x rfl with ⟨i, rfl⟩ | ⟨i, rfl⟩ <;> rfl
  rw [e1] at k2
  exact k2
/-- a constructor's call -/
theorem gh_snd_spe {d z k v pc : Nat} {O : gh_O} {bc bs : Nat} {st : List Value} {Wm W' : gh_W} {pc' : Nat} {st' : List Value} (C : gh_C p s m args c cc nL o D ca adK adV A) (hd : decode cc pc = .ok (.invokespecial k, 3)) (hz : z < gh_NZ) (hkn : gh_kn z = 2) (hv : v = gh_pn z) (hlk : (o, k, z) ∈ gh_mlt ∨ (o, k, z, 9) ∈ gh_mnt)
    (h : gh_spe O bc bs z v pc st Wm = some (.inl (pc', st', W'))) (hval : st.all (gh_vv Wm.1.1.length) = true) (hls : ls.size = nL) (hW : gh_Wd D ca A s ad Wm.1 H locs) (hwf : gh_wf Wm.1) (had : gh_ad adK ad) (hR : d + 7 ≤ R.frames ∧ 60 * d + 460 ≤ R.locals ∧ R.cells = bc ∧ R.slots = bs) (hO : gh_Os l D ca adK adV d O)
    (kk : ∀ ad' H' locs', gh_ag Wm.1.1.length ad ad' → (bc = 0 → ad' = ad) → gh_Wd D ca A s ad' W'.1 H' locs' → gh_wf W'.1 → Wm.1.1.length ≤ W'.1.1.length → W'.2.1 ≤ bc → W'.2.2 ≤ bs → W p l e R s m args below meth c H' locs' W'.2.1 W'.2.2 Q (F0 m pc' ls (st'.map (gh_tv ad')))) : W p l e R s m args below meth c H locs Wm.2.1 Wm.2.2 Q (F0 m pc ls (st.map (gh_tv ad))) := by
  have hne : z ≠ 2000 := by
    intro q
    subst q
    exact absurd hz (by decide)
  obtain ⟨hlen, b, r, hdr, h⟩ := gh_spe_inv hne h
  obtain ⟨hrm, hc1, hc2, rfl, y, M', hOz, rfl, rfl⟩ := gh_cal_inv h
  obtain ⟨hwf', hle, hy, hM⟩ := hO z _ _ _ _ hz hOz hwf
  obtain ⟨f1, f2, f3, f4, f5, f6, f7, f8⟩ := gh_mfacts hz
  have hC := C
  obtain ⟨hx, hb, hml, hown, hts, hX, hA, hJ⟩ := C
  obtain ⟨g1, g2, g3⟩ := f8 hkn
  have hroom : (gh_rmz d z).frames + 1 ≤ R.frames ∧ 8 + (gh_ln z + 11) + (gh_rmz d z).locals ≤ R.locals := ⟨hR.1, by show 8 + (gh_ln z + 11) + (60 * d + 400) ≤ R.locals; omega⟩
  have hrs : ((r.map (gh_tv ad)).map fun v => v.category).sum ≤ 8 := by rw [gh_cat]; exact gh_rm_le hrm
  have hnA : (((st.take v).reverse).map (gh_tv ad)).length = gh_pn z := by simp [show v ≤ st.length by omega, ← hv]
  have hpre := gh_pre (z := z) (As := .ref b :: (st.take v).reverse) hC hW had
  have hst : st.map (gh_tv ad) = (((st.take v).reverse).map (gh_tv ad)).reverse ++ Value.ref (ad b) :: r.map (gh_tv ad) := by
    rw [gh_stk (v := v) ad, hdr]
    rfl
  have hM2 := hM ad H.size
  unfold gh_Met at hM2
  have run : va_Run p l e R s m args below meth c H locs Wm.2.1 Wm.2.2 (gh_bud z).1 (gh_bud z).2 (F0 m pc ls (st.map (gh_tv ad))) (r.map (gh_tv ad)) (gh_Qc D ca z ad H.size Wm.1 y M' (Value.ref (ad b) :: ((st.take v).reverse).map (gh_tv ad)).toArray) (va_A (gh_ws ad ca Wm.1) H.size) := by
    have hg := gh_goodc hz
    rw [g3] at hM2 hg
    rcases hlk with hlk | hlk
    · exact va_runI ⟨hx, hb, hml, hown, hts⟩ hM2 ⟨callB_of (gh_pn z) hts hg rfl rfl rfl (hts _ f1) (hts _ (gh_mlt_ok _ hlk)) f3 hroom, g2, hts _ g1⟩ hpre rfl hnA hls hst (lv_room hrs) hd ⟨by rw [hR.2.2.1]; exact hc1, by rw [hR.2.2.2]; exact hc2⟩
    · exact va_runIN ⟨hx, hb, hml, hown, hts⟩ hM2 ⟨va_cnB (gh_pn z) hts hg rfl rfl rfl (hX.2 _ hlk) (hts _ f1) f3 hroom, g2, hts _ g1⟩ hpre rfl hnA hls hst (lv_room hrs) hd ⟨by rw [hR.2.2.1]; exact hc1, by rw [hR.2.2.2]; exact hc2⟩
  refine gh_snd_call (z := z) hC hW hy run (fun ad' H' locs' hW' hag h0 => ?_)
  have k2 := kk ad' H' locs' hag (fun q => h0 (by omega)) hW' hwf' hle hc1 hc2
  have hr : r.all (gh_vv Wm.1.1.length) = true := by
    rw [List.all_eq_true] at hval ⊢
    intro q hq
    exact hval q (List.mem_of_mem_drop (i := v) (by rw [hdr]; exact List.mem_cons_of_mem _ hq))
  have e1 : (y.toList ++ r).map (gh_tv ad') = y.toList ++ r.map (gh_tv ad) := by
    rw [List.map_append, gh_ag_st hag hr]
    congr 1
    cases y with
    | none => rfl
    | some x => rcases hy x rfl with ⟨i, rfl⟩ | ⟨i, rfl⟩ <;> rfl
  rw [e1] at k2
  exact k2
theorem gh_snd_str {d k pc : Nat} {bc bs : Nat} {st : List Value} {Wm W' : gh_W} {pc' : Nat} {st' : List Value} (C : gh_C p s m args c cc nL 6 D ca adK adV A) (hd : decode cc pc = .ok (.invokevirtual k, 3)) (hcs : (k = 93 ∧ gh_sln pc st Wm = some (.inl (pc', st', W'))) ∨ (k = 98 ∧ gh_sch pc st Wm = some (.inl (pc', st', W'))))
    (hls : ls.size = nL) (hW : gh_Wd D ca A s ad Wm.1 H locs) (had : gh_ad adK ad) (hR : d + 7 ≤ R.frames ∧ 60 * d + 460 ≤ R.locals ∧ R.cells = bc ∧ R.slots = bs) (hcs2 : Wm.2.1 ≤ bc ∧ Wm.2.2 ≤ bs)
    (kk : ∀ H' locs', gh_Wd D ca A s ad W'.1 H' locs' → W' = Wm → W p l e R s m args below meth c H' locs' W'.2.1 W'.2.2 Q (F0 m pc' ls (st'.map (gh_tv ad)))) : W p l e R s m args below meth c H locs Wm.2.1 Wm.2.2 Q (F0 m pc ls (st.map (gh_tv ad))) := by
  have hC := C
  obtain ⟨hx, hb, hml, hown, hts, hX, hA, hJ⟩ := C
  obtain ⟨w1, w2, w3, w4, w5, w6, w7⟩ := gj_w_len
  have hJ1 : ∀ U : State, U.heap = H → s.WarmedH U.vm → gh_J adK adV (fun _ => False) U H := fun U hU hWm => gh_J.warm hWm ((hJ.kept hW.2.2.2.1).narrow (fun _ z => z.elim))
  have hsx : ∀ q i, gh_six q = some i → ad q = adK i ∧ i < 2 := by
    intro q i hq
    rcases gh_six_inv hq with ⟨rfl, rfl⟩ | ⟨rfl, rfl⟩
    · exact ⟨had.1, by decide⟩
    · exact ⟨had.2, by decide⟩
  rcases hcs with ⟨rfl, h⟩ | ⟨rfl, h⟩
  · obtain ⟨q, i, r, rfl, h1, h2, rfl, rfl, rfl⟩ := gh_sln_inv h
    obtain ⟨e1, hi⟩ := hsx q i h1
    have hrs : ((r.map (gh_tv ad)).map fun v => v.category).sum ≤ 8 := by rw [gh_cat]; exact gh_rm_le h2
    have hst : (Value.ref q :: r).map (gh_tv ad) = ([] : List Value).reverse ++ .ref (adK i) :: r.map (gh_tv ad) := by
      rw [← e1]
      rfl
    refine va_calli (a := (Value.ref (adK i) :: []).toArray) (post := fun r _ => r = nI (gh_sl.getD i 0)) (B := gj_B H) (va_runV (C := RJ0) (As := []) (rest := r.map (gh_tv ad)) ⟨hx, hb, hml, hown, hts⟩ (gj_length l adK adV H i hi) ⟨callB_of 0 hts (gj_goodc gj_c_length) rfl rfl rfl (hts _ w3) (hts _ w1) (by decide +kernel) ⟨by show 1 + 1 ≤ R.frames; omega, by show 8 + (1 + 11) + 20 ≤ R.locals; omega⟩, hts _ w4, hts _ w6⟩ ⟨gj_blind, vk_recv hJ.1 hi hW.2.2, fun U hU hWm => ⟨rfl, hU, hJ1 U hU hWm⟩⟩ rfl rfl hls hst (lv_room hrs) hd ⟨by rw [hR.2.2.1]; exact hcs2.1, by rw [hR.2.2.2]; exact hcs2.2⟩) hW.2.2 (fun q _ h => h.elim) (fun q h => h.elim) (fun r1 u t H1 locs1 ht hvm hw hB hz1 hk1 hS1 => ?_)
    have e2 : H1 = H := ht.symm.trans hB
    subst e2
    subst hw
    exact kk H1 locs1 ⟨hW.1, hW.2.1, hS1⟩ rfl
  · obtain ⟨j, q, i, r, rfl, h1, h2, h3, rfl, rfl, rfl⟩ := gh_sch_inv h
    obtain ⟨e1, hi⟩ := hsx q i h1
    have hrs : ((r.map (gh_tv ad)).map fun v => v.category).sum ≤ 8 := by rw [gh_cat]; exact gh_rm_le h2
    have hst : (Value.int j :: Value.ref q :: r).map (gh_tv ad) = ([.int j] : List Value).reverse ++ .ref (adK i) :: r.map (gh_tv ad) := by
      rw [← e1]
      rfl
    refine va_calli (a := (Value.ref (adK i) :: [.int j]).toArray) (post := fun r _ => r = gh_sc i j) (B := gj_B H) (va_runV (C := RJ0) (As := [.int j]) (rest := r.map (gh_tv ad)) ⟨hx, hb, hml, hown, hts⟩ (gj_charAt l adK adV H i hi j h3) ⟨callB_of 1 hts (gj_goodc gj_c_charAt) rfl rfl rfl (hts _ w3) (hts _ w2) (by decide +kernel) ⟨by show 3 + 1 ≤ R.frames; omega, by show 8 + (2 + 11) + 90 ≤ R.locals; omega⟩, hts _ w5, hts _ w7⟩ ⟨gj_blind, vk_recv hJ.1 hi hW.2.2, fun U hU hWm => ⟨rfl, hU, hJ1 U hU hWm⟩⟩ rfl rfl hls hst (lv_room hrs) hd ⟨by rw [hR.2.2.1]; exact hcs2.1, by rw [hR.2.2.2]; exact hcs2.2⟩) hW.2.2 (fun q _ h => h.elim) (fun q h => h.elim) (fun r1 u t H1 locs1 ht hvm hw hB hz1 hk1 hS1 => ?_)
    have e2 : H1 = H := ht.symm.trans hB
    subst e2
    subst hw
    exact kk H1 locs1 ⟨hW.1, hW.2.1, hS1⟩ rfl
end GhRest2
end
section
theorem gh_bc4 {l : List (Nat × Nat × Nat × Nat)} {a : Nat × Nat × Nat × Nat} (h : l.contains a = true) : a ∈ l := List.contains_iff_mem.mp h
theorem gh_bc3 {l : List (Nat × Nat × Nat)} {a : Nat × Nat × Nat} (h : l.contains a = true) : a ∈ l := List.contains_iff_mem.mp h
theorem gh_bci {l : List (Nat × Nat × Int32)} {a : Nat × Nat × Int32} (h : l.contains a = true) : a ∈ l := List.contains_iff_mem.mp h
theorem gh_bcj {l : List (Nat × Nat × Int64)} {a : Nat × Nat × Int64} (h : l.contains a = true) : a ∈ l := List.contains_iff_mem.mp h
section GhRest3
variable {p : Program} {l : Launch} {e : Env} {R : Room} {s : State} {m : MethodId} {args : Array Value} {below : List Frame} {meth : Method} {c : Code} {Q : State → Prop} {cc : ByteArray} {nL o : Nat} {D : va_G} {ca : Nat → ClassId} {A : Nat → Prop} {rt : Option FieldType} {ls : Array Slot} {H : Heap} {locs : List Loc} {adK adV ad : Nat → Nat}
theorem gh_snd_rest {d : Nat} {O : gh_O} {bc bs : Nat} {sc : Option (Nat × (Nat → Int32))} {zr ini : Bool} {i : Instr} {len u v : Nat} {w : Int32} {x : Int64} {pc : Nat} {st : List Value} {Wm W' : gh_W} {pc' : Nat} {st' : List Value}
    (C : gh_C p s m args c cc nL o D ca adK adV A) (hd : decode cc pc = .ok (i, len)) (hck : gh_ck o nL rt pc i len u v w x = true) (h : gh_rest O bc bs sc zr ini i u v w x pc st Wm = some (.inl (pc', st', W'))) (hls : ls.size = nL) (hW : gh_Wd D ca A s ad Wm.1 H locs) (hwf : gh_wf Wm.1) (hsc : gh_Sc sc (ad gh_SC) A s) (hini : ini = true → meth.name = "<init>")
    (had : gh_ad adK ad) (hR : d + 7 ≤ R.frames ∧ 60 * d + 460 ≤ R.locals ∧ R.cells = bc ∧ R.slots = bs) (hcs : Wm.2.1 ≤ bc ∧ Wm.2.2 ≤ bs) (hO : gh_Os l D ca adK adV d O)
    (kk : ∀ H' locs', gh_Wd D ca A s ad W'.1 H' locs' → gh_wf W'.1 → Wm.1.1.length ≤ W'.1.1.length → W'.2.1 ≤ bc → W'.2.2 ≤ bs → W p l e R s m args below meth c H' locs' W'.2.1 W'.2.2 Q (F0 m pc' ls (st'.map (gh_tv ad)))) : W p l e R s m args below meth c H locs Wm.2.1 Wm.2.2 Q (F0 m pc ls (st.map (gh_tv ad))) := by
  have hC := C
  obtain ⟨hx, hb, hml, hown, hts, hX, hA, hJ⟩ := C
  unfold gh_rest at h
  split at h
  · simp only [gh_ck, Bool.and_eq_true, decide_eq_true_eq] at hck
    obtain ⟨rfl, rfl, rfl⟩ := gh_k_inv h
    have hl := gh_be hck.1
    subst hl
    exact lv_iconst hx hb hd hck.2 (kk H locs hW hwf (Nat.le_refl _) hcs.1 hcs.2)
  · simp only [gh_ck, Bool.and_eq_true, decide_eq_true_eq] at hck
    obtain ⟨rfl, rfl, rfl⟩ := gh_k_inv h
    have hl := gh_be hck.1
    subst hl
    exact lv_bipush hx hb hd hck.2 (kk H locs hW hwf (Nat.le_refl _) hcs.1 hcs.2)
  · simp only [gh_ck, Bool.and_eq_true, decide_eq_true_eq] at hck
    obtain ⟨rfl, rfl, rfl⟩ := gh_k_inv h
    have hl := gh_be hck.1
    subst hl
    exact lv_sipush hx hb hd hck.2 (kk H locs hW hwf (Nat.le_refl _) hcs.1 hcs.2)
  · simp only [gh_ck, Bool.and_eq_true, decide_eq_true_eq] at hck
    obtain ⟨rfl, rfl, rfl⟩ := gh_k_inv h
    have hl := gh_be hck.1
    subst hl
    exact lv_lconst hx hb hd hck.2 (kk H locs hW hwf (Nat.le_refl _) hcs.1 hcs.2)
  · simp only [gh_ck, Bool.and_eq_true] at hck
    have hl := gh_be hck.1
    subst hl
    have hq := hck.2
    cases hv : Nat.beq v 0 with
    | true =>
      rw [hv] at h hq
      obtain ⟨rfl, rfl, rfl⟩ := gh_k_inv h
      exact lv_ldc hx hb hown (hts _ (gh_kit_ok (o, _, w) (gh_bci hq))) hd (kk H locs hW hwf (Nat.le_refl _) hcs.1 hcs.2)
    | false =>
      rw [hv] at h hq
      simp only [cond_false, Bool.and_eq_true, Bool.or_eq_true] at hq
      obtain ⟨rfl, rfl, rfl⟩ := gh_k_inv h
      have ho := gh_be hq.1
      subst ho
      rcases hq.2 with ⟨hv1, hk1⟩ | ⟨hv1, hk1⟩
      · have e1 := gh_be hv1
        have e2 := gh_be hk1
        subst e1
        subst e2
        refine va_ldcS hx hb hown hJ.2.2.2.1 hd ?_
        rw [← had.1]
        exact (kk H locs hW hwf (Nat.le_refl _) hcs.1 hcs.2)
      · have e1 := gh_be hv1
        have e2 := gh_be hk1
        subst e1
        subst e2
        refine va_ldcS hx hb hown hJ.2.2.2.2 hd ?_
        rw [← had.2]
        exact (kk H locs hW hwf (Nat.le_refl _) hcs.1 hcs.2)
  · simp only [gh_ck, Bool.and_eq_true, decide_eq_true_eq] at hck
    obtain ⟨rfl, rfl, rfl⟩ := gh_k_inv h
    have hl := gh_be hck.1
    subst hl
    exact lv_ldcw hx hb hown (hts _ (gh_kit_ok (o, _, w) (gh_bci hck.2))) hd (kk H locs hW hwf (Nat.le_refl _) hcs.1 hcs.2)
  · simp only [gh_ck, Bool.and_eq_true, decide_eq_true_eq] at hck
    obtain ⟨rfl, rfl, rfl⟩ := gh_k_inv h
    have hl := gh_be hck.1
    subst hl
    exact lv_ldc2 hx hb hown (hts _ (gh_kjt_ok (o, _, x) (gh_bcj hck.2))) hd (kk H locs hW hwf (Nat.le_refl _) hcs.1 hcs.2)
  · simp only [gh_ck, Bool.and_eq_true, decide_eq_true_eq] at hck
    obtain ⟨a, b, r, rfl, rfl, rfl, rfl⟩ := gh_ii_inv h
    have hl := gh_be hck
    subst hl
    exact lv_iadd hx hb hd (kk H locs hW hwf (Nat.le_refl _) hcs.1 hcs.2)
  · simp only [gh_ck, Bool.and_eq_true, decide_eq_true_eq] at hck
    obtain ⟨a, b, r, rfl, rfl, rfl, rfl⟩ := gh_ii_inv h
    have hl := gh_be hck
    subst hl
    exact lv_isub hx hb hd (kk H locs hW hwf (Nat.le_refl _) hcs.1 hcs.2)
  · simp only [gh_ck, Bool.and_eq_true, decide_eq_true_eq] at hck
    obtain ⟨a, b, r, rfl, rfl, rfl, rfl⟩ := gh_ii_inv h
    have hl := gh_be hck
    subst hl
    exact lv_imul hx hb hd (kk H locs hW hwf (Nat.le_refl _) hcs.1 hcs.2)
  · simp only [gh_ck, Bool.and_eq_true, decide_eq_true_eq] at hck
    obtain ⟨a, b, r, rfl, rfl, rfl, rfl⟩ := gh_ii_inv h
    have hl := gh_be hck
    subst hl
    exact lv_iand hx hb hd (kk H locs hW hwf (Nat.le_refl _) hcs.1 hcs.2)
  · simp only [gh_ck, Bool.and_eq_true, decide_eq_true_eq] at hck
    obtain ⟨a, b, r, rfl, rfl, rfl, rfl⟩ := gh_ii_inv h
    have hl := gh_be hck
    subst hl
    exact lv_ior hx hb hd (kk H locs hW hwf (Nat.le_refl _) hcs.1 hcs.2)
  · simp only [gh_ck, Bool.and_eq_true, decide_eq_true_eq] at hck
    obtain ⟨a, b, r, rfl, rfl, rfl, rfl⟩ := gh_ii_inv h
    have hl := gh_be hck
    subst hl
    exact lv_ixor hx hb hd (kk H locs hW hwf (Nat.le_refl _) hcs.1 hcs.2)
  · simp only [gh_ck, Bool.and_eq_true, decide_eq_true_eq] at hck
    obtain ⟨a, b, r, rfl, rfl, rfl, rfl⟩ := gh_ii_inv h
    have hl := gh_be hck
    subst hl
    exact lv_ishl hx hb hd (kk H locs hW hwf (Nat.le_refl _) hcs.1 hcs.2)
  · simp only [gh_ck, Bool.and_eq_true, decide_eq_true_eq] at hck
    obtain ⟨a, b, r, rfl, rfl, rfl, rfl⟩ := gh_ii_inv h
    have hl := gh_be hck
    subst hl
    exact lv_ishr hx hb hd (kk H locs hW hwf (Nat.le_refl _) hcs.1 hcs.2)
  · simp only [gh_ck, Bool.and_eq_true, decide_eq_true_eq] at hck
    obtain ⟨a, b, r, rfl, rfl, rfl, rfl⟩ := gh_ii_inv h
    have hl := gh_be hck
    subst hl
    exact lv_iushr hx hb hd rfl (kk H locs hW hwf (Nat.le_refl _) hcs.1 hcs.2)
  · simp only [gh_ck, Bool.and_eq_true, decide_eq_true_eq] at hck
    obtain ⟨a, b, r, rfl, hne, rfl, rfl, rfl⟩ := gh_iid_inv h
    have hl := gh_be hck
    subst hl
    exact lv_idiv hx hb hd hne (kk H locs hW hwf (Nat.le_refl _) hcs.1 hcs.2)
  · simp only [gh_ck, Bool.and_eq_true, decide_eq_true_eq] at hck
    obtain ⟨a, b, r, rfl, hne, rfl, rfl, rfl⟩ := gh_iid_inv h
    have hl := gh_be hck
    subst hl
    exact lv_irem hx hb hd hne (kk H locs hW hwf (Nat.le_refl _) hcs.1 hcs.2)
  · simp only [gh_ck, Bool.and_eq_true, decide_eq_true_eq] at hck
    obtain ⟨a, r, rfl, rfl, rfl, rfl⟩ := gh_i_inv h
    have hl := gh_be hck
    subst hl
    exact lv_ineg hx hb hd (kk H locs hW hwf (Nat.le_refl _) hcs.1 hcs.2)
  · simp only [gh_ck, Bool.and_eq_true, decide_eq_true_eq] at hck
    obtain ⟨a, r, rfl, rfl, rfl, rfl⟩ := gh_i_inv h
    have hl := gh_be hck
    subst hl
    exact lv_i2b hx hb hd rfl (kk H locs hW hwf (Nat.le_refl _) hcs.1 hcs.2)
  · simp only [gh_ck, Bool.and_eq_true, decide_eq_true_eq] at hck
    obtain ⟨a, b, r, rfl, rfl, rfl, rfl⟩ := gh_jj_inv h
    have hl := gh_be hck
    subst hl
    exact lv_ladd hx hb hd (kk H locs hW hwf (Nat.le_refl _) hcs.1 hcs.2)
  · simp only [gh_ck, Bool.and_eq_true, decide_eq_true_eq] at hck
    obtain ⟨a, b, r, rfl, rfl, rfl, rfl⟩ := gh_jj_inv h
    have hl := gh_be hck
    subst hl
    exact lv_lsub hx hb hd (kk H locs hW hwf (Nat.le_refl _) hcs.1 hcs.2)
  · simp only [gh_ck, Bool.and_eq_true, decide_eq_true_eq] at hck
    obtain ⟨a, b, r, rfl, rfl, rfl, rfl⟩ := gh_jj_inv h
    have hl := gh_be hck
    subst hl
    exact lv_lmul hx hb hd (kk H locs hW hwf (Nat.le_refl _) hcs.1 hcs.2)
  · simp only [gh_ck, Bool.and_eq_true, decide_eq_true_eq] at hck
    obtain ⟨a, b, r, rfl, hne, rfl, rfl, rfl⟩ := gh_jjd_inv h
    have hl := gh_be hck
    subst hl
    exact lv_ldiv hx hb hd hne (kk H locs hW hwf (Nat.le_refl _) hcs.1 hcs.2)
  · simp only [gh_ck, Bool.and_eq_true, decide_eq_true_eq] at hck
    obtain ⟨a, b, r, rfl, rfl, rfl, rfl⟩ := gh_lcmp_inv h
    have hl := gh_be hck
    subst hl
    exact W.lcmp hx hb hd (kk H locs hW hwf (Nat.le_refl _) hcs.1 hcs.2)
  · simp only [gh_ck, Bool.and_eq_true, decide_eq_true_eq] at hck
    obtain ⟨a, r, rfl, rfl, rfl, rfl⟩ := gh_i2l_inv h
    have hl := gh_be hck
    subst hl
    exact lv_i2l hx hb hd rfl (kk H locs hW hwf (Nat.le_refl _) hcs.1 hcs.2)
  · simp only [gh_ck, Bool.and_eq_true, decide_eq_true_eq] at hck
    obtain ⟨a, r, rfl, rfl, rfl, rfl⟩ := gh_l2i_inv h
    have hl := gh_be hck
    subst hl
    exact lv_l2i hx hb hd rfl (kk H locs hW hwf (Nat.le_refl _) hcs.1 hcs.2)
  · simp only [gh_ck, Bool.and_eq_true, decide_eq_true_eq] at hck
    obtain ⟨a, r, ha, rfl, rfl, rfl, rfl⟩ := gh_dup_inv h
    have hl := gh_be hck
    subst hl
    exact lv_dup hx hb hd (by rw [gh_tv_cat]; exact ha) (kk H locs hW hwf (Nat.le_refl _) hcs.1 hcs.2)
  · simp only [gh_ck, Bool.and_eq_true, decide_eq_true_eq] at hck
    have hl := gh_be hck
    subst hl
    rcases gh_dup2_inv h with ⟨a, r, rfl, rfl, rfl, rfl⟩ | ⟨a, b, r, rfl, rfl, rfl, rfl⟩
    · exact lv_dup2_2 hx hb hd rfl (kk H locs hW hwf (Nat.le_refl _) hcs.1 hcs.2)
    · exact lv_dup2_11 hx hb hd rfl rfl (kk H locs hW hwf (Nat.le_refl _) hcs.1 hcs.2)
  · simp only [gh_ck, Bool.and_eq_true, decide_eq_true_eq] at hck
    obtain ⟨a, r, rfl, rfl, rfl, rfl⟩ := gh_pop_inv h
    have hl := gh_be hck
    subst hl
    exact lv_pop hx hb hd rfl (kk H locs hW hwf (Nat.le_refl _) hcs.1 hcs.2)
  · simp only [gh_ck, Bool.and_eq_true, decide_eq_true_eq] at hck
    obtain ⟨a, r, rfl, rfl, rfl, rfl⟩ := gh_if_inv h
    have hl := gh_be hck.1
    subst hl
    rename_i cnd off
    cases cnd with
    | eq =>
      refine lv_if_eq hx hb hd hck.2 (fun hc => ?_) (fun hc => ?_)
      · have e1 : gh_cmp .eq a 0 = true := decide_eq_true hc
        rw [e1] at kk
        exact (kk H locs hW hwf (Nat.le_refl _) hcs.1 hcs.2)
      · have e1 : gh_cmp .eq a 0 = false := decide_eq_false hc
        rw [e1] at kk
        exact (kk H locs hW hwf (Nat.le_refl _) hcs.1 hcs.2)
    | ne =>
      refine lv_if_ne hx hb hd hck.2 (fun hc => ?_) (fun hc => ?_)
      · have e1 : gh_cmp .ne a 0 = true := decide_eq_true hc
        rw [e1] at kk
        exact (kk H locs hW hwf (Nat.le_refl _) hcs.1 hcs.2)
      · have e1 : gh_cmp .ne a 0 = false := decide_eq_false (fun z => z hc)
        rw [e1] at kk
        exact (kk H locs hW hwf (Nat.le_refl _) hcs.1 hcs.2)
    | lt =>
      refine lv_if_lt hx hb hd hck.2 (fun hc => ?_) (fun hc => ?_)
      · have e1 : gh_cmp .lt a 0 = true := decide_eq_true hc
        rw [e1] at kk
        exact (kk H locs hW hwf (Nat.le_refl _) hcs.1 hcs.2)
      · have e1 : gh_cmp .lt a 0 = false := decide_eq_false hc
        rw [e1] at kk
        exact (kk H locs hW hwf (Nat.le_refl _) hcs.1 hcs.2)
    | ge =>
      refine lv_if_ge hx hb hd hck.2 (fun hc => ?_) (fun hc => ?_)
      · have e1 : gh_cmp .ge a 0 = true := decide_eq_true hc
        rw [e1] at kk
        exact (kk H locs hW hwf (Nat.le_refl _) hcs.1 hcs.2)
      · have e1 : gh_cmp .ge a 0 = false := decide_eq_false hc
        rw [e1] at kk
        exact (kk H locs hW hwf (Nat.le_refl _) hcs.1 hcs.2)
    | gt =>
      refine lv_if_gt hx hb hd hck.2 (fun hc => ?_) (fun hc => ?_)
      · have e1 : gh_cmp .gt a 0 = true := decide_eq_true hc
        rw [e1] at kk
        exact (kk H locs hW hwf (Nat.le_refl _) hcs.1 hcs.2)
      · have e1 : gh_cmp .gt a 0 = false := decide_eq_false hc
        rw [e1] at kk
        exact (kk H locs hW hwf (Nat.le_refl _) hcs.1 hcs.2)
    | le =>
      refine lv_if_le hx hb hd hck.2 (fun hc => ?_) (fun hc => ?_)
      · have e1 : gh_cmp .le a 0 = true := decide_eq_true hc
        rw [e1] at kk
        exact (kk H locs hW hwf (Nat.le_refl _) hcs.1 hcs.2)
      · have e1 : gh_cmp .le a 0 = false := decide_eq_false hc
        rw [e1] at kk
        exact (kk H locs hW hwf (Nat.le_refl _) hcs.1 hcs.2)
  · simp only [gh_ck, Bool.and_eq_true, decide_eq_true_eq] at hck
    obtain ⟨a, b, r, rfl, rfl, rfl, rfl⟩ := gh_icmp_inv h
    have hl := gh_be hck.1
    subst hl
    rename_i cnd off
    cases cnd with
    | eq =>
      refine lv_icmp_eq hx hb hd hck.2 (fun hc => ?_) (fun hc => ?_)
      · have e1 : gh_cmp .eq a b = true := decide_eq_true hc
        rw [e1] at kk
        exact (kk H locs hW hwf (Nat.le_refl _) hcs.1 hcs.2)
      · have e1 : gh_cmp .eq a b = false := decide_eq_false hc
        rw [e1] at kk
        exact (kk H locs hW hwf (Nat.le_refl _) hcs.1 hcs.2)
    | ne =>
      refine lv_icmp_ne hx hb hd hck.2 (fun hc => ?_) (fun hc => ?_)
      · have e1 : gh_cmp .ne a b = true := decide_eq_true hc
        rw [e1] at kk
        exact (kk H locs hW hwf (Nat.le_refl _) hcs.1 hcs.2)
      · have e1 : gh_cmp .ne a b = false := decide_eq_false (fun z => z hc)
        rw [e1] at kk
        exact (kk H locs hW hwf (Nat.le_refl _) hcs.1 hcs.2)
    | lt =>
      refine lv_icmp_lt hx hb hd hck.2 (fun hc => ?_) (fun hc => ?_)
      · have e1 : gh_cmp .lt a b = true := decide_eq_true hc
        rw [e1] at kk
        exact (kk H locs hW hwf (Nat.le_refl _) hcs.1 hcs.2)
      · have e1 : gh_cmp .lt a b = false := decide_eq_false hc
        rw [e1] at kk
        exact (kk H locs hW hwf (Nat.le_refl _) hcs.1 hcs.2)
    | ge =>
      refine lv_icmp_ge hx hb hd hck.2 (fun hc => ?_) (fun hc => ?_)
      · have e1 : gh_cmp .ge a b = true := decide_eq_true hc
        rw [e1] at kk
        exact (kk H locs hW hwf (Nat.le_refl _) hcs.1 hcs.2)
      · have e1 : gh_cmp .ge a b = false := decide_eq_false hc
        rw [e1] at kk
        exact (kk H locs hW hwf (Nat.le_refl _) hcs.1 hcs.2)
    | gt =>
      refine lv_icmp_gt hx hb hd hck.2 (fun hc => ?_) (fun hc => ?_)
      · have e1 : gh_cmp .gt a b = true := decide_eq_true hc
        rw [e1] at kk
        exact (kk H locs hW hwf (Nat.le_refl _) hcs.1 hcs.2)
      · have e1 : gh_cmp .gt a b = false := decide_eq_false hc
        rw [e1] at kk
        exact (kk H locs hW hwf (Nat.le_refl _) hcs.1 hcs.2)
    | le =>
      refine lv_icmp_le hx hb hd hck.2 (fun hc => ?_) (fun hc => ?_)
      · have e1 : gh_cmp .le a b = true := decide_eq_true hc
        rw [e1] at kk
        exact (kk H locs hW hwf (Nat.le_refl _) hcs.1 hcs.2)
      · have e1 : gh_cmp .le a b = false := decide_eq_false hc
        rw [e1] at kk
        exact (kk H locs hW hwf (Nat.le_refl _) hcs.1 hcs.2)
  · simp only [gh_ck, Bool.and_eq_true, decide_eq_true_eq] at hck
    obtain ⟨rfl, rfl, rfl⟩ := gh_k_inv h
    have hl := gh_be hck.1
    subst hl
    exact lv_goto hx hb hd hck.2 (kk H locs hW hwf (Nat.le_refl _) hcs.1 hcs.2)
  · obtain ⟨a, r, rfl, rfl, rfl, hq⟩ := gh_tab_inv h
    rcases hq with ⟨h1, h2⟩ | ⟨h1, h2, off, h3, h4⟩
    · exact lv_tableOut hx hb hd h1 h2 (kk H locs hW hwf (Nat.le_refl _) hcs.1 hcs.2)
    · exact lv_tableIn hx hb hd h1 h2 h3 h4 (kk H locs hW hwf (Nat.le_refl _) hcs.1 hcs.2)
  · obtain ⟨a, r, rfl, rfl, rfl, h1, h2⟩ := gh_luk_inv h
    exact lv_lookup hx hb hd h1 rfl h2 (kk H locs hW hwf (Nat.le_refl _) hcs.1 hcs.2)
  · simp only [gh_ck, Bool.and_eq_true, decide_eq_true_eq] at hck
    have hl := gh_be hck.1.1.1
    subst hl
    obtain ⟨q, r, kd, y, rfl, h1, h2, h3, rfl, rfl, rfl⟩ := gh_get_inv h
    exact gh_snd_get hC hW hd (gh_bc4 hck.1.1.2) (gh_bl hck.1.2) (gh_bl hck.2) h1 h2 (h3 ad) (kk H locs hW hwf (Nat.le_refl _) hcs.1 hcs.2)
  · simp only [gh_ck, Bool.and_eq_true] at hck
    have hl := gh_be hck.1.1.1.1
    subst hl
    have hu := gh_bl hck.1.1.2
    have hv := gh_bl hck.1.2
    have hfw : (gh_Tn u v).2.2.2 = true → w = 1 ∧ (gh_Tn u v).1 = gh_Rn o := by
      intro hf
      have h2 := hck.2
      rw [hf] at h2
      have h3 : (decide (w = 1) && decide ((gh_Tn u v).1 = gh_Rn o)) = true := h2
      exact ⟨of_decide_eq_true (gh_b1 h3), of_decide_eq_true (gh_b2 h3)⟩
    have hkd := gh_kds u hu v hv
    obtain ⟨y, q, r, rfl, h1, h2, rfl, rfl, h3⟩ := gh_put_inv h
    rcases h3 with ⟨a, h4, rfl, rfl⟩ | ⟨a, h4, rfl, rfl⟩ | ⟨a, h4, rfl, h5, rfl⟩ | ⟨a, h4, rfl, h5, rfl⟩
    · have ht : gh_tn u v = .int := gh_kind0 (Option.some.inj (hkd.symm.trans h4))
      exact gh_snd_put (M' := gh_mI Wm.1 q (upd (Wm.1.2.1 q) v a)) hC hW hd (gh_bc4 hck.1.1.1.2) hu hv h1 h2 hfw hini (by rw [ht]; rfl) (by rw [ht]; rfl) (gh_fs_putI h1 h4 (by decide) (by decide)) (fun H' locs' hW' => kk H' locs' hW' (gh_wf_mI hwf _ _) (Nat.le_refl _) hcs.1 hcs.2)
    · have ht : gh_tn u v = .long := gh_kind1 (Option.some.inj (hkd.symm.trans h4))
      exact gh_snd_put (M' := gh_mL Wm.1 q (vp_updL (Wm.1.2.2.1 q) v a)) hC hW hd (gh_bc4 hck.1.1.1.2) hu hv h1 h2 hfw hini (by rw [ht]; rfl) (by rw [ht]; rfl) (gh_fs_putL h1 h4) (fun H' locs' hW' => kk H' locs' hW' (gh_wf_mL hwf _ _) (Nat.le_refl _) hcs.1 hcs.2)
    · have ht := gh_kind2 (Option.some.inj (hkd.symm.trans h4)) (ad a)
      exact gh_snd_put (M' := gh_mR Wm.1 q (gh_upR (Wm.1.2.2.2 q) v (some a))) hC hW hd (gh_bc4 hck.1.1.1.2) hu hv h1 h2 hfw hini ht.1 ht.2 (gh_fs_putR h1 h4) (fun H' locs' hW' => kk H' locs' hW' (gh_wf_mR hwf _ _ _ h5) (Nat.le_refl _) hcs.1 hcs.2)
    · have ht : gh_tn u v = .boolean := gh_kind3 (Option.some.inj (hkd.symm.trans h4))
      have h6 : a = 0 ∨ a = 1 := by
        unfold gh_isB at h5
        simpa using h5
      exact gh_snd_put (M' := gh_mI Wm.1 q (upd (Wm.1.2.1 q) v a)) hC hW hd (gh_bc4 hck.1.1.1.2) hu hv h1 h2 hfw hini (by rw [ht]; rcases h6 with rfl | rfl <;> rfl) (by rw [ht]; rcases h6 with rfl | rfl <;> rfl) (gh_fs_putI h1 h4 (by decide) (by decide)) (fun H' locs' hW' => kk H' locs' hW' (gh_wf_mI hwf _ _) (Nat.le_refl _) hcs.1 hcs.2)
  · simp only [gh_ck, Bool.and_eq_true, decide_eq_true_eq] at hck
    have hl := gh_be hck
    subst hl
    obtain ⟨i, q, r, rfl, rfl, rfl, hq⟩ := gh_iald_inv h
    rcases hq with ⟨n, h1, h2, rfl⟩ | ⟨L, xs, h1, rfl, h2, rfl⟩
    · exact va_iald (D := D) (cl := vwCl) (ws := gh_ws ad ca W'.1) hx hb hX.1 hW.1 q 0 (gh_get_arr h1) rfl h2 hd (kk H locs hW hwf (Nat.le_refl _) hcs.1 hcs.2)
    · obtain ⟨hs1, hs2, hs3⟩ := hsc L xs h1
      exact va_sld hx hb hs1 hs2 hs3 hW.2.2 h2 hd (kk H locs hW hwf (Nat.le_refl _) hcs.1 hcs.2)
  · simp only [gh_ck, Bool.and_eq_true, decide_eq_true_eq] at hck
    have hl := gh_be hck
    subst hl
    obtain ⟨i, q, r, n, rfl, rfl, rfl, h1, h2, rfl⟩ := gh_lald_inv h
    exact va_lald (D := D) (cl := vwCl) (ws := gh_ws ad ca W'.1) hx hb hX.1 hW.1 q 1 (gh_get_arr h1) rfl h2 hd (kk H locs hW hwf (Nat.le_refl _) hcs.1 hcs.2)
  · simp only [gh_ck, Bool.and_eq_true, decide_eq_true_eq] at hck
    have hl := gh_be hck
    subst hl
    obtain ⟨i, q, r, n, rfl, rfl, rfl, h1, h2, rfl⟩ := gh_bald_inv h
    rcases h1 with h1 | h1
    · exact va_bald (D := D) (cl := vwCl) (ws := gh_ws ad ca W'.1) hx hb hX.1 hW.1 q 2 (gh_get_arr h1) rfl h2 hd (kk H locs hW hwf (Nat.le_refl _) hcs.1 hcs.2)
    · exact va_zald (D := D) (cl := vwCl) (ws := gh_ws ad ca W'.1) hx hb hX.1 hW.1 q 3 (gh_get_arr h1) rfl h2 hd (kk H locs hW hwf (Nat.le_refl _) hcs.1 hcs.2)
  · simp only [gh_ck, Bool.and_eq_true, decide_eq_true_eq] at hck
    have hl := gh_be hck
    subst hl
    obtain ⟨y, i, q, r, n, rfl, rfl, rfl, h1, h2, rfl⟩ := gh_iast_inv h
    refine va_iast (D := D) (cl := vwCl) (ws := gh_ws ad ca Wm.1) hx hb hX.1 hW.1 hW.2.1 hW.2.2 q 0 (gh_get_arr h1) rfl h2 hd (fun H1 locs1 g1 g2 g3 => ?_)
    have e1 := gh_ws_mI (ad := ad) (ca := ca) (upd (Wm.1.2.1 q) i.toNatClampNeg y) h1
    rw [gh_ent_mI (by decide)] at e1
    exact kk H1 locs1 ⟨by rw [e1]; exact g1, by rw [e1]; exact g2, g3⟩ (gh_wf_mI hwf _ _) (Nat.le_refl _) hcs.1 hcs.2
  · simp only [gh_ck, Bool.and_eq_true, decide_eq_true_eq] at hck
    have hl := gh_be hck
    subst hl
    obtain ⟨y, i, q, r, n, rfl, rfl, rfl, h1, h2, rfl⟩ := gh_last_inv h
    refine va_last (D := D) (cl := vwCl) (ws := gh_ws ad ca Wm.1) hx hb hX.1 hW.1 hW.2.1 hW.2.2 q 1 (gh_get_arr h1) rfl h2 hd (fun H1 locs1 g1 g2 g3 => ?_)
    have e1 := gh_ws_mL (ad := ad) (ca := ca) (vp_updL (Wm.1.2.2.1 q) i.toNatClampNeg y) h1
    rw [gh_ent_mL] at e1
    exact kk H1 locs1 ⟨by rw [e1]; exact g1, by rw [e1]; exact g2, g3⟩ (gh_wf_mL hwf _ _) (Nat.le_refl _) hcs.1 hcs.2
  · simp only [gh_ck, Bool.and_eq_true, decide_eq_true_eq] at hck
    have hl := gh_be hck
    subst hl
    obtain ⟨y, i, q, r, n, rfl, rfl, rfl, h2, hq⟩ := gh_bast_inv h
    rcases hq with ⟨h1, rfl⟩ | ⟨h1, rfl⟩
    · refine va_bast (D := D) (cl := vwCl) (ws := gh_ws ad ca Wm.1) hx hb hX.1 hW.1 hW.2.1 hW.2.2 q 2 (gh_get_arr h1) rfl h2 hd (fun H1 locs1 g1 g2 g3 => ?_)
      have e1 := gh_ws_mI (ad := ad) (ca := ca) (upd (Wm.1.2.1 q) i.toNatClampNeg (vp_nar .byte y)) h1
      rw [gh_ent_mI (by decide)] at e1
      exact kk H1 locs1 ⟨by rw [e1]; exact g1, by rw [e1]; exact g2, g3⟩ (gh_wf_mI hwf _ _) (Nat.le_refl _) hcs.1 hcs.2
    · refine va_zast (D := D) (cl := vwCl) (ws := gh_ws ad ca Wm.1) hx hb hX.1 hW.1 hW.2.1 hW.2.2 q 3 (gh_get_arr h1) rfl h2 hd (fun H1 locs1 g1 g2 g3 => ?_)
      have e1 := gh_ws_mI (ad := ad) (ca := ca) (upd (Wm.1.2.1 q) i.toNatClampNeg (vp_nar .boolean y)) h1
      rw [gh_ent_mI (by decide)] at e1
      exact kk H1 locs1 ⟨by rw [e1]; exact g1, by rw [e1]; exact g2, g3⟩ (gh_wf_mI hwf _ _) (Nat.le_refl _) hcs.1 hcs.2
  · simp only [gh_ck, Bool.and_eq_true, decide_eq_true_eq] at hck
    have hl := gh_be hck
    subst hl
    obtain ⟨q, r, rfl, rfl, rfl, hq⟩ := gh_alen_inv h
    rcases hq with ⟨t, n, h1, h2, rfl⟩ | ⟨L, xs, h1, rfl, rfl⟩
    · have en : (gh_ae W'.1 q t n).1 = n := by
        unfold gh_ae
        split <;> rfl
      exact va_alen (D := D) (cl := vwCl) (ws := gh_ws ad ca W'.1) hx hb hX.1 hW.1 q t (gh_get_arr h1) (gh_tys_get t h2) (by rw [en]) hd (kk H locs hW hwf (Nat.le_refl _) hcs.1 hcs.2)
    · obtain ⟨hs1, hs2, hs3⟩ := hsc L xs h1
      exact va_slen hx hb hs1 hs2 hs3 hW.2.2 hd (kk H locs hW hwf (Nat.le_refl _) hcs.1 hcs.2)
  · simp only [gh_ck, Bool.and_eq_true] at hck
    have hl := gh_be hck.1
    subst hl
    have hq := hck.2
    cases hu : Nat.blt u gh_NZ with
    | true =>
      rw [hu] at hq
      simp only [cond_true, Bool.and_eq_true, Bool.or_eq_true] at hq
      have hz := gh_bl hu
      unfold gh_sta at h
      split at h
      · exact absurd hz (by decide)
      · exact absurd hz (by decide)
      · exact absurd hz (by decide)
      · exact absurd hz (by decide)
      · exact gh_snd_sta hC hd hz (gh_be hq.1.1.1.1) (gh_be hq.1.1.1.2) (gh_be hq.1.1.2) (hq.2.imp gh_bc3 gh_bc4) h hls hW hwf had hR hO (fun H' locs' hW' hwf' hle => by
          obtain ⟨-, h⟩ := gh_ivs_inv h
          obtain ⟨-, c1, c2, -, y, M', -, -, rfl⟩ := gh_cal_inv h
          exact kk H' locs' hW' hwf' hle c1 c2)
    | false =>
      rw [hu] at hq
      simp only [cond_false, Bool.and_eq_true] at hq
      have hlk := hts _ (gh_xlt_ok (o, _, u) (gh_bc3 hq.2))
      unfold gh_sta at h
      split at h
      · obtain ⟨a, b, r, rfl, h1, rfl, rfl, rfl⟩ := gh_mmx_inv h
        exact va_mmax hx hb (by rw [hls]; exact hml) hown hlk (hts _ gh_w_xst0) (hts _ gh_w_im) (hts _ gh_w_c0) (by omega) (by rw [gh_cat]; have := gh_rm_le h1; omega) (by omega) (by omega) hd (kk H locs hW hwf (Nat.le_refl _) hcs.1 hcs.2)
      · obtain ⟨a, b, r, rfl, h1, rfl, rfl, rfl⟩ := gh_mmn_inv h
        exact va_mmin hx hb (by rw [hls]; exact hml) hown hlk (hts _ gh_w_xst1) (hts _ gh_w_im) (hts _ gh_w_c1) (by omega) (by rw [gh_cat]; have := gh_rm_le h1; omega) (by omega) (by omega) hd (kk H locs hW hwf (Nat.le_refl _) hcs.1 hcs.2)
      · obtain ⟨a, b, r, rfl, h1, rfl, rfl, rfl⟩ := gh_mml_inv h
        exact va_mmax_long hx hb (by rw [hls]; exact hml) hown hlk (hts _ gh_w_xst2) (hts _ gh_w_im) (hts _ gh_w_c2) (by omega) (by rw [gh_cat]; have := gh_rm_le h1; omega) (by omega) (by omega) hd (kk H locs hW hwf (Nat.le_refl _) hcs.1 hcs.2)
      · obtain ⟨n, dp, a, sp, b, r, n0, n1, rfl, ha, hb1, h1, k1, k2, k3, k4, k5, rfl, rfl, rfl⟩ := gh_acp_inv h
        refine va_copyi (D := D) (cl := vwCl) (ws := gh_ws ad ca Wm.1) (ty := .int) hx hb (by rw [hls]; exact hml) hown hlk (hts _ gh_w_nat) (hts _ gh_w_xst3) (hts _ gh_w_is) hX.1 hW.1 hW.2.1 hW.2.2 b a 0 0 (gh_get_arr hb1) (gh_get_arr ha) rfl rfl rfl k1 k2 k3 k4 k5 (fun _ _ => rfl) (by omega) (by rw [gh_cat]; have h9 := gh_rm_le h1; have h8 : nativeFrameWords "java/lang/System" "arraycopy" 5 ≤ 40 := (by decide); omega) hd (fun H1 locs1 g1 g2 g3 => ?_)
        have e1 := gh_ws_mI (ad := ad) (ca := ca) (va_cpy (Wm.1.2.1 b) (Wm.1.2.1 a) sp.toNatClampNeg dp.toNatClampNeg n.toNatClampNeg) ha
        rw [gh_ent_mI (by decide)] at e1
        exact kk H1 locs1 ⟨by rw [e1]; exact g1, by rw [e1]; exact g2, g3⟩ (gh_wf_mI hwf _ _) (Nat.le_refl _) hcs.1 hcs.2
      · rename_i n1 n2 n3 n4
        have h1 := Nat.le_of_ble_eq_true hq.1.1
        have h2 := Nat.le_of_ble_eq_true hq.1.2
        have : u = 1000 ∨ u = 1001 ∨ u = 1002 ∨ u = 1003 := by omega
        rcases this with q | q | q | q
        · exact absurd q n1
        · exact absurd q n2
        · exact absurd q n3
        · exact absurd q n4
  · simp only [gh_ck, Bool.and_eq_true] at hck
    have hl := gh_be hck.1
    subst hl
    have hq := hck.2
    cases hu : Nat.blt u gh_NZ with
    | true =>
      rw [hu] at hq
      simp only [cond_true, Bool.and_eq_true] at hq
      have hz := gh_bl hu
      unfold gh_vir at h
      split at h
      · exact absurd hz (by decide)
      · exact absurd hz (by decide)
      · exact gh_snd_vir hC hd hz (gh_be hq.1.1.1.1) (gh_be hq.1.1.1.2) (gh_be hq.1.1.2) (gh_bc3 hq.2) h hls hW hwf had hR hO (fun H' locs' hW' hwf' hle => by
          obtain ⟨-, b, r, -, -, h⟩ := gh_ivv_inv h
          obtain ⟨-, c1, c2, -, y, M', -, -, rfl⟩ := gh_cal_inv h
          exact kk H' locs' hW' hwf' hle c1 c2)
    | false =>
      rw [hu] at hq
      simp only [cond_false, Bool.and_eq_true, Bool.or_eq_true] at hq
      have ho := gh_be hq.1
      subst ho
      refine gh_snd_str (d := d) (bc := bc) (bs := bs) (pc' := pc') (st' := st') (W' := W') hC hd ?_ hls hW had hR hcs (fun H' locs' hW' e1 => ?_)
      · rcases hq.2 with ⟨h1, h2⟩ | ⟨h1, h2⟩
        · have e1 := gh_be h1
          have e2 := gh_be h2
          subst e1
          subst e2
          exact Or.inl ⟨rfl, h⟩
        · have e1 := gh_be h1
          have e2 := gh_be h2
          subst e1
          subst e2
          exact Or.inr ⟨rfl, h⟩
      · subst e1
        exact kk H' locs' hW' hwf (Nat.le_refl _) hcs.1 hcs.2
  · unfold gh_ire at h
    split at h
    · obtain ⟨-, h⟩ := gh_bif h
      cases h
    · cases h
  · unfold gh_lre at h
    split at h <;> cases h
  · unfold gh_vre at h
    split at h <;> cases h
  · cases h
end GhRest3
end
section
/-! ===== one step, and a run ===== -/
theorem gh_kds3 : ∀ u, u < 11 → ∀ k, k < (gh_ft u).length → gh_kd (gh_tn u k) ≤ 3 := by decide +kernel
theorem gh_fs_none {ad1 ad2 : Nat → Nat} {M : gh_M} {c ci : Nat} (h : ∀ k, M.2.2.2 c k = none) : gh_fs ad1 M c ci = gh_fs ad2 M c ci := by
  unfold gh_fs
  congr 1
  funext k kd
  unfold gh_fv
  rw [h k]
  rfl
theorem gh_def {t : FieldType} (h : gh_kd t ≤ 3) {ad : Nat → Nat} {M : gh_M} {c k : Nat} (h1 : M.2.1 c k = 0) (h2 : M.2.2.1 c k = 0) (h3 : M.2.2.2 c k = none) : defaultValue t = gh_fv ad M c k (gh_kd t) := by
  cases t with
  | int => simp [gh_kd, gh_fv, h1, defaultValue]
  | long => simp [gh_kd, gh_fv, h2, defaultValue]
  | boolean => simp [gh_kd, gh_fv, h1, defaultValue]
  | array a => simp [gh_kd, gh_fv, h3, defaultValue, va_rf]
  | object a => simp [gh_kd, gh_fv, h3, defaultValue, va_rf]
  | _ => exact absurd h (by decide)
theorem gh_mk_I (M : gh_M) (sh : gh_Sh) (k : Nat) : (gh_mk M sh).2.1 M.1.length k = 0 := by
  show gh_up M.2.1 M.1.length (fun _ => 0) M.1.length k = 0
  rw [gh_up_eq]
theorem gh_mk_L (M : gh_M) (sh : gh_Sh) (k : Nat) : (gh_mk M sh).2.2.1 M.1.length k = 0 := by
  show gh_up M.2.2.1 M.1.length (fun _ => 0) M.1.length k = 0
  rw [gh_up_eq]
theorem gh_mk_R (M : gh_M) (sh : gh_Sh) (k : Nat) : (gh_mk M sh).2.2.2 M.1.length k = none := by
  show gh_up M.2.2.2 M.1.length (fun _ => none) M.1.length k = none
  rw [gh_up_eq]
theorem gh_ae_mk (M : gh_M) (sh : gh_Sh) (t n : Nat) : gh_ae (gh_mk M sh) M.1.length t n = (match t with
  | 1 => (n, .inr (.inl (fun _ => 0)))
  | _ => (n, .inl (fun _ => 0)) : vp_A) := by
  have e1 : (gh_mk M sh).2.1 M.1.length = fun _ => 0 := funext (gh_mk_I M sh)
  have e2 : (gh_mk M sh).2.2.1 M.1.length = fun _ => 0 := funext (gh_mk_L M sh)
  unfold gh_ae
  rw [e1, e2]
  match t with
  | 0 => rfl
  | 1 => rfl
  | _ + 2 => rfl
theorem gh_go_inv {pc : Nat} {lv : gh_L} {st : List Value} {W : gh_W} {pc' : Nat} {lv' : gh_L} {st' : List Value} {W' : gh_W} (h : gh_go pc lv st W = some (.inl (pc', lv', st', W'))) : pc' = pc ∧ lv' = lv ∧ st' = st ∧ W' = W := by
  unfold gh_go at h
  cases h
  exact ⟨rfl, rfl, rfl, rfl⟩
theorem gh_lift_inv {lv : gh_L} {o : Option gh_N} {pc' : Nat} {lv' : gh_L} {st' : List Value} {W' : gh_W} (h : gh_lift lv o = some (.inl (pc', lv', st', W'))) : o = some (.inl (pc', st', W')) ∧ lv' = lv := by
  unfold gh_lift at h
  split at h
  · obtain ⟨rfl, rfl, rfl, rfl⟩ := gh_go_inv h
    exact ⟨rfl, rfl⟩
  · cases h
  · cases h
theorem gh_lift_ret {lv : gh_L} {o : Option gh_N} {r : gh_R} (h : gh_lift lv o = some (.inr r)) : o = some (.inr r) := by
  unfold gh_lift at h
  split at h
  · cases h
  · cases h
    rfl
  · cases h
theorem gh_lifv_inv {n : Nat} {lv : gh_L} {st : List Value} {o : Option gh_N} {pc' : Nat} {lv' : gh_L} {st' : List Value} {W' : gh_W} (h : gh_lifv n lv st o = some (.inl (pc', lv', st', W'))) : st.all (gh_vv n) = true ∧ n < gh_SC ∧ o = some (.inl (pc', st', W')) ∧ lv' = lv.filter (fun q => gh_vv n q.2) := by
  unfold gh_lifv at h
  obtain ⟨hb, h⟩ := gh_bif h
  obtain ⟨h1, h2⟩ := gh_lift_inv h
  exact ⟨gh_b1 hb, gh_bl (gh_b2 hb), h1, h2⟩
section GhStep
variable {p : Program} {l : Launch} {e : Env} {R : Room} {s : State} {m : MethodId} {args : Array Value} {below : List Frame} {meth : Method} {c : Code} {Q : State → Prop} {cc : ByteArray} {nL o : Nat} {D : va_G} {ca : Nat → ClassId} {A : Nat → Prop} {rt : Option FieldType} {ls : Array Slot} {H : Heap} {locs : List Loc} {adK adV ad : Nat → Nat}
theorem gh_snd_step {d : Nat} {O : gh_O} {bc bs : Nat} {sc : Option (Nat × (Nat → Int32))} {zr ini : Bool} {i : Instr} {len u v : Nat} {w : Int32} {x : Int64} {pc : Nat} {lv lv' : gh_L} {st : List Value} {Wm W' : gh_W} {pc' : Nat} {st' : List Value}
    (C : gh_C p s m args c cc nL o D ca adK adV A) (hd : decode cc pc = .ok (i, len)) (hck : gh_ck o nL rt pc i len u v w x = true) (h : gh_stp O bc bs sc zr ini i u v w x pc lv st Wm = some (.inl (pc', lv', st', W'))) (hl : lv_has ls nL (gh_tl ad lv)) (hW : gh_Wd D ca A s ad Wm.1 H locs) (hwf : gh_wf Wm.1) (hsc : gh_Sc sc (ad gh_SC) A s) (hini : ini = true → meth.name = "<init>")
    (had : gh_ad adK ad) (hR : d + 7 ≤ R.frames ∧ 60 * d + 460 ≤ R.locals ∧ R.cells = bc ∧ R.slots = bs) (hcs : Wm.2.1 ≤ bc ∧ Wm.2.2 ≤ bs) (hO : gh_Os l D ca adK adV d O)
    (kk : ∀ ad' H' locs' ls', lv_has ls' nL (gh_tl ad' lv') → gh_Wd D ca A s ad' W'.1 H' locs' → gh_wf W'.1 → gh_ag Wm.1.1.length ad ad' → (bc = 0 → ad' = ad) → Wm.1.1.length ≤ W'.1.1.length → W'.2.1 ≤ bc → W'.2.2 ≤ bs → W p l e R s m args below meth c H' locs' W'.2.1 W'.2.2 Q (F0 m pc' ls' (st'.map (gh_tv ad')))) : W p l e R s m args below meth c H locs Wm.2.1 Wm.2.2 Q (F0 m pc ls (st.map (gh_tv ad))) := by
  have hC := C
  obtain ⟨hx, hb, hml, hown, hts, hX, hA, hJ⟩ := C
  unfold gh_stp at h
  split at h
  · simp only [gh_ck] at hck
    have hln := gh_be hck
    subst hln
    unfold gh_il at h
    split at h
    · rename_i y hy
      obtain ⟨rfl, rfl, rfl, rfl⟩ := gh_go_inv h
      exact lv_iload hx hb hd (gh_lk_slot hl hy) (kk ad H locs ls hl hW hwf (fun _ _ => rfl) (fun _ => rfl) (Nat.le_refl _) hcs.1 hcs.2)
    · cases h
  · simp only [gh_ck] at hck
    have hln := gh_be hck
    subst hln
    unfold gh_il at h
    split at h
    · rename_i y hy
      obtain ⟨rfl, rfl, rfl, rfl⟩ := gh_go_inv h
      exact lv_iload_n hx hb hd rfl (gh_lk_slot hl hy) (kk ad H locs ls hl hW hwf (fun _ _ => rfl) (fun _ => rfl) (Nat.le_refl _) hcs.1 hcs.2)
    · cases h
  · simp only [gh_ck] at hck
    have hln := gh_be hck
    subst hln
    unfold gh_jl at h
    split at h
    · rename_i y hy
      obtain ⟨rfl, rfl, rfl, rfl⟩ := gh_go_inv h
      exact lv_lload hx hb hd (gh_lk_slot hl hy) (kk ad H locs ls hl hW hwf (fun _ _ => rfl) (fun _ => rfl) (Nat.le_refl _) hcs.1 hcs.2)
    · cases h
  · simp only [gh_ck] at hck
    have hln := gh_be hck
    subst hln
    unfold gh_jl at h
    split at h
    · rename_i y hy
      obtain ⟨rfl, rfl, rfl, rfl⟩ := gh_go_inv h
      exact lv_lload_n hx hb hd rfl (gh_lk_slot hl hy) (kk ad H locs ls hl hW hwf (fun _ _ => rfl) (fun _ => rfl) (Nat.le_refl _) hcs.1 hcs.2)
    · cases h
  · simp only [gh_ck] at hck
    have hln := gh_be hck
    subst hln
    unfold gh_al at h
    split at h
    · rename_i y hy
      obtain ⟨rfl, rfl, rfl, rfl⟩ := gh_go_inv h
      exact lv_aload_n hx hb hd rfl (gh_lk_slot hl hy) (kk ad H locs ls hl hW hwf (fun _ _ => rfl) (fun _ => rfl) (Nat.le_refl _) hcs.1 hcs.2)
    · cases h
  · simp only [gh_ck, Bool.and_eq_true] at hck
    have hln := gh_be hck.1
    subst hln
    unfold gh_is at h
    split at h
    · rename_i y r
      obtain ⟨rfl, rfl, rfl, rfl⟩ := gh_go_inv h
      exact lv_istore hx hb hd hl (gh_bl hck.2) (gh_tl_s1 (v := .int y)) (fun ls' hl' => kk ad H locs ls' hl' hW hwf (fun _ _ => rfl) (fun _ => rfl) (Nat.le_refl _) hcs.1 hcs.2)
    · cases h
  · simp only [gh_ck, Bool.and_eq_true] at hck
    have hln := gh_be hck.1
    subst hln
    unfold gh_is at h
    split at h
    · rename_i y r
      obtain ⟨rfl, rfl, rfl, rfl⟩ := gh_go_inv h
      exact lv_istore_n hx hb hd rfl hl (gh_bl hck.2) (gh_tl_s1 (v := .int y)) (fun ls' hl' => kk ad H locs ls' hl' hW hwf (fun _ _ => rfl) (fun _ => rfl) (Nat.le_refl _) hcs.1 hcs.2)
    · cases h
  · simp only [gh_ck, Bool.and_eq_true] at hck
    have hln := gh_be hck.1
    subst hln
    unfold gh_js at h
    split at h
    · rename_i y r
      obtain ⟨rfl, rfl, rfl, rfl⟩ := gh_go_inv h
      exact lv_lstore hx hb hd hl (gh_bl hck.2) (gh_tl_s2 (v := .long y)) (fun ls' hl' => kk ad H locs ls' hl' hW hwf (fun _ _ => rfl) (fun _ => rfl) (Nat.le_refl _) hcs.1 hcs.2)
    · cases h
  · simp only [gh_ck, Bool.and_eq_true] at hck
    have hln := gh_be hck.1
    subst hln
    unfold gh_js at h
    split at h
    · rename_i y r
      obtain ⟨rfl, rfl, rfl, rfl⟩ := gh_go_inv h
      exact lv_lstore_n hx hb hd rfl hl (gh_bl hck.2) (gh_tl_s2 (v := .long y)) (fun ls' hl' => kk ad H locs ls' hl' hW hwf (fun _ _ => rfl) (fun _ => rfl) (Nat.le_refl _) hcs.1 hcs.2)
    · cases h
  · simp only [gh_ck, Bool.and_eq_true] at hck
    have hln := gh_be hck.1
    subst hln
    unfold gh_as at h
    split at h
    · rename_i y r
      obtain ⟨rfl, rfl, rfl, rfl⟩ := gh_go_inv h
      exact lv_astore_n hx hb hd rfl hl (gh_bl hck.2) (gh_tl_s1 (v := .ref y)) (fun ls' hl' => kk ad H locs ls' hl' hW hwf (fun _ _ => rfl) (fun _ => rfl) (Nat.le_refl _) hcs.1 hcs.2)
    · cases h
  · simp only [gh_ck, Bool.and_eq_true, decide_eq_true_eq] at hck
    have hln := gh_be hck.1.1
    subst hln
    unfold gh_inc at h
    split at h
    · rename_i y hy
      obtain ⟨rfl, rfl, rfl, rfl⟩ := gh_go_inv h
      obtain ⟨k, hk⟩ := gh_lk_place (ad := ad) hy
      refine lv_iinc (v := y + w) hx hb hd hl hk (by rw [hck.1.2]) (gh_bl hck.2) (gh_tl_s1 (v := .int (y + w))) (fun ls' hl' => kk ad H locs ls' hl' hW hwf (fun _ _ => rfl) (fun _ => rfl) (Nat.le_refl _) hcs.1 hcs.2)
    · cases h
  · simp only [gh_ck, Bool.and_eq_true] at hck
    have hln := gh_be hck.1
    subst hln
    obtain ⟨hv, hn, h9, rfl⟩ := gh_lifv_inv h
    obtain ⟨h1, h2, hu, rfl, rfl, rfl⟩ := gh_new_inv h9
    obtain ⟨hcl, hin, hty, hnm⟩ := gh_cl u hu
    have hfs : ∀ j, j < (gh_ft u).length → defaultValue (gh_tn u j) = vp_V (gh_fs ad (gh_mk Wm.1 (.inr u)) Wm.1.1.length u) j := by
      intro j hj
      have e1 := gh_fs_get (ad := ad) (M := gh_mk Wm.1 (.inr u)) (c := Wm.1.1.length) (gh_kds u hu j hj)
      rw [gh_def (gh_kds3 u hu j hj) (ad := ad) (gh_mk_I Wm.1 (.inr u) j) (gh_mk_L Wm.1 (.inr u) j) (gh_mk_R Wm.1 (.inr u) j)]
      unfold vp_V
      rw [List.getD_eq_getElem?_getD, e1]
      rfl
    refine va_new (D := D) (cl := vwCl) (ws := gh_ws ad ca Wm.1) (C := gh_Rn u) (T := gh_Tn u) (N := (gh_ft u).length) (ci := u) hx hb hts hin (gh_tn u) hty hown (hts _ (gh_clt_ok (o, _, u) (gh_bc3 hck.2))) (hts _ (gh_w_in u hu).1) (hts _ (gh_w_in u hu).2) hX.1 hW.1 hW.2.1 hW.2.2 hA hcl hfs (by omega) (by omega) hd (fun q H1 g1 g2 g3 => ?_)
    have e2 := gh_ws_mk (ad := ad) (ca := ca) hwf (.inr u) q
    have e3 : gh_ent (va_up ad Wm.1.1.length q) ca (gh_mk Wm.1 (.inr u)) Wm.1.1.length (.inr u) = (q, .inr (u, gh_fs ad (gh_mk Wm.1 (.inr u)) Wm.1.1.length u)) := by
      simp only [gh_ent]
      rw [gh_fs_none (ad2 := ad) (gh_mk_R Wm.1 (.inr u))]
      simp [va_up]
    rw [e3] at e2
    have hag := gh_ag_up ad q hn
    have k2 := kk (va_up ad Wm.1.1.length q) H1 locs ls (by rw [gh_ag_tl hag]; exact gh_has_filter _ hl) ⟨by rw [e2]; exact g1, by rw [e2]; exact g2, g3⟩ (gh_wf_mk hwf _) hag (fun z => by omega) (by show Wm.1.1.length ≤ (Wm.1.1 ++ [_]).length; simp) h1 h2
    have e4 : (Value.ref Wm.1.1.length :: st).map (gh_tv (va_up ad Wm.1.1.length q)) = .ref q :: st.map (gh_tv ad) := by
      rw [List.map_cons, gh_ag_st hag hv]
      simp [gh_tv, va_up]
    rw [e4] at k2
    exact k2
  · simp only [gh_ck, Bool.and_eq_true, decide_eq_true_eq] at hck
    have hln := gh_be hck.1
    subst hln
    obtain ⟨hv, hn, h9, rfl⟩ := gh_lifv_inv h
    obtain ⟨n, r, rfl, h1, h2, h3, h4, h5, rfl, rfl, rfl⟩ := gh_newa_inv h9
    have ha : ∀ cA : ClassId, vp_cell cA (gh_ae (gh_mk Wm.1 (.inl (u, n.toNatClampNeg))) Wm.1.1.length u n.toNatClampNeg) = arrV cA n.toNatClampNeg (fun _ => defaultValue (gh_ty u)) := by
      intro cA
      rw [gh_ae_mk]
      match u, h5 with
      | 0, _ => rfl
      | 1, _ => rfl
      | 2, _ => rfl
      | 3, _ => rfl
    have hbytes : n.toNatClampNeg * componentBytes (gh_ty u) ≤ 536870912 := by
      have : componentBytes (gh_ty u) ≤ 8 := by
        match u, h5 with
        | 0, _ => decide
        | 1, _ => decide
        | 2, _ => decide
        | 3, _ => decide
      calc n.toNatClampNeg * componentBytes (gh_ty u) ≤ 1000 * 8 := Nat.mul_le_mul h2 this
        _ ≤ 536870912 := by decide
    refine va_newa (D := D) (cl := vwCl) (ws := gh_ws ad ca Wm.1) hx hb (by rw [hck.2]; exact hts _ (gh_w_ac u h5)) hck.2 hX.1 hW.1 hW.2.1 hW.2.2 hA ha h1 rfl hbytes (by omega) (by omega) hd (fun q cA H1 g0 g1 g2 g3 => ?_)
    have ec : cA = ca u := by
      have a1 := (g0.2 4 (cA, gh_ty u) rfl).2
      have a2 := (hX.1.2 u _ (gh_tys_get u h5)).2
      match u, h5, a1, a2 with
      | 0, _, a1, a2 => exact Option.some.inj (a1.symm.trans a2)
      | 1, _, a1, a2 => exact Option.some.inj (a1.symm.trans a2)
      | 2, _, a1, a2 => exact Option.some.inj (a1.symm.trans a2)
      | 3, _, a1, a2 => exact Option.some.inj (a1.symm.trans a2)
    subst ec
    have e2 := gh_ws_mk (ad := ad) (ca := ca) hwf (.inl (u, n.toNatClampNeg)) q
    have e3 : gh_ent (va_up ad Wm.1.1.length q) ca (gh_mk Wm.1 (.inl (u, n.toNatClampNeg))) Wm.1.1.length (.inl (u, n.toNatClampNeg)) = (q, .inl (ca u, gh_ae (gh_mk Wm.1 (.inl (u, n.toNatClampNeg))) Wm.1.1.length u n.toNatClampNeg)) := by
      simp [gh_ent, va_up]
    rw [e3] at e2
    have hag := gh_ag_up ad q hn
    have hvr : r.all (gh_vv Wm.1.1.length) = true := by
      rw [List.all_cons] at hv
      exact gh_b2 hv
    have k2 := kk (va_up ad Wm.1.1.length q) H1 locs ls (by rw [gh_ag_tl hag]; exact gh_has_filter _ hl) ⟨by rw [e2]; exact g1, by rw [e2]; exact g2, g3⟩ (gh_wf_mk hwf _) hag (fun z => by omega) (by show Wm.1.1.length ≤ (Wm.1.1 ++ [_]).length; simp) h3 h4
    have e4 : (Value.ref Wm.1.1.length :: r).map (gh_tv (va_up ad Wm.1.1.length q)) = .ref q :: r.map (gh_tv ad) := by
      rw [List.map_cons, gh_ag_st hag hvr]
      simp [gh_tv, va_up]
    rw [e4] at k2
    exact k2
  · simp only [gh_ck, Bool.and_eq_true] at hck
    have hln := gh_be hck.1
    subst hln
    have hq := hck.2
    obtain ⟨hv, hn, h9, rfl⟩ := gh_lifv_inv h
    cases hu : Nat.beq u 2000 with
    | true =>
      have hu2 := gh_be hu
      subst hu2
      rw [hu] at hq
      have hq : gh_xlt.contains (o, _, 2000) = true := hq
      have h8 : gh_oi pc st Wm = some (.inl (pc', st', W')) := h9
      obtain ⟨q, r, rfl, h1, rfl, rfl, rfl⟩ := gh_oi_inv h8
      exact W.objInit hx hb hown (hts _ (gh_xlt_ok (o, _, 2000) (gh_bc3 hq))) (hts _ gh_w_oi) (hts _ gh_w_oc) rfl (by rw [hml]; exact hl.1) rfl hd (by omega) (by
        have h7 := gh_rm_le h1
        have h6 := lv_room (m := m) (pc := pc) (ls := ls) (rest := (Value.ref q :: st').map (gh_tv ad)) (st := st'.map (gh_tv ad)) (by rw [gh_cat]; exact h7)
        omega) (kk ad H locs ls (gh_has_filter _ hl) hW hwf (fun _ _ => rfl) (fun _ => rfl) (Nat.le_refl _) hcs.1 hcs.2)
    | false =>
      rw [hu] at hq
      simp only [cond_false, Bool.and_eq_true, Bool.or_eq_true] at hq
      exact gh_snd_spe hC hd (gh_bl hq.1.1.1) (gh_be hq.1.1.2) (gh_be hq.1.2) (hq.2.imp gh_bc3 gh_bc4) h9 hv hl.1 hW hwf had hR hO (fun ad' H' locs' hag h0 hW' hwf' hle c1 c2 => kk ad' H' locs' ls (by rw [gh_ag_tl hag]; exact gh_has_filter _ hl) hW' hwf' hag h0 hle c1 c2)
  · obtain ⟨h9, rfl⟩ := gh_lift_inv h
    exact gh_snd_rest hC hd hck h9 hl.1 hW hwf hsc hini had hR hcs hO (fun H' locs' hW' hwf' hle c1 c2 => kk ad H' locs' ls hl hW' hwf' (fun _ _ => rfl) (fun _ => rfl) hle c1 c2)
end GhStep
end
section
/-! ===== what a step keeps of the memory's form ===== -/
def gh_kp (O : gh_O) : Prop := ∀ z As M y M', O z As M = some (y, M') → gh_wf M → gh_wf M' ∧ M.1.length ≤ M'.1.length ∧ (∀ x, y = some x → (∃ i, x = .int i) ∨ ∃ i, x = .long i)
theorem gh_cal_kp {O : gh_O} (hO : gh_kp O) {bc bs u pc : Nat} {As r : List Value} {W : gh_W} {pc' : Nat} {st' : List Value} {W' : gh_W} (hw : gh_wf W.1) (h : gh_cal O bc bs u pc As r W = some (.inl (pc', st', W'))) : gh_wf W'.1 ∧ W.1.1.length ≤ W'.1.1.length := by
  obtain ⟨-, -, -, -, y, M', hOz, -, rfl⟩ := gh_cal_inv h
  obtain ⟨h1, h2, -⟩ := hO _ _ _ _ _ hOz hw
  exact ⟨h1, h2⟩
theorem gh_cal_nr {O : gh_O} {bc bs u pc : Nat} {As r : List Value} {W : gh_W} {y : gh_R} (h : gh_cal O bc bs u pc As r W = some (.inr y)) : False := by
  unfold gh_cal at h
  obtain ⟨-, h⟩ := gh_bif h
  split at h
  · exact gh_k_nr h
  · exact gh_k_nr h
  · cases h
theorem gh_rest_kp {O : gh_O} (hO : gh_kp O) {bc bs : Nat} {sc : Option (Nat × (Nat → Int32))} {zr ini : Bool} {i : Instr} {u v : Nat} {w : Int32} {x : Int64} {pc : Nat} {st : List Value} {Wm W' : gh_W} {pc' : Nat} {st' : List Value} (hw : gh_wf Wm.1)
    (h : gh_rest O bc bs sc zr ini i u v w x pc st Wm = some (.inl (pc', st', W'))) : gh_wf W'.1 ∧ Wm.1.1.length ≤ W'.1.1.length := by
  have same : W' = Wm → gh_wf W'.1 ∧ Wm.1.1.length ≤ W'.1.1.length := fun e => by rw [e]; exact ⟨hw, Nat.le_refl _⟩
  unfold gh_rest at h
  split at h
  · exact same (gh_k_inv h).2.2
  · exact same (gh_k_inv h).2.2
  · exact same (gh_k_inv h).2.2
  · exact same (gh_k_inv h).2.2
  · cases hv : Nat.beq v 0 <;> rw [hv] at h <;> exact same (gh_k_inv h).2.2
  · exact same (gh_k_inv h).2.2
  · exact same (gh_k_inv h).2.2
  · obtain ⟨_, _, _, _, _, _, q⟩ := gh_ii_inv h
    exact same q
  · obtain ⟨_, _, _, _, _, _, q⟩ := gh_ii_inv h
    exact same q
  · obtain ⟨_, _, _, _, _, _, q⟩ := gh_ii_inv h
    exact same q
  · obtain ⟨_, _, _, _, _, _, q⟩ := gh_ii_inv h
    exact same q
  · obtain ⟨_, _, _, _, _, _, q⟩ := gh_ii_inv h
    exact same q
  · obtain ⟨_, _, _, _, _, _, q⟩ := gh_ii_inv h
    exact same q
  · obtain ⟨_, _, _, _, _, _, q⟩ := gh_ii_inv h
    exact same q
  · obtain ⟨_, _, _, _, _, _, q⟩ := gh_ii_inv h
    exact same q
  · obtain ⟨_, _, _, _, _, _, q⟩ := gh_ii_inv h
    exact same q
  · obtain ⟨_, _, _, _, _, _, _, q⟩ := gh_iid_inv h
    exact same q
  · obtain ⟨_, _, _, _, _, _, _, q⟩ := gh_iid_inv h
    exact same q
  · obtain ⟨_, _, _, _, _, q⟩ := gh_i_inv h
    exact same q
  · obtain ⟨_, _, _, _, _, q⟩ := gh_i_inv h
    exact same q
  · obtain ⟨_, _, _, _, _, _, q⟩ := gh_jj_inv h
    exact same q
  · obtain ⟨_, _, _, _, _, _, q⟩ := gh_jj_inv h
    exact same q
  · obtain ⟨_, _, _, _, _, _, q⟩ := gh_jj_inv h
    exact same q
  · obtain ⟨_, _, _, _, _, _, _, q⟩ := gh_jjd_inv h
    exact same q
  · obtain ⟨_, _, _, _, _, _, q⟩ := gh_lcmp_inv h
    exact same q
  · obtain ⟨_, _, _, _, _, q⟩ := gh_i2l_inv h
    exact same q
  · obtain ⟨_, _, _, _, _, q⟩ := gh_l2i_inv h
    exact same q
  · obtain ⟨_, _, _, _, _, _, q⟩ := gh_dup_inv h
    exact same q
  · rcases gh_dup2_inv h with ⟨_, _, _, _, _, q⟩ | ⟨_, _, _, _, _, _, q⟩ <;> exact same q
  · obtain ⟨_, _, _, _, _, q⟩ := gh_pop_inv h
    exact same q
  · obtain ⟨_, _, _, _, _, q⟩ := gh_if_inv h
    exact same q
  · obtain ⟨_, _, _, _, _, _, q⟩ := gh_icmp_inv h
    exact same q
  · exact same (gh_k_inv h).2.2
  · obtain ⟨_, _, _, _, q, _⟩ := gh_tab_inv h
    exact same q
  · obtain ⟨_, _, _, _, q, _⟩ := gh_luk_inv h
    exact same q
  · obtain ⟨_, _, _, _, _, _, _, _, _, _, q⟩ := gh_get_inv h
    exact same q
  · obtain ⟨y, q, r, rfl, h1, h2, rfl, rfl, h3⟩ := gh_put_inv h
    rcases h3 with ⟨a, h4, rfl, rfl⟩ | ⟨a, h4, rfl, rfl⟩ | ⟨a, h4, rfl, h5, rfl⟩ | ⟨a, h4, rfl, h5, rfl⟩
    · exact ⟨gh_wf_mI hw _ _, Nat.le_refl _⟩
    · exact ⟨gh_wf_mL hw _ _, Nat.le_refl _⟩
    · exact ⟨gh_wf_mR hw _ _ _ h5, Nat.le_refl _⟩
    · exact ⟨gh_wf_mI hw _ _, Nat.le_refl _⟩
  · obtain ⟨_, _, _, _, _, q, _⟩ := gh_iald_inv h
    exact same q
  · obtain ⟨_, _, _, _, _, _, q, _⟩ := gh_lald_inv h
    exact same q
  · obtain ⟨_, _, _, _, _, _, q, _⟩ := gh_bald_inv h
    exact same q
  · obtain ⟨_, _, _, _, _, _, _, _, _, _, rfl⟩ := gh_iast_inv h
    exact ⟨gh_wf_mI hw _ _, Nat.le_refl _⟩
  · obtain ⟨_, _, _, _, _, _, _, _, _, _, rfl⟩ := gh_last_inv h
    exact ⟨gh_wf_mL hw _ _, Nat.le_refl _⟩
  · obtain ⟨_, _, _, _, _, _, _, _, _, hq⟩ := gh_bast_inv h
    rcases hq with ⟨_, rfl⟩ | ⟨_, rfl⟩ <;> exact ⟨gh_wf_mI hw _ _, Nat.le_refl _⟩
  · obtain ⟨_, _, _, _, q, _⟩ := gh_alen_inv h
    exact same q
  · unfold gh_sta at h
    split at h
    · obtain ⟨_, _, _, _, _, _, _, q⟩ := gh_mmx_inv h
      exact same q
    · obtain ⟨_, _, _, _, _, _, _, q⟩ := gh_mmn_inv h
      exact same q
    · obtain ⟨_, _, _, _, _, _, _, q⟩ := gh_mml_inv h
      exact same q
    · obtain ⟨_, _, _, _, _, _, _, _, _, _, _, _, _, _, _, _, _, _, _, rfl⟩ := gh_acp_inv h
      exact ⟨gh_wf_mI hw _ _, Nat.le_refl _⟩
    · exact gh_cal_kp hO hw (gh_ivs_inv h).2
  · unfold gh_vir at h
    split at h
    · obtain ⟨_, _, _, _, _, _, _, _, q⟩ := gh_sln_inv h
      exact same q
    · obtain ⟨_, _, _, _, _, _, _, _, _, _, q⟩ := gh_sch_inv h
      exact same q
    · obtain ⟨_, _, _, _, _, h2⟩ := gh_ivv_inv h
      exact gh_cal_kp hO hw h2
  · (try unfold gh_ire at h)
    (try unfold gh_lre at h)
    (try unfold gh_vre at h)
    split at h
    · first | (cases h; done) | (obtain ⟨-, h⟩ := gh_bif h; cases h)
    · cases h
  · (try unfold gh_ire at h)
    (try unfold gh_lre at h)
    (try unfold gh_vre at h)
    split at h
    · first | (cases h; done) | (obtain ⟨-, h⟩ := gh_bif h; cases h)
    · cases h
  · (try unfold gh_ire at h)
    (try unfold gh_lre at h)
    (try unfold gh_vre at h)
    split at h
    · first | (cases h; done) | (obtain ⟨-, h⟩ := gh_bif h; cases h)
    · cases h
  · cases h
/-- what a return tells: nothing of the memory changed -/
theorem gh_rest_ret {O : gh_O} {bc bs : Nat} {sc : Option (Nat × (Nat → Int32))} {zr ini : Bool} {i : Instr} {u v : Nat} {w : Int32} {x : Int64} {pc : Nat} {st : List Value} {Wm : gh_W} {r : gh_R}
    (h : gh_rest O bc bs sc zr ini i u v w x pc st Wm = some (.inr r)) : r.2 = Wm ∧ ((i = .ireturn ∧ ∃ y, st = [.int y] ∧ r.1 = some (.int y) ∧ (zr = true → gh_isB y = true)) ∨ (i = .lreturn ∧ ∃ y, st = [.long y] ∧ r.1 = some (.long y)) ∨ (i = .return_ ∧ st = [] ∧ r.1 = none)) := by
  unfold gh_rest at h
  split at h
  · exact (gh_k_nr h).elim
  · exact (gh_k_nr h).elim
  · exact (gh_k_nr h).elim
  · exact (gh_k_nr h).elim
  · cases hv : Nat.beq v 0 <;> rw [hv] at h <;> exact (gh_k_nr h).elim
  · exact (gh_k_nr h).elim
  · exact (gh_k_nr h).elim
  · unfold gh_ii at h
    (repeat' (split at h)) <;> first | exact (gh_k_nr h).elim | (cases h; done) | (obtain ⟨-, h⟩ := gh_bif h; exact (gh_k_nr h).elim)
  · unfold gh_ii at h
    (repeat' (split at h)) <;> first | exact (gh_k_nr h).elim | (cases h; done) | (obtain ⟨-, h⟩ := gh_bif h; exact (gh_k_nr h).elim)
  · unfold gh_ii at h
    (repeat' (split at h)) <;> first | exact (gh_k_nr h).elim | (cases h; done) | (obtain ⟨-, h⟩ := gh_bif h; exact (gh_k_nr h).elim)
  · unfold gh_ii at h
    (repeat' (split at h)) <;> first | exact (gh_k_nr h).elim | (cases h; done) | (obtain ⟨-, h⟩ := gh_bif h; exact (gh_k_nr h).elim)
  · unfold gh_ii at h
    (repeat' (split at h)) <;> first | exact (gh_k_nr h).elim | (cases h; done) | (obtain ⟨-, h⟩ := gh_bif h; exact (gh_k_nr h).elim)
  · unfold gh_ii at h
    (repeat' (split at h)) <;> first | exact (gh_k_nr h).elim | (cases h; done) | (obtain ⟨-, h⟩ := gh_bif h; exact (gh_k_nr h).elim)
  · unfold gh_ii at h
    (repeat' (split at h)) <;> first | exact (gh_k_nr h).elim | (cases h; done) | (obtain ⟨-, h⟩ := gh_bif h; exact (gh_k_nr h).elim)
  · unfold gh_ii at h
    (repeat' (split at h)) <;> first | exact (gh_k_nr h).elim | (cases h; done) | (obtain ⟨-, h⟩ := gh_bif h; exact (gh_k_nr h).elim)
  · unfold gh_ii at h
    (repeat' (split at h)) <;> first | exact (gh_k_nr h).elim | (cases h; done) | (obtain ⟨-, h⟩ := gh_bif h; exact (gh_k_nr h).elim)
  · unfold gh_iid at h
    (repeat' (split at h)) <;> first | exact (gh_k_nr h).elim | (cases h; done) | (obtain ⟨-, h⟩ := gh_bif h; exact (gh_k_nr h).elim)
  · unfold gh_iid at h
    (repeat' (split at h)) <;> first | exact (gh_k_nr h).elim | (cases h; done) | (obtain ⟨-, h⟩ := gh_bif h; exact (gh_k_nr h).elim)
  · unfold gh_i at h
    (repeat' (split at h)) <;> first | exact (gh_k_nr h).elim | (cases h; done) | (obtain ⟨-, h⟩ := gh_bif h; exact (gh_k_nr h).elim)
  · unfold gh_i at h
    (repeat' (split at h)) <;> first | exact (gh_k_nr h).elim | (cases h; done) | (obtain ⟨-, h⟩ := gh_bif h; exact (gh_k_nr h).elim)
  · unfold gh_jj at h
    (repeat' (split at h)) <;> first | exact (gh_k_nr h).elim | (cases h; done) | (obtain ⟨-, h⟩ := gh_bif h; exact (gh_k_nr h).elim)
  · unfold gh_jj at h
    (repeat' (split at h)) <;> first | exact (gh_k_nr h).elim | (cases h; done) | (obtain ⟨-, h⟩ := gh_bif h; exact (gh_k_nr h).elim)
  · unfold gh_jj at h
    (repeat' (split at h)) <;> first | exact (gh_k_nr h).elim | (cases h; done) | (obtain ⟨-, h⟩ := gh_bif h; exact (gh_k_nr h).elim)
  · unfold gh_jjd at h
    (repeat' (split at h)) <;> first | exact (gh_k_nr h).elim | (cases h; done) | (obtain ⟨-, h⟩ := gh_bif h; exact (gh_k_nr h).elim)
  · unfold gh_lcmp at h
    (repeat' (split at h)) <;> first | exact (gh_k_nr h).elim | (cases h; done) | (obtain ⟨-, h⟩ := gh_bif h; exact (gh_k_nr h).elim)
  · unfold gh_i2l at h
    (repeat' (split at h)) <;> first | exact (gh_k_nr h).elim | (cases h; done) | (obtain ⟨-, h⟩ := gh_bif h; exact (gh_k_nr h).elim)
  · unfold gh_l2i at h
    (repeat' (split at h)) <;> first | exact (gh_k_nr h).elim | (cases h; done) | (obtain ⟨-, h⟩ := gh_bif h; exact (gh_k_nr h).elim)
  · unfold gh_dup at h
    (repeat' (split at h)) <;> first | exact (gh_k_nr h).elim | (cases h; done) | (obtain ⟨-, h⟩ := gh_bif h; exact (gh_k_nr h).elim)
  · unfold gh_dup2 at h
    (repeat' (split at h)) <;> first | exact (gh_k_nr h).elim | (cases h; done) | (obtain ⟨-, h⟩ := gh_bif h; exact (gh_k_nr h).elim)
  · unfold gh_pop at h
    (repeat' (split at h)) <;> first | exact (gh_k_nr h).elim | (cases h; done) | (obtain ⟨-, h⟩ := gh_bif h; exact (gh_k_nr h).elim)
  · unfold gh_if at h
    split at h
    · cases hc : gh_cmp _ _ _ <;> rw [hc] at h <;> exact (gh_k_nr h).elim
    · cases h
  · unfold gh_icmp at h
    split at h
    · cases hc : gh_cmp _ _ _ <;> rw [hc] at h <;> exact (gh_k_nr h).elim
    · cases h
  · exact (gh_k_nr h).elim
  · unfold gh_tab gh_to at h
    (repeat' (split at h)) <;> first | exact (gh_k_nr h).elim | cases h
  · unfold gh_luk gh_to at h
    (repeat' (split at h)) <;> first | exact (gh_k_nr h).elim | cases h
  · unfold gh_get at h
    split at h
    · split at h
      · obtain ⟨-, h⟩ := gh_bif h
        (repeat' (split at h)) <;> first | exact (gh_k_nr h).elim | cases h
      · cases h
    · cases h
  · unfold gh_put at h
    split at h
    · split at h
      · obtain ⟨-, h⟩ := gh_bif h
        split at h
        · exact (gh_k_nr h).elim
        · exact (gh_k_nr h).elim
        · cases hb : Nat.blt _ Wm.1.1.length <;> rw [hb] at h <;> first | exact (gh_k_nr h).elim | cases h
        · obtain ⟨-, h⟩ := gh_bif h
          exact (gh_k_nr h).elim
        · cases h
      · cases h
    · cases h
  · unfold gh_iald at h
    (repeat' (split at h)) <;> first | exact (gh_k_nr h).elim | (cases h; done) | (obtain ⟨-, h⟩ := gh_bif h; exact (gh_k_nr h).elim)
  · unfold gh_lald at h
    (repeat' (split at h)) <;> first | exact (gh_k_nr h).elim | (cases h; done) | (obtain ⟨-, h⟩ := gh_bif h; exact (gh_k_nr h).elim)
  · unfold gh_bald at h
    (repeat' (split at h)) <;> first | exact (gh_k_nr h).elim | (cases h; done) | (obtain ⟨-, h⟩ := gh_bif h; exact (gh_k_nr h).elim)
  · unfold gh_iast at h
    (repeat' (split at h)) <;> first | exact (gh_k_nr h).elim | (cases h; done) | (obtain ⟨-, h⟩ := gh_bif h; exact (gh_k_nr h).elim)
  · unfold gh_last at h
    (repeat' (split at h)) <;> first | exact (gh_k_nr h).elim | (cases h; done) | (obtain ⟨-, h⟩ := gh_bif h; exact (gh_k_nr h).elim)
  · unfold gh_bast at h
    (repeat' (split at h)) <;> first | exact (gh_k_nr h).elim | (cases h; done) | (obtain ⟨-, h⟩ := gh_bif h; exact (gh_k_nr h).elim)
  · unfold gh_alen at h
    (repeat' (split at h)) <;> first | exact (gh_k_nr h).elim | (cases h; done) | (obtain ⟨-, h⟩ := gh_bif h; exact (gh_k_nr h).elim)
  · unfold gh_sta at h
    split at h
    · unfold gh_mmx at h
      (repeat' (split at h)) <;> first | exact (gh_k_nr h).elim | (cases h; done) | (obtain ⟨-, h⟩ := gh_bif h; exact (gh_k_nr h).elim)
    · unfold gh_mmn at h
      (repeat' (split at h)) <;> first | exact (gh_k_nr h).elim | (cases h; done) | (obtain ⟨-, h⟩ := gh_bif h; exact (gh_k_nr h).elim)
    · unfold gh_mml at h
      (repeat' (split at h)) <;> first | exact (gh_k_nr h).elim | (cases h; done) | (obtain ⟨-, h⟩ := gh_bif h; exact (gh_k_nr h).elim)
    · unfold gh_acp at h
      (repeat' (split at h)) <;> first | exact (gh_k_nr h).elim | (cases h; done) | (obtain ⟨-, h⟩ := gh_bif h; exact (gh_k_nr h).elim)
    · exact (gh_cal_nr (gh_ivs_inv h).2).elim
  · unfold gh_vir at h
    split at h
    · unfold gh_sln at h
      (repeat' (split at h)) <;> first | exact (gh_k_nr h).elim | (cases h; done) | (obtain ⟨-, h⟩ := gh_bif h; exact (gh_k_nr h).elim)
    · unfold gh_sch at h
      (repeat' (split at h)) <;> first | exact (gh_k_nr h).elim | (cases h; done) | (obtain ⟨-, h⟩ := gh_bif h; exact (gh_k_nr h).elim)
    · obtain ⟨_, _, _, _, _, h2⟩ := gh_ivv_inv h
      exact (gh_cal_nr h2).elim
  · unfold gh_ire at h
    split at h
    · rename_i y
      obtain ⟨hb, h⟩ := gh_bif h
      cases h
      refine ⟨rfl, Or.inl ⟨rfl, y, rfl, rfl, fun hz => ?_⟩⟩
      rw [hz] at hb
      simpa using hb
    · cases h
  · unfold gh_lre at h
    split at h
    · rename_i y
      cases h
      exact ⟨rfl, Or.inr (Or.inl ⟨rfl, y, rfl, rfl⟩)⟩
    · cases h
  · unfold gh_vre at h
    split at h
    · cases h
      exact ⟨rfl, Or.inr (Or.inr ⟨rfl, rfl, rfl⟩)⟩
    · cases h
  · cases h
theorem gh_stp_kp {O : gh_O} (hO : gh_kp O) {bc bs : Nat} {sc : Option (Nat × (Nat → Int32))} {zr ini : Bool} {i : Instr} {u v : Nat} {w : Int32} {x : Int64} {pc : Nat} {lv lv' : gh_L} {st : List Value} {Wm W' : gh_W} {pc' : Nat} {st' : List Value} (hw : gh_wf Wm.1)
    (h : gh_stp O bc bs sc zr ini i u v w x pc lv st Wm = some (.inl (pc', lv', st', W'))) : gh_wf W'.1 ∧ Wm.1.1.length ≤ W'.1.1.length := by
  have same : W' = Wm → gh_wf W'.1 ∧ Wm.1.1.length ≤ W'.1.1.length := fun e => by rw [e]; exact ⟨hw, Nat.le_refl _⟩
  unfold gh_stp at h
  split at h
  iterate 5
    · first | unfold gh_il at h | unfold gh_jl at h | unfold gh_al at h
      split at h
      · exact same (gh_go_inv h).2.2.2
      · cases h
  iterate 5
    · first | unfold gh_is at h | unfold gh_js at h | unfold gh_as at h
      split at h
      · exact same (gh_go_inv h).2.2.2
      · cases h
  · unfold gh_inc at h
    split at h
    · exact same (gh_go_inv h).2.2.2
    · cases h
  · obtain ⟨-, -, h2, -⟩ := gh_lifv_inv h
    obtain ⟨-, -, -, -, -, rfl⟩ := gh_new_inv h2
    exact ⟨gh_wf_mk hw _, by show Wm.1.1.length ≤ (Wm.1.1 ++ [_]).length; simp⟩
  · obtain ⟨-, -, h2, -⟩ := gh_lifv_inv h
    obtain ⟨_, _, -, -, -, -, -, -, -, -, rfl⟩ := gh_newa_inv h2
    exact ⟨gh_wf_mk hw _, by show Wm.1.1.length ≤ (Wm.1.1 ++ [_]).length; simp⟩
  · obtain ⟨-, -, h2, -⟩ := gh_lifv_inv h
    by_cases hu : u = 2000
    · subst hu
      have h3 : gh_oi pc st Wm = some (.inl (pc', st', W')) := h2
      obtain ⟨_, _, _, _, _, _, q⟩ := gh_oi_inv h3
      exact same q
    · obtain ⟨_, _, _, _, h3⟩ := gh_spe_inv hu h2
      exact gh_cal_kp hO hw h3
  · exact gh_rest_kp hO hw (gh_lift_inv h).1
theorem gh_stp_ret {O : gh_O} {bc bs : Nat} {sc : Option (Nat × (Nat → Int32))} {zr ini : Bool} {i : Instr} {u v : Nat} {w : Int32} {x : Int64} {pc : Nat} {lv : gh_L} {st : List Value} {Wm : gh_W} {r : gh_R}
    (h : gh_stp O bc bs sc zr ini i u v w x pc lv st Wm = some (.inr r)) : r.2 = Wm ∧ ((i = .ireturn ∧ ∃ y, st = [.int y] ∧ r.1 = some (.int y) ∧ (zr = true → gh_isB y = true)) ∨ (i = .lreturn ∧ ∃ y, st = [.long y] ∧ r.1 = some (.long y)) ∨ (i = .return_ ∧ st = [] ∧ r.1 = none)) := by
  unfold gh_stp at h
  split at h
  iterate 5
    · first | unfold gh_il at h | unfold gh_jl at h | unfold gh_al at h
      split at h <;> cases h
  iterate 5
    · first | unfold gh_is at h | unfold gh_js at h | unfold gh_as at h
      split at h <;> cases h
  · unfold gh_inc at h
    split at h <;> cases h
  · unfold gh_lifv at h
    obtain ⟨-, h⟩ := gh_bif h
    have h2 := gh_lift_ret h
    unfold gh_new at h2
    obtain ⟨-, h2⟩ := gh_bif h2
    exact (gh_k_nr h2).elim
  · unfold gh_lifv at h
    obtain ⟨-, h⟩ := gh_bif h
    have h2 := gh_lift_ret h
    unfold gh_newa at h2
    split at h2
    · obtain ⟨-, h2⟩ := gh_bif h2
      exact (gh_k_nr h2).elim
    · cases h2
  · unfold gh_lifv at h
    obtain ⟨-, h⟩ := gh_bif h
    have h2 := gh_lift_ret h
    by_cases hu : u = 2000
    · subst hu
      have h3 : gh_oi pc st Wm = some (.inr r) := h2
      unfold gh_oi at h3
      split at h3
      · obtain ⟨-, h3⟩ := gh_bif h3
        exact (gh_k_nr h3).elim
      · cases h3
    · obtain ⟨_, _, _, _, h3⟩ := gh_spe_inv hu h2
      exact (gh_cal_nr h3).elim
  · exact gh_rest_ret (gh_lift_ret h)
theorem gh_run_kp {O : gh_O} (hO : gh_kp O) {f : Nat → Option gh_E} {bc bs : Nat} {sc : Option (Nat × (Nat → Int32))} {zr ini : Bool} : ∀ (n : Nat) (σ : gh_S) (r : gh_R), gh_wf σ.2.2.2.1 → gh_run O f bc bs sc zr ini n σ = some r → gh_wf r.2.1 ∧ σ.2.2.2.1.1.length ≤ r.2.1.1.length ∧ (∀ x, r.1 = some x → (∃ i, x = .int i) ∨ ∃ i, x = .long i) := by
  intro n
  induction n with
  | zero => intro σ r _ h; cases h
  | succ n ih =>
    intro σ r hw h
    obtain ⟨pc, lv, st, Wm⟩ := σ
    rw [gh_run] at h
    unfold gh_step at h
    split at h
    · rename_i τ hst
      split at hst
      · obtain ⟨pc', lv', st', W'⟩ := τ
        obtain ⟨h1, h2⟩ := gh_stp_kp hO hw hst
        obtain ⟨h3, h4, h5⟩ := ih _ _ h1 h
        exact ⟨h3, Nat.le_trans h2 h4, h5⟩
      · cases hst
    · rename_i r' hst
      cases h
      split at hst
      · obtain ⟨h1, h2⟩ := gh_stp_ret hst
        refine ⟨by rw [h1]; exact hw, by rw [h1]; exact Nat.le_refl _, fun x hx => ?_⟩
        rcases h2 with ⟨-, y, -, h3, -⟩ | ⟨-, y, -, h3⟩ | ⟨-, -, h3⟩
        · rw [h3] at hx
          exact Or.inl ⟨y, (Option.some.inj hx).symm⟩
        · rw [h3] at hx
          exact Or.inr ⟨y, (Option.some.inj hx).symm⟩
        · rw [h3] at hx
          cases hx
      · cases hst
    · cases h
end
section
/-! ===== A RUN OF THE PURE MACHINE IS A RUN OF THE MACHINE; its methods keep their contracts ===== -/
section GhRun
variable {p : Program} {l : Launch} {e : Env} {R : Room} {s : State} {m : MethodId} {args : Array Value} {below : List Frame} {meth : Method} {c : Code} {Q : State → Prop} {cc : ByteArray} {nL o : Nat} {D : va_G} {ca : Nat → ClassId} {A : Nat → Prop} {rt : Option FieldType} {adK adV : Nat → Nat}
theorem gh_snd_run {d : Nat} {O : gh_O} {f : Nat → Option gh_E} {bc bs : Nat} {sc : Option (Nat × (Nat → Int32))} {zr ini : Bool} (C : gh_C p s m args c cc nL o D ca adK adV A)
    (hf : ∀ pc i len u v w x, f pc = some (i, len, u, v, w, x) → decode cc pc = .ok (i, len) ∧ gh_ck o nL rt pc i len u v w x = true) (hini : ini = true → meth.name = "<init>") (hR : d + 7 ≤ R.frames ∧ 60 * d + 460 ≤ R.locals ∧ R.cells = bc ∧ R.slots = bs) (hO : gh_Os l D ca adK adV d O) (hOk : gh_kp O)
    (ad0 : Nat → Nat) (n0 : Nat) (hsc : gh_Sc sc (ad0 gh_SC) A s) (had0 : gh_ad adK ad0) (res : gh_R)
    (hret : ∀ ad H locs pc ls, gh_Wd D ca A s ad res.2.1 H locs → gh_ag n0 ad0 ad → (bc = 0 → ad = ad0) → res.2.2.1 ≤ bc → res.2.2.2 ≤ bs →
      ((∃ y, decode cc pc = .ok (.ireturn, 1) ∧ (rt = some .int ∨ rt = some .boolean) ∧ res.1 = some (.int y) ∧ (zr = true → gh_isB y = true)) ∨ (∃ y, decode cc pc = .ok (.lreturn, 1) ∧ rt = some .long ∧ res.1 = some (.long y)) ∨ (decode cc pc = .ok (.return_, 1) ∧ rt = none ∧ res.1 = none)) →
      W p l e R s m args below meth c H locs res.2.2.1 res.2.2.2 Q (F0 m pc ls res.1.toList)) :
    ∀ (n : Nat) (pc : Nat) (lv : gh_L) (st : List Value) (Wm : gh_W) (ad : Nat → Nat) (H : Heap) (locs : List Loc) (ls : Array Slot), gh_run O f bc bs sc zr ini n (pc, lv, st, Wm) = some res → lv_has ls nL (gh_tl ad lv) → gh_Wd D ca A s ad Wm.1 H locs → gh_wf Wm.1 → gh_ag n0 ad0 ad → (bc = 0 → ad = ad0) → n0 ≤ Wm.1.1.length → Wm.2.1 ≤ bc → Wm.2.2 ≤ bs →
      W p l e R s m args below meth c H locs Wm.2.1 Wm.2.2 Q (F0 m pc ls (st.map (gh_tv ad))) := by
  intro n
  induction n with
  | zero => intro pc lv st Wm ad H locs ls h; cases h
  | succ n ih =>
    intro pc lv st Wm ad H locs ls h hl hW hwf hag h0 hn0 c1 c2
    have hsa : gh_Sc sc (ad gh_SC) A s := by
      rw [hag gh_SC (Or.inr (Nat.le_refl _))]
      exact hsc
    have had : gh_ad adK ad := ⟨(hag _ (Or.inr (by decide))).trans had0.1, (hag _ (Or.inr (by decide))).trans had0.2⟩
    rw [gh_run] at h
    unfold gh_step at h
    split at h
    · rename_i τ hst
      split at hst
      · rename_i i len u v w x hfp
        obtain ⟨pc', lv', st', W'⟩ := τ
        obtain ⟨hd, hck⟩ := hf _ _ _ _ _ _ _ hfp
        refine gh_snd_step C hd hck hst hl hW hwf hsa hini had hR ⟨c1, c2⟩ hO (fun ad' H' locs' ls' hl' hW' hwf' hag' h0' hle c1' c2' => ?_)
        exact ih pc' lv' st' W' ad' H' locs' ls' h hl' hW' hwf' (gh_ag_tr hn0 hag hag') (fun z => (h0' z).trans (h0 z)) (Nat.le_trans hn0 hle) c1' c2'
      · cases hst
    · rename_i r hst
      have hr : r = res := by cases h; rfl
      subst hr
      split at hst
      · rename_i i len u v w x hfp
        obtain ⟨hd, hck⟩ := hf _ _ _ _ _ _ _ hfp
        obtain ⟨hr2, hcs⟩ := gh_stp_ret hst
        have hr2 : r.2 = Wm := hr2
        have hcs : (i = .ireturn ∧ ∃ y, st = [.int y] ∧ r.1 = some (.int y) ∧ (zr = true → gh_isB y = true)) ∨ (i = .lreturn ∧ ∃ y, st = [.long y] ∧ r.1 = some (.long y)) ∨ (i = .return_ ∧ st = [] ∧ r.1 = none) := hcs
        have hd : decode cc pc = .ok (i, len) := hd
        rw [← hr2] at hW c1 c2
        rcases hcs with ⟨rfl, y, rfl, hy, hz⟩ | ⟨rfl, y, rfl, hy⟩ | ⟨rfl, rfl, hy⟩
        · simp only [gh_ck, Bool.and_eq_true, Bool.or_eq_true, decide_eq_true_eq] at hck
          have hl1 := gh_be hck.1
          subst hl1
          have k2 := hret ad H locs pc ls hW hag h0 c1 c2 (Or.inl ⟨y, hd, hck.2, hy, hz⟩)
          rw [hy, hr2] at k2
          exact k2
        · simp only [gh_ck, Bool.and_eq_true, decide_eq_true_eq] at hck
          have hl1 := gh_be hck.1
          subst hl1
          have k2 := hret ad H locs pc ls hW hag h0 c1 c2 (Or.inr (Or.inl ⟨y, hd, hck.2, hy⟩))
          rw [hy, hr2] at k2
          exact k2
        · simp only [gh_ck, Bool.and_eq_true, decide_eq_true_eq] at hck
          have hl1 := gh_be hck.1
          subst hl1
          have k2 := hret ad H locs pc ls hW hag h0 c1 c2 (Or.inr (Or.inr ⟨hd, hck.2, hy⟩))
          rw [hy, hr2] at k2
          exact k2
      · cases hst
    · cases h
end GhRun
def gh_zr (z : Nat) : Bool := match gh_rn z with
  | some .boolean => true
  | _ => false
/-- a method called: d calls deep at most, n steps a body at most; F: the methods' code -/
def gh_ex (F : Nat → Nat → Option gh_E) : Nat → Nat → gh_O
  | 0, _, _, _, _ => none
  | d + 1, n, z, As, M => bif Nat.blt z gh_NZ && Nat.ble (lg_sl As).length (gh_ln z) then (match gh_run (gh_ex F d n) (F z) (gh_bud z).1 (gh_bud z).2 none (gh_zr z) (Nat.beq (gh_kn z) 2) n (0, lv_args 0 As, [], (M, 0, 0)) with
    | some (y, W) => some (y, W.1)
    | none => none) else none
theorem gh_ex_inv {F : Nat → Nat → Option gh_E} {d n z : Nat} {As : List Value} {M : gh_M} {y : Option Value} {M' : gh_M} (h : gh_ex F (d + 1) n z As M = some (y, M')) : z < gh_NZ ∧ (lg_sl As).length ≤ gh_ln z ∧ ∃ k j, gh_run (gh_ex F d n) (F z) (gh_bud z).1 (gh_bud z).2 none (gh_zr z) (Nat.beq (gh_kn z) 2) n (0, lv_args 0 As, [], (M, 0, 0)) = some (y, (M', k, j)) := by
  rw [gh_ex] at h
  obtain ⟨hb, h⟩ := gh_bif h
  refine ⟨gh_bl (gh_b1 hb), Nat.le_of_ble_eq_true (gh_b2 hb), ?_⟩
  split at h
  · rename_i y' W hr
    cases h
    exact ⟨W.2.1, W.2.2, hr⟩
  · cases h
theorem gh_ex_kp (F : Nat → Nat → Option gh_E) : ∀ d n, gh_kp (gh_ex F d n) := by
  intro d
  induction d with
  | zero => intro n z As M y M' h; cases h
  | succ d ih =>
    intro n z As M y M' h hw
    obtain ⟨-, -, k, j, hr⟩ := gh_ex_inv h
    exact gh_run_kp (ih n) n _ _ hw hr
theorem gh_args_tl (ad : Nat → Nat) (As : List Value) : ∀ i, lv_args i (As.map (gh_tv ad)) = gh_tl ad (lv_args i As) := by
  induction As with
  | nil => intro i; rfl
  | cons v vs ih =>
    intro i
    simp only [List.map_cons, lv_args, gh_tv_cat, ih]
    rfl
theorem gh_sl_len (ad : Nat → Nat) (As : List Value) : (lg_sl (As.map (gh_tv ad))).length = (lg_sl As).length := by
  induction As with
  | nil => rfl
  | cons v vs ih =>
    simp only [lg_sl, List.map_cons, List.flatMap_cons, List.length_append, gh_tv_cat] at ih ⊢
    rw [ih]
    congr 1
    split <;> rfl
theorem gh_isB_nar {y : Int32} (h : gh_isB y = true) : narrow .boolean (.int y) = .int y := by
  have h6 : y = 0 ∨ y = 1 := by
    unfold gh_isB at h
    simpa using h
  rcases h6 with rfl | rfl <;> rfl
theorem gh_snd_ex {l : Launch} {D : va_G} {ca : Nat → ClassId} {adK adV : Nat → Nat} {F : Nat → Nat → Option gh_E} (hF : ∀ z, z < gh_NZ → ∀ pc i len u v w x, F z pc = some (i, len, u, v, w, x) → decode (gh_cn z) pc = .ok (i, len) ∧ gh_ck (gh_oc z) (gh_ln z) (gh_rn z) pc i len u v w x = true) : ∀ d n, gh_Os l D ca adK adV d (gh_ex F d n) := by
  intro d
  induction d with
  | zero => intro n z As M y M' hz h; cases h
  | succ d ih =>
    intro n z As M y M' hz h hwf
    obtain ⟨k1, k2, k3⟩ := gh_ex_kp F (d + 1) n _ _ _ _ _ h hwf
    refine ⟨k1, k2, k3, fun ad sz => ?_⟩
    obtain ⟨-, hsl, k, j, hrun⟩ := gh_ex_inv h
    obtain ⟨f1, f2, f3, f4, f5, f6, f7, f8⟩ := gh_mfacts hz
    unfold gh_Met
    refine Met.ofW (cc := gh_cn z) (maxL := gh_ln z) (ret := gh_rn z) f4 rfl ?_
    intro p e s m args below meth c s₁ B hml hv
    obtain ⟨rfl, hsz, hP, hX, hD0, hJ, had⟩ := hv
    have hx := B.exec
    have hb := B.bytes
    have hr := B.returns
    have hts0 := atoms_spec (ws := .code (gh_yn z) (gh_cn z) (gh_ln z) (gh_rn z) :: gh_tbl) B.pre
    have hts : ∀ w ∈ gh_tbl, w.before ((As.map (gh_tv ad)).toArray) s = true := fun w hw => hts0 w (List.mem_cons_of_mem _ hw)
    have hown : s.vm.findClass (gh_Rn (gh_oc z)) = some m.cls := by
      rw [← f2]
      exact findClass_of_methodNamed B.named
    have hlocks := B.notSynchronized
    have hnm : meth.name = (gh_yn z).name := (name_of_methodNamed B.named B.method).1
    have hini : Nat.beq (gh_kn z) 2 = true → meth.name = "<init>" := fun q => hnm.trans (f8 (gh_be q)).2.1
    subst hsz
    have hA : ∀ q : Nat, s.heap.size ≤ q → va_A (gh_ws ad ca M) s.heap.size q := fun q h => Or.inr h
    have hC : gh_C p s m (As.map (gh_tv ad)).toArray c (gh_cn z) (gh_ln z) (gh_oc z) D ca adK adV (va_A (gh_ws ad ca M) s.heap.size) := ⟨hx, hb, hml, hown, hts, hX, hA, hJ⟩
    have hl := lv_entry (As.map (gh_tv ad)) (n := gh_ln z) (by rw [gh_sl_len]; exact hsl)
    rw [lg_entry_eq]
    rw [gh_args_tl] at hl
    refine gh_snd_run (R := gh_rmz (d + 1) z) (rt := gh_rn z) hC (hF z hz) hini ⟨Nat.le_of_eq (by show d + 7 = d + 1 + 6; omega), by show 60 * d + 460 ≤ 60 * (d + 1) + 400; omega, rfl, rfl⟩ (ih n) (gh_ex_kp F d n) ad M.1.length (fun L xs q => by cases q) had (y, (M', k, j)) ?_ n 0 (lv_args 0 As) [] (M, 0, 0) ad s.heap [] _ hrun hl ⟨hP, hD0.self, va_S.rf⟩ hwf (fun _ _ => rfl) (fun _ => rfl) (Nat.le_refl _) (Nat.zero_le _) (Nat.zero_le _)
    intro ad' H locs pc ls hW hag h0 c1 c2 hcs
    have hBt : ∀ t : State, t.heap = H → gh_B D ca z ad s.heap.size M M' ad' t := fun t ht => ⟨by rw [ht]; exact hW.1, hW.2.1, hag, h0⟩
    refine W.widen (k := (gh_bud z).1) (n := (gh_bud z).2) c1 c2 ?_
    rcases hcs with ⟨r, hd, hrt, hy, hz1⟩ | ⟨r, hd, hrt, hy⟩ | ⟨hd, hrt, hy⟩
    · have hy : y = some (.int r) := hy
      subst hy
      rcases hrt with hrt | hrt
      · rw [hrt] at hr
        exact W.iret hx hb hr (fun t ht hWm => ⟨⟨r, ad', rfl, rfl, hBt t ht⟩, hW.2.2.F ht⟩) hW.2.2.2.2 hd
      · rw [hrt] at hr
        exact W.zret hx hb hr (gh_isB_nar (hz1 (by unfold gh_zr; rw [hrt]))) (fun t ht hWm => ⟨⟨r, ad', rfl, rfl, hBt t ht⟩, hW.2.2.F ht⟩) hW.2.2.2.2 hd
    · have hy : y = some (.long r) := hy
      subst hy
      rw [hrt] at hr
      exact W.lret hx hb hr (fun t ht hWm => ⟨⟨r, ad', rfl, rfl, hBt t ht⟩, hW.2.2.F ht⟩) hW.2.2.2.2 hd
    · have hy : y = none := hy
      subst hy
      rw [hrt] at hr
      exact W.vret hx hb hr (fun t ht hWm => ⟨⟨ad', rfl, trivial, hBt t ht⟩, hW.2.2.F ht⟩) hW.2.2.2.2 hd
end

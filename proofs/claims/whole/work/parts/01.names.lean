-- ===== PART A: goes FIRST, ahead of the names: the tables' words, and 'selects' of the private methods out of them =====
/-- a private method of a class that the tables say can be made, by its rows of tables_1 -/
def lw_okq (q : MethodName × Nat) : Prop := (q.1.cls ≠ "java/lang/invoke/MethodHandle" ∧ q.1.cls ≠ "java/lang/invoke/VarHandle") ∧ Cond.instantiable q.1.cls q.2 ∈ tables_1 ∧ Cond.privateMethod q.1 ∈ tables_1 ∧ Cond.instanceMethod q.1 ∈ tables_1
theorem lw_p0 : lw_okq (⟨"GrainHouse$Net", "spread", "(III)V"⟩, 10) := ⟨⟨by decide +kernel, by decide +kernel⟩, List.mem_of_getElem? (i := 77) (by decide +kernel), List.mem_of_getElem? (i := 440) (by decide +kernel), List.mem_of_getElem? (i := 441) (by decide +kernel)⟩
theorem lw_p1 : lw_okq (⟨"GrainHouse$Net", "costOf", "(II)I"⟩, 10) := ⟨⟨by decide +kernel, by decide +kernel⟩, List.mem_of_getElem? (i := 77) (by decide +kernel), List.mem_of_getElem? (i := 444) (by decide +kernel), List.mem_of_getElem? (i := 445) (by decide +kernel)⟩
theorem lw_p2 : lw_okq (⟨"GrainHouse$Net", "spreadOver", "(IIIII)V"⟩, 10) := ⟨⟨by decide +kernel, by decide +kernel⟩, List.mem_of_getElem? (i := 77) (by decide +kernel), List.mem_of_getElem? (i := 448) (by decide +kernel), List.mem_of_getElem? (i := 449) (by decide +kernel)⟩
theorem lw_p3 : lw_okq (⟨"GrainHouse$Net", "trace", "(II)V"⟩, 10) := ⟨⟨by decide +kernel, by decide +kernel⟩, List.mem_of_getElem? (i := 77) (by decide +kernel), List.mem_of_getElem? (i := 455) (by decide +kernel), List.mem_of_getElem? (i := 456) (by decide +kernel)⟩
theorem lw_p4 : lw_okq (⟨"GrainHouse$Net", "firstLeg", "(IIII)I"⟩, 10) := ⟨⟨by decide +kernel, by decide +kernel⟩, List.mem_of_getElem? (i := 77) (by decide +kernel), List.mem_of_getElem? (i := 459) (by decide +kernel), List.mem_of_getElem? (i := 460) (by decide +kernel)⟩
theorem lw_p5 : lw_okq (⟨"GrainHouse$Rush", "sortIn", "(I)V"⟩, 12) := ⟨⟨by decide +kernel, by decide +kernel⟩, List.mem_of_getElem? (i := 119) (by decide +kernel), List.mem_of_getElem? (i := 524) (by decide +kernel), List.mem_of_getElem? (i := 525) (by decide +kernel)⟩
theorem lw_p6 : lw_okq (⟨"GrainHouse$Rush", "tryAll", "(IIII)V"⟩, 12) := ⟨⟨by decide +kernel, by decide +kernel⟩, List.mem_of_getElem? (i := 119) (by decide +kernel), List.mem_of_getElem? (i := 545) (by decide +kernel), List.mem_of_getElem? (i := 546) (by decide +kernel)⟩
theorem lw_p7 : lw_okq (⟨"GrainHouse$Rush", "takes", "(II)I"⟩, 12) := ⟨⟨by decide +kernel, by decide +kernel⟩, List.mem_of_getElem? (i := 119) (by decide +kernel), List.mem_of_getElem? (i := 555) (by decide +kernel), List.mem_of_getElem? (i := 556) (by decide +kernel)⟩
theorem lw_p8 : lw_okq (⟨"GrainHouse$Rush", "atLeast", "(II)I"⟩, 12) := ⟨⟨by decide +kernel, by decide +kernel⟩, List.mem_of_getElem? (i := 119) (by decide +kernel), List.mem_of_getElem? (i := 559) (by decide +kernel), List.mem_of_getElem? (i := 560) (by decide +kernel)⟩
theorem lw_p9 : lw_okq (⟨"GrainHouse$Rush", "setEmpty", "()V"⟩, 12) := ⟨⟨by decide +kernel, by decide +kernel⟩, List.mem_of_getElem? (i := 119) (by decide +kernel), List.mem_of_getElem? (i := 563) (by decide +kernel), List.mem_of_getElem? (i := 564) (by decide +kernel)⟩
theorem lw_p10 : lw_okq (⟨"GrainHouse$FanPlan", "cheapest", "()Z"⟩, 15) := ⟨⟨by decide +kernel, by decide +kernel⟩, List.mem_of_getElem? (i := 167) (by decide +kernel), List.mem_of_getElem? (i := 609) (by decide +kernel), List.mem_of_getElem? (i := 610) (by decide +kernel)⟩
theorem lw_p11 : lw_okq (⟨"GrainHouse$FanPlan", "addHour", "(I)Z"⟩, 15) := ⟨⟨by decide +kernel, by decide +kernel⟩, List.mem_of_getElem? (i := 167) (by decide +kernel), List.mem_of_getElem? (i := 613) (by decide +kernel), List.mem_of_getElem? (i := 614) (by decide +kernel)⟩
theorem lw_p12 : lw_okq (⟨"GrainHouse$FanPlan", "reachBy", "(II)V"⟩, 15) := ⟨⟨by decide +kernel, by decide +kernel⟩, List.mem_of_getElem? (i := 167) (by decide +kernel), List.mem_of_getElem? (i := 617) (by decide +kernel), List.mem_of_getElem? (i := 618) (by decide +kernel)⟩
theorem lw_p13 : lw_okq (⟨"GrainHouse$FanPlan", "reach", "(III)V"⟩, 15) := ⟨⟨by decide +kernel, by decide +kernel⟩, List.mem_of_getElem? (i := 167) (by decide +kernel), List.mem_of_getElem? (i := 621) (by decide +kernel), List.mem_of_getElem? (i := 622) (by decide +kernel)⟩
theorem lw_p14 : lw_okq (⟨"GrainHouse$FanPlan", "reachFrom", "(II)V"⟩, 15) := ⟨⟨by decide +kernel, by decide +kernel⟩, List.mem_of_getElem? (i := 167) (by decide +kernel), List.mem_of_getElem? (i := 625) (by decide +kernel), List.mem_of_getElem? (i := 626) (by decide +kernel)⟩
theorem lw_p15 : lw_okq (⟨"GrainHouse$FanPlan", "shift", "(I)V"⟩, 15) := ⟨⟨by decide +kernel, by decide +kernel⟩, List.mem_of_getElem? (i := 167) (by decide +kernel), List.mem_of_getElem? (i := 629) (by decide +kernel), List.mem_of_getElem? (i := 630) (by decide +kernel)⟩
def lw_privs_1 : List (MethodName × Nat) := [(⟨"GrainHouse$Net", "spread", "(III)V"⟩, 10), (⟨"GrainHouse$Net", "costOf", "(II)I"⟩, 10), (⟨"GrainHouse$Net", "spreadOver", "(IIIII)V"⟩, 10), (⟨"GrainHouse$Net", "trace", "(II)V"⟩, 10), (⟨"GrainHouse$Net", "firstLeg", "(IIII)I"⟩, 10), (⟨"GrainHouse$Rush", "sortIn", "(I)V"⟩, 12), (⟨"GrainHouse$Rush", "tryAll", "(IIII)V"⟩, 12), (⟨"GrainHouse$Rush", "takes", "(II)I"⟩, 12), (⟨"GrainHouse$Rush", "atLeast", "(II)I"⟩, 12), (⟨"GrainHouse$Rush", "setEmpty", "()V"⟩, 12), (⟨"GrainHouse$FanPlan", "cheapest", "()Z"⟩, 15), (⟨"GrainHouse$FanPlan", "addHour", "(I)Z"⟩, 15), (⟨"GrainHouse$FanPlan", "reachBy", "(II)V"⟩, 15), (⟨"GrainHouse$FanPlan", "reach", "(III)V"⟩, 15), (⟨"GrainHouse$FanPlan", "reachFrom", "(II)V"⟩, 15), (⟨"GrainHouse$FanPlan", "shift", "(I)V"⟩, 15)]
theorem lw_r1 : ∀ q ∈ lw_privs_1, lw_okq q := List.forall_mem_cons.mpr ⟨lw_p0, List.forall_mem_cons.mpr ⟨lw_p1, List.forall_mem_cons.mpr ⟨lw_p2, List.forall_mem_cons.mpr ⟨lw_p3, List.forall_mem_cons.mpr ⟨lw_p4, List.forall_mem_cons.mpr ⟨lw_p5, List.forall_mem_cons.mpr ⟨lw_p6, List.forall_mem_cons.mpr ⟨lw_p7, List.forall_mem_cons.mpr ⟨lw_p8, List.forall_mem_cons.mpr ⟨lw_p9, List.forall_mem_cons.mpr ⟨lw_p10, List.forall_mem_cons.mpr ⟨lw_p11, List.forall_mem_cons.mpr ⟨lw_p12, List.forall_mem_cons.mpr ⟨lw_p13, List.forall_mem_cons.mpr ⟨lw_p14, List.forall_mem_cons.mpr ⟨lw_p15, fun _ h => absurd h List.not_mem_nil⟩⟩⟩⟩⟩⟩⟩⟩⟩⟩⟩⟩⟩⟩⟩⟩
theorem lw_p16 : lw_okq (⟨"GrainHouse$FanPlan", "paid", "()I"⟩, 15) := ⟨⟨by decide +kernel, by decide +kernel⟩, List.mem_of_getElem? (i := 167) (by decide +kernel), List.mem_of_getElem? (i := 633) (by decide +kernel), List.mem_of_getElem? (i := 634) (by decide +kernel)⟩
theorem lw_p17 : lw_okq (⟨"GrainHouse$FanPlan", "makeFirst", "()V"⟩, 15) := ⟨⟨by decide +kernel, by decide +kernel⟩, List.mem_of_getElem? (i := 167) (by decide +kernel), List.mem_of_getElem? (i := 637) (by decide +kernel), List.mem_of_getElem? (i := 638) (by decide +kernel)⟩
theorem lw_p18 : lw_okq (⟨"GrainHouse$FanPlan", "exchange", "(II)V"⟩, 15) := ⟨⟨by decide +kernel, by decide +kernel⟩, List.mem_of_getElem? (i := 167) (by decide +kernel), List.mem_of_getElem? (i := 641) (by decide +kernel), List.mem_of_getElem? (i := 642) (by decide +kernel)⟩
theorem lw_p19 : lw_okq (⟨"GrainHouse$FanPlan", "reachBySpare", "(I)V"⟩, 15) := ⟨⟨by decide +kernel, by decide +kernel⟩, List.mem_of_getElem? (i := 167) (by decide +kernel), List.mem_of_getElem? (i := 645) (by decide +kernel), List.mem_of_getElem? (i := 646) (by decide +kernel)⟩
theorem lw_p20 : lw_okq (⟨"GrainHouse$Blender", "reckon", "(LGrainHouse$Bins;I)V"⟩, 8) := ⟨⟨by decide +kernel, by decide +kernel⟩, List.mem_of_getElem? (i := 222) (by decide +kernel), List.mem_of_getElem? (i := 669) (by decide +kernel), List.mem_of_getElem? (i := 670) (by decide +kernel)⟩
theorem lw_p21 : lw_okq (⟨"GrainHouse$Blender", "tryAll", "(IJ)V"⟩, 8) := ⟨⟨by decide +kernel, by decide +kernel⟩, List.mem_of_getElem? (i := 222) (by decide +kernel), List.mem_of_getElem? (i := 677) (by decide +kernel), List.mem_of_getElem? (i := 678) (by decide +kernel)⟩
theorem lw_p22 : lw_okq (⟨"GrainHouse$Reader", "next", "(LGrainHouse$Tape;)V"⟩, 11) := ⟨⟨by decide +kernel, by decide +kernel⟩, List.mem_of_getElem? (i := 271) (by decide +kernel), List.mem_of_getElem? (i := 715) (by decide +kernel), List.mem_of_getElem? (i := 716) (by decide +kernel)⟩
theorem lw_p23 : lw_okq (⟨"GrainHouse$Reader", "readNumber", "(LGrainHouse$Tape;)V"⟩, 11) := ⟨⟨by decide +kernel, by decide +kernel⟩, List.mem_of_getElem? (i := 271) (by decide +kernel), List.mem_of_getElem? (i := 726) (by decide +kernel), List.mem_of_getElem? (i := 727) (by decide +kernel)⟩
theorem lw_p24 : lw_okq (⟨"GrainHouse$Reader", "faultHere", "(LGrainHouse$Tape;LGrainHouse$PriceList;)I"⟩, 11) := ⟨⟨by decide +kernel, by decide +kernel⟩, List.mem_of_getElem? (i := 271) (by decide +kernel), List.mem_of_getElem? (i := 732) (by decide +kernel), List.mem_of_getElem? (i := 733) (by decide +kernel)⟩
theorem lw_p25 : lw_okq (⟨"GrainHouse$Reader", "isWord", "(LGrainHouse$Tape;Ljava/lang/String;)Z"⟩, 11) := ⟨⟨by decide +kernel, by decide +kernel⟩, List.mem_of_getElem? (i := 271) (by decide +kernel), List.mem_of_getElem? (i := 737) (by decide +kernel), List.mem_of_getElem? (i := 738) (by decide +kernel)⟩
theorem lw_p26 : lw_okq (⟨"GrainHouse$Reader", "faultOfFirst", "(LGrainHouse$PriceList;)I"⟩, 11) := ⟨⟨by decide +kernel, by decide +kernel⟩, List.mem_of_getElem? (i := 271) (by decide +kernel), List.mem_of_getElem? (i := 794) (by decide +kernel), List.mem_of_getElem? (i := 795) (by decide +kernel)⟩
theorem lw_p27 : lw_okq (⟨"GrainHouse$Reader", "faultOfSecond", "()I"⟩, 11) := ⟨⟨by decide +kernel, by decide +kernel⟩, List.mem_of_getElem? (i := 271) (by decide +kernel), List.mem_of_getElem? (i := 807) (by decide +kernel), List.mem_of_getElem? (i := 808) (by decide +kernel)⟩
theorem lw_p28 : lw_okq (⟨"GrainHouse$Reader", "accept", "(LGrainHouse$Tape;LGrainHouse$PriceList;)V"⟩, 11) := ⟨⟨by decide +kernel, by decide +kernel⟩, List.mem_of_getElem? (i := 271) (by decide +kernel), List.mem_of_getElem? (i := 811) (by decide +kernel), List.mem_of_getElem? (i := 812) (by decide +kernel)⟩
theorem lw_p29 : lw_okq (⟨"GrainHouseModel", "canPut", "(III)Z"⟩, 63) := ⟨⟨by decide +kernel, by decide +kernel⟩, List.mem_of_getElem? (i := 873) (by decide +kernel), List.mem_of_getElem? (i := 1093) (by decide +kernel), List.mem_of_getElem? (i := 1094) (by decide +kernel)⟩
theorem lw_p30 : lw_okq (⟨"GrainHouseModel", "puts", "(IIIJ)V"⟩, 63) := ⟨⟨by decide +kernel, by decide +kernel⟩, List.mem_of_getElem? (i := 873) (by decide +kernel), List.mem_of_getElem? (i := 1097) (by decide +kernel), List.mem_of_getElem? (i := 1098) (by decide +kernel)⟩
theorem lw_p31 : lw_okq (⟨"GrainHouseModel", "isWay", "(III)Z"⟩, 63) := ⟨⟨by decide +kernel, by decide +kernel⟩, List.mem_of_getElem? (i := 873) (by decide +kernel), List.mem_of_getElem? (i := 1116) (by decide +kernel), List.mem_of_getElem? (i := 1117) (by decide +kernel)⟩
def lw_privs_2 : List (MethodName × Nat) := [(⟨"GrainHouse$FanPlan", "paid", "()I"⟩, 15), (⟨"GrainHouse$FanPlan", "makeFirst", "()V"⟩, 15), (⟨"GrainHouse$FanPlan", "exchange", "(II)V"⟩, 15), (⟨"GrainHouse$FanPlan", "reachBySpare", "(I)V"⟩, 15), (⟨"GrainHouse$Blender", "reckon", "(LGrainHouse$Bins;I)V"⟩, 8), (⟨"GrainHouse$Blender", "tryAll", "(IJ)V"⟩, 8), (⟨"GrainHouse$Reader", "next", "(LGrainHouse$Tape;)V"⟩, 11), (⟨"GrainHouse$Reader", "readNumber", "(LGrainHouse$Tape;)V"⟩, 11), (⟨"GrainHouse$Reader", "faultHere", "(LGrainHouse$Tape;LGrainHouse$PriceList;)I"⟩, 11), (⟨"GrainHouse$Reader", "isWord", "(LGrainHouse$Tape;Ljava/lang/String;)Z"⟩, 11), (⟨"GrainHouse$Reader", "faultOfFirst", "(LGrainHouse$PriceList;)I"⟩, 11), (⟨"GrainHouse$Reader", "faultOfSecond", "()I"⟩, 11), (⟨"GrainHouse$Reader", "accept", "(LGrainHouse$Tape;LGrainHouse$PriceList;)V"⟩, 11), (⟨"GrainHouseModel", "canPut", "(III)Z"⟩, 63), (⟨"GrainHouseModel", "puts", "(IIIJ)V"⟩, 63), (⟨"GrainHouseModel", "isWay", "(III)Z"⟩, 63)]
theorem lw_r2 : ∀ q ∈ lw_privs_2, lw_okq q := List.forall_mem_cons.mpr ⟨lw_p16, List.forall_mem_cons.mpr ⟨lw_p17, List.forall_mem_cons.mpr ⟨lw_p18, List.forall_mem_cons.mpr ⟨lw_p19, List.forall_mem_cons.mpr ⟨lw_p20, List.forall_mem_cons.mpr ⟨lw_p21, List.forall_mem_cons.mpr ⟨lw_p22, List.forall_mem_cons.mpr ⟨lw_p23, List.forall_mem_cons.mpr ⟨lw_p24, List.forall_mem_cons.mpr ⟨lw_p25, List.forall_mem_cons.mpr ⟨lw_p26, List.forall_mem_cons.mpr ⟨lw_p27, List.forall_mem_cons.mpr ⟨lw_p28, List.forall_mem_cons.mpr ⟨lw_p29, List.forall_mem_cons.mpr ⟨lw_p30, List.forall_mem_cons.mpr ⟨lw_p31, fun _ h => absurd h List.not_mem_nil⟩⟩⟩⟩⟩⟩⟩⟩⟩⟩⟩⟩⟩⟩⟩⟩
theorem lw_p32 : lw_okq (⟨"GrainHouseModel", "goes", "(II)V"⟩, 63) := ⟨⟨by decide +kernel, by decide +kernel⟩, List.mem_of_getElem? (i := 873) (by decide +kernel), List.mem_of_getElem? (i := 1120) (by decide +kernel), List.mem_of_getElem? (i := 1121) (by decide +kernel)⟩
theorem lw_p33 : lw_okq (⟨"GrainHouseModel", "lessens", "(IIIII)Z"⟩, 63) := ⟨⟨by decide +kernel, by decide +kernel⟩, List.mem_of_getElem? (i := 873) (by decide +kernel), List.mem_of_getElem? (i := 1125) (by decide +kernel), List.mem_of_getElem? (i := 1126) (by decide +kernel)⟩
theorem lw_p34 : lw_okq (⟨"GrainHouseModel", "legCost", "(II)I"⟩, 63) := ⟨⟨by decide +kernel, by decide +kernel⟩, List.mem_of_getElem? (i := 873) (by decide +kernel), List.mem_of_getElem? (i := 1129) (by decide +kernel), List.mem_of_getElem? (i := 1130) (by decide +kernel)⟩
theorem lw_p35 : lw_okq (⟨"GrainHouseModel", "nextLeg", "(III)I"⟩, 63) := ⟨⟨by decide +kernel, by decide +kernel⟩, List.mem_of_getElem? (i := 873) (by decide +kernel), List.mem_of_getElem? (i := 1137) (by decide +kernel), List.mem_of_getElem? (i := 1138) (by decide +kernel)⟩
theorem lw_p36 : lw_okq (⟨"GrainHouseModel", "dryOf", "(II)J"⟩, 63) := ⟨⟨by decide +kernel, by decide +kernel⟩, List.mem_of_getElem? (i := 873) (by decide +kernel), List.mem_of_getElem? (i := 1145) (by decide +kernel), List.mem_of_getElem? (i := 1146) (by decide +kernel)⟩
theorem lw_p37 : lw_okq (⟨"GrainHouseModel", "goesBy", "(III)I"⟩, 63) := ⟨⟨by decide +kernel, by decide +kernel⟩, List.mem_of_getElem? (i := 873) (by decide +kernel), List.mem_of_getElem? (i := 1149) (by decide +kernel), List.mem_of_getElem? (i := 1150) (by decide +kernel)⟩
theorem lw_p38 : lw_okq (⟨"GrainHouseModel", "takes", "(II)V"⟩, 63) := ⟨⟨by decide +kernel, by decide +kernel⟩, List.mem_of_getElem? (i := 873) (by decide +kernel), List.mem_of_getElem? (i := 1153) (by decide +kernel), List.mem_of_getElem? (i := 1154) (by decide +kernel)⟩
theorem lw_p39 : lw_okq (⟨"GrainHouseModel", "emptyAt", "(IZ)I"⟩, 63) := ⟨⟨by decide +kernel, by decide +kernel⟩, List.mem_of_getElem? (i := 873) (by decide +kernel), List.mem_of_getElem? (i := 1192) (by decide +kernel), List.mem_of_getElem? (i := 1193) (by decide +kernel)⟩
theorem lw_p40 : lw_okq (⟨"GrainHouseModel", "nextRow", "()Z"⟩, 63) := ⟨⟨by decide +kernel, by decide +kernel⟩, List.mem_of_getElem? (i := 873) (by decide +kernel), List.mem_of_getElem? (i := 1196) (by decide +kernel), List.mem_of_getElem? (i := 1197) (by decide +kernel)⟩
theorem lw_p41 : lw_okq (⟨"GrainHouseModel", "swaps", "(II)V"⟩, 63) := ⟨⟨by decide +kernel, by decide +kernel⟩, List.mem_of_getElem? (i := 873) (by decide +kernel), List.mem_of_getElem? (i := 1200) (by decide +kernel), List.mem_of_getElem? (i := 1201) (by decide +kernel)⟩
theorem lw_p42 : lw_okq (⟨"GrainHouseModel", "plans", "()I"⟩, 63) := ⟨⟨by decide +kernel, by decide +kernel⟩, List.mem_of_getElem? (i := 873) (by decide +kernel), List.mem_of_getElem? (i := 1227) (by decide +kernel), List.mem_of_getElem? (i := 1228) (by decide +kernel)⟩
theorem lw_p43 : lw_okq (⟨"GrainHouseModel", "walks", "(I)V"⟩, 63) := ⟨⟨by decide +kernel, by decide +kernel⟩, List.mem_of_getElem? (i := 873) (by decide +kernel), List.mem_of_getElem? (i := 1231) (by decide +kernel), List.mem_of_getElem? (i := 1232) (by decide +kernel)⟩
theorem lw_p44 : lw_okq (⟨"GrainHouseModel", "may", "(II)Z"⟩, 63) := ⟨⟨by decide +kernel, by decide +kernel⟩, List.mem_of_getElem? (i := 873) (by decide +kernel), List.mem_of_getElem? (i := 1235) (by decide +kernel), List.mem_of_getElem? (i := 1236) (by decide +kernel)⟩
theorem lw_p45 : lw_okq (⟨"GrainHouseModel", "reaches", "(III)Z"⟩, 63) := ⟨⟨by decide +kernel, by decide +kernel⟩, List.mem_of_getElem? (i := 873) (by decide +kernel), List.mem_of_getElem? (i := 1239) (by decide +kernel), List.mem_of_getElem? (i := 1240) (by decide +kernel)⟩
theorem lw_p46 : lw_okq (⟨"GrainHouseModel", "turns", "(II)V"⟩, 63) := ⟨⟨by decide +kernel, by decide +kernel⟩, List.mem_of_getElem? (i := 873) (by decide +kernel), List.mem_of_getElem? (i := 1243) (by decide +kernel), List.mem_of_getElem? (i := 1244) (by decide +kernel)⟩
theorem lw_p47 : lw_okq (⟨"GrainHouseModel", "isThere", "(II)Z"⟩, 63) := ⟨⟨by decide +kernel, by decide +kernel⟩, List.mem_of_getElem? (i := 873) (by decide +kernel), List.mem_of_getElem? (i := 1257) (by decide +kernel), List.mem_of_getElem? (i := 1258) (by decide +kernel)⟩
def lw_privs_3 : List (MethodName × Nat) := [(⟨"GrainHouseModel", "goes", "(II)V"⟩, 63), (⟨"GrainHouseModel", "lessens", "(IIIII)Z"⟩, 63), (⟨"GrainHouseModel", "legCost", "(II)I"⟩, 63), (⟨"GrainHouseModel", "nextLeg", "(III)I"⟩, 63), (⟨"GrainHouseModel", "dryOf", "(II)J"⟩, 63), (⟨"GrainHouseModel", "goesBy", "(III)I"⟩, 63), (⟨"GrainHouseModel", "takes", "(II)V"⟩, 63), (⟨"GrainHouseModel", "emptyAt", "(IZ)I"⟩, 63), (⟨"GrainHouseModel", "nextRow", "()Z"⟩, 63), (⟨"GrainHouseModel", "swaps", "(II)V"⟩, 63), (⟨"GrainHouseModel", "plans", "()I"⟩, 63), (⟨"GrainHouseModel", "walks", "(I)V"⟩, 63), (⟨"GrainHouseModel", "may", "(II)Z"⟩, 63), (⟨"GrainHouseModel", "reaches", "(III)Z"⟩, 63), (⟨"GrainHouseModel", "turns", "(II)V"⟩, 63), (⟨"GrainHouseModel", "isThere", "(II)Z"⟩, 63)]
theorem lw_r3 : ∀ q ∈ lw_privs_3, lw_okq q := List.forall_mem_cons.mpr ⟨lw_p32, List.forall_mem_cons.mpr ⟨lw_p33, List.forall_mem_cons.mpr ⟨lw_p34, List.forall_mem_cons.mpr ⟨lw_p35, List.forall_mem_cons.mpr ⟨lw_p36, List.forall_mem_cons.mpr ⟨lw_p37, List.forall_mem_cons.mpr ⟨lw_p38, List.forall_mem_cons.mpr ⟨lw_p39, List.forall_mem_cons.mpr ⟨lw_p40, List.forall_mem_cons.mpr ⟨lw_p41, List.forall_mem_cons.mpr ⟨lw_p42, List.forall_mem_cons.mpr ⟨lw_p43, List.forall_mem_cons.mpr ⟨lw_p44, List.forall_mem_cons.mpr ⟨lw_p45, List.forall_mem_cons.mpr ⟨lw_p46, List.forall_mem_cons.mpr ⟨lw_p47, fun _ h => absurd h List.not_mem_nil⟩⟩⟩⟩⟩⟩⟩⟩⟩⟩⟩⟩⟩⟩⟩⟩
theorem lw_p48 : lw_okq (⟨"GrainHouseModel", "blends", "(I)J"⟩, 63) := ⟨⟨by decide +kernel, by decide +kernel⟩, List.mem_of_getElem? (i := 873) (by decide +kernel), List.mem_of_getElem? (i := 1261) (by decide +kernel), List.mem_of_getElem? (i := 1262) (by decide +kernel)⟩
theorem lw_p49 : lw_okq (⟨"GrainHouseModel", "put", "(I)V"⟩, 63) := ⟨⟨by decide +kernel, by decide +kernel⟩, List.mem_of_getElem? (i := 873) (by decide +kernel), List.mem_of_getElem? (i := 1273) (by decide +kernel), List.mem_of_getElem? (i := 1274) (by decide +kernel)⟩
theorem lw_p50 : lw_okq (⟨"GrainHouseModel", "next", "(I)V"⟩, 63) := ⟨⟨by decide +kernel, by decide +kernel⟩, List.mem_of_getElem? (i := 873) (by decide +kernel), List.mem_of_getElem? (i := 1285) (by decide +kernel), List.mem_of_getElem? (i := 1286) (by decide +kernel)⟩
theorem lw_p51 : lw_okq (⟨"GrainHouseModel", "clause", "(I)V"⟩, 63) := ⟨⟨by decide +kernel, by decide +kernel⟩, List.mem_of_getElem? (i := 873) (by decide +kernel), List.mem_of_getElem? (i := 1305) (by decide +kernel), List.mem_of_getElem? (i := 1306) (by decide +kernel)⟩
theorem lw_p52 : lw_okq (⟨"GrainHouseModel", "errs", "(I)V"⟩, 63) := ⟨⟨by decide +kernel, by decide +kernel⟩, List.mem_of_getElem? (i := 873) (by decide +kernel), List.mem_of_getElem? (i := 1309) (by decide +kernel), List.mem_of_getElem? (i := 1310) (by decide +kernel)⟩
theorem lw_p53 : lw_okq (⟨"GrainHouseModel", "wasDock", "(I)Z"⟩, 63) := ⟨⟨by decide +kernel, by decide +kernel⟩, List.mem_of_getElem? (i := 873) (by decide +kernel), List.mem_of_getElem? (i := 1313) (by decide +kernel), List.mem_of_getElem? (i := 1314) (by decide +kernel)⟩
theorem lw_p54 : lw_okq (⟨"GrainHouseModel", "number", "(III)I"⟩, 63) := ⟨⟨by decide +kernel, by decide +kernel⟩, List.mem_of_getElem? (i := 873) (by decide +kernel), List.mem_of_getElem? (i := 1317) (by decide +kernel), List.mem_of_getElem? (i := 1318) (by decide +kernel)⟩
theorem lw_p55 : lw_okq (⟨"GrainHouseModel", "worthOf", "(I)I"⟩, 63) := ⟨⟨by decide +kernel, by decide +kernel⟩, List.mem_of_getElem? (i := 873) (by decide +kernel), List.mem_of_getElem? (i := 1329) (by decide +kernel), List.mem_of_getElem? (i := 1330) (by decide +kernel)⟩
def lw_privs_4 : List (MethodName × Nat) := [(⟨"GrainHouseModel", "blends", "(I)J"⟩, 63), (⟨"GrainHouseModel", "put", "(I)V"⟩, 63), (⟨"GrainHouseModel", "next", "(I)V"⟩, 63), (⟨"GrainHouseModel", "clause", "(I)V"⟩, 63), (⟨"GrainHouseModel", "errs", "(I)V"⟩, 63), (⟨"GrainHouseModel", "wasDock", "(I)Z"⟩, 63), (⟨"GrainHouseModel", "number", "(III)I"⟩, 63), (⟨"GrainHouseModel", "worthOf", "(I)I"⟩, 63)]
theorem lw_r4 : ∀ q ∈ lw_privs_4, lw_okq q := List.forall_mem_cons.mpr ⟨lw_p48, List.forall_mem_cons.mpr ⟨lw_p49, List.forall_mem_cons.mpr ⟨lw_p50, List.forall_mem_cons.mpr ⟨lw_p51, List.forall_mem_cons.mpr ⟨lw_p52, List.forall_mem_cons.mpr ⟨lw_p53, List.forall_mem_cons.mpr ⟨lw_p54, List.forall_mem_cons.mpr ⟨lw_p55, fun _ h => absurd h List.not_mem_nil⟩⟩⟩⟩⟩⟩⟩⟩
def lw_privs : List (MethodName × Nat) := lw_privs_1 ++ (lw_privs_2 ++ (lw_privs_3 ++ (lw_privs_4)))
def lw_tbl : List Cond := k2_sels lw_privs ++ tables_1
theorem lw_privs_ok : ∀ q ∈ lw_privs, lw_okq q := by
  show ∀ q ∈ lw_privs_1 ++ (lw_privs_2 ++ (lw_privs_3 ++ (lw_privs_4))), lw_okq q
  exact List.forall_mem_append.mpr ⟨lw_r1, List.forall_mem_append.mpr ⟨lw_r2, List.forall_mem_append.mpr ⟨lw_r3, lw_r4⟩⟩⟩

def RX0 : String := "GrainHouse$Bins"
def TX0 : u_T := fun k => match k with
  | 0 => ("GrainHouse$Bins", "kind", "[I", true)
  | 1 => ("GrainHouse$Bins", "kg", "[I", true)
  | 2 => ("GrainHouse$Bins", "room", "[I", true)
  | _ => ("GrainHouse$Bins", "grams", "[J", true)
def tyX0 : Nat → FieldType := fun k => match k with
  | 0 => .array .int
  | 1 => .array .int
  | 2 => .array .int
  | _ => .array .long
theorem nmX0 : ∀ a, a < 4 → ∀ b, b < 4 → a ≠ b → (TX0 a).2.1 ≠ (TX0 b).2.1 := by decide +kernel
theorem tyX0_ok : ∀ k, k < 4 → parseFieldDescriptor (TX0 k).2.2.1 = some (tyX0 k) := by decide +kernel
abbrev cX0_init : ByteArray := prog_2_method_1_code
def yX0_init : MethodName := ⟨RX0, "<init>", "()V"⟩
abbrev cX0_has : ByteArray := prog_2_method_2_code
def yX0_has : MethodName := ⟨RX0, "has", "(II)Z"⟩
abbrev cX0_canTake : ByteArray := prog_2_method_3_code
def yX0_canTake : MethodName := ⟨RX0, "canTake", "(II)Z"⟩
abbrev cX0_canPut : ByteArray := prog_2_method_4_code
def yX0_canPut : MethodName := ⟨RX0, "canPut", "(III)Z"⟩
abbrev cX0_part : ByteArray := prog_2_method_5_code
def yX0_part : MethodName := ⟨RX0, "part", "(II)J"⟩
abbrev cX0_take : ByteArray := prog_2_method_6_code
def yX0_take : MethodName := ⟨RX0, "take", "(II)J"⟩
abbrev cX0_put : ByteArray := prog_2_method_7_code
def yX0_put : MethodName := ⟨RX0, "put", "(IIIJ)V"⟩
abbrev cX0_moist : ByteArray := prog_2_method_8_code
def yX0_moist : MethodName := ⟨RX0, "moist", "(I)I"⟩
abbrev cX0_allGrams : ByteArray := prog_2_method_9_code
def yX0_allGrams : MethodName := ⟨RX0, "allGrams", "()J"⟩
def RX1 : String := "GrainHouse$Blender"
def TX1 : u_T := fun k => match k with
  | 0 => ("GrainHouse$Blender", "from", "[I", true)
  | 1 => ("GrainHouse$Blender", "most", "[I", true)
  | 2 => ("GrainHouse$Blender", "grams", "[J", true)
  | 3 => ("GrainHouse$Blender", "wettest", "[I", true)
  | 4 => ("GrainHouse$Blender", "chosen", "I", false)
  | 5 => ("GrainHouse$Blender", "leastGrams", "J", false)
  | 6 => ("GrainHouse$Blender", "tons", "[I", true)
  | _ => ("GrainHouse$Blender", "told", "Z", false)
def tyX1 : Nat → FieldType := fun k => match k with
  | 0 => .array .int
  | 1 => .array .int
  | 2 => .array .long
  | 3 => .array .int
  | 4 => .int
  | 5 => .long
  | 6 => .array .int
  | _ => .boolean
theorem nmX1 : ∀ a, a < 8 → ∀ b, b < 8 → a ≠ b → (TX1 a).2.1 ≠ (TX1 b).2.1 := by decide +kernel
theorem tyX1_ok : ∀ k, k < 8 → parseFieldDescriptor (TX1 k).2.2.1 = some (tyX1 k) := by decide +kernel
abbrev cX1_init : ByteArray := prog_3_method_1_code
def yX1_init : MethodName := ⟨RX1, "<init>", "()V"⟩
abbrev cX1_choose : ByteArray := prog_3_method_2_code
def yX1_choose : MethodName := ⟨RX1, "choose", "(LGrainHouse$Bins;II)Z"⟩
abbrev cX1_best : ByteArray := prog_3_method_3_code
def yX1_best : MethodName := ⟨RX1, "best", "(LGrainHouse$Bins;II)J"⟩
abbrev cX1_reckon : ByteArray := prog_3_method_4_code
def yX1_reckon : MethodName := ⟨RX1, "reckon", "(LGrainHouse$Bins;I)V"⟩
abbrev cX1_tryAll : ByteArray := prog_3_method_5_code
def yX1_tryAll : MethodName := ⟨RX1, "tryAll", "(IJ)V"⟩
def RX2 : String := "GrainHouse$FanPlan"
def TX2 : u_T := fun k => match k with
  | 0 => ("GrainHouse$FanPlan", "isDry", "[Z", true)
  | 1 => ("GrainHouse$FanPlan", "price", "[I", true)
  | 2 => ("GrainHouse$FanPlan", "need", "[I", true)
  | 3 => ("GrainHouse$FanPlan", "limit", "[I", true)
  | 4 => ("GrainHouse$FanPlan", "open", "[I", true)
  | 5 => ("GrainHouse$FanPlan", "used", "[I", true)
  | 6 => ("GrainHouse$FanPlan", "queue", "[I", true)
  | 7 => ("GrainHouse$FanPlan", "byBin", "[I", true)
  | 8 => ("GrainHouse$FanPlan", "fromHour", "[I", true)
  | 9 => ("GrainHouse$FanPlan", "on", "[I", true)
  | 10 => ("GrainHouse$FanPlan", "power", "I", false)
  | 11 => ("GrainHouse$FanPlan", "queued", "I", false)
  | 12 => ("GrainHouse$FanPlan", "seen", "I", false)
  | 13 => ("GrainHouse$FanPlan", "total", "I", false)
  | _ => ("GrainHouse$FanPlan", "known", "Z", false)
def tyX2 : Nat → FieldType := fun k => match k with
  | 0 => .array .boolean
  | 1 => .array .int
  | 2 => .array .int
  | 3 => .array .int
  | 4 => .array .int
  | 5 => .array .int
  | 6 => .array .int
  | 7 => .array .int
  | 8 => .array .int
  | 9 => .array .int
  | 10 => .int
  | 11 => .int
  | 12 => .int
  | 13 => .int
  | _ => .boolean
theorem nmX2 : ∀ a, a < 15 → ∀ b, b < 15 → a ≠ b → (TX2 a).2.1 ≠ (TX2 b).2.1 := by decide +kernel
theorem tyX2_ok : ∀ k, k < 15 → parseFieldDescriptor (TX2 k).2.2.1 = some (tyX2 k) := by decide +kernel
abbrev cX2_init : ByteArray := prog_4_method_1_code
def yX2_init : MethodName := ⟨RX2, "<init>", "()V"⟩
abbrev cX2_setHour : ByteArray := prog_4_method_2_code
def yX2_setHour : MethodName := ⟨RX2, "setHour", "(IZI)Z"⟩
abbrev cX2_setPower : ByteArray := prog_4_method_3_code
def yX2_setPower : MethodName := ⟨RX2, "setPower", "(I)Z"⟩
abbrev cX2_setNeed : ByteArray := prog_4_method_4_code
def yX2_setNeed : MethodName := ⟨RX2, "setNeed", "(III)Z"⟩
abbrev cX2_cost : ByteArray := prog_4_method_5_code
def yX2_cost : MethodName := ⟨RX2, "cost", "()I"⟩
abbrev cX2_paid : ByteArray := prog_4_method_6_code
def yX2_paid : MethodName := ⟨RX2, "paid", "()I"⟩
abbrev cX2_cheapest : ByteArray := prog_4_method_7_code
def yX2_cheapest : MethodName := ⟨RX2, "cheapest", "()Z"⟩
abbrev cX2_addHour : ByteArray := prog_4_method_8_code
def yX2_addHour : MethodName := ⟨RX2, "addHour", "(I)Z"⟩
abbrev cX2_reachBy : ByteArray := prog_4_method_9_code
def yX2_reachBy : MethodName := ⟨RX2, "reachBy", "(II)V"⟩
abbrev cX2_reach : ByteArray := prog_4_method_10_code
def yX2_reach : MethodName := ⟨RX2, "reach", "(III)V"⟩
abbrev cX2_reachFrom : ByteArray := prog_4_method_11_code
def yX2_reachFrom : MethodName := ⟨RX2, "reachFrom", "(II)V"⟩
abbrev cX2_shift : ByteArray := prog_4_method_12_code
def yX2_shift : MethodName := ⟨RX2, "shift", "(I)V"⟩
abbrev cX2_makeFirst : ByteArray := prog_4_method_13_code
def yX2_makeFirst : MethodName := ⟨RX2, "makeFirst", "()V"⟩
abbrev cX2_exchange : ByteArray := prog_4_method_14_code
def yX2_exchange : MethodName := ⟨RX2, "exchange", "(II)V"⟩
abbrev cX2_reachBySpare : ByteArray := prog_4_method_15_code
def yX2_reachBySpare : MethodName := ⟨RX2, "reachBySpare", "(I)V"⟩
def RX3 : String := "GrainHouse$Loads"
def TX3 : u_T := fun k => match k with
  | 0 => ("GrainHouse$Loads", "farmer", "[I", true)
  | 1 => ("GrainHouse$Loads", "kind", "[I", true)
  | 2 => ("GrainHouse$Loads", "moist", "[I", true)
  | 3 => ("GrainHouse$Loads", "grams", "[I", true)
  | _ => ("GrainHouse$Loads", "count", "I", false)
def tyX3 : Nat → FieldType := fun k => match k with
  | 0 => .array .int
  | 1 => .array .int
  | 2 => .array .int
  | 3 => .array .int
  | _ => .int
theorem nmX3 : ∀ a, a < 5 → ∀ b, b < 5 → a ≠ b → (TX3 a).2.1 ≠ (TX3 b).2.1 := by decide +kernel
theorem tyX3_ok : ∀ k, k < 5 → parseFieldDescriptor (TX3 k).2.2.1 = some (tyX3 k) := by decide +kernel
abbrev cX3_init : ByteArray := prog_5_method_1_code
def yX3_init : MethodName := ⟨RX3, "<init>", "()V"⟩
abbrev cX3_isFull : ByteArray := prog_5_method_2_code
def yX3_isFull : MethodName := ⟨RX3, "isFull", "()Z"⟩
abbrev cX3_add : ByteArray := prog_5_method_3_code
def yX3_add : MethodName := ⟨RX3, "add", "(IIIJ)I"⟩
abbrev cX3_value : ByteArray := prog_5_method_4_code
def yX3_value : MethodName := ⟨RX3, "value", "(ILGrainHouse$PriceList;)I"⟩
abbrev cX3_valueOf : ByteArray := prog_5_method_5_code
def yX3_valueOf : MethodName := ⟨RX3, "valueOf", "(ILGrainHouse$PriceList;)J"⟩
abbrev cX3_gramsOf : ByteArray := prog_5_method_6_code
def yX3_gramsOf : MethodName := ⟨RX3, "gramsOf", "(I)J"⟩
abbrev cX3_countOf : ByteArray := prog_5_method_7_code
def yX3_countOf : MethodName := ⟨RX3, "countOf", "(I)I"⟩
abbrev cX3_allGrams : ByteArray := prog_5_method_8_code
def yX3_allGrams : MethodName := ⟨RX3, "allGrams", "()J"⟩
def RX4 : String := "GrainHouse$Net"
def TX4 : u_T := fun k => match k with
  | 0 => ("GrainHouse$Net", "one", "[I", true)
  | 1 => ("GrainHouse$Net", "other", "[I", true)
  | 2 => ("GrainHouse$Net", "minutes", "[I", true)
  | 3 => ("GrainHouse$Net", "last", "[I", true)
  | 4 => ("GrainHouse$Net", "left", "[I", true)
  | 5 => ("GrainHouse$Net", "path", "[I", true)
  | 6 => ("GrainHouse$Net", "steps", "I", false)
  | 7 => ("GrainHouse$Net", "count", "I", false)
  | 8 => ("GrainHouse$Net", "cleanMinutes", "I", false)
  | _ => ("GrainHouse$Net", "minutesUsed", "J", false)
def tyX4 : Nat → FieldType := fun k => match k with
  | 0 => .array .int
  | 1 => .array .int
  | 2 => .array .int
  | 3 => .array .int
  | 4 => .array .int
  | 5 => .array .int
  | 6 => .int
  | 7 => .int
  | 8 => .int
  | _ => .long
theorem nmX4 : ∀ a, a < 10 → ∀ b, b < 10 → a ≠ b → (TX4 a).2.1 ≠ (TX4 b).2.1 := by decide +kernel
theorem tyX4_ok : ∀ k, k < 10 → parseFieldDescriptor (TX4 k).2.2.1 = some (tyX4 k) := by decide +kernel
abbrev cX4_init : ByteArray := prog_6_method_1_code
def yX4_init : MethodName := ⟨RX4, "<init>", "()V"⟩
abbrev cX4_add : ByteArray := prog_6_method_2_code
def yX4_add : MethodName := ⟨RX4, "add", "(III)I"⟩
abbrev cX4_find : ByteArray := prog_6_method_3_code
def yX4_find : MethodName := ⟨RX4, "find", "(III)I"⟩
abbrev cX4_costOf : ByteArray := prog_6_method_4_code
def yX4_costOf : MethodName := ⟨RX4, "costOf", "(II)I"⟩
abbrev cX4_spread : ByteArray := prog_6_method_5_code
def yX4_spread : MethodName := ⟨RX4, "spread", "(III)V"⟩
abbrev cX4_spreadOver : ByteArray := prog_6_method_6_code
def yX4_spreadOver : MethodName := ⟨RX4, "spreadOver", "(IIIII)V"⟩
abbrev cX4_trace : ByteArray := prog_6_method_7_code
def yX4_trace : MethodName := ⟨RX4, "trace", "(II)V"⟩
abbrev cX4_firstLeg : ByteArray := prog_6_method_8_code
def yX4_firstLeg : MethodName := ⟨RX4, "firstLeg", "(IIII)I"⟩
abbrev cX4_goBy : ByteArray := prog_6_method_9_code
def yX4_goBy : MethodName := ⟨RX4, "goBy", "(II)V"⟩
def RX5 : String := "GrainHouse$PriceList"
def TX5 : u_T := fun k => match k with
  | 0 => ("GrainHouse$PriceList", "price", "[I", true)
  | 1 => ("GrainHouse$PriceList", "priced", "[Z", true)
  | 2 => ("GrainHouse$PriceList", "dockAbove", "[I", true)
  | 3 => ("GrainHouse$PriceList", "dockLoss", "[I", true)
  | _ => ("GrainHouse$PriceList", "docks", "I", false)
def tyX5 : Nat → FieldType := fun k => match k with
  | 0 => .array .int
  | 1 => .array .boolean
  | 2 => .array .int
  | 3 => .array .int
  | _ => .int
theorem nmX5 : ∀ a, a < 5 → ∀ b, b < 5 → a ≠ b → (TX5 a).2.1 ≠ (TX5 b).2.1 := by decide +kernel
theorem tyX5_ok : ∀ k, k < 5 → parseFieldDescriptor (TX5 k).2.2.1 = some (tyX5 k) := by decide +kernel
abbrev cX5_init : ByteArray := prog_7_method_1_code
def yX5_init : MethodName := ⟨RX5, "<init>", "()V"⟩
abbrev cX5_clear : ByteArray := prog_7_method_2_code
def yX5_clear : MethodName := ⟨RX5, "clear", "()V"⟩
abbrev cX5_hasPrice : ByteArray := prog_7_method_3_code
def yX5_hasPrice : MethodName := ⟨RX5, "hasPrice", "(I)Z"⟩
abbrev cX5_hasDock : ByteArray := prog_7_method_4_code
def yX5_hasDock : MethodName := ⟨RX5, "hasDock", "(I)Z"⟩
abbrev cX5_isFull : ByteArray := prog_7_method_5_code
def yX5_isFull : MethodName := ⟨RX5, "isFull", "()Z"⟩
abbrev cX5_addPrice : ByteArray := prog_7_method_6_code
def yX5_addPrice : MethodName := ⟨RX5, "addPrice", "(II)V"⟩
abbrev cX5_addDock : ByteArray := prog_7_method_7_code
def yX5_addDock : MethodName := ⟨RX5, "addDock", "(II)V"⟩
abbrev cX5_value : ByteArray := prog_7_method_8_code
def yX5_value : MethodName := ⟨RX5, "value", "(III)I"⟩
def RX6 : String := "GrainHouse$Reader"
def TX6 : u_T := fun k => match k with
  | 0 => ("GrainHouse$Reader", "used", "Z", false)
  | 1 => ("GrainHouse$Reader", "fault", "I", false)
  | 2 => ("GrainHouse$Reader", "place", "I", false)
  | 3 => ("GrainHouse$Reader", "at", "I", false)
  | 4 => ("GrainHouse$Reader", "start", "I", false)
  | 5 => ("GrainHouse$Reader", "token", "I", false)
  | 6 => ("GrainHouse$Reader", "number", "I", false)
  | 7 => ("GrainHouse$Reader", "step", "I", false)
  | 8 => ("GrainHouse$Reader", "isDock", "Z", false)
  | 9 => ("GrainHouse$Reader", "first", "I", false)
  | _ => ("GrainHouse$Reader", "clauses", "I", false)
def tyX6 : Nat → FieldType := fun k => match k with
  | 0 => .boolean
  | 1 => .int
  | 2 => .int
  | 3 => .int
  | 4 => .int
  | 5 => .int
  | 6 => .int
  | 7 => .int
  | 8 => .boolean
  | 9 => .int
  | _ => .int
theorem nmX6 : ∀ a, a < 11 → ∀ b, b < 11 → a ≠ b → (TX6 a).2.1 ≠ (TX6 b).2.1 := by decide +kernel
theorem tyX6_ok : ∀ k, k < 11 → parseFieldDescriptor (TX6 k).2.2.1 = some (tyX6 k) := by decide +kernel
abbrev cX6_init : ByteArray := prog_8_method_1_code
def yX6_init : MethodName := ⟨RX6, "<init>", "()V"⟩
abbrev cX6_read : ByteArray := prog_8_method_2_code
def yX6_read : MethodName := ⟨RX6, "read", "(LGrainHouse$Tape;LGrainHouse$PriceList;)I"⟩
abbrev cX6_next : ByteArray := prog_8_method_3_code
def yX6_next : MethodName := ⟨RX6, "next", "(LGrainHouse$Tape;)V"⟩
abbrev cX6_readNumber : ByteArray := prog_8_method_4_code
def yX6_readNumber : MethodName := ⟨RX6, "readNumber", "(LGrainHouse$Tape;)V"⟩
abbrev cX6_isLetter : ByteArray := prog_8_method_5_code
def yX6_isLetter : MethodName := ⟨RX6, "isLetter", "(I)Z"⟩
abbrev cX6_isDigit : ByteArray := prog_8_method_6_code
def yX6_isDigit : MethodName := ⟨RX6, "isDigit", "(I)Z"⟩
abbrev cX6_isWord : ByteArray := prog_8_method_7_code
def yX6_isWord : MethodName := ⟨RX6, "isWord", "(LGrainHouse$Tape;Ljava/lang/String;)Z"⟩
abbrev cX6_faultHere : ByteArray := prog_8_method_8_code
def yX6_faultHere : MethodName := ⟨RX6, "faultHere", "(LGrainHouse$Tape;LGrainHouse$PriceList;)I"⟩
abbrev cX6_faultOfFirst : ByteArray := prog_8_method_9_code
def yX6_faultOfFirst : MethodName := ⟨RX6, "faultOfFirst", "(LGrainHouse$PriceList;)I"⟩
abbrev cX6_faultOfSecond : ByteArray := prog_8_method_10_code
def yX6_faultOfSecond : MethodName := ⟨RX6, "faultOfSecond", "()I"⟩
abbrev cX6_accept : ByteArray := prog_8_method_11_code
def yX6_accept : MethodName := ⟨RX6, "accept", "(LGrainHouse$Tape;LGrainHouse$PriceList;)V"⟩
def RX7 : String := "GrainHouse$Rush"
def TX7 : u_T := fun k => match k with
  | 0 => ("GrainHouse$Rush", "minute", "[I", true)
  | 1 => ("GrainHouse$Rush", "kind", "[I", true)
  | 2 => ("GrainHouse$Rush", "weight", "[I", true)
  | 3 => ("GrainHouse$Rush", "heaviest", "[I", true)
  | 4 => ("GrainHouse$Rush", "trial", "[I", true)
  | 5 => ("GrainHouse$Rush", "order", "[I", true)
  | 6 => ("GrainHouse$Rush", "empty", "[I", true)
  | 7 => ("GrainHouse$Rush", "count", "I", false)
  | 8 => ("GrainHouse$Rush", "unloadMinutes", "I", false)
  | 9 => ("GrainHouse$Rush", "changeMinutes", "I", false)
  | 10 => ("GrainHouse$Rush", "least", "I", false)
  | _ => ("GrainHouse$Rush", "known", "Z", false)
def tyX7 : Nat → FieldType := fun k => match k with
  | 0 => .array .int
  | 1 => .array .int
  | 2 => .array .int
  | 3 => .array .int
  | 4 => .array .int
  | 5 => .array .int
  | 6 => .array .int
  | 7 => .int
  | 8 => .int
  | 9 => .int
  | 10 => .int
  | _ => .boolean
theorem nmX7 : ∀ a, a < 12 → ∀ b, b < 12 → a ≠ b → (TX7 a).2.1 ≠ (TX7 b).2.1 := by decide +kernel
theorem tyX7_ok : ∀ k, k < 12 → parseFieldDescriptor (TX7 k).2.2.1 = some (tyX7 k) := by decide +kernel
abbrev cX7_init : ByteArray := prog_9_method_1_code
def yX7_init : MethodName := ⟨RX7, "<init>", "()V"⟩
abbrev cX7_add : ByteArray := prog_9_method_2_code
def yX7_add : MethodName := ⟨RX7, "add", "(III)I"⟩
abbrev cX7_sortIn : ByteArray := prog_9_method_3_code
def yX7_sortIn : MethodName := ⟨RX7, "sortIn", "(I)V"⟩
abbrev cX7_setPit : ByteArray := prog_9_method_4_code
def yX7_setPit : MethodName := ⟨RX7, "setPit", "(II)V"⟩
abbrev cX7_clear : ByteArray := prog_9_method_5_code
def yX7_clear : MethodName := ⟨RX7, "clear", "()I"⟩
abbrev cX7_waits : ByteArray := prog_9_method_6_code
def yX7_waits : MethodName := ⟨RX7, "waits", "()I"⟩
abbrev cX7_tryAll : ByteArray := prog_9_method_7_code
def yX7_tryAll : MethodName := ⟨RX7, "tryAll", "(IIII)V"⟩
abbrev cX7_takes : ByteArray := prog_9_method_8_code
def yX7_takes : MethodName := ⟨RX7, "takes", "(II)I"⟩
abbrev cX7_atLeast : ByteArray := prog_9_method_9_code
def yX7_atLeast : MethodName := ⟨RX7, "atLeast", "(II)I"⟩
abbrev cX7_setEmpty : ByteArray := prog_9_method_10_code
def yX7_setEmpty : MethodName := ⟨RX7, "setEmpty", "()V"⟩
def RX8 : String := "GrainHouse$Tape"
def TX8 : u_T := fun k => match k with
  | 0 => ("GrainHouse$Tape", "bytes", "[I", true)
  | _ => ("GrainHouse$Tape", "length", "I", false)
def tyX8 : Nat → FieldType := fun k => match k with
  | 0 => .array .int
  | _ => .int
theorem nmX8 : ∀ a, a < 2 → ∀ b, b < 2 → a ≠ b → (TX8 a).2.1 ≠ (TX8 b).2.1 := by decide +kernel
theorem tyX8_ok : ∀ k, k < 2 → parseFieldDescriptor (TX8 k).2.2.1 = some (tyX8 k) := by decide +kernel
abbrev cX8_init : ByteArray := prog_10_method_1_code
def yX8_init : MethodName := ⟨RX8, "<init>", "()V"⟩
abbrev cX8_hasRoom : ByteArray := prog_10_method_2_code
def yX8_hasRoom : MethodName := ⟨RX8, "hasRoom", "(I)Z"⟩
abbrev cX8_put : ByteArray := prog_10_method_3_code
def yX8_put : MethodName := ⟨RX8, "put", "(I)V"⟩
def RX9 : String := "GrainHouse"
def TX9 : u_T := fun k => match k with
  | 0 => ("GrainHouse", "bins", "LGrainHouse$Bins;", true)
  | 1 => ("GrainHouse", "loads", "LGrainHouse$Loads;", true)
  | 2 => ("GrainHouse", "net", "LGrainHouse$Net;", true)
  | 3 => ("GrainHouse", "queue", "LGrainHouse$Rush;", true)
  | 4 => ("GrainHouse", "plan", "LGrainHouse$FanPlan;", true)
  | 5 => ("GrainHouse", "blender", "LGrainHouse$Blender;", true)
  | 6 => ("GrainHouse", "tape", "LGrainHouse$Tape;", true)
  | 7 => ("GrainHouse", "reader", "LGrainHouse$Reader;", true)
  | 8 => ("GrainHouse", "prices", "LGrainHouse$PriceList;", false)
  | 9 => ("GrainHouse", "spare", "LGrainHouse$PriceList;", false)
  | 10 => ("GrainHouse", "water", "J", false)
  | 11 => ("GrainHouse", "shippedKg", "J", false)
  | _ => ("GrainHouse", "shippedDry", "J", false)
def tyX9 : Nat → FieldType := fun k => match k with
  | 0 => .object "GrainHouse$Bins"
  | 1 => .object "GrainHouse$Loads"
  | 2 => .object "GrainHouse$Net"
  | 3 => .object "GrainHouse$Rush"
  | 4 => .object "GrainHouse$FanPlan"
  | 5 => .object "GrainHouse$Blender"
  | 6 => .object "GrainHouse$Tape"
  | 7 => .object "GrainHouse$Reader"
  | 8 => .object "GrainHouse$PriceList"
  | 9 => .object "GrainHouse$PriceList"
  | 10 => .long
  | 11 => .long
  | _ => .long
theorem nmX9 : ∀ a, a < 13 → ∀ b, b < 13 → a ≠ b → (TX9 a).2.1 ≠ (TX9 b).2.1 := by decide +kernel
theorem tyX9_ok : ∀ k, k < 13 → parseFieldDescriptor (TX9 k).2.2.1 = some (tyX9 k) := by decide +kernel
abbrev cX9_init : ByteArray := prog_1_method_1_code
def yX9_init : MethodName := ⟨RX9, "<init>", "()V"⟩
abbrev cX9_holds : ByteArray := prog_1_method_2_code
def yX9_holds : MethodName := ⟨RX9, "holds", "(II)Z"⟩
abbrev cX9_load : ByteArray := prog_1_method_3_code
def yX9_load : MethodName := ⟨RX9, "load", "(IIIII)I"⟩
abbrev cX9_leg : ByteArray := prog_1_method_4_code
def yX9_leg : MethodName := ⟨RX9, "leg", "(III)I"⟩
abbrev cX9_cleaning : ByteArray := prog_1_method_5_code
def yX9_cleaning : MethodName := ⟨RX9, "cleaning", "(I)Z"⟩
abbrev cX9_way : ByteArray := prog_1_method_6_code
def yX9_way : MethodName := ⟨RX9, "way", "(III)I"⟩
abbrev cX9_wayLeg : ByteArray := prog_1_method_7_code
def yX9_wayLeg : MethodName := ⟨RX9, "wayLeg", "(IIII)I"⟩
abbrev cX9_move : ByteArray := prog_1_method_8_code
def yX9_move : MethodName := ⟨RX9, "move", "(III)I"⟩
abbrev cX9_dry : ByteArray := prog_1_method_9_code
def yX9_dry : MethodName := ⟨RX9, "dry", "(IIII)I"⟩
abbrev cX9_ship : ByteArray := prog_1_method_10_code
def yX9_ship : MethodName := ⟨RX9, "ship", "(II)J"⟩
abbrev cX9_binOf : ByteArray := prog_1_method_11_code
def yX9_binOf : MethodName := ⟨RX9, "binOf", "(II)I"⟩
abbrev cX9_dryIn : ByteArray := prog_1_method_12_code
def yX9_dryIn : MethodName := ⟨RX9, "dryIn", "(I)J"⟩
abbrev cX9_truck : ByteArray := prog_1_method_13_code
def yX9_truck : MethodName := ⟨RX9, "truck", "(III)I"⟩
abbrev cX9_pit : ByteArray := prog_1_method_14_code
def yX9_pit : MethodName := ⟨RX9, "pit", "(II)Z"⟩
abbrev cX9_rush : ByteArray := prog_1_method_15_code
def yX9_rush : MethodName := ⟨RX9, "rush", "()I"⟩
abbrev cX9_served : ByteArray := prog_1_method_16_code
def yX9_served : MethodName := ⟨RX9, "served", "(II)I"⟩
abbrev cX9_gone : ByteArray := prog_1_method_17_code
def yX9_gone : MethodName := ⟨RX9, "gone", "()I"⟩
abbrev cX9_hour : ByteArray := prog_1_method_18_code
def yX9_hour : MethodName := ⟨RX9, "hour", "(IZI)Z"⟩
abbrev cX9_needs : ByteArray := prog_1_method_19_code
def yX9_needs : MethodName := ⟨RX9, "needs", "(III)Z"⟩
abbrev cX9_fans : ByteArray := prog_1_method_20_code
def yX9_fans : MethodName := ⟨RX9, "fans", "()I"⟩
abbrev cX9_fansOf : ByteArray := prog_1_method_21_code
def yX9_fansOf : MethodName := ⟨RX9, "fansOf", "(I)I"⟩
abbrev cX9_blend : ByteArray := prog_1_method_22_code
def yX9_blend : MethodName := ⟨RX9, "blend", "(IIII)J"⟩
abbrev cX9_blended : ByteArray := prog_1_method_23_code
def yX9_blended : MethodName := ⟨RX9, "blended", "(I)I"⟩
abbrev cX9_feed : ByteArray := prog_1_method_24_code
def yX9_feed : MethodName := ⟨RX9, "feed", "(IIIII)I"⟩
abbrev cX9_end : ByteArray := prog_1_method_25_code
def yX9_end : MethodName := ⟨RX9, "end", "(I)I"⟩
abbrev cX9_list : ByteArray := prog_1_method_26_code
def yX9_list : MethodName := ⟨RX9, "list", "()I"⟩
abbrev cX9_fault : ByteArray := prog_1_method_27_code
def yX9_fault : MethodName := ⟨RX9, "fault", "(I)I"⟩
abbrev cX9_worth : ByteArray := prog_1_method_28_code
def yX9_worth : MethodName := ⟨RX9, "worth", "(I)I"⟩
abbrev cX9_account : ByteArray := prog_1_method_29_code
def yX9_account : MethodName := ⟨RX9, "account", "(II)J"⟩
abbrev cX9_about : ByteArray := prog_1_method_30_code
def yX9_about : MethodName := ⟨RX9, "about", "(I)J"⟩
abbrev cX9_within : ByteArray := prog_1_method_31_code
def yX9_within : MethodName := ⟨RX9, "within", "(III)Z"⟩
abbrev cX9_isBin : ByteArray := prog_1_method_32_code
def yX9_isBin : MethodName := ⟨RX9, "isBin", "(I)Z"⟩
abbrev cX9_isKind : ByteArray := prog_1_method_33_code
def yX9_isKind : MethodName := ⟨RX9, "isKind", "(I)Z"⟩
abbrev cX9_isFarmer : ByteArray := prog_1_method_34_code
def yX9_isFarmer : MethodName := ⟨RX9, "isFarmer", "(I)Z"⟩
def RX10 : String := "GrainHouseModel"
def TX10 : u_T := fun k => match k with
  | 0 => ("GrainHouseModel", "holds", "[I", true)
  | 1 => ("GrainHouseModel", "kindIn", "[I", true)
  | 2 => ("GrainHouseModel", "kgIn", "[I", true)
  | 3 => ("GrainHouseModel", "dryIn", "[J", true)
  | 4 => ("GrainHouseModel", "loads", "I", false)
  | 5 => ("GrainHouseModel", "loadFarmer", "[I", true)
  | 6 => ("GrainHouseModel", "loadKind", "[I", true)
  | 7 => ("GrainHouseModel", "loadMoist", "[I", true)
  | 8 => ("GrainHouseModel", "loadDry", "[J", true)
  | 9 => ("GrainHouseModel", "legs", "I", false)
  | 10 => ("GrainHouseModel", "legA", "[I", true)
  | 11 => ("GrainHouseModel", "legB", "[I", true)
  | 12 => ("GrainHouseModel", "legMinutes", "[I", true)
  | 13 => ("GrainHouseModel", "legKind", "[I", true)
  | 14 => ("GrainHouseModel", "cleaning", "I", false)
  | 15 => ("GrainHouseModel", "used", "I", false)
  | 16 => ("GrainHouseModel", "water", "J", false)
  | 17 => ("GrainHouseModel", "shipped", "J", false)
  | 18 => ("GrainHouseModel", "shippedDry", "J", false)
  | 19 => ("GrainHouseModel", "trucks", "I", false)
  | 20 => ("GrainHouseModel", "truckMinute", "[I", true)
  | 21 => ("GrainHouseModel", "truckKind", "[I", true)
  | 22 => ("GrainHouseModel", "truckWeight", "[I", true)
  | 23 => ("GrainHouseModel", "unload", "I", false)
  | 24 => ("GrainHouseModel", "change", "I", false)
  | 25 => ("GrainHouseModel", "isDry", "[Z", true)
  | 26 => ("GrainHouseModel", "cost", "[I", true)
  | 27 => ("GrainHouseModel", "needs", "[I", true)
  | 28 => ("GrainHouseModel", "ahead", "[I", true)
  | 29 => ("GrainHouseModel", "power", "I", false)
  | 30 => ("GrainHouseModel", "tape", "[B", true)
  | 31 => ("GrainHouseModel", "taped", "I", false)
  | 32 => ("GrainHouseModel", "at", "I", false)
  | 33 => ("GrainHouseModel", "token", "I", false)
  | 34 => ("GrainHouseModel", "sort", "I", false)
  | 35 => ("GrainHouseModel", "told", "I", false)
  | 36 => ("GrainHouseModel", "wrong", "I", false)
  | 37 => ("GrainHouseModel", "wrongAt", "I", false)
  | 38 => ("GrainHouseModel", "fault", "I", false)
  | 39 => ("GrainHouseModel", "faultAt", "I", false)
  | 40 => ("GrainHouseModel", "newPrice", "[I", true)
  | 41 => ("GrainHouseModel", "newDocks", "I", false)
  | 42 => ("GrainHouseModel", "newDockAt", "[I", true)
  | 43 => ("GrainHouseModel", "newDock", "[I", true)
  | 44 => ("GrainHouseModel", "price", "[I", true)
  | 45 => ("GrainHouseModel", "docks", "I", false)
  | 46 => ("GrainHouseModel", "dockAt", "[I", true)
  | 47 => ("GrainHouseModel", "dock", "[I", true)
  | 48 => ("GrainHouseModel", "left", "[I", true)
  | 49 => ("GrainHouseModel", "went", "[I", true)
  | 50 => ("GrainHouseModel", "row", "[I", true)
  | 51 => ("GrainHouseModel", "best", "[I", true)
  | 52 => ("GrainHouseModel", "waited", "I", false)
  | 53 => ("GrainHouseModel", "on", "[Z", true)
  | 54 => ("GrainHouseModel", "isFixed", "[Z", true)
  | 55 => ("GrainHouseModel", "load", "[I", true)
  | 56 => ("GrainHouseModel", "dist", "[I", true)
  | 57 => ("GrainHouseModel", "from", "[I", true)
  | 58 => ("GrainHouseModel", "tons", "[I", true)
  | 59 => ("GrainHouseModel", "part", "[I", true)
  | 60 => ("GrainHouseModel", "who", "[I", true)
  | 61 => ("GrainHouseModel", "tonsTold", "[I", true)
  | _ => ("GrainHouseModel", "isBlended", "Z", false)
def tyX10 : Nat → FieldType := fun k => match k with
  | 0 => .array .int
  | 1 => .array .int
  | 2 => .array .int
  | 3 => .array .long
  | 4 => .int
  | 5 => .array .int
  | 6 => .array .int
  | 7 => .array .int
  | 8 => .array .long
  | 9 => .int
  | 10 => .array .int
  | 11 => .array .int
  | 12 => .array .int
  | 13 => .array .int
  | 14 => .int
  | 15 => .int
  | 16 => .long
  | 17 => .long
  | 18 => .long
  | 19 => .int
  | 20 => .array .int
  | 21 => .array .int
  | 22 => .array .int
  | 23 => .int
  | 24 => .int
  | 25 => .array .boolean
  | 26 => .array .int
  | 27 => .array .int
  | 28 => .array .int
  | 29 => .int
  | 30 => .array .byte
  | 31 => .int
  | 32 => .int
  | 33 => .int
  | 34 => .int
  | 35 => .int
  | 36 => .int
  | 37 => .int
  | 38 => .int
  | 39 => .int
  | 40 => .array .int
  | 41 => .int
  | 42 => .array .int
  | 43 => .array .int
  | 44 => .array .int
  | 45 => .int
  | 46 => .array .int
  | 47 => .array .int
  | 48 => .array .int
  | 49 => .array .int
  | 50 => .array .int
  | 51 => .array .int
  | 52 => .int
  | 53 => .array .boolean
  | 54 => .array .boolean
  | 55 => .array .int
  | 56 => .array .int
  | 57 => .array .int
  | 58 => .array .int
  | 59 => .array .int
  | 60 => .array .int
  | 61 => .array .int
  | _ => .boolean
theorem nmX10 : ∀ a, a < 63 → ∀ b, b < 63 → a ≠ b → (TX10 a).2.1 ≠ (TX10 b).2.1 := by decide +kernel
theorem tyX10_ok : ∀ k, k < 63 → parseFieldDescriptor (TX10 k).2.2.1 = some (tyX10 k) := by decide +kernel
abbrev cX10_init : ByteArray := prog_12_method_1_code
def yX10_init : MethodName := ⟨RX10, "<init>", "()V"⟩
abbrev cX10_in : ByteArray := prog_12_method_2_code
def yX10_in : MethodName := ⟨RX10, "in", "(JJJ)Z"⟩
abbrev cX10_isBin : ByteArray := prog_12_method_3_code
def yX10_isBin : MethodName := ⟨RX10, "isBin", "(I)Z"⟩
abbrev cX10_isKind : ByteArray := prog_12_method_4_code
def yX10_isKind : MethodName := ⟨RX10, "isKind", "(I)Z"⟩
abbrev cX10_holds : ByteArray := prog_12_method_5_code
def yX10_holds : MethodName := ⟨RX10, "holds", "(II)Z"⟩
abbrev cX10_canPut : ByteArray := prog_12_method_6_code
def yX10_canPut : MethodName := ⟨RX10, "canPut", "(III)Z"⟩
abbrev cX10_puts : ByteArray := prog_12_method_7_code
def yX10_puts : MethodName := ⟨RX10, "puts", "(IIIJ)V"⟩
abbrev cX10_dryOf : ByteArray := prog_12_method_8_code
def yX10_dryOf : MethodName := ⟨RX10, "dryOf", "(II)J"⟩
abbrev cX10_moistOf : ByteArray := prog_12_method_9_code
def yX10_moistOf : MethodName := ⟨RX10, "moistOf", "(JJ)I"⟩
abbrev cX10_load : ByteArray := prog_12_method_10_code
def yX10_load : MethodName := ⟨RX10, "load", "(IIIII)I"⟩
abbrev cX10_leg : ByteArray := prog_12_method_11_code
def yX10_leg : MethodName := ⟨RX10, "leg", "(III)I"⟩
abbrev cX10_cleaning : ByteArray := prog_12_method_12_code
def yX10_cleaning : MethodName := ⟨RX10, "cleaning", "(I)Z"⟩
abbrev cX10_legCost : ByteArray := prog_12_method_13_code
def yX10_legCost : MethodName := ⟨RX10, "legCost", "(II)I"⟩
abbrev cX10_goes : ByteArray := prog_12_method_14_code
def yX10_goes : MethodName := ⟨RX10, "goes", "(II)V"⟩
abbrev cX10_lessens : ByteArray := prog_12_method_15_code
def yX10_lessens : MethodName := ⟨RX10, "lessens", "(IIIII)Z"⟩
abbrev cX10_isWay : ByteArray := prog_12_method_16_code
def yX10_isWay : MethodName := ⟨RX10, "isWay", "(III)Z"⟩
abbrev cX10_way : ByteArray := prog_12_method_17_code
def yX10_way : MethodName := ⟨RX10, "way", "(III)I"⟩
abbrev cX10_nextLeg : ByteArray := prog_12_method_18_code
def yX10_nextLeg : MethodName := ⟨RX10, "nextLeg", "(III)I"⟩
abbrev cX10_wayLeg : ByteArray := prog_12_method_19_code
def yX10_wayLeg : MethodName := ⟨RX10, "wayLeg", "(IIII)I"⟩
abbrev cX10_goesBy : ByteArray := prog_12_method_20_code
def yX10_goesBy : MethodName := ⟨RX10, "goesBy", "(III)I"⟩
abbrev cX10_takes : ByteArray := prog_12_method_21_code
def yX10_takes : MethodName := ⟨RX10, "takes", "(II)V"⟩
abbrev cX10_move : ByteArray := prog_12_method_22_code
def yX10_move : MethodName := ⟨RX10, "move", "(III)I"⟩
abbrev cX10_dry : ByteArray := prog_12_method_23_code
def yX10_dry : MethodName := ⟨RX10, "dry", "(IIII)I"⟩
abbrev cX10_ship : ByteArray := prog_12_method_24_code
def yX10_ship : MethodName := ⟨RX10, "ship", "(II)J"⟩
abbrev cX10_binOf : ByteArray := prog_12_method_25_code
def yX10_binOf : MethodName := ⟨RX10, "binOf", "(II)I"⟩
abbrev cX10_dryIn : ByteArray := prog_12_method_26_code
def yX10_dryIn : MethodName := ⟨RX10, "dryIn", "(I)J"⟩
abbrev cX10_truck : ByteArray := prog_12_method_27_code
def yX10_truck : MethodName := ⟨RX10, "truck", "(III)I"⟩
abbrev cX10_pit : ByteArray := prog_12_method_28_code
def yX10_pit : MethodName := ⟨RX10, "pit", "(II)Z"⟩
abbrev cX10_emptyAt : ByteArray := prog_12_method_29_code
def yX10_emptyAt : MethodName := ⟨RX10, "emptyAt", "(IZ)I"⟩
abbrev cX10_nextRow : ByteArray := prog_12_method_30_code
def yX10_nextRow : MethodName := ⟨RX10, "nextRow", "()Z"⟩
abbrev cX10_swaps : ByteArray := prog_12_method_31_code
def yX10_swaps : MethodName := ⟨RX10, "swaps", "(II)V"⟩
abbrev cX10_rush : ByteArray := prog_12_method_32_code
def yX10_rush : MethodName := ⟨RX10, "rush", "()I"⟩
abbrev cX10_served : ByteArray := prog_12_method_33_code
def yX10_served : MethodName := ⟨RX10, "served", "(II)I"⟩
abbrev cX10_gone : ByteArray := prog_12_method_34_code
def yX10_gone : MethodName := ⟨RX10, "gone", "()I"⟩
abbrev cX10_hour : ByteArray := prog_12_method_35_code
def yX10_hour : MethodName := ⟨RX10, "hour", "(IZI)Z"⟩
abbrev cX10_needs : ByteArray := prog_12_method_36_code
def yX10_needs : MethodName := ⟨RX10, "needs", "(III)Z"⟩
abbrev cX10_may : ByteArray := prog_12_method_37_code
def yX10_may : MethodName := ⟨RX10, "may", "(II)Z"⟩
abbrev cX10_reaches : ByteArray := prog_12_method_38_code
def yX10_reaches : MethodName := ⟨RX10, "reaches", "(III)Z"⟩
abbrev cX10_walks : ByteArray := prog_12_method_39_code
def yX10_walks : MethodName := ⟨RX10, "walks", "(I)V"⟩
abbrev cX10_turns : ByteArray := prog_12_method_40_code
def yX10_turns : MethodName := ⟨RX10, "turns", "(II)V"⟩
abbrev cX10_plans : ByteArray := prog_12_method_41_code
def yX10_plans : MethodName := ⟨RX10, "plans", "()I"⟩
abbrev cX10_fans : ByteArray := prog_12_method_42_code
def yX10_fans : MethodName := ⟨RX10, "fans", "()I"⟩
abbrev cX10_fansOf : ByteArray := prog_12_method_43_code
def yX10_fansOf : MethodName := ⟨RX10, "fansOf", "(I)I"⟩
abbrev cX10_blends : ByteArray := prog_12_method_44_code
def yX10_blends : MethodName := ⟨RX10, "blends", "(I)J"⟩
abbrev cX10_isThere : ByteArray := prog_12_method_45_code
def yX10_isThere : MethodName := ⟨RX10, "isThere", "(II)Z"⟩
abbrev cX10_blend : ByteArray := prog_12_method_46_code
def yX10_blend : MethodName := ⟨RX10, "blend", "(IIII)J"⟩
abbrev cX10_blended : ByteArray := prog_12_method_47_code
def yX10_blended : MethodName := ⟨RX10, "blended", "(I)I"⟩
abbrev cX10_put : ByteArray := prog_12_method_48_code
def yX10_put : MethodName := ⟨RX10, "put", "(I)V"⟩
abbrev cX10_feed : ByteArray := prog_12_method_49_code
def yX10_feed : MethodName := ⟨RX10, "feed", "(IIIII)I"⟩
abbrev cX10_end : ByteArray := prog_12_method_50_code
def yX10_end : MethodName := ⟨RX10, "end", "(I)I"⟩
abbrev cX10_isLetter : ByteArray := prog_12_method_51_code
def yX10_isLetter : MethodName := ⟨RX10, "isLetter", "(I)Z"⟩
abbrev cX10_wordOf : ByteArray := prog_12_method_52_code
def yX10_wordOf : MethodName := ⟨RX10, "wordOf", "(J)I"⟩
abbrev cX10_next : ByteArray := prog_12_method_53_code
def yX10_next : MethodName := ⟨RX10, "next", "(I)V"⟩
abbrev cX10_errs : ByteArray := prog_12_method_54_code
def yX10_errs : MethodName := ⟨RX10, "errs", "(I)V"⟩
abbrev cX10_wasDock : ByteArray := prog_12_method_55_code
def yX10_wasDock : MethodName := ⟨RX10, "wasDock", "(I)Z"⟩
abbrev cX10_number : ByteArray := prog_12_method_56_code
def yX10_number : MethodName := ⟨RX10, "number", "(III)I"⟩
abbrev cX10_clause : ByteArray := prog_12_method_57_code
def yX10_clause : MethodName := ⟨RX10, "clause", "(I)V"⟩
abbrev cX10_list : ByteArray := prog_12_method_58_code
def yX10_list : MethodName := ⟨RX10, "list", "()I"⟩
abbrev cX10_fault : ByteArray := prog_12_method_59_code
def yX10_fault : MethodName := ⟨RX10, "fault", "(I)I"⟩
abbrev cX10_worthOf : ByteArray := prog_12_method_60_code
def yX10_worthOf : MethodName := ⟨RX10, "worthOf", "(I)I"⟩
abbrev cX10_worth : ByteArray := prog_12_method_61_code
def yX10_worth : MethodName := ⟨RX10, "worth", "(I)I"⟩
abbrev cX10_account : ByteArray := prog_12_method_62_code
def yX10_account : MethodName := ⟨RX10, "account", "(II)J"⟩
abbrev cX10_about : ByteArray := prog_12_method_63_code
def yX10_about : MethodName := ⟨RX10, "about", "(I)J"⟩
def RJ0 : String := "java/lang/String"
abbrev cJ0_length_8abf5 : ByteArray := prog_14_method_54_code
def yJ0_length_8abf5 : MethodName := ⟨RJ0, "length", "()I"⟩
abbrev cJ0_charAt_5068e : ByteArray := prog_14_method_56_code
def yJ0_charAt_5068e : MethodName := ⟨RJ0, "charAt", "(I)C"⟩
abbrev cJ0_coder_7d493 : ByteArray := prog_14_method_152_code
def yJ0_coder_7d493 : MethodName := ⟨RJ0, "coder", "()B"⟩
abbrev cJ0_isLatin1_aae02 : ByteArray := prog_14_method_154_code
def yJ0_isLatin1_aae02 : MethodName := ⟨RJ0, "isLatin1", "()Z"⟩
abbrev cJ0_checkIndex_df160 : ByteArray := prog_14_method_155_code
def yJ0_checkIndex_df160 : MethodName := ⟨RJ0, "checkIndex", "(II)V"⟩
def RJ1 : String := "java/lang/StringLatin1"
abbrev cJ1_charAt_3b067 : ByteArray := prog_15_method_2_code
def yJ1_charAt_3b067 : MethodName := ⟨RJ1, "charAt", "([BI)C"⟩
def RJ10 : String := "java/lang/System"
def RJ3 : String := "jdk/internal/util/Preconditions"
abbrev cJ3_checkIndex_8e157 : ByteArray := prog_18_method_11_code
def yJ3_checkIndex_8e157 : MethodName := ⟨RJ3, "checkIndex", "(IILjava/util/function/BiFunction;)I"⟩
def RL : String := "GrainHouseLaw"
abbrev cL_law : ByteArray := code
def yL_law : MethodName := ⟨RL, "law", "([I)Z"⟩
abbrev vwCl : List vw_C := [(RX0, TX0, 4), (RX1, TX1, 8), (RX2, TX2, 15), (RX3, TX3, 5), (RX4, TX4, 10), (RX5, TX5, 5), (RX6, TX6, 11), (RX7, TX7, 12), (RX8, TX8, 2), (RX9, TX9, 13), (RX10, TX10, 63)]

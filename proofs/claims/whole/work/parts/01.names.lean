-- ===== PART A: goes FIRST, ahead of the names: the tables' words, and 'selects' of the private methods out of them =====
/-- a private method of a class that the tables say can be made, by its rows of tables_1 -/
def lw_okq (q : MethodName × Nat) : Prop := (q.1.cls ≠ "java/lang/invoke/MethodHandle" ∧ q.1.cls ≠ "java/lang/invoke/VarHandle") ∧ Cond.instantiable q.1.cls q.2 ∈ tables_1 ∧ Cond.privateMethod q.1 ∈ tables_1 ∧ Cond.instanceMethod q.1 ∈ tables_1
theorem lw_p0 : lw_okq (⟨"WashHouse$Cells", "makeRoom", "()V"⟩, 7) := ⟨⟨by decide +kernel, by decide +kernel⟩, List.mem_of_getElem? (i := 24) (by decide +kernel), List.mem_of_getElem? (i := 157) (by decide +kernel), List.mem_of_getElem? (i := 158) (by decide +kernel)⟩
theorem lw_p1 : lw_okq (⟨"WashHouse", "hasMachine", "(I)Z"⟩, 13) := ⟨⟨by decide +kernel, by decide +kernel⟩, List.mem_of_getElem? (i := 16) (by decide +kernel), List.mem_of_getElem? (i := 232) (by decide +kernel), List.mem_of_getElem? (i := 233) (by decide +kernel)⟩
theorem lw_p2 : lw_okq (⟨"WashHouse", "read", "(II)I"⟩, 13) := ⟨⟨by decide +kernel, by decide +kernel⟩, List.mem_of_getElem? (i := 16) (by decide +kernel), List.mem_of_getElem? (i := 236) (by decide +kernel), List.mem_of_getElem? (i := 237) (by decide +kernel)⟩
theorem lw_p3 : lw_okq (⟨"WashHouse", "write", "(III)V"⟩, 13) := ⟨⟨by decide +kernel, by decide +kernel⟩, List.mem_of_getElem? (i := 16) (by decide +kernel), List.mem_of_getElem? (i := 244) (by decide +kernel), List.mem_of_getElem? (i := 245) (by decide +kernel)⟩
theorem lw_p4 : lw_okq (⟨"WashHouse", "found", "(I)I"⟩, 13) := ⟨⟨by decide +kernel, by decide +kernel⟩, List.mem_of_getElem? (i := 16) (by decide +kernel), List.mem_of_getElem? (i := 252) (by decide +kernel), List.mem_of_getElem? (i := 253) (by decide +kernel)⟩
theorem lw_p5 : lw_okq (⟨"WashHouse", "isBank", "(I)Z"⟩, 13) := ⟨⟨by decide +kernel, by decide +kernel⟩, List.mem_of_getElem? (i := 16) (by decide +kernel), List.mem_of_getElem? (i := 256) (by decide +kernel), List.mem_of_getElem? (i := 257) (by decide +kernel)⟩
theorem lw_p6 : lw_okq (⟨"WashHouse", "hasRun", "(I)Z"⟩, 13) := ⟨⟨by decide +kernel, by decide +kernel⟩, List.mem_of_getElem? (i := 16) (by decide +kernel), List.mem_of_getElem? (i := 260) (by decide +kernel), List.mem_of_getElem? (i := 261) (by decide +kernel)⟩
theorem lw_p7 : lw_okq (⟨"WashHouse", "roomOf", "(I)I"⟩, 13) := ⟨⟨by decide +kernel, by decide +kernel⟩, List.mem_of_getElem? (i := 16) (by decide +kernel), List.mem_of_getElem? (i := 280) (by decide +kernel), List.mem_of_getElem? (i := 281) (by decide +kernel)⟩
theorem lw_p8 : lw_okq (⟨"WashHouse", "kindAt", "(I)LWashHouse$Machine;"⟩, 13) := ⟨⟨by decide +kernel, by decide +kernel⟩, List.mem_of_getElem? (i := 16) (by decide +kernel), List.mem_of_getElem? (i := 284) (by decide +kernel), List.mem_of_getElem? (i := 285) (by decide +kernel)⟩
theorem lw_p9 : lw_okq (⟨"WashHouse", "hasProgram", "(I)Z"⟩, 13) := ⟨⟨by decide +kernel, by decide +kernel⟩, List.mem_of_getElem? (i := 16) (by decide +kernel), List.mem_of_getElem? (i := 460) (by decide +kernel), List.mem_of_getElem? (i := 461) (by decide +kernel)⟩
theorem lw_p10 : lw_okq (⟨"WashHouse", "lengthOf", "(I)I"⟩, 13) := ⟨⟨by decide +kernel, by decide +kernel⟩, List.mem_of_getElem? (i := 16) (by decide +kernel), List.mem_of_getElem? (i := 468) (by decide +kernel), List.mem_of_getElem? (i := 469) (by decide +kernel)⟩
theorem lw_p11 : lw_okq (⟨"WashHouse", "grow", "(III)V"⟩, 13) := ⟨⟨by decide +kernel, by decide +kernel⟩, List.mem_of_getElem? (i := 16) (by decide +kernel), List.mem_of_getElem? (i := 499) (by decide +kernel), List.mem_of_getElem? (i := 500) (by decide +kernel)⟩
theorem lw_p12 : lw_okq (⟨"WashHouse", "enter", "(I)V"⟩, 13) := ⟨⟨by decide +kernel, by decide +kernel⟩, List.mem_of_getElem? (i := 16) (by decide +kernel), List.mem_of_getElem? (i := 513) (by decide +kernel), List.mem_of_getElem? (i := 514) (by decide +kernel)⟩
theorem lw_p13 : lw_okq (⟨"WashHouse", "payPrice", "(I)I"⟩, 13) := ⟨⟨by decide +kernel, by decide +kernel⟩, List.mem_of_getElem? (i := 16) (by decide +kernel), List.mem_of_getElem? (i := 517) (by decide +kernel), List.mem_of_getElem? (i := 518) (by decide +kernel)⟩
theorem lw_p14 : lw_okq (⟨"WashHouse$Till", "sortByValue", "()V"⟩, 6) := ⟨⟨by decide +kernel, by decide +kernel⟩, List.mem_of_getElem? (i := 53) (by decide +kernel), List.mem_of_getElem? (i := 526) (by decide +kernel), List.mem_of_getElem? (i := 527) (by decide +kernel)⟩
theorem lw_p15 : lw_okq (⟨"WashHouse$Till", "countSpare", "(I)V"⟩, 6) := ⟨⟨by decide +kernel, by decide +kernel⟩, List.mem_of_getElem? (i := 53) (by decide +kernel), List.mem_of_getElem? (i := 530) (by decide +kernel), List.mem_of_getElem? (i := 531) (by decide +kernel)⟩
def lw_privs_1 : List (MethodName × Nat) := [(⟨"WashHouse$Cells", "makeRoom", "()V"⟩, 7), (⟨"WashHouse", "hasMachine", "(I)Z"⟩, 13), (⟨"WashHouse", "read", "(II)I"⟩, 13), (⟨"WashHouse", "write", "(III)V"⟩, 13), (⟨"WashHouse", "found", "(I)I"⟩, 13), (⟨"WashHouse", "isBank", "(I)Z"⟩, 13), (⟨"WashHouse", "hasRun", "(I)Z"⟩, 13), (⟨"WashHouse", "roomOf", "(I)I"⟩, 13), (⟨"WashHouse", "kindAt", "(I)LWashHouse$Machine;"⟩, 13), (⟨"WashHouse", "hasProgram", "(I)Z"⟩, 13), (⟨"WashHouse", "lengthOf", "(I)I"⟩, 13), (⟨"WashHouse", "grow", "(III)V"⟩, 13), (⟨"WashHouse", "enter", "(I)V"⟩, 13), (⟨"WashHouse", "payPrice", "(I)I"⟩, 13), (⟨"WashHouse$Till", "sortByValue", "()V"⟩, 6), (⟨"WashHouse$Till", "countSpare", "(I)V"⟩, 6)]
theorem lw_r1 : ∀ q ∈ lw_privs_1, lw_okq q := List.forall_mem_cons.mpr ⟨lw_p0, List.forall_mem_cons.mpr ⟨lw_p1, List.forall_mem_cons.mpr ⟨lw_p2, List.forall_mem_cons.mpr ⟨lw_p3, List.forall_mem_cons.mpr ⟨lw_p4, List.forall_mem_cons.mpr ⟨lw_p5, List.forall_mem_cons.mpr ⟨lw_p6, List.forall_mem_cons.mpr ⟨lw_p7, List.forall_mem_cons.mpr ⟨lw_p8, List.forall_mem_cons.mpr ⟨lw_p9, List.forall_mem_cons.mpr ⟨lw_p10, List.forall_mem_cons.mpr ⟨lw_p11, List.forall_mem_cons.mpr ⟨lw_p12, List.forall_mem_cons.mpr ⟨lw_p13, List.forall_mem_cons.mpr ⟨lw_p14, List.forall_mem_cons.mpr ⟨lw_p15, fun _ h => absurd h List.not_mem_nil⟩⟩⟩⟩⟩⟩⟩⟩⟩⟩⟩⟩⟩⟩⟩⟩
theorem lw_p16 : lw_okq (⟨"WashHouse$Till", "pickCoins", "(I)V"⟩, 6) := ⟨⟨by decide +kernel, by decide +kernel⟩, List.mem_of_getElem? (i := 53) (by decide +kernel), List.mem_of_getElem? (i := 547) (by decide +kernel), List.mem_of_getElem? (i := 548) (by decide +kernel)⟩
theorem lw_p17 : lw_okq (⟨"WashHouse$Till", "takeOff", "(II)V"⟩, 6) := ⟨⟨by decide +kernel, by decide +kernel⟩, List.mem_of_getElem? (i := 53) (by decide +kernel), List.mem_of_getElem? (i := 555) (by decide +kernel), List.mem_of_getElem? (i := 556) (by decide +kernel)⟩
theorem lw_p18 : lw_okq (⟨"WashHouse", "leave", "(I)V"⟩, 13) := ⟨⟨by decide +kernel, by decide +kernel⟩, List.mem_of_getElem? (i := 16) (by decide +kernel), List.mem_of_getElem? (i := 565) (by decide +kernel), List.mem_of_getElem? (i := 566) (by decide +kernel)⟩
theorem lw_p19 : lw_okq (⟨"WashHouse", "mayMix", "(II)Z"⟩, 13) := ⟨⟨by decide +kernel, by decide +kernel⟩, List.mem_of_getElem? (i := 16) (by decide +kernel), List.mem_of_getElem? (i := 604) (by decide +kernel), List.mem_of_getElem? (i := 605) (by decide +kernel)⟩
theorem lw_p20 : lw_okq (⟨"WashHouse", "isLoad", "(I)Z"⟩, 13) := ⟨⟨by decide +kernel, by decide +kernel⟩, List.mem_of_getElem? (i := 16) (by decide +kernel), List.mem_of_getElem? (i := 615) (by decide +kernel), List.mem_of_getElem? (i := 616) (by decide +kernel)⟩
theorem lw_p21 : lw_okq (⟨"WashHouse", "putInside", "(II)I"⟩, 13) := ⟨⟨by decide +kernel, by decide +kernel⟩, List.mem_of_getElem? (i := 16) (by decide +kernel), List.mem_of_getElem? (i := 619) (by decide +kernel), List.mem_of_getElem? (i := 620) (by decide +kernel)⟩
theorem lw_p22 : lw_okq (⟨"WashHouse", "isBusy", "(I)Z"⟩, 13) := ⟨⟨by decide +kernel, by decide +kernel⟩, List.mem_of_getElem? (i := 16) (by decide +kernel), List.mem_of_getElem? (i := 623) (by decide +kernel), List.mem_of_getElem? (i := 624) (by decide +kernel)⟩
theorem lw_p23 : lw_okq (⟨"WashHouse", "weightInside", "(I)I"⟩, 13) := ⟨⟨by decide +kernel, by decide +kernel⟩, List.mem_of_getElem? (i := 16) (by decide +kernel), List.mem_of_getElem? (i := 627) (by decide +kernel), List.mem_of_getElem? (i := 628) (by decide +kernel)⟩
theorem lw_p24 : lw_okq (⟨"WashHouse", "mixesInside", "(II)Z"⟩, 13) := ⟨⟨by decide +kernel, by decide +kernel⟩, List.mem_of_getElem? (i := 16) (by decide +kernel), List.mem_of_getElem? (i := 631) (by decide +kernel), List.mem_of_getElem? (i := 632) (by decide +kernel)⟩
theorem lw_p25 : lw_okq (⟨"WashHouse", "takeFrom", "(II)I"⟩, 13) := ⟨⟨by decide +kernel, by decide +kernel⟩, List.mem_of_getElem? (i := 16) (by decide +kernel), List.mem_of_getElem? (i := 639) (by decide +kernel), List.mem_of_getElem? (i := 640) (by decide +kernel)⟩
theorem lw_p26 : lw_okq (⟨"WashHouse", "shareOf", "(II)I"⟩, 13) := ⟨⟨by decide +kernel, by decide +kernel⟩, List.mem_of_getElem? (i := 16) (by decide +kernel), List.mem_of_getElem? (i := 652) (by decide +kernel), List.mem_of_getElem? (i := 653) (by decide +kernel)⟩
theorem lw_p27 : lw_okq (⟨"WashHouse", "whyNoRun", "(II)I"⟩, 13) := ⟨⟨by decide +kernel, by decide +kernel⟩, List.mem_of_getElem? (i := 16) (by decide +kernel), List.mem_of_getElem? (i := 660) (by decide +kernel), List.mem_of_getElem? (i := 661) (by decide +kernel)⟩
theorem lw_p28 : lw_okq (⟨"WashHouse", "askWishes", "(II)V"⟩, 13) := ⟨⟨by decide +kernel, by decide +kernel⟩, List.mem_of_getElem? (i := 16) (by decide +kernel), List.mem_of_getElem? (i := 679) (by decide +kernel), List.mem_of_getElem? (i := 680) (by decide +kernel)⟩
theorem lw_p29 : lw_okq (⟨"WashHouse", "fitsBounds", "()Z"⟩, 13) := ⟨⟨by decide +kernel, by decide +kernel⟩, List.mem_of_getElem? (i := 16) (by decide +kernel), List.mem_of_getElem? (i := 683) (by decide +kernel), List.mem_of_getElem? (i := 684) (by decide +kernel)⟩
theorem lw_p30 : lw_okq (⟨"WashHouse", "beginRun", "(II)V"⟩, 13) := ⟨⟨by decide +kernel, by decide +kernel⟩, List.mem_of_getElem? (i := 16) (by decide +kernel), List.mem_of_getElem? (i := 687) (by decide +kernel), List.mem_of_getElem? (i := 688) (by decide +kernel)⟩
theorem lw_p31 : lw_okq (⟨"WashHouse", "endRun", "(I)V"⟩, 13) := ⟨⟨by decide +kernel, by decide +kernel⟩, List.mem_of_getElem? (i := 16) (by decide +kernel), List.mem_of_getElem? (i := 691) (by decide +kernel), List.mem_of_getElem? (i := 692) (by decide +kernel)⟩
def lw_privs_2 : List (MethodName × Nat) := [(⟨"WashHouse$Till", "pickCoins", "(I)V"⟩, 6), (⟨"WashHouse$Till", "takeOff", "(II)V"⟩, 6), (⟨"WashHouse", "leave", "(I)V"⟩, 13), (⟨"WashHouse", "mayMix", "(II)Z"⟩, 13), (⟨"WashHouse", "isLoad", "(I)Z"⟩, 13), (⟨"WashHouse", "putInside", "(II)I"⟩, 13), (⟨"WashHouse", "isBusy", "(I)Z"⟩, 13), (⟨"WashHouse", "weightInside", "(I)I"⟩, 13), (⟨"WashHouse", "mixesInside", "(II)Z"⟩, 13), (⟨"WashHouse", "takeFrom", "(II)I"⟩, 13), (⟨"WashHouse", "shareOf", "(II)I"⟩, 13), (⟨"WashHouse", "whyNoRun", "(II)I"⟩, 13), (⟨"WashHouse", "askWishes", "(II)V"⟩, 13), (⟨"WashHouse", "fitsBounds", "()Z"⟩, 13), (⟨"WashHouse", "beginRun", "(II)V"⟩, 13), (⟨"WashHouse", "endRun", "(I)V"⟩, 13)]
theorem lw_r2 : ∀ q ∈ lw_privs_2, lw_okq q := List.forall_mem_cons.mpr ⟨lw_p16, List.forall_mem_cons.mpr ⟨lw_p17, List.forall_mem_cons.mpr ⟨lw_p18, List.forall_mem_cons.mpr ⟨lw_p19, List.forall_mem_cons.mpr ⟨lw_p20, List.forall_mem_cons.mpr ⟨lw_p21, List.forall_mem_cons.mpr ⟨lw_p22, List.forall_mem_cons.mpr ⟨lw_p23, List.forall_mem_cons.mpr ⟨lw_p24, List.forall_mem_cons.mpr ⟨lw_p25, List.forall_mem_cons.mpr ⟨lw_p26, List.forall_mem_cons.mpr ⟨lw_p27, List.forall_mem_cons.mpr ⟨lw_p28, List.forall_mem_cons.mpr ⟨lw_p29, List.forall_mem_cons.mpr ⟨lw_p30, List.forall_mem_cons.mpr ⟨lw_p31, fun _ h => absurd h List.not_mem_nil⟩⟩⟩⟩⟩⟩⟩⟩⟩⟩⟩⟩⟩⟩⟩⟩
theorem lw_p32 : lw_okq (⟨"WashHouse", "drainOff", "(I)V"⟩, 13) := ⟨⟨by decide +kernel, by decide +kernel⟩, List.mem_of_getElem? (i := 16) (by decide +kernel), List.mem_of_getElem? (i := 695) (by decide +kernel), List.mem_of_getElem? (i := 696) (by decide +kernel)⟩
theorem lw_p33 : lw_okq (⟨"WashHouse", "breakDown", "()V"⟩, 13) := ⟨⟨by decide +kernel, by decide +kernel⟩, List.mem_of_getElem? (i := 16) (by decide +kernel), List.mem_of_getElem? (i := 707) (by decide +kernel), List.mem_of_getElem? (i := 708) (by decide +kernel)⟩
theorem lw_p34 : lw_okq (⟨"WashHouse", "serveRuns", "()V"⟩, 13) := ⟨⟨by decide +kernel, by decide +kernel⟩, List.mem_of_getElem? (i := 16) (by decide +kernel), List.mem_of_getElem? (i := 715) (by decide +kernel), List.mem_of_getElem? (i := 716) (by decide +kernel)⟩
theorem lw_p35 : lw_okq (⟨"WashHouse", "lineUpRuns", "()I"⟩, 13) := ⟨⟨by decide +kernel, by decide +kernel⟩, List.mem_of_getElem? (i := 16) (by decide +kernel), List.mem_of_getElem? (i := 719) (by decide +kernel), List.mem_of_getElem? (i := 720) (by decide +kernel)⟩
theorem lw_p36 : lw_okq (⟨"WashHouse", "goOn", "(II)V"⟩, 13) := ⟨⟨by decide +kernel, by decide +kernel⟩, List.mem_of_getElem? (i := 16) (by decide +kernel), List.mem_of_getElem? (i := 723) (by decide +kernel), List.mem_of_getElem? (i := 724) (by decide +kernel)⟩
theorem lw_p37 : lw_okq (⟨"WashHouse", "waitOn", "(I)V"⟩, 13) := ⟨⟨by decide +kernel, by decide +kernel⟩, List.mem_of_getElem? (i := 16) (by decide +kernel), List.mem_of_getElem? (i := 727) (by decide +kernel), List.mem_of_getElem? (i := 728) (by decide +kernel)⟩
theorem lw_p38 : lw_okq (⟨"WashHouse", "minutesLeft", "(I)I"⟩, 13) := ⟨⟨by decide +kernel, by decide +kernel⟩, List.mem_of_getElem? (i := 16) (by decide +kernel), List.mem_of_getElem? (i := 743) (by decide +kernel), List.mem_of_getElem? (i := 744) (by decide +kernel)⟩
theorem lw_p39 : lw_okq (⟨"WashHouse", "countMachines", "()I"⟩, 13) := ⟨⟨by decide +kernel, by decide +kernel⟩, List.mem_of_getElem? (i := 16) (by decide +kernel), List.mem_of_getElem? (i := 780) (by decide +kernel), List.mem_of_getElem? (i := 781) (by decide +kernel)⟩
theorem lw_p40 : lw_okq (⟨"WashHouse", "countPrograms", "()I"⟩, 13) := ⟨⟨by decide +kernel, by decide +kernel⟩, List.mem_of_getElem? (i := 16) (by decide +kernel), List.mem_of_getElem? (i := 784) (by decide +kernel), List.mem_of_getElem? (i := 785) (by decide +kernel)⟩
theorem lw_p41 : lw_okq (⟨"WashHouse", "countRuns", "()I"⟩, 13) := ⟨⟨by decide +kernel, by decide +kernel⟩, List.mem_of_getElem? (i := 16) (by decide +kernel), List.mem_of_getElem? (i := 788) (by decide +kernel), List.mem_of_getElem? (i := 789) (by decide +kernel)⟩
theorem lw_p42 : lw_okq (⟨"WashHouseModel", "isThere", "(I)Z"⟩, 22) := ⟨⟨by decide +kernel, by decide +kernel⟩, List.mem_of_getElem? (i := 819) (by decide +kernel), List.mem_of_getElem? (i := 903) (by decide +kernel), List.mem_of_getElem? (i := 904) (by decide +kernel)⟩
theorem lw_p43 : lw_okq (⟨"WashHouseModel", "of", "(II)I"⟩, 22) := ⟨⟨by decide +kernel, by decide +kernel⟩, List.mem_of_getElem? (i := 819) (by decide +kernel), List.mem_of_getElem? (i := 907) (by decide +kernel), List.mem_of_getElem? (i := 908) (by decide +kernel)⟩
theorem lw_p44 : lw_okq (⟨"WashHouseModel", "let", "(III)V"⟩, 22) := ⟨⟨by decide +kernel, by decide +kernel⟩, List.mem_of_getElem? (i := 819) (by decide +kernel), List.mem_of_getElem? (i := 911) (by decide +kernel), List.mem_of_getElem? (i := 912) (by decide +kernel)⟩
theorem lw_p45 : lw_okq (⟨"WashHouseModel", "w", "(II)V"⟩, 22) := ⟨⟨by decide +kernel, by decide +kernel⟩, List.mem_of_getElem? (i := 819) (by decide +kernel), List.mem_of_getElem? (i := 915) (by decide +kernel), List.mem_of_getElem? (i := 916) (by decide +kernel)⟩
theorem lw_p46 : lw_okq (⟨"WashHouseModel", "found", "(I)I"⟩, 22) := ⟨⟨by decide +kernel, by decide +kernel⟩, List.mem_of_getElem? (i := 819) (by decide +kernel), List.mem_of_getElem? (i := 924) (by decide +kernel), List.mem_of_getElem? (i := 925) (by decide +kernel)⟩
theorem lw_p47 : lw_okq (⟨"WashHouseModel", "kindOf", "(I)I"⟩, 22) := ⟨⟨by decide +kernel, by decide +kernel⟩, List.mem_of_getElem? (i := 819) (by decide +kernel), List.mem_of_getElem? (i := 928) (by decide +kernel), List.mem_of_getElem? (i := 929) (by decide +kernel)⟩
def lw_privs_3 : List (MethodName × Nat) := [(⟨"WashHouse", "drainOff", "(I)V"⟩, 13), (⟨"WashHouse", "breakDown", "()V"⟩, 13), (⟨"WashHouse", "serveRuns", "()V"⟩, 13), (⟨"WashHouse", "lineUpRuns", "()I"⟩, 13), (⟨"WashHouse", "goOn", "(II)V"⟩, 13), (⟨"WashHouse", "waitOn", "(I)V"⟩, 13), (⟨"WashHouse", "minutesLeft", "(I)I"⟩, 13), (⟨"WashHouse", "countMachines", "()I"⟩, 13), (⟨"WashHouse", "countPrograms", "()I"⟩, 13), (⟨"WashHouse", "countRuns", "()I"⟩, 13), (⟨"WashHouseModel", "isThere", "(I)Z"⟩, 22), (⟨"WashHouseModel", "of", "(II)I"⟩, 22), (⟨"WashHouseModel", "let", "(III)V"⟩, 22), (⟨"WashHouseModel", "w", "(II)V"⟩, 22), (⟨"WashHouseModel", "found", "(I)I"⟩, 22), (⟨"WashHouseModel", "kindOf", "(I)I"⟩, 22)]
theorem lw_r3 : ∀ q ∈ lw_privs_3, lw_okq q := List.forall_mem_cons.mpr ⟨lw_p32, List.forall_mem_cons.mpr ⟨lw_p33, List.forall_mem_cons.mpr ⟨lw_p34, List.forall_mem_cons.mpr ⟨lw_p35, List.forall_mem_cons.mpr ⟨lw_p36, List.forall_mem_cons.mpr ⟨lw_p37, List.forall_mem_cons.mpr ⟨lw_p38, List.forall_mem_cons.mpr ⟨lw_p39, List.forall_mem_cons.mpr ⟨lw_p40, List.forall_mem_cons.mpr ⟨lw_p41, List.forall_mem_cons.mpr ⟨lw_p42, List.forall_mem_cons.mpr ⟨lw_p43, List.forall_mem_cons.mpr ⟨lw_p44, List.forall_mem_cons.mpr ⟨lw_p45, List.forall_mem_cons.mpr ⟨lw_p46, List.forall_mem_cons.mpr ⟨lw_p47, fun _ h => absurd h List.not_mem_nil⟩⟩⟩⟩⟩⟩⟩⟩⟩⟩⟩⟩⟩⟩⟩⟩
theorem lw_p48 : lw_okq (⟨"WashHouseModel", "loadsIn", "(I)I"⟩, 22) := ⟨⟨by decide +kernel, by decide +kernel⟩, List.mem_of_getElem? (i := 819) (by decide +kernel), List.mem_of_getElem? (i := 932) (by decide +kernel), List.mem_of_getElem? (i := 933) (by decide +kernel)⟩
theorem lw_p49 : lw_okq (⟨"WashHouseModel", "creditOf", "(I)I"⟩, 22) := ⟨⟨by decide +kernel, by decide +kernel⟩, List.mem_of_getElem? (i := 819) (by decide +kernel), List.mem_of_getElem? (i := 940) (by decide +kernel), List.mem_of_getElem? (i := 941) (by decide +kernel)⟩
theorem lw_p50 : lw_okq (⟨"WashHouseModel", "roomOf", "(I)I"⟩, 22) := ⟨⟨by decide +kernel, by decide +kernel⟩, List.mem_of_getElem? (i := 819) (by decide +kernel), List.mem_of_getElem? (i := 948) (by decide +kernel), List.mem_of_getElem? (i := 949) (by decide +kernel)⟩
theorem lw_p51 : lw_okq (⟨"WashHouseModel", "wearOf", "(II)I"⟩, 22) := ⟨⟨by decide +kernel, by decide +kernel⟩, List.mem_of_getElem? (i := 819) (by decide +kernel), List.mem_of_getElem? (i := 959) (by decide +kernel), List.mem_of_getElem? (i := 960) (by decide +kernel)⟩
theorem lw_p52 : lw_okq (⟨"WashHouseModel", "note", "(II)V"⟩, 22) := ⟨⟨by decide +kernel, by decide +kernel⟩, List.mem_of_getElem? (i := 819) (by decide +kernel), List.mem_of_getElem? (i := 963) (by decide +kernel), List.mem_of_getElem? (i := 964) (by decide +kernel)⟩
theorem lw_p53 : lw_okq (⟨"WashHouseModel", "wishOf", "(III)I"⟩, 22) := ⟨⟨by decide +kernel, by decide +kernel⟩, List.mem_of_getElem? (i := 819) (by decide +kernel), List.mem_of_getElem? (i := 967) (by decide +kernel), List.mem_of_getElem? (i := 968) (by decide +kernel)⟩
theorem lw_p54 : lw_okq (⟨"WashHouseModel", "washers", "(II)I"⟩, 22) := ⟨⟨by decide +kernel, by decide +kernel⟩, List.mem_of_getElem? (i := 819) (by decide +kernel), List.mem_of_getElem? (i := 971) (by decide +kernel), List.mem_of_getElem? (i := 972) (by decide +kernel)⟩
theorem lw_p55 : lw_okq (⟨"WashHouseModel", "plain", "(I)I"⟩, 22) := ⟨⟨by decide +kernel, by decide +kernel⟩, List.mem_of_getElem? (i := 819) (by decide +kernel), List.mem_of_getElem? (i := 975) (by decide +kernel), List.mem_of_getElem? (i := 976) (by decide +kernel)⟩
theorem lw_p56 : lw_okq (⟨"WashHouseModel", "dryers", "(II)I"⟩, 22) := ⟨⟨by decide +kernel, by decide +kernel⟩, List.mem_of_getElem? (i := 819) (by decide +kernel), List.mem_of_getElem? (i := 979) (by decide +kernel), List.mem_of_getElem? (i := 980) (by decide +kernel)⟩
theorem lw_p57 : lw_okq (⟨"WashHouseModel", "touch", "(I)V"⟩, 22) := ⟨⟨by decide +kernel, by decide +kernel⟩, List.mem_of_getElem? (i := 819) (by decide +kernel), List.mem_of_getElem? (i := 1025) (by decide +kernel), List.mem_of_getElem? (i := 1026) (by decide +kernel)⟩
theorem lw_p58 : lw_okq (⟨"WashHouseModel", "canChange", "(II)Z"⟩, 22) := ⟨⟨by decide +kernel, by decide +kernel⟩, List.mem_of_getElem? (i := 819) (by decide +kernel), List.mem_of_getElem? (i := 1029) (by decide +kernel), List.mem_of_getElem? (i := 1030) (by decide +kernel)⟩
theorem lw_p59 : lw_okq (⟨"WashHouseModel", "orderTubes", "(I)V"⟩, 22) := ⟨⟨by decide +kernel, by decide +kernel⟩, List.mem_of_getElem? (i := 819) (by decide +kernel), List.mem_of_getElem? (i := 1033) (by decide +kernel), List.mem_of_getElem? (i := 1034) (by decide +kernel)⟩
theorem lw_p60 : lw_okq (⟨"WashHouseModel", "giveBack", "(I)I"⟩, 22) := ⟨⟨by decide +kernel, by decide +kernel⟩, List.mem_of_getElem? (i := 819) (by decide +kernel), List.mem_of_getElem? (i := 1037) (by decide +kernel), List.mem_of_getElem? (i := 1038) (by decide +kernel)⟩
theorem lw_p61 : lw_okq (⟨"WashHouseModel", "isLoad", "(I)Z"⟩, 22) := ⟨⟨by decide +kernel, by decide +kernel⟩, List.mem_of_getElem? (i := 819) (by decide +kernel), List.mem_of_getElem? (i := 1069) (by decide +kernel), List.mem_of_getElem? (i := 1070) (by decide +kernel)⟩
theorem lw_p62 : lw_okq (⟨"WashHouseModel", "shareOf", "(III)I"⟩, 22) := ⟨⟨by decide +kernel, by decide +kernel⟩, List.mem_of_getElem? (i := 819) (by decide +kernel), List.mem_of_getElem? (i := 1085) (by decide +kernel), List.mem_of_getElem? (i := 1086) (by decide +kernel)⟩
theorem lw_p63 : lw_okq (⟨"WashHouseModel", "against", "(II)I"⟩, 22) := ⟨⟨by decide +kernel, by decide +kernel⟩, List.mem_of_getElem? (i := 819) (by decide +kernel), List.mem_of_getElem? (i := 1093) (by decide +kernel), List.mem_of_getElem? (i := 1094) (by decide +kernel)⟩
def lw_privs_4 : List (MethodName × Nat) := [(⟨"WashHouseModel", "loadsIn", "(I)I"⟩, 22), (⟨"WashHouseModel", "creditOf", "(I)I"⟩, 22), (⟨"WashHouseModel", "roomOf", "(I)I"⟩, 22), (⟨"WashHouseModel", "wearOf", "(II)I"⟩, 22), (⟨"WashHouseModel", "note", "(II)V"⟩, 22), (⟨"WashHouseModel", "wishOf", "(III)I"⟩, 22), (⟨"WashHouseModel", "washers", "(II)I"⟩, 22), (⟨"WashHouseModel", "plain", "(I)I"⟩, 22), (⟨"WashHouseModel", "dryers", "(II)I"⟩, 22), (⟨"WashHouseModel", "touch", "(I)V"⟩, 22), (⟨"WashHouseModel", "canChange", "(II)Z"⟩, 22), (⟨"WashHouseModel", "orderTubes", "(I)V"⟩, 22), (⟨"WashHouseModel", "giveBack", "(I)I"⟩, 22), (⟨"WashHouseModel", "isLoad", "(I)Z"⟩, 22), (⟨"WashHouseModel", "shareOf", "(III)I"⟩, 22), (⟨"WashHouseModel", "against", "(II)I"⟩, 22)]
theorem lw_r4 : ∀ q ∈ lw_privs_4, lw_okq q := List.forall_mem_cons.mpr ⟨lw_p48, List.forall_mem_cons.mpr ⟨lw_p49, List.forall_mem_cons.mpr ⟨lw_p50, List.forall_mem_cons.mpr ⟨lw_p51, List.forall_mem_cons.mpr ⟨lw_p52, List.forall_mem_cons.mpr ⟨lw_p53, List.forall_mem_cons.mpr ⟨lw_p54, List.forall_mem_cons.mpr ⟨lw_p55, List.forall_mem_cons.mpr ⟨lw_p56, List.forall_mem_cons.mpr ⟨lw_p57, List.forall_mem_cons.mpr ⟨lw_p58, List.forall_mem_cons.mpr ⟨lw_p59, List.forall_mem_cons.mpr ⟨lw_p60, List.forall_mem_cons.mpr ⟨lw_p61, List.forall_mem_cons.mpr ⟨lw_p62, List.forall_mem_cons.mpr ⟨lw_p63, fun _ h => absurd h List.not_mem_nil⟩⟩⟩⟩⟩⟩⟩⟩⟩⟩⟩⟩⟩⟩⟩⟩
theorem lw_p64 : lw_okq (⟨"WashHouseModel", "ask", "(II)V"⟩, 22) := ⟨⟨by decide +kernel, by decide +kernel⟩, List.mem_of_getElem? (i := 819) (by decide +kernel), List.mem_of_getElem? (i := 1100) (by decide +kernel), List.mem_of_getElem? (i := 1101) (by decide +kernel)⟩
theorem lw_p65 : lw_okq (⟨"WashHouseModel", "ends", "(I)V"⟩, 22) := ⟨⟨by decide +kernel, by decide +kernel⟩, List.mem_of_getElem? (i := 819) (by decide +kernel), List.mem_of_getElem? (i := 1104) (by decide +kernel), List.mem_of_getElem? (i := 1105) (by decide +kernel)⟩
theorem lw_p66 : lw_okq (⟨"WashHouseModel", "oneMinute", "()V"⟩, 22) := ⟨⟨by decide +kernel, by decide +kernel⟩, List.mem_of_getElem? (i := 819) (by decide +kernel), List.mem_of_getElem? (i := 1112) (by decide +kernel), List.mem_of_getElem? (i := 1113) (by decide +kernel)⟩
theorem lw_p67 : lw_okq (⟨"WashHouseModel", "breakDown", "(I)V"⟩, 22) := ⟨⟨by decide +kernel, by decide +kernel⟩, List.mem_of_getElem? (i := 819) (by decide +kernel), List.mem_of_getElem? (i := 1116) (by decide +kernel), List.mem_of_getElem? (i := 1117) (by decide +kernel)⟩
theorem lw_p68 : lw_okq (⟨"WashHouseModel", "goesOrWaits", "(I)V"⟩, 22) := ⟨⟨by decide +kernel, by decide +kernel⟩, List.mem_of_getElem? (i := 819) (by decide +kernel), List.mem_of_getElem? (i := 1120) (by decide +kernel), List.mem_of_getElem? (i := 1121) (by decide +kernel)⟩
theorem lw_p69 : lw_okq (⟨"WashHouseModel", "goes", "(II)V"⟩, 22) := ⟨⟨by decide +kernel, by decide +kernel⟩, List.mem_of_getElem? (i := 819) (by decide +kernel), List.mem_of_getElem? (i := 1124) (by decide +kernel), List.mem_of_getElem? (i := 1125) (by decide +kernel)⟩
theorem lw_p70 : lw_okq (⟨"WashHouseModel", "leftOf", "(I)I"⟩, 22) := ⟨⟨by decide +kernel, by decide +kernel⟩, List.mem_of_getElem? (i := 819) (by decide +kernel), List.mem_of_getElem? (i := 1132) (by decide +kernel), List.mem_of_getElem? (i := 1133) (by decide +kernel)⟩
def lw_privs_5 : List (MethodName × Nat) := [(⟨"WashHouseModel", "ask", "(II)V"⟩, 22), (⟨"WashHouseModel", "ends", "(I)V"⟩, 22), (⟨"WashHouseModel", "oneMinute", "()V"⟩, 22), (⟨"WashHouseModel", "breakDown", "(I)V"⟩, 22), (⟨"WashHouseModel", "goesOrWaits", "(I)V"⟩, 22), (⟨"WashHouseModel", "goes", "(II)V"⟩, 22), (⟨"WashHouseModel", "leftOf", "(I)I"⟩, 22)]
theorem lw_r5 : ∀ q ∈ lw_privs_5, lw_okq q := List.forall_mem_cons.mpr ⟨lw_p64, List.forall_mem_cons.mpr ⟨lw_p65, List.forall_mem_cons.mpr ⟨lw_p66, List.forall_mem_cons.mpr ⟨lw_p67, List.forall_mem_cons.mpr ⟨lw_p68, List.forall_mem_cons.mpr ⟨lw_p69, List.forall_mem_cons.mpr ⟨lw_p70, fun _ h => absurd h List.not_mem_nil⟩⟩⟩⟩⟩⟩⟩
def lw_privs : List (MethodName × Nat) := lw_privs_1 ++ (lw_privs_2 ++ (lw_privs_3 ++ (lw_privs_4 ++ (lw_privs_5))))
def lw_tbl : List Cond := k2_sels lw_privs ++ tables_1
theorem lw_privs_ok : ∀ q ∈ lw_privs, lw_okq q := by
  show ∀ q ∈ lw_privs_1 ++ (lw_privs_2 ++ (lw_privs_3 ++ (lw_privs_4 ++ (lw_privs_5)))), lw_okq q
  exact List.forall_mem_append.mpr ⟨lw_r1, List.forall_mem_append.mpr ⟨lw_r2, List.forall_mem_append.mpr ⟨lw_r3, List.forall_mem_append.mpr ⟨lw_r4, lw_r5⟩⟩⟩⟩
def RX0 : String := "WashHouse$Bank"
def TX0 : u_T := fun k => match k with
  | _ => ("WashHouse$Machine", "begun", "LWashHouse$Trace;", true)
def tyX0 : Nat → FieldType := fun k => match k with
  | _ => .object "WashHouse$Trace"
abbrev wsX00 : List Cond := u_ws RX0 TX0 1
theorem nmX0 : ∀ a, a < 1 → ∀ b, b < 1 → a ≠ b → (TX0 a).2.1 ≠ (TX0 b).2.1 := by decide +kernel
theorem tyX0_ok : ∀ k, k < 1 → parseFieldDescriptor (TX0 k).2.2.1 = some (tyX0 k) := by decide +kernel
abbrev cX0_init : ByteArray := prog_2_method_1_code
def yX0_init : MethodName := ⟨RX0, "<init>", "(LWashHouse$Trace;)V"⟩
abbrev cX0_water : ByteArray := prog_2_method_2_code
def yX0_water : MethodName := ⟨RX0, "water", "(II)I"⟩
abbrev cX0_heat : ByteArray := prog_2_method_3_code
def yX0_heat : MethodName := ⟨RX0, "heat", "(II)I"⟩
abbrev cX0_power : ByteArray := prog_2_method_4_code
def yX0_power : MethodName := ⟨RX0, "power", "(II)I"⟩
def RX1 : String := "WashHouse$Cells"
def TX1 : u_T := fun k => match k with
  | 0 => ("WashHouse$Cells", "now", "[I", true)
  | 1 => ("WashHouse$Cells", "marks", "[I", true)
  | 2 => ("WashHouse$Cells", "log", "[I", false)
  | 3 => ("WashHouse$Cells", "first", "I", false)
  | 4 => ("WashHouse$Cells", "end", "I", false)
  | 5 => ("WashHouse$Cells", "time", "I", false)
  | _ => ("WashHouse$Cells", "oldest", "I", false)
def tyX1 : Nat → FieldType := fun k => match k with
  | 0 => .array .int
  | 1 => .array .int
  | 2 => .array .int
  | 3 => .int
  | 4 => .int
  | 5 => .int
  | _ => .int
abbrev wsX10 : List Cond := u_ws RX1 TX1 7
theorem nmX1 : ∀ a, a < 7 → ∀ b, b < 7 → a ≠ b → (TX1 a).2.1 ≠ (TX1 b).2.1 := by decide +kernel
theorem tyX1_ok : ∀ k, k < 7 → parseFieldDescriptor (TX1 k).2.2.1 = some (tyX1 k) := by decide +kernel
abbrev cX1_init : ByteArray := prog_3_method_1_code
def yX1_init : MethodName := ⟨RX1, "<init>", "()V"⟩
abbrev cX1_get : ByteArray := prog_3_method_2_code
def yX1_get : MethodName := ⟨RX1, "get", "(I)I"⟩
abbrev cX1_set : ByteArray := prog_3_method_3_code
def yX1_set : MethodName := ⟨RX1, "set", "(II)V"⟩
abbrev cX1_add : ByteArray := prog_3_method_4_code
def yX1_add : MethodName := ⟨RX1, "add", "(II)V"⟩
abbrev cX1_time : ByteArray := prog_3_method_5_code
def yX1_time : MethodName := ⟨RX1, "time", "()I"⟩
abbrev cX1_keptMinutes : ByteArray := prog_3_method_6_code
def yX1_keptMinutes : MethodName := ⟨RX1, "keptMinutes", "()I"⟩
abbrev cX1_beginMinute : ByteArray := prog_3_method_7_code
def yX1_beginMinute : MethodName := ⟨RX1, "beginMinute", "()V"⟩
abbrev cX1_endMinute : ByteArray := prog_3_method_8_code
def yX1_endMinute : MethodName := ⟨RX1, "endMinute", "()V"⟩
abbrev cX1_undoMinutes : ByteArray := prog_3_method_9_code
def yX1_undoMinutes : MethodName := ⟨RX1, "undoMinutes", "(I)V"⟩
abbrev cX1_makeRoom : ByteArray := prog_3_method_10_code
def yX1_makeRoom : MethodName := ⟨RX1, "makeRoom", "()V"⟩
abbrev cX1_slotOf : ByteArray := prog_3_method_11_code
def yX1_slotOf : MethodName := ⟨RX1, "slotOf", "(I)I"⟩
def RX2 : String := "WashHouse$Dryer"
def TX2 : u_T := fun k => match k with
  | _ => ("WashHouse$Machine", "begun", "LWashHouse$Trace;", true)
def tyX2 : Nat → FieldType := fun k => match k with
  | _ => .object "WashHouse$Trace"
abbrev wsX20 : List Cond := u_ws RX2 TX2 1
theorem nmX2 : ∀ a, a < 1 → ∀ b, b < 1 → a ≠ b → (TX2 a).2.1 ≠ (TX2 b).2.1 := by decide +kernel
theorem tyX2_ok : ∀ k, k < 1 → parseFieldDescriptor (TX2 k).2.2.1 = some (tyX2 k) := by decide +kernel
abbrev cX2_init : ByteArray := prog_4_method_1_code
def yX2_init : MethodName := ⟨RX2, "<init>", "(LWashHouse$Trace;)V"⟩
abbrev cX2_turns : ByteArray := prog_4_method_2_code
def yX2_turns : MethodName := ⟨RX2, "turns", "()Z"⟩
abbrev cX2_warms : ByteArray := prog_4_method_3_code
def yX2_warms : MethodName := ⟨RX2, "warms", "()Z"⟩
abbrev cX2_heat : ByteArray := prog_4_method_4_code
def yX2_heat : MethodName := ⟨RX2, "heat", "(II)I"⟩
abbrev cX2_power : ByteArray := prog_4_method_5_code
def yX2_power : MethodName := ⟨RX2, "power", "(II)I"⟩
abbrev cX2_speed : ByteArray := prog_4_method_6_code
def yX2_speed : MethodName := ⟨RX2, "speed", "()I"⟩
def RX3 : String := "WashHouse$Machine"
def TX3 : u_T := fun k => match k with
  | _ => ("", "", "", false)
def tyX3 : Nat → FieldType := fun k => match k with
  | _ => .int
abbrev wsX30 : List Cond := u_ws RX3 TX3 0
theorem nmX3 : ∀ a, a < 0 → ∀ b, b < 0 → a ≠ b → (TX3 a).2.1 ≠ (TX3 b).2.1 := by decide +kernel
theorem tyX3_ok : ∀ k, k < 0 → parseFieldDescriptor (TX3 k).2.2.1 = some (tyX3 k) := by decide +kernel
abbrev cX3_init : ByteArray := prog_5_method_1_code
def yX3_init : MethodName := ⟨RX3, "<init>", "(LWashHouse$Trace;)V"⟩
abbrev cX3_fills : ByteArray := prog_5_method_2_code
def yX3_fills : MethodName := ⟨RX3, "fills", "()Z"⟩
abbrev cX3_turns : ByteArray := prog_5_method_3_code
def yX3_turns : MethodName := ⟨RX3, "turns", "()Z"⟩
abbrev cX3_warms : ByteArray := prog_5_method_4_code
def yX3_warms : MethodName := ⟨RX3, "warms", "()Z"⟩
abbrev cX3_canDo : ByteArray := prog_5_method_5_code
def yX3_canDo : MethodName := ⟨RX3, "canDo", "(I)Z"⟩
abbrev cX3_water : ByteArray := prog_5_method_6_code
def yX3_water : MethodName := ⟨RX3, "water", "(II)I"⟩
abbrev cX3_heat : ByteArray := prog_5_method_7_code
def yX3_heat : MethodName := ⟨RX3, "heat", "(II)I"⟩
abbrev cX3_power : ByteArray := prog_5_method_8_code
def yX3_power : MethodName := ⟨RX3, "power", "(II)I"⟩
abbrev cX3_wear : ByteArray := prog_5_method_10_code
def yX3_wear : MethodName := ⟨RX3, "wear", "(I)I"⟩
def RX4 : String := "WashHouse$Press"
def TX4 : u_T := fun k => match k with
  | _ => ("WashHouse$Machine", "begun", "LWashHouse$Trace;", true)
def tyX4 : Nat → FieldType := fun k => match k with
  | _ => .object "WashHouse$Trace"
abbrev wsX40 : List Cond := u_ws RX4 TX4 1
theorem nmX4 : ∀ a, a < 1 → ∀ b, b < 1 → a ≠ b → (TX4 a).2.1 ≠ (TX4 b).2.1 := by decide +kernel
theorem tyX4_ok : ∀ k, k < 1 → parseFieldDescriptor (TX4 k).2.2.1 = some (tyX4 k) := by decide +kernel
abbrev cX4_init : ByteArray := prog_6_method_1_code
def yX4_init : MethodName := ⟨RX4, "<init>", "(LWashHouse$Trace;)V"⟩
abbrev cX4_turns : ByteArray := prog_6_method_2_code
def yX4_turns : MethodName := ⟨RX4, "turns", "()Z"⟩
abbrev cX4_heat : ByteArray := prog_6_method_3_code
def yX4_heat : MethodName := ⟨RX4, "heat", "(II)I"⟩
def RX5 : String := "WashHouse$Spinner"
def TX5 : u_T := fun k => match k with
  | _ => ("WashHouse$Machine", "begun", "LWashHouse$Trace;", true)
def tyX5 : Nat → FieldType := fun k => match k with
  | _ => .object "WashHouse$Trace"
abbrev wsX50 : List Cond := u_ws RX5 TX5 1
theorem nmX5 : ∀ a, a < 1 → ∀ b, b < 1 → a ≠ b → (TX5 a).2.1 ≠ (TX5 b).2.1 := by decide +kernel
theorem tyX5_ok : ∀ k, k < 1 → parseFieldDescriptor (TX5 k).2.2.1 = some (tyX5 k) := by decide +kernel
abbrev cX5_init : ByteArray := prog_7_method_1_code
def yX5_init : MethodName := ⟨RX5, "<init>", "(LWashHouse$Trace;)V"⟩
abbrev cX5_heat : ByteArray := prog_7_method_2_code
def yX5_heat : MethodName := ⟨RX5, "heat", "(II)I"⟩
abbrev cX5_power : ByteArray := prog_7_method_3_code
def yX5_power : MethodName := ⟨RX5, "power", "(II)I"⟩
abbrev cX5_speed : ByteArray := prog_7_method_4_code
def yX5_speed : MethodName := ⟨RX5, "speed", "()I"⟩
def RX6 : String := "WashHouse$Till"
def TX6 : u_T := fun k => match k with
  | 0 => ("WashHouse$Till", "cells", "LWashHouse$Cells;", true)
  | 1 => ("WashHouse$Till", "byValue", "[I", true)
  | 2 => ("WashHouse$Till", "spare", "[I", true)
  | 3 => ("WashHouse$Till", "picked", "[I", true)
  | 4 => ("WashHouse$Till", "gave", "[I", true)
  | _ => ("WashHouse$Till", "fewest", "[[I", true)
def tyX6 : Nat → FieldType := fun k => match k with
  | 0 => .object "WashHouse$Cells"
  | 1 => .array .int
  | 2 => .array .int
  | 3 => .array .int
  | 4 => .array .int
  | _ => .array (.array .int)
abbrev wsX60 : List Cond := u_ws RX6 TX6 6
theorem nmX6 : ∀ a, a < 6 → ∀ b, b < 6 → a ≠ b → (TX6 a).2.1 ≠ (TX6 b).2.1 := by decide +kernel
theorem tyX6_ok : ∀ k, k < 6 → parseFieldDescriptor (TX6 k).2.2.1 = some (tyX6 k) := by decide +kernel
abbrev cX6_init : ByteArray := prog_8_method_1_code
def yX6_init : MethodName := ⟨RX6, "<init>", "(LWashHouse$Cells;)V"⟩
abbrev cX6_gaveLast : ByteArray := prog_8_method_2_code
def yX6_gaveLast : MethodName := ⟨RX6, "gaveLast", "(I)I"⟩
abbrev cX6_creditOf : ByteArray := prog_8_method_3_code
def yX6_creditOf : MethodName := ⟨RX6, "creditOf", "(I)I"⟩
abbrev cX6_hasCredit : ByteArray := prog_8_method_4_code
def yX6_hasCredit : MethodName := ⟨RX6, "hasCredit", "()Z"⟩
abbrev cX6_anotherHas : ByteArray := prog_8_method_5_code
def yX6_anotherHas : MethodName := ⟨RX6, "anotherHas", "(II)Z"⟩
abbrev cX6_moneyInside : ByteArray := prog_8_method_6_code
def yX6_moneyInside : MethodName := ⟨RX6, "moneyInside", "()I"⟩
abbrev cX6_giveBack : ByteArray := prog_8_method_7_code
def yX6_giveBack : MethodName := ⟨RX6, "giveBack", "(I)I"⟩
abbrev cX6_giveChange : ByteArray := prog_8_method_8_code
def yX6_giveChange : MethodName := ⟨RX6, "giveChange", "(II)V"⟩
abbrev cX6_findChange : ByteArray := prog_8_method_9_code
def yX6_findChange : MethodName := ⟨RX6, "findChange", "(II)Z"⟩
abbrev cX6_takeOff : ByteArray := prog_8_method_10_code
def yX6_takeOff : MethodName := ⟨RX6, "takeOff", "(II)V"⟩
abbrev cX6_sortByValue : ByteArray := prog_8_method_11_code
def yX6_sortByValue : MethodName := ⟨RX6, "sortByValue", "()V"⟩
abbrev cX6_countSpare : ByteArray := prog_8_method_12_code
def yX6_countSpare : MethodName := ⟨RX6, "countSpare", "(I)V"⟩
abbrev cX6_addTube : ByteArray := prog_8_method_13_code
def yX6_addTube : MethodName := ⟨RX6, "addTube", "([IIII)V"⟩
abbrev cX6_pickCoins : ByteArray := prog_8_method_14_code
def yX6_pickCoins : MethodName := ⟨RX6, "pickCoins", "(I)V"⟩
abbrev cX6_mostOf : ByteArray := prog_8_method_15_code
def yX6_mostOf : MethodName := ⟨RX6, "mostOf", "(III)I"⟩
abbrev cX6_creditCell : ByteArray := prog_8_method_16_code
def yX6_creditCell : MethodName := ⟨RX6, "creditCell", "(II)I"⟩
def RX7 : String := "WashHouse$Trace"
def TX7 : u_T := fun k => match k with
  | 0 => ("WashHouse$Trace", "bodies", "[I", true)
  | 1 => ("WashHouse$Trace", "size", "I", false)
  | _ => ("WashHouse$Trace", "next", "I", false)
def tyX7 : Nat → FieldType := fun k => match k with
  | 0 => .array .int
  | 1 => .int
  | _ => .int
abbrev wsX70 : List Cond := u_ws RX7 TX7 3
theorem nmX7 : ∀ a, a < 3 → ∀ b, b < 3 → a ≠ b → (TX7 a).2.1 ≠ (TX7 b).2.1 := by decide +kernel
theorem tyX7_ok : ∀ k, k < 3 → parseFieldDescriptor (TX7 k).2.2.1 = some (tyX7 k) := by decide +kernel
abbrev cX7_init : ByteArray := prog_9_method_1_code
def yX7_init : MethodName := ⟨RX7, "<init>", "()V"⟩
abbrev cX7_begin : ByteArray := prog_9_method_2_code
def yX7_begin : MethodName := ⟨RX7, "begin", "(II)V"⟩
abbrev cX7_latest : ByteArray := prog_9_method_3_code
def yX7_latest : MethodName := ⟨RX7, "latest", "(I)I"⟩
def RX8 : String := "WashHouse$Washer"
def TX8 : u_T := fun k => match k with
  | _ => ("WashHouse$Machine", "begun", "LWashHouse$Trace;", true)
def tyX8 : Nat → FieldType := fun k => match k with
  | _ => .object "WashHouse$Trace"
abbrev wsX80 : List Cond := u_ws RX8 TX8 1
theorem nmX8 : ∀ a, a < 1 → ∀ b, b < 1 → a ≠ b → (TX8 a).2.1 ≠ (TX8 b).2.1 := by decide +kernel
theorem tyX8_ok : ∀ k, k < 1 → parseFieldDescriptor (TX8 k).2.2.1 = some (tyX8 k) := by decide +kernel
abbrev cX8_init : ByteArray := prog_10_method_1_code
def yX8_init : MethodName := ⟨RX8, "<init>", "(LWashHouse$Trace;)V"⟩
abbrev cX8_fills : ByteArray := prog_10_method_2_code
def yX8_fills : MethodName := ⟨RX8, "fills", "()Z"⟩
abbrev cX8_turns : ByteArray := prog_10_method_3_code
def yX8_turns : MethodName := ⟨RX8, "turns", "()Z"⟩
abbrev cX8_water : ByteArray := prog_10_method_4_code
def yX8_water : MethodName := ⟨RX8, "water", "(II)I"⟩
abbrev cX8_heat : ByteArray := prog_10_method_5_code
def yX8_heat : MethodName := ⟨RX8, "heat", "(II)I"⟩
abbrev cX8_power : ByteArray := prog_10_method_6_code
def yX8_power : MethodName := ⟨RX8, "power", "(II)I"⟩
abbrev cX8_speed : ByteArray := prog_10_method_7_code
def yX8_speed : MethodName := ⟨RX8, "speed", "()I"⟩
def RX9 : String := "WashHouse"
def TX9 : u_T := fun k => match k with
  | 0 => ("WashHouse", "cells", "LWashHouse$Cells;", true)
  | 1 => ("WashHouse", "till", "LWashHouse$Till;", true)
  | 2 => ("WashHouse", "begun", "LWashHouse$Trace;", true)
  | 3 => ("WashHouse", "kinds", "[LWashHouse$Machine;", true)
  | 4 => ("WashHouse", "entries", "[I", true)
  | 5 => ("WashHouse", "leavings", "[I", true)
  | 6 => ("WashHouse", "line", "[I", true)
  | 7 => ("WashHouse", "weights", "[I", true)
  | 8 => ("WashHouse", "asked", "[I", true)
  | 9 => ("WashHouse", "went", "[I", true)
  | 10 => ("WashHouse", "tickets", "I", false)
  | 11 => ("WashHouse", "findings", "I", false)
  | _ => ("WashHouse", "latestFinding", "I", false)
def tyX9 : Nat → FieldType := fun k => match k with
  | 0 => .object "WashHouse$Cells"
  | 1 => .object "WashHouse$Till"
  | 2 => .object "WashHouse$Trace"
  | 3 => .array (.object "WashHouse$Machine")
  | 4 => .array .int
  | 5 => .array .int
  | 6 => .array .int
  | 7 => .array .int
  | 8 => .array .int
  | 9 => .array .int
  | 10 => .int
  | 11 => .int
  | _ => .int
abbrev wsX90 : List Cond := u_ws RX9 TX9 13
theorem nmX9 : ∀ a, a < 13 → ∀ b, b < 13 → a ≠ b → (TX9 a).2.1 ≠ (TX9 b).2.1 := by decide +kernel
theorem tyX9_ok : ∀ k, k < 13 → parseFieldDescriptor (TX9 k).2.2.1 = some (tyX9 k) := by decide +kernel
abbrev cX9_init : ByteArray := prog_1_method_1_code
def yX9_init : MethodName := ⟨RX9, "<init>", "()V"⟩
abbrev cX9_machine : ByteArray := prog_1_method_2_code
def yX9_machine : MethodName := ⟨RX9, "machine", "(IIII)I"⟩
abbrev cX9_drum : ByteArray := prog_1_method_3_code
def yX9_drum : MethodName := ⟨RX9, "drum", "(II)I"⟩
abbrev cX9_remove : ByteArray := prog_1_method_4_code
def yX9_remove : MethodName := ⟨RX9, "remove", "(I)I"⟩
abbrev cX9_told : ByteArray := prog_1_method_5_code
def yX9_told : MethodName := ⟨RX9, "told", "(II)I"⟩
abbrev cX9_wish : ByteArray := prog_1_method_6_code
def yX9_wish : MethodName := ⟨RX9, "wish", "(III)I"⟩
abbrev cX9_trace : ByteArray := prog_1_method_7_code
def yX9_trace : MethodName := ⟨RX9, "trace", "(I)I"⟩
abbrev cX9_touches : ByteArray := prog_1_method_8_code
def yX9_touches : MethodName := ⟨RX9, "touches", "(II)I"⟩
abbrev cX9_program : ByteArray := prog_1_method_9_code
def yX9_program : MethodName := ⟨RX9, "program", "(II)I"⟩
abbrev cX9_takeOut : ByteArray := prog_1_method_10_code
def yX9_takeOut : MethodName := ⟨RX9, "takeOut", "(I)I"⟩
abbrev cX9_step : ByteArray := prog_1_method_11_code
def yX9_step : MethodName := ⟨RX9, "step", "(IIII)I"⟩
abbrev cX9_minutes : ByteArray := prog_1_method_12_code
def yX9_minutes : MethodName := ⟨RX9, "minutes", "(I)I"⟩
abbrev cX9_tube : ByteArray := prog_1_method_13_code
def yX9_tube : MethodName := ⟨RX9, "tube", "(III)I"⟩
abbrev cX9_coin : ByteArray := prog_1_method_14_code
def yX9_coin : MethodName := ⟨RX9, "coin", "(III)I"⟩
abbrev cX9_pay : ByteArray := prog_1_method_15_code
def yX9_pay : MethodName := ⟨RX9, "pay", "(I)I"⟩
abbrev cX9_payPrice : ByteArray := prog_1_method_16_code
def yX9_payPrice : MethodName := ⟨RX9, "payPrice", "(I)I"⟩
abbrev cX9_refund : ByteArray := prog_1_method_17_code
def yX9_refund : MethodName := ⟨RX9, "refund", "(I)I"⟩
abbrev cX9_given : ByteArray := prog_1_method_18_code
def yX9_given : MethodName := ⟨RX9, "given", "(I)I"⟩
abbrev cX9_coins : ByteArray := prog_1_method_19_code
def yX9_coins : MethodName := ⟨RX9, "coins", "(II)I"⟩
abbrev cX9_credit : ByteArray := prog_1_method_20_code
def yX9_credit : MethodName := ⟨RX9, "credit", "(I)I"⟩
abbrev cX9_load : ByteArray := prog_1_method_21_code
def yX9_load : MethodName := ⟨RX9, "load", "(III)I"⟩
abbrev cX9_mix : ByteArray := prog_1_method_22_code
def yX9_mix : MethodName := ⟨RX9, "mix", "(IIZ)I"⟩
abbrev cX9_put : ByteArray := prog_1_method_23_code
def yX9_put : MethodName := ⟨RX9, "put", "(II)I"⟩
abbrev cX9_putInside : ByteArray := prog_1_method_24_code
def yX9_putInside : MethodName := ⟨RX9, "putInside", "(II)I"⟩
abbrev cX9_fetch : ByteArray := prog_1_method_25_code
def yX9_fetch : MethodName := ⟨RX9, "fetch", "(I)I"⟩
abbrev cX9_takeFrom : ByteArray := prog_1_method_26_code
def yX9_takeFrom : MethodName := ⟨RX9, "takeFrom", "(II)I"⟩
abbrev cX9_about : ByteArray := prog_1_method_27_code
def yX9_about : MethodName := ⟨RX9, "about", "(II)I"⟩
abbrev cX9_share : ByteArray := prog_1_method_28_code
def yX9_share : MethodName := ⟨RX9, "share", "(II)I"⟩
abbrev cX9_start : ByteArray := prog_1_method_29_code
def yX9_start : MethodName := ⟨RX9, "start", "(II)I"⟩
abbrev cX9_whyNoRun : ByteArray := prog_1_method_30_code
def yX9_whyNoRun : MethodName := ⟨RX9, "whyNoRun", "(II)I"⟩
abbrev cX9_beginRun : ByteArray := prog_1_method_31_code
def yX9_beginRun : MethodName := ⟨RX9, "beginRun", "(II)V"⟩
abbrev cX9_minute : ByteArray := prog_1_method_32_code
def yX9_minute : MethodName := ⟨RX9, "minute", "(I)I"⟩
abbrev cX9_breakDown : ByteArray := prog_1_method_33_code
def yX9_breakDown : MethodName := ⟨RX9, "breakDown", "()V"⟩
abbrev cX9_serveRuns : ByteArray := prog_1_method_34_code
def yX9_serveRuns : MethodName := ⟨RX9, "serveRuns", "()V"⟩
abbrev cX9_lineUpRuns : ByteArray := prog_1_method_35_code
def yX9_lineUpRuns : MethodName := ⟨RX9, "lineUpRuns", "()I"⟩
abbrev cX9_goOn : ByteArray := prog_1_method_36_code
def yX9_goOn : MethodName := ⟨RX9, "goOn", "(II)V"⟩
abbrev cX9_waitOn : ByteArray := prog_1_method_37_code
def yX9_waitOn : MethodName := ⟨RX9, "waitOn", "(I)V"⟩
abbrev cX9_endRun : ByteArray := prog_1_method_38_code
def yX9_endRun : MethodName := ⟨RX9, "endRun", "(I)V"⟩
abbrev cX9_drainOff : ByteArray := prog_1_method_39_code
def yX9_drainOff : MethodName := ⟨RX9, "drainOff", "(I)V"⟩
abbrev cX9_left : ByteArray := prog_1_method_40_code
def yX9_left : MethodName := ⟨RX9, "left", "(I)I"⟩
abbrev cX9_stop : ByteArray := prog_1_method_41_code
def yX9_stop : MethodName := ⟨RX9, "stop", "(I)I"⟩
abbrev cX9_breaks : ByteArray := prog_1_method_42_code
def yX9_breaks : MethodName := ⟨RX9, "breaks", "(II)I"⟩
abbrev cX9_mend : ByteArray := prog_1_method_43_code
def yX9_mend : MethodName := ⟨RX9, "mend", "(I)I"⟩
abbrev cX9_bound : ByteArray := prog_1_method_44_code
def yX9_bound : MethodName := ⟨RX9, "bound", "(III)I"⟩
abbrev cX9_used : ByteArray := prog_1_method_45_code
def yX9_used : MethodName := ⟨RX9, "used", "(I)I"⟩
abbrev cX9_book : ByteArray := prog_1_method_46_code
def yX9_book : MethodName := ⟨RX9, "book", "(II)I"⟩
abbrev cX9_cost : ByteArray := prog_1_method_47_code
def yX9_cost : MethodName := ⟨RX9, "cost", "(II)I"⟩
abbrev cX9_count : ByteArray := prog_1_method_48_code
def yX9_count : MethodName := ⟨RX9, "count", "(I)I"⟩
abbrev cX9_back : ByteArray := prog_1_method_49_code
def yX9_back : MethodName := ⟨RX9, "back", "(I)I"⟩
abbrev cX9_digest : ByteArray := prog_1_method_50_code
def yX9_digest : MethodName := ⟨RX9, "digest", "()J"⟩
abbrev cX9_status : ByteArray := prog_1_method_51_code
def yX9_status : MethodName := ⟨RX9, "status", "()I"⟩
abbrev cX9_found : ByteArray := prog_1_method_52_code
def yX9_found : MethodName := ⟨RX9, "found", "(I)I"⟩
abbrev cX9_enter : ByteArray := prog_1_method_53_code
def yX9_enter : MethodName := ⟨RX9, "enter", "(I)V"⟩
abbrev cX9_leave : ByteArray := prog_1_method_54_code
def yX9_leave : MethodName := ⟨RX9, "leave", "(I)V"⟩
abbrev cX9_read : ByteArray := prog_1_method_55_code
def yX9_read : MethodName := ⟨RX9, "read", "(II)I"⟩
abbrev cX9_write : ByteArray := prog_1_method_56_code
def yX9_write : MethodName := ⟨RX9, "write", "(III)V"⟩
abbrev cX9_grow : ByteArray := prog_1_method_57_code
def yX9_grow : MethodName := ⟨RX9, "grow", "(III)V"⟩
abbrev cX9_hasMachine : ByteArray := prog_1_method_58_code
def yX9_hasMachine : MethodName := ⟨RX9, "hasMachine", "(I)Z"⟩
abbrev cX9_isBank : ByteArray := prog_1_method_59_code
def yX9_isBank : MethodName := ⟨RX9, "isBank", "(I)Z"⟩
abbrev cX9_hasRun : ByteArray := prog_1_method_60_code
def yX9_hasRun : MethodName := ⟨RX9, "hasRun", "(I)Z"⟩
abbrev cX9_isBusy : ByteArray := prog_1_method_61_code
def yX9_isBusy : MethodName := ⟨RX9, "isBusy", "(I)Z"⟩
abbrev cX9_kindAt : ByteArray := prog_1_method_62_code
def yX9_kindAt : MethodName := ⟨RX9, "kindAt", "(I)LWashHouse$Machine;"⟩
abbrev cX9_roomOf : ByteArray := prog_1_method_63_code
def yX9_roomOf : MethodName := ⟨RX9, "roomOf", "(I)I"⟩
abbrev cX9_weightInside : ByteArray := prog_1_method_64_code
def yX9_weightInside : MethodName := ⟨RX9, "weightInside", "(I)I"⟩
abbrev cX9_mixesInside : ByteArray := prog_1_method_65_code
def yX9_mixesInside : MethodName := ⟨RX9, "mixesInside", "(II)Z"⟩
abbrev cX9_mayMix : ByteArray := prog_1_method_66_code
def yX9_mayMix : MethodName := ⟨RX9, "mayMix", "(II)Z"⟩
abbrev cX9_askWishes : ByteArray := prog_1_method_67_code
def yX9_askWishes : MethodName := ⟨RX9, "askWishes", "(II)V"⟩
abbrev cX9_fitsBounds : ByteArray := prog_1_method_68_code
def yX9_fitsBounds : MethodName := ⟨RX9, "fitsBounds", "()Z"⟩
abbrev cX9_minutesLeft : ByteArray := prog_1_method_69_code
def yX9_minutesLeft : MethodName := ⟨RX9, "minutesLeft", "(I)I"⟩
abbrev cX9_shareOf : ByteArray := prog_1_method_70_code
def yX9_shareOf : MethodName := ⟨RX9, "shareOf", "(II)I"⟩
abbrev cX9_countMachines : ByteArray := prog_1_method_71_code
def yX9_countMachines : MethodName := ⟨RX9, "countMachines", "()I"⟩
abbrev cX9_countPrograms : ByteArray := prog_1_method_72_code
def yX9_countPrograms : MethodName := ⟨RX9, "countPrograms", "()I"⟩
abbrev cX9_countRuns : ByteArray := prog_1_method_73_code
def yX9_countRuns : MethodName := ⟨RX9, "countRuns", "()I"⟩
abbrev cX9_hasProgram : ByteArray := prog_1_method_74_code
def yX9_hasProgram : MethodName := ⟨RX9, "hasProgram", "(I)Z"⟩
abbrev cX9_lengthOf : ByteArray := prog_1_method_75_code
def yX9_lengthOf : MethodName := ⟨RX9, "lengthOf", "(I)I"⟩
abbrev cX9_isLoad : ByteArray := prog_1_method_76_code
def yX9_isLoad : MethodName := ⟨RX9, "isLoad", "(I)Z"⟩
abbrev cX9_isPlace : ByteArray := prog_1_method_77_code
def yX9_isPlace : MethodName := ⟨RX9, "isPlace", "(I)Z"⟩
abbrev cX9_isProgram : ByteArray := prog_1_method_78_code
def yX9_isProgram : MethodName := ⟨RX9, "isProgram", "(I)Z"⟩
abbrev cX9_isTube : ByteArray := prog_1_method_79_code
def yX9_isTube : MethodName := ⟨RX9, "isTube", "(I)Z"⟩
abbrev cX9_isColour : ByteArray := prog_1_method_80_code
def yX9_isColour : MethodName := ⟨RX9, "isColour", "(I)Z"⟩
abbrev cX9_isWish : ByteArray := prog_1_method_81_code
def yX9_isWish : MethodName := ⟨RX9, "isWish", "(II)Z"⟩
abbrev cX9_within : ByteArray := prog_1_method_82_code
def yX9_within : MethodName := ⟨RX9, "within", "(III)Z"⟩
abbrev cX9_programCell : ByteArray := prog_1_method_83_code
def yX9_programCell : MethodName := ⟨RX9, "programCell", "(I)I"⟩
abbrev cX9_stepCell : ByteArray := prog_1_method_84_code
def yX9_stepCell : MethodName := ⟨RX9, "stepCell", "(II)I"⟩
abbrev cX9_loadCell : ByteArray := prog_1_method_85_code
def yX9_loadCell : MethodName := ⟨RX9, "loadCell", "(II)I"⟩
abbrev cX9_barredCell : ByteArray := prog_1_method_86_code
def yX9_barredCell : MethodName := ⟨RX9, "barredCell", "(II)I"⟩
abbrev cX9_kindOf : ByteArray := prog_1_method_87_code
def yX9_kindOf : MethodName := ⟨RX9, "kindOf", "(I)I"⟩
abbrev cX9_minutesOf : ByteArray := prog_1_method_88_code
def yX9_minutesOf : MethodName := ⟨RX9, "minutesOf", "(I)I"⟩
def RX10 : String := "WashHouseModel"
def TX10 : u_T := fun k => match k with
  | 0 => ("WashHouseModel", "thrown", "I", false)
  | 1 => ("WashHouseModel", "s", "[I", true)
  | 2 => ("WashHouseModel", "where", "[I", true)
  | 3 => ("WashHouseModel", "was", "[I", true)
  | 4 => ("WashHouseModel", "changes", "I", false)
  | 5 => ("WashHouseModel", "marks", "[I", true)
  | 6 => ("WashHouseModel", "oldest", "I", false)
  | 7 => ("WashHouseModel", "tickets", "I", false)
  | 8 => ("WashHouseModel", "findings", "I", false)
  | 9 => ("WashHouseModel", "status", "I", false)
  | 10 => ("WashHouseModel", "trace", "[I", true)
  | 11 => ("WashHouseModel", "traced", "I", false)
  | 12 => ("WashHouseModel", "entries", "[I", true)
  | 13 => ("WashHouseModel", "given", "[I", true)
  | 14 => ("WashHouseModel", "byValue", "[I", true)
  | 15 => ("WashHouseModel", "valued", "I", false)
  | 16 => ("WashHouseModel", "fewest", "[I", true)
  | 17 => ("WashHouseModel", "free", "[I", true)
  | 18 => ("WashHouseModel", "takes", "[I", true)
  | 19 => ("WashHouseModel", "weights", "[I", true)
  | 20 => ("WashHouseModel", "wished", "[I", true)
  | _ => ("WashHouseModel", "waits", "[I", true)
def tyX10 : Nat → FieldType := fun k => match k with
  | 0 => .int
  | 1 => .array .int
  | 2 => .array .int
  | 3 => .array .int
  | 4 => .int
  | 5 => .array .int
  | 6 => .int
  | 7 => .int
  | 8 => .int
  | 9 => .int
  | 10 => .array .int
  | 11 => .int
  | 12 => .array .int
  | 13 => .array .int
  | 14 => .array .int
  | 15 => .int
  | 16 => .array .int
  | 17 => .array .int
  | 18 => .array .int
  | 19 => .array .int
  | 20 => .array .int
  | _ => .array .int
abbrev wsX100 : List Cond := u_ws RX10 TX10 22
theorem nmX10 : ∀ a, a < 22 → ∀ b, b < 22 → a ≠ b → (TX10 a).2.1 ≠ (TX10 b).2.1 := by decide +kernel
theorem tyX10_ok : ∀ k, k < 22 → parseFieldDescriptor (TX10 k).2.2.1 = some (tyX10 k) := by decide +kernel
abbrev cX10_init : ByteArray := prog_12_method_1_code
def yX10_init : MethodName := ⟨RX10, "<init>", "()V"⟩
abbrev cX10_in : ByteArray := prog_12_method_3_code
def yX10_in : MethodName := ⟨RX10, "in", "(III)Z"⟩
abbrev cX10_w : ByteArray := prog_12_method_4_code
def yX10_w : MethodName := ⟨RX10, "w", "(II)V"⟩
abbrev cX10_found : ByteArray := prog_12_method_5_code
def yX10_found : MethodName := ⟨RX10, "found", "(I)I"⟩
abbrev cX10_of : ByteArray := prog_12_method_6_code
def yX10_of : MethodName := ⟨RX10, "of", "(II)I"⟩
abbrev cX10_let : ByteArray := prog_12_method_7_code
def yX10_let : MethodName := ⟨RX10, "let", "(III)V"⟩
abbrev cX10_isPlace : ByteArray := prog_12_method_8_code
def yX10_isPlace : MethodName := ⟨RX10, "isPlace", "(I)Z"⟩
abbrev cX10_isThere : ByteArray := prog_12_method_9_code
def yX10_isThere : MethodName := ⟨RX10, "isThere", "(I)Z"⟩
abbrev cX10_kindOf : ByteArray := prog_12_method_10_code
def yX10_kindOf : MethodName := ⟨RX10, "kindOf", "(I)I"⟩
abbrev cX10_touch : ByteArray := prog_12_method_11_code
def yX10_touch : MethodName := ⟨RX10, "touch", "(I)V"⟩
abbrev cX10_loadsIn : ByteArray := prog_12_method_12_code
def yX10_loadsIn : MethodName := ⟨RX10, "loadsIn", "(I)I"⟩
abbrev cX10_creditOf : ByteArray := prog_12_method_13_code
def yX10_creditOf : MethodName := ⟨RX10, "creditOf", "(I)I"⟩
abbrev cX10_roomOf : ByteArray := prog_12_method_14_code
def yX10_roomOf : MethodName := ⟨RX10, "roomOf", "(I)I"⟩
abbrev cX10_note : ByteArray := prog_12_method_15_code
def yX10_note : MethodName := ⟨RX10, "note", "(II)V"⟩
abbrev cX10_plain : ByteArray := prog_12_method_16_code
def yX10_plain : MethodName := ⟨RX10, "plain", "(I)I"⟩
abbrev cX10_washers : ByteArray := prog_12_method_17_code
def yX10_washers : MethodName := ⟨RX10, "washers", "(II)I"⟩
abbrev cX10_dryers : ByteArray := prog_12_method_18_code
def yX10_dryers : MethodName := ⟨RX10, "dryers", "(II)I"⟩
abbrev cX10_wishOf : ByteArray := prog_12_method_19_code
def yX10_wishOf : MethodName := ⟨RX10, "wishOf", "(III)I"⟩
abbrev cX10_wearOf : ByteArray := prog_12_method_20_code
def yX10_wearOf : MethodName := ⟨RX10, "wearOf", "(II)I"⟩
abbrev cX10_hasFace : ByteArray := prog_12_method_21_code
def yX10_hasFace : MethodName := ⟨RX10, "hasFace", "(II)Z"⟩
abbrev cX10_canDo : ByteArray := prog_12_method_22_code
def yX10_canDo : MethodName := ⟨RX10, "canDo", "(II)Z"⟩
abbrev cX10_machine : ByteArray := prog_12_method_23_code
def yX10_machine : MethodName := ⟨RX10, "machine", "(IIII)I"⟩
abbrev cX10_drum : ByteArray := prog_12_method_24_code
def yX10_drum : MethodName := ⟨RX10, "drum", "(II)I"⟩
abbrev cX10_remove : ByteArray := prog_12_method_25_code
def yX10_remove : MethodName := ⟨RX10, "remove", "(I)I"⟩
abbrev cX10_told : ByteArray := prog_12_method_26_code
def yX10_told : MethodName := ⟨RX10, "told", "(II)I"⟩
abbrev cX10_wish : ByteArray := prog_12_method_27_code
def yX10_wish : MethodName := ⟨RX10, "wish", "(III)I"⟩
abbrev cX10_trace : ByteArray := prog_12_method_28_code
def yX10_trace : MethodName := ⟨RX10, "trace", "(I)I"⟩
abbrev cX10_touches : ByteArray := prog_12_method_29_code
def yX10_touches : MethodName := ⟨RX10, "touches", "(II)I"⟩
abbrev cX10_isProgram : ByteArray := prog_12_method_30_code
def yX10_isProgram : MethodName := ⟨RX10, "isProgram", "(I)Z"⟩
abbrev cX10_program : ByteArray := prog_12_method_31_code
def yX10_program : MethodName := ⟨RX10, "program", "(II)I"⟩
abbrev cX10_takeOut : ByteArray := prog_12_method_32_code
def yX10_takeOut : MethodName := ⟨RX10, "takeOut", "(I)I"⟩
abbrev cX10_step : ByteArray := prog_12_method_33_code
def yX10_step : MethodName := ⟨RX10, "step", "(IIII)I"⟩
abbrev cX10_minutes : ByteArray := prog_12_method_34_code
def yX10_minutes : MethodName := ⟨RX10, "minutes", "(I)I"⟩
abbrev cX10_isTube : ByteArray := prog_12_method_35_code
def yX10_isTube : MethodName := ⟨RX10, "isTube", "(I)Z"⟩
abbrev cX10_tube : ByteArray := prog_12_method_36_code
def yX10_tube : MethodName := ⟨RX10, "tube", "(III)I"⟩
abbrev cX10_coin : ByteArray := prog_12_method_37_code
def yX10_coin : MethodName := ⟨RX10, "coin", "(III)I"⟩
abbrev cX10_giveBack : ByteArray := prog_12_method_38_code
def yX10_giveBack : MethodName := ⟨RX10, "giveBack", "(I)I"⟩
abbrev cX10_orderTubes : ByteArray := prog_12_method_39_code
def yX10_orderTubes : MethodName := ⟨RX10, "orderTubes", "(I)V"⟩
abbrev cX10_canChange : ByteArray := prog_12_method_40_code
def yX10_canChange : MethodName := ⟨RX10, "canChange", "(II)Z"⟩
abbrev cX10_pay : ByteArray := prog_12_method_41_code
def yX10_pay : MethodName := ⟨RX10, "pay", "(I)I"⟩
abbrev cX10_refund : ByteArray := prog_12_method_42_code
def yX10_refund : MethodName := ⟨RX10, "refund", "(I)I"⟩
abbrev cX10_given : ByteArray := prog_12_method_43_code
def yX10_given : MethodName := ⟨RX10, "given", "(I)I"⟩
abbrev cX10_coins : ByteArray := prog_12_method_44_code
def yX10_coins : MethodName := ⟨RX10, "coins", "(II)I"⟩
abbrev cX10_credit : ByteArray := prog_12_method_45_code
def yX10_credit : MethodName := ⟨RX10, "credit", "(I)I"⟩
abbrev cX10_isLoad : ByteArray := prog_12_method_46_code
def yX10_isLoad : MethodName := ⟨RX10, "isLoad", "(I)Z"⟩
abbrev cX10_load : ByteArray := prog_12_method_47_code
def yX10_load : MethodName := ⟨RX10, "load", "(III)I"⟩
abbrev cX10_mix : ByteArray := prog_12_method_48_code
def yX10_mix : MethodName := ⟨RX10, "mix", "(IIZ)I"⟩
abbrev cX10_put : ByteArray := prog_12_method_49_code
def yX10_put : MethodName := ⟨RX10, "put", "(II)I"⟩
abbrev cX10_fetch : ByteArray := prog_12_method_50_code
def yX10_fetch : MethodName := ⟨RX10, "fetch", "(I)I"⟩
abbrev cX10_about : ByteArray := prog_12_method_51_code
def yX10_about : MethodName := ⟨RX10, "about", "(II)I"⟩
abbrev cX10_shareOf : ByteArray := prog_12_method_52_code
def yX10_shareOf : MethodName := ⟨RX10, "shareOf", "(III)I"⟩
abbrev cX10_share : ByteArray := prog_12_method_53_code
def yX10_share : MethodName := ⟨RX10, "share", "(II)I"⟩
abbrev cX10_ask : ByteArray := prog_12_method_54_code
def yX10_ask : MethodName := ⟨RX10, "ask", "(II)V"⟩
abbrev cX10_ends : ByteArray := prog_12_method_55_code
def yX10_ends : MethodName := ⟨RX10, "ends", "(I)V"⟩
abbrev cX10_leftOf : ByteArray := prog_12_method_56_code
def yX10_leftOf : MethodName := ⟨RX10, "leftOf", "(I)I"⟩
abbrev cX10_against : ByteArray := prog_12_method_57_code
def yX10_against : MethodName := ⟨RX10, "against", "(II)I"⟩
abbrev cX10_start : ByteArray := prog_12_method_58_code
def yX10_start : MethodName := ⟨RX10, "start", "(II)I"⟩
abbrev cX10_breakDown : ByteArray := prog_12_method_59_code
def yX10_breakDown : MethodName := ⟨RX10, "breakDown", "(I)V"⟩
abbrev cX10_goes : ByteArray := prog_12_method_60_code
def yX10_goes : MethodName := ⟨RX10, "goes", "(II)V"⟩
abbrev cX10_goesOrWaits : ByteArray := prog_12_method_61_code
def yX10_goesOrWaits : MethodName := ⟨RX10, "goesOrWaits", "(I)V"⟩
abbrev cX10_oneMinute : ByteArray := prog_12_method_62_code
def yX10_oneMinute : MethodName := ⟨RX10, "oneMinute", "()V"⟩
abbrev cX10_minute : ByteArray := prog_12_method_63_code
def yX10_minute : MethodName := ⟨RX10, "minute", "(I)I"⟩
abbrev cX10_left : ByteArray := prog_12_method_64_code
def yX10_left : MethodName := ⟨RX10, "left", "(I)I"⟩
abbrev cX10_stop : ByteArray := prog_12_method_65_code
def yX10_stop : MethodName := ⟨RX10, "stop", "(I)I"⟩
abbrev cX10_breaks : ByteArray := prog_12_method_66_code
def yX10_breaks : MethodName := ⟨RX10, "breaks", "(II)I"⟩
abbrev cX10_mend : ByteArray := prog_12_method_67_code
def yX10_mend : MethodName := ⟨RX10, "mend", "(I)I"⟩
abbrev cX10_bound : ByteArray := prog_12_method_68_code
def yX10_bound : MethodName := ⟨RX10, "bound", "(III)I"⟩
abbrev cX10_used : ByteArray := prog_12_method_69_code
def yX10_used : MethodName := ⟨RX10, "used", "(I)I"⟩
abbrev cX10_book : ByteArray := prog_12_method_70_code
def yX10_book : MethodName := ⟨RX10, "book", "(II)I"⟩
abbrev cX10_cost : ByteArray := prog_12_method_71_code
def yX10_cost : MethodName := ⟨RX10, "cost", "(II)I"⟩
abbrev cX10_count : ByteArray := prog_12_method_72_code
def yX10_count : MethodName := ⟨RX10, "count", "(I)I"⟩
abbrev cX10_back : ByteArray := prog_12_method_73_code
def yX10_back : MethodName := ⟨RX10, "back", "(I)I"⟩
abbrev cX10_digest : ByteArray := prog_12_method_74_code
def yX10_digest : MethodName := ⟨RX10, "digest", "()J"⟩
abbrev cX10_status : ByteArray := prog_12_method_75_code
def yX10_status : MethodName := ⟨RX10, "status", "()I"⟩
def RJx8e188 : String := "java/lang/Cloneable"
def TJx8e188 : u_T := fun k => match k with
  | _ => ("", "", "", false)
def tyJx8e188 : Nat → FieldType := fun k => match k with
  | _ => .int
abbrev wsJx8e1880 : List Cond := u_ws RJx8e188 TJx8e188 0
theorem nmJx8e188 : ∀ a, a < 0 → ∀ b, b < 0 → a ≠ b → (TJx8e188 a).2.1 ≠ (TJx8e188 b).2.1 := by decide +kernel
theorem tyJx8e188_ok : ∀ k, k < 0 → parseFieldDescriptor (TJx8e188 k).2.2.1 = some (tyJx8e188 k) := by decide +kernel
def RJ9 : String := "java/lang/Math"
def TJ9 : u_T := fun k => match k with
  | _ => ("", "", "", false)
def tyJ9 : Nat → FieldType := fun k => match k with
  | _ => .int
abbrev wsJ90 : List Cond := u_ws RJ9 TJ9 0
theorem nmJ9 : ∀ a, a < 0 → ∀ b, b < 0 → a ≠ b → (TJ9 a).2.1 ≠ (TJ9 b).2.1 := by decide +kernel
theorem tyJ9_ok : ∀ k, k < 0 → parseFieldDescriptor (TJ9 k).2.2.1 = some (tyJ9 k) := by decide +kernel
abbrev cJ9_floorMod_7cf53 : ByteArray := prog_14_method_50_code
def yJ9_floorMod_7cf53 : MethodName := ⟨RJ9, "floorMod", "(II)I"⟩
abbrev cJ9_max_7cf53 : ByteArray := prog_14_method_65_code
def yJ9_max_7cf53 : MethodName := ⟨RJ9, "max", "(II)I"⟩
abbrev cJ9_min_7cf53 : ByteArray := prog_14_method_69_code
def yJ9_min_7cf53 : MethodName := ⟨RJ9, "min", "(II)I"⟩
def RJ10 : String := "java/lang/System"
def TJ10 : u_T := fun k => match k with
  | _ => ("", "", "", false)
def tyJ10 : Nat → FieldType := fun k => match k with
  | _ => .int
abbrev wsJ100 : List Cond := u_ws RJ10 TJ10 0
theorem nmJ10 : ∀ a, a < 0 → ∀ b, b < 0 → a ≠ b → (TJ10 a).2.1 ≠ (TJ10 b).2.1 := by decide +kernel
theorem tyJ10_ok : ∀ k, k < 0 → parseFieldDescriptor (TJ10 k).2.2.1 = some (tyJ10 k) := by decide +kernel
def RJ7 : String := "java/util/Arrays"
def TJ7 : u_T := fun k => match k with
  | _ => ("", "", "", false)
def tyJ7 : Nat → FieldType := fun k => match k with
  | _ => .int
abbrev wsJ70 : List Cond := u_ws RJ7 TJ7 0
theorem nmJ7 : ∀ a, a < 0 → ∀ b, b < 0 → a ≠ b → (TJ7 a).2.1 ≠ (TJ7 b).2.1 := by decide +kernel
theorem tyJ7_ok : ∀ k, k < 0 → parseFieldDescriptor (TJ7 k).2.2.1 = some (tyJ7 k) := by decide +kernel
abbrev cJ7_fill_53178 : ByteArray := prog_16_method_103_code
def yJ7_fill_53178 : MethodName := ⟨RJ7, "fill", "([II)V"⟩
abbrev cJ7_copyOf_59c91 : ByteArray := prog_16_method_123_code
def yJ7_copyOf_59c91 : MethodName := ⟨RJ7, "copyOf", "([II)[I"⟩
def RL : String := "WashHouseLaw"
abbrev cL_law : ByteArray := code
def yL_law : MethodName := ⟨RL, "law", "([I)Z"⟩
abbrev vwCl : List vw_C := [(RX0, TX0, 1), (RX1, TX1, 7), (RX2, TX2, 1), (RX4, TX4, 1), (RX5, TX5, 1), (RX6, TX6, 6), (RX7, TX7, 3), (RX8, TX8, 1), (RX9, TX9, 13), (RX10, TX10, 22)]

section
-- ===== PART A: goes FIRST, ahead of the names: the tables' words, and 'selects' of the private methods out of them =====
/-- a private method of a class that the tables say can be made, by its rows of tables_1 -/
def lw_okq (q : MethodName × Nat) : Prop := (q.1.cls ≠ "java/lang/invoke/MethodHandle" ∧ q.1.cls ≠ "java/lang/invoke/VarHandle") ∧ Cond.instantiable q.1.cls q.2 ∈ tables_1 ∧ Cond.privateMethod q.1 ∈ tables_1 ∧ Cond.instanceMethod q.1 ∈ tables_1
theorem lw_p0 : lw_okq (⟨"BitCongruences", "factAt", "(I)LBitCongruences$Fact;"⟩, 10) := ⟨⟨by decide +kernel, by decide +kernel⟩, List.mem_of_getElem? (i := 12) (by decide +kernel), List.mem_of_getElem? (i := 205) (by decide +kernel), List.mem_of_getElem? (i := 206) (by decide +kernel)⟩
theorem lw_p1 : lw_okq (⟨"BitCongruences$Fact", "fitBits", "()Z"⟩, 7) := ⟨⟨by decide +kernel, by decide +kernel⟩, List.mem_of_getElem? (i := 51) (by decide +kernel), List.mem_of_getElem? (i := 217) (by decide +kernel), List.mem_of_getElem? (i := 218) (by decide +kernel)⟩
theorem lw_p2 : lw_okq (⟨"BitCongruences$Fact", "fitRest", "()Z"⟩, 7) := ⟨⟨by decide +kernel, by decide +kernel⟩, List.mem_of_getElem? (i := 51) (by decide +kernel), List.mem_of_getElem? (i := 226) (by decide +kernel), List.mem_of_getElem? (i := 227) (by decide +kernel)⟩
theorem lw_p3 : lw_okq (⟨"BitCongruences$Fact", "learnBits", "()Z"⟩, 7) := ⟨⟨by decide +kernel, by decide +kernel⟩, List.mem_of_getElem? (i := 51) (by decide +kernel), List.mem_of_getElem? (i := 233) (by decide +kernel), List.mem_of_getElem? (i := 234) (by decide +kernel)⟩
theorem lw_p4 : lw_okq (⟨"BitCongruences", "meetBesides", "(LBitCongruences$Fact;)I"⟩, 10) := ⟨⟨by decide +kernel, by decide +kernel⟩, List.mem_of_getElem? (i := 12) (by decide +kernel), List.mem_of_getElem? (i := 249) (by decide +kernel), List.mem_of_getElem? (i := 250) (by decide +kernel)⟩
theorem lw_p5 : lw_okq (⟨"BitCongruences$Acts", "shifted", "(ILBitCongruences$Fact;LBitCongruences$Fact;LBitCongruences$Fact;)V"⟩, 2) := ⟨⟨by decide +kernel, by decide +kernel⟩, List.mem_of_getElem? (i := 45) (by decide +kernel), List.mem_of_getElem? (i := 388) (by decide +kernel), List.mem_of_getElem? (i := 389) (by decide +kernel)⟩
theorem lw_p6 : lw_okq (⟨"BitCongruences$Acts", "move", "(ILBitCongruences$Fact;I)V"⟩, 2) := ⟨⟨by decide +kernel, by decide +kernel⟩, List.mem_of_getElem? (i := 45) (by decide +kernel), List.mem_of_getElem? (i := 392) (by decide +kernel), List.mem_of_getElem? (i := 393) (by decide +kernel)⟩
theorem lw_p7 : lw_okq (⟨"BitCongruences$Acts", "moveLeft", "(LBitCongruences$Fact;I)V"⟩, 2) := ⟨⟨by decide +kernel, by decide +kernel⟩, List.mem_of_getElem? (i := 45) (by decide +kernel), List.mem_of_getElem? (i := 397) (by decide +kernel), List.mem_of_getElem? (i := 398) (by decide +kernel)⟩
theorem lw_p8 : lw_okq (⟨"BitCongruences$Acts", "moveRightZeros", "(LBitCongruences$Fact;I)V"⟩, 2) := ⟨⟨by decide +kernel, by decide +kernel⟩, List.mem_of_getElem? (i := 45) (by decide +kernel), List.mem_of_getElem? (i := 402) (by decide +kernel), List.mem_of_getElem? (i := 403) (by decide +kernel)⟩
theorem lw_p9 : lw_okq (⟨"BitCongruences", "routineAt", "(I)LBitCongruences$Routine;"⟩, 10) := ⟨⟨by decide +kernel, by decide +kernel⟩, List.mem_of_getElem? (i := 12) (by decide +kernel), List.mem_of_getElem? (i := 497) (by decide +kernel), List.mem_of_getElem? (i := 498) (by decide +kernel)⟩
theorem lw_p10 : lw_okq (⟨"BitCongruences$Finder", "send", "(LBitCongruences$Routine;I)V"⟩, 6) := ⟨⟨by decide +kernel, by decide +kernel⟩, List.mem_of_getElem? (i := 116) (by decide +kernel), List.mem_of_getElem? (i := 532) (by decide +kernel), List.mem_of_getElem? (i := 533) (by decide +kernel)⟩
theorem lw_p11 : lw_okq (⟨"BitCongruences$Finder", "someComeToNone", "()Z"⟩, 6) := ⟨⟨by decide +kernel, by decide +kernel⟩, List.mem_of_getElem? (i := 116) (by decide +kernel), List.mem_of_getElem? (i := 536) (by decide +kernel), List.mem_of_getElem? (i := 537) (by decide +kernel)⟩
theorem lw_p12 : lw_okq (⟨"BitCongruences$Finder", "merge", "(LBitCongruences$Routine;ILBitCongruences$Fact;)Z"⟩, 6) := ⟨⟨by decide +kernel, by decide +kernel⟩, List.mem_of_getElem? (i := 116) (by decide +kernel), List.mem_of_getElem? (i := 540) (by decide +kernel), List.mem_of_getElem? (i := 541) (by decide +kernel)⟩
theorem lw_p13 : lw_okq (⟨"BitCongruences$Finder", "fetch", "(LBitCongruences$Routine;I)V"⟩, 6) := ⟨⟨by decide +kernel, by decide +kernel⟩, List.mem_of_getElem? (i := 116) (by decide +kernel), List.mem_of_getElem? (i := 560) (by decide +kernel), List.mem_of_getElem? (i := 561) (by decide +kernel)⟩
theorem lw_p14 : lw_okq (⟨"BitCongruences$Finder", "lookUp", "(LBitCongruences$Tables;ILBitCongruences$Fact;LBitCongruences$Fact;)V"⟩, 6) := ⟨⟨by decide +kernel, by decide +kernel⟩, List.mem_of_getElem? (i := 116) (by decide +kernel), List.mem_of_getElem? (i := 565) (by decide +kernel), List.mem_of_getElem? (i := 566) (by decide +kernel)⟩
theorem lw_p15 : lw_okq (⟨"BitCongruences$Finder", "branch", "(LBitCongruences$Routine;IZ)V"⟩, 6) := ⟨⟨by decide +kernel, by decide +kernel⟩, List.mem_of_getElem? (i := 116) (by decide +kernel), List.mem_of_getElem? (i := 571) (by decide +kernel), List.mem_of_getElem? (i := 572) (by decide +kernel)⟩
def lw_privs_1 : List (MethodName × Nat) := [(⟨"BitCongruences", "factAt", "(I)LBitCongruences$Fact;"⟩, 10), (⟨"BitCongruences$Fact", "fitBits", "()Z"⟩, 7), (⟨"BitCongruences$Fact", "fitRest", "()Z"⟩, 7), (⟨"BitCongruences$Fact", "learnBits", "()Z"⟩, 7), (⟨"BitCongruences", "meetBesides", "(LBitCongruences$Fact;)I"⟩, 10), (⟨"BitCongruences$Acts", "shifted", "(ILBitCongruences$Fact;LBitCongruences$Fact;LBitCongruences$Fact;)V"⟩, 2), (⟨"BitCongruences$Acts", "move", "(ILBitCongruences$Fact;I)V"⟩, 2), (⟨"BitCongruences$Acts", "moveLeft", "(LBitCongruences$Fact;I)V"⟩, 2), (⟨"BitCongruences$Acts", "moveRightZeros", "(LBitCongruences$Fact;I)V"⟩, 2), (⟨"BitCongruences", "routineAt", "(I)LBitCongruences$Routine;"⟩, 10), (⟨"BitCongruences$Finder", "send", "(LBitCongruences$Routine;I)V"⟩, 6), (⟨"BitCongruences$Finder", "someComeToNone", "()Z"⟩, 6), (⟨"BitCongruences$Finder", "merge", "(LBitCongruences$Routine;ILBitCongruences$Fact;)Z"⟩, 6), (⟨"BitCongruences$Finder", "fetch", "(LBitCongruences$Routine;I)V"⟩, 6), (⟨"BitCongruences$Finder", "lookUp", "(LBitCongruences$Tables;ILBitCongruences$Fact;LBitCongruences$Fact;)V"⟩, 6), (⟨"BitCongruences$Finder", "branch", "(LBitCongruences$Routine;IZ)V"⟩, 6)]
theorem lw_r1 : ∀ q ∈ lw_privs_1, lw_okq q := List.forall_mem_cons.mpr ⟨lw_p0, List.forall_mem_cons.mpr ⟨lw_p1, List.forall_mem_cons.mpr ⟨lw_p2, List.forall_mem_cons.mpr ⟨lw_p3, List.forall_mem_cons.mpr ⟨lw_p4, List.forall_mem_cons.mpr ⟨lw_p5, List.forall_mem_cons.mpr ⟨lw_p6, List.forall_mem_cons.mpr ⟨lw_p7, List.forall_mem_cons.mpr ⟨lw_p8, List.forall_mem_cons.mpr ⟨lw_p9, List.forall_mem_cons.mpr ⟨lw_p10, List.forall_mem_cons.mpr ⟨lw_p11, List.forall_mem_cons.mpr ⟨lw_p12, List.forall_mem_cons.mpr ⟨lw_p13, List.forall_mem_cons.mpr ⟨lw_p14, List.forall_mem_cons.mpr ⟨lw_p15, fun _ h => absurd h List.not_mem_nil⟩⟩⟩⟩⟩⟩⟩⟩⟩⟩⟩⟩⟩⟩⟩⟩
theorem lw_p16 : lw_okq (⟨"BitCongruences$Run", "look", "(LBitCongruences$Routine;)V"⟩, 4) := ⟨⟨by decide +kernel, by decide +kernel⟩, List.mem_of_getElem? (i := 146) (by decide +kernel), List.mem_of_getElem? (i := 647) (by decide +kernel), List.mem_of_getElem? (i := 648) (by decide +kernel)⟩
theorem lw_p17 : lw_okq (⟨"BitCongruences$Run", "step", "(LBitCongruences$Routine;LBitCongruences$Tables;)I"⟩, 4) := ⟨⟨by decide +kernel, by decide +kernel⟩, List.mem_of_getElem? (i := 146) (by decide +kernel), List.mem_of_getElem? (i := 652) (by decide +kernel), List.mem_of_getElem? (i := 653) (by decide +kernel)⟩
theorem lw_p18 : lw_okq (⟨"BitCongruences$Run", "lookUp", "(LBitCongruences$Tables;II)Z"⟩, 4) := ⟨⟨by decide +kernel, by decide +kernel⟩, List.mem_of_getElem? (i := 146) (by decide +kernel), List.mem_of_getElem? (i := 656) (by decide +kernel), List.mem_of_getElem? (i := 657) (by decide +kernel)⟩
theorem lw_p19 : lw_okq (⟨"BitCongruences$Run", "compute", "(III)Z"⟩, 4) := ⟨⟨by decide +kernel, by decide +kernel⟩, List.mem_of_getElem? (i := 146) (by decide +kernel), List.mem_of_getElem? (i := 664) (by decide +kernel), List.mem_of_getElem? (i := 665) (by decide +kernel)⟩
theorem lw_p20 : lw_okq (⟨"BitCongruencesModel", "all", "(I)V"⟩, 27) := ⟨⟨by decide +kernel, by decide +kernel⟩, List.mem_of_getElem? (i := 681) (by decide +kernel), List.mem_of_getElem? (i := 687) (by decide +kernel), List.mem_of_getElem? (i := 688) (by decide +kernel)⟩
theorem lw_p21 : lw_okq (⟨"BitCongruencesModel", "put", "(IJJJJ)V"⟩, 27) := ⟨⟨by decide +kernel, by decide +kernel⟩, List.mem_of_getElem? (i := 681) (by decide +kernel), List.mem_of_getElem? (i := 786) (by decide +kernel), List.mem_of_getElem? (i := 787) (by decide +kernel)⟩
theorem lw_p22 : lw_okq (⟨"BitCongruencesModel", "nothing", "(I)V"⟩, 27) := ⟨⟨by decide +kernel, by decide +kernel⟩, List.mem_of_getElem? (i := 681) (by decide +kernel), List.mem_of_getElem? (i := 790) (by decide +kernel), List.mem_of_getElem? (i := 791) (by decide +kernel)⟩
theorem lw_p23 : lw_okq (⟨"BitCongruencesModel", "sharpen", "(I)V"⟩, 27) := ⟨⟨by decide +kernel, by decide +kernel⟩, List.mem_of_getElem? (i := 681) (by decide +kernel), List.mem_of_getElem? (i := 794) (by decide +kernel), List.mem_of_getElem? (i := 795) (by decide +kernel)⟩
theorem lw_p24 : lw_okq (⟨"BitCongruencesModel", "byBits", "(I)Z"⟩, 27) := ⟨⟨by decide +kernel, by decide +kernel⟩, List.mem_of_getElem? (i := 681) (by decide +kernel), List.mem_of_getElem? (i := 798) (by decide +kernel), List.mem_of_getElem? (i := 799) (by decide +kernel)⟩
theorem lw_p25 : lw_okq (⟨"BitCongruencesModel", "up", "(JJJ)J"⟩, 27) := ⟨⟨by decide +kernel, by decide +kernel⟩, List.mem_of_getElem? (i := 681) (by decide +kernel), List.mem_of_getElem? (i := 802) (by decide +kernel), List.mem_of_getElem? (i := 803) (by decide +kernel)⟩
theorem lw_p26 : lw_okq (⟨"BitCongruencesModel", "down", "(JJJ)J"⟩, 27) := ⟨⟨by decide +kernel, by decide +kernel⟩, List.mem_of_getElem? (i := 681) (by decide +kernel), List.mem_of_getElem? (i := 807) (by decide +kernel), List.mem_of_getElem? (i := 808) (by decide +kernel)⟩
theorem lw_p27 : lw_okq (⟨"BitCongruencesModel", "byRest", "(I)Z"⟩, 27) := ⟨⟨by decide +kernel, by decide +kernel⟩, List.mem_of_getElem? (i := 681) (by decide +kernel), List.mem_of_getElem? (i := 811) (by decide +kernel), List.mem_of_getElem? (i := 812) (by decide +kernel)⟩
theorem lw_p28 : lw_okq (⟨"BitCongruencesModel", "byEnds", "(I)Z"⟩, 27) := ⟨⟨by decide +kernel, by decide +kernel⟩, List.mem_of_getElem? (i := 681) (by decide +kernel), List.mem_of_getElem? (i := 818) (by decide +kernel), List.mem_of_getElem? (i := 819) (by decide +kernel)⟩
theorem lw_p29 : lw_okq (⟨"BitCongruencesModel", "number", "(IJ)V"⟩, 27) := ⟨⟨by decide +kernel, by decide +kernel⟩, List.mem_of_getElem? (i := 681) (by decide +kernel), List.mem_of_getElem? (i := 822) (by decide +kernel), List.mem_of_getElem? (i := 823) (by decide +kernel)⟩
theorem lw_p30 : lw_okq (⟨"BitCongruencesModel", "meet", "(III)V"⟩, 27) := ⟨⟨by decide +kernel, by decide +kernel⟩, List.mem_of_getElem? (i := 681) (by decide +kernel), List.mem_of_getElem? (i := 830) (by decide +kernel), List.mem_of_getElem? (i := 831) (by decide +kernel)⟩
theorem lw_p31 : lw_okq (⟨"BitCongruencesModel", "setRest", "(IJJ)V"⟩, 27) := ⟨⟨by decide +kernel, by decide +kernel⟩, List.mem_of_getElem? (i := 681) (by decide +kernel), List.mem_of_getElem? (i := 840) (by decide +kernel), List.mem_of_getElem? (i := 841) (by decide +kernel)⟩
def lw_privs_2 : List (MethodName × Nat) := [(⟨"BitCongruences$Run", "look", "(LBitCongruences$Routine;)V"⟩, 4), (⟨"BitCongruences$Run", "step", "(LBitCongruences$Routine;LBitCongruences$Tables;)I"⟩, 4), (⟨"BitCongruences$Run", "lookUp", "(LBitCongruences$Tables;II)Z"⟩, 4), (⟨"BitCongruences$Run", "compute", "(III)Z"⟩, 4), (⟨"BitCongruencesModel", "all", "(I)V"⟩, 27), (⟨"BitCongruencesModel", "put", "(IJJJJ)V"⟩, 27), (⟨"BitCongruencesModel", "nothing", "(I)V"⟩, 27), (⟨"BitCongruencesModel", "sharpen", "(I)V"⟩, 27), (⟨"BitCongruencesModel", "byBits", "(I)Z"⟩, 27), (⟨"BitCongruencesModel", "up", "(JJJ)J"⟩, 27), (⟨"BitCongruencesModel", "down", "(JJJ)J"⟩, 27), (⟨"BitCongruencesModel", "byRest", "(I)Z"⟩, 27), (⟨"BitCongruencesModel", "byEnds", "(I)Z"⟩, 27), (⟨"BitCongruencesModel", "number", "(IJ)V"⟩, 27), (⟨"BitCongruencesModel", "meet", "(III)V"⟩, 27), (⟨"BitCongruencesModel", "setRest", "(IJJ)V"⟩, 27)]
theorem lw_r2 : ∀ q ∈ lw_privs_2, lw_okq q := List.forall_mem_cons.mpr ⟨lw_p16, List.forall_mem_cons.mpr ⟨lw_p17, List.forall_mem_cons.mpr ⟨lw_p18, List.forall_mem_cons.mpr ⟨lw_p19, List.forall_mem_cons.mpr ⟨lw_p20, List.forall_mem_cons.mpr ⟨lw_p21, List.forall_mem_cons.mpr ⟨lw_p22, List.forall_mem_cons.mpr ⟨lw_p23, List.forall_mem_cons.mpr ⟨lw_p24, List.forall_mem_cons.mpr ⟨lw_p25, List.forall_mem_cons.mpr ⟨lw_p26, List.forall_mem_cons.mpr ⟨lw_p27, List.forall_mem_cons.mpr ⟨lw_p28, List.forall_mem_cons.mpr ⟨lw_p29, List.forall_mem_cons.mpr ⟨lw_p30, List.forall_mem_cons.mpr ⟨lw_p31, fun _ h => absurd h List.not_mem_nil⟩⟩⟩⟩⟩⟩⟩⟩⟩⟩⟩⟩⟩⟩⟩⟩
theorem lw_p32 : lw_okq (⟨"BitCongruencesModel", "join", "(III)V"⟩, 27) := ⟨⟨by decide +kernel, by decide +kernel⟩, List.mem_of_getElem? (i := 681) (by decide +kernel), List.mem_of_getElem? (i := 853) (by decide +kernel), List.mem_of_getElem? (i := 854) (by decide +kernel)⟩
theorem lw_p33 : lw_okq (⟨"BitCongruencesModel", "copy", "(II)V"⟩, 27) := ⟨⟨by decide +kernel, by decide +kernel⟩, List.mem_of_getElem? (i := 681) (by decide +kernel), List.mem_of_getElem? (i := 857) (by decide +kernel), List.mem_of_getElem? (i := 858) (by decide +kernel)⟩
theorem lw_p34 : lw_okq (⟨"BitCongruencesModel", "isNumber", "(I)Z"⟩, 27) := ⟨⟨by decide +kernel, by decide +kernel⟩, List.mem_of_getElem? (i := 681) (by decide +kernel), List.mem_of_getElem? (i := 861) (by decide +kernel), List.mem_of_getElem? (i := 862) (by decide +kernel)⟩
theorem lw_p35 : lw_okq (⟨"BitCongruencesModel", "restOf", "(I)J"⟩, 27) := ⟨⟨by decide +kernel, by decide +kernel⟩, List.mem_of_getElem? (i := 681) (by decide +kernel), List.mem_of_getElem? (i := 865) (by decide +kernel), List.mem_of_getElem? (i := 866) (by decide +kernel)⟩
theorem lw_p36 : lw_okq (⟨"BitCongruencesModel", "byOf", "(I)J"⟩, 27) := ⟨⟨by decide +kernel, by decide +kernel⟩, List.mem_of_getElem? (i := 681) (by decide +kernel), List.mem_of_getElem? (i := 869) (by decide +kernel), List.mem_of_getElem? (i := 870) (by decide +kernel)⟩
theorem lw_p37 : lw_okq (⟨"BitCongruencesModel", "does", "(IIII)V"⟩, 27) := ⟨⟨by decide +kernel, by decide +kernel⟩, List.mem_of_getElem? (i := 681) (by decide +kernel), List.mem_of_getElem? (i := 883) (by decide +kernel), List.mem_of_getElem? (i := 884) (by decide +kernel)⟩
theorem lw_p38 : lw_okq (⟨"BitCongruencesModel", "add", "(IIZ)V"⟩, 27) := ⟨⟨by decide +kernel, by decide +kernel⟩, List.mem_of_getElem? (i := 681) (by decide +kernel), List.mem_of_getElem? (i := 897) (by decide +kernel), List.mem_of_getElem? (i := 898) (by decide +kernel)⟩
theorem lw_p39 : lw_okq (⟨"BitCongruencesModel", "turn", "(II)V"⟩, 27) := ⟨⟨by decide +kernel, by decide +kernel⟩, List.mem_of_getElem? (i := 681) (by decide +kernel), List.mem_of_getElem? (i := 904) (by decide +kernel), List.mem_of_getElem? (i := 905) (by decide +kernel)⟩
theorem lw_p40 : lw_okq (⟨"BitCongruencesModel", "ripple", "(IIZI)V"⟩, 27) := ⟨⟨by decide +kernel, by decide +kernel⟩, List.mem_of_getElem? (i := 681) (by decide +kernel), List.mem_of_getElem? (i := 908) (by decide +kernel), List.mem_of_getElem? (i := 909) (by decide +kernel)⟩
theorem lw_p41 : lw_okq (⟨"BitCongruencesModel", "bit", "(II)I"⟩, 27) := ⟨⟨by decide +kernel, by decide +kernel⟩, List.mem_of_getElem? (i := 681) (by decide +kernel), List.mem_of_getElem? (i := 912) (by decide +kernel), List.mem_of_getElem? (i := 913) (by decide +kernel)⟩
theorem lw_p42 : lw_okq (⟨"BitCongruencesModel", "multiply", "()V"⟩, 27) := ⟨⟨by decide +kernel, by decide +kernel⟩, List.mem_of_getElem? (i := 681) (by decide +kernel), List.mem_of_getElem? (i := 916) (by decide +kernel), List.mem_of_getElem? (i := 917) (by decide +kernel)⟩
theorem lw_p43 : lw_okq (⟨"BitCongruencesModel", "oddProduct", "()J"⟩, 27) := ⟨⟨by decide +kernel, by decide +kernel⟩, List.mem_of_getElem? (i := 681) (by decide +kernel), List.mem_of_getElem? (i := 920) (by decide +kernel), List.mem_of_getElem? (i := 921) (by decide +kernel)⟩
theorem lw_p44 : lw_okq (⟨"BitCongruencesModel", "bitwise", "(I)V"⟩, 27) := ⟨⟨by decide +kernel, by decide +kernel⟩, List.mem_of_getElem? (i := 681) (by decide +kernel), List.mem_of_getElem? (i := 924) (by decide +kernel), List.mem_of_getElem? (i := 925) (by decide +kernel)⟩
theorem lw_p45 : lw_okq (⟨"BitCongruencesModel", "shift", "(I)V"⟩, 27) := ⟨⟨by decide +kernel, by decide +kernel⟩, List.mem_of_getElem? (i := 681) (by decide +kernel), List.mem_of_getElem? (i := 928) (by decide +kernel), List.mem_of_getElem? (i := 929) (by decide +kernel)⟩
theorem lw_p46 : lw_okq (⟨"BitCongruencesModel", "move", "(II)V"⟩, 27) := ⟨⟨by decide +kernel, by decide +kernel⟩, List.mem_of_getElem? (i := 681) (by decide +kernel), List.mem_of_getElem? (i := 933) (by decide +kernel), List.mem_of_getElem? (i := 934) (by decide +kernel)⟩
theorem lw_p47 : lw_okq (⟨"BitCongruencesModel", "divide", "(I)V"⟩, 27) := ⟨⟨by decide +kernel, by decide +kernel⟩, List.mem_of_getElem? (i := 681) (by decide +kernel), List.mem_of_getElem? (i := 938) (by decide +kernel), List.mem_of_getElem? (i := 939) (by decide +kernel)⟩
def lw_privs_3 : List (MethodName × Nat) := [(⟨"BitCongruencesModel", "join", "(III)V"⟩, 27), (⟨"BitCongruencesModel", "copy", "(II)V"⟩, 27), (⟨"BitCongruencesModel", "isNumber", "(I)Z"⟩, 27), (⟨"BitCongruencesModel", "restOf", "(I)J"⟩, 27), (⟨"BitCongruencesModel", "byOf", "(I)J"⟩, 27), (⟨"BitCongruencesModel", "does", "(IIII)V"⟩, 27), (⟨"BitCongruencesModel", "add", "(IIZ)V"⟩, 27), (⟨"BitCongruencesModel", "turn", "(II)V"⟩, 27), (⟨"BitCongruencesModel", "ripple", "(IIZI)V"⟩, 27), (⟨"BitCongruencesModel", "bit", "(II)I"⟩, 27), (⟨"BitCongruencesModel", "multiply", "()V"⟩, 27), (⟨"BitCongruencesModel", "oddProduct", "()J"⟩, 27), (⟨"BitCongruencesModel", "bitwise", "(I)V"⟩, 27), (⟨"BitCongruencesModel", "shift", "(I)V"⟩, 27), (⟨"BitCongruencesModel", "move", "(II)V"⟩, 27), (⟨"BitCongruencesModel", "divide", "(I)V"⟩, 27)]
theorem lw_r3 : ∀ q ∈ lw_privs_3, lw_okq q := List.forall_mem_cons.mpr ⟨lw_p32, List.forall_mem_cons.mpr ⟨lw_p33, List.forall_mem_cons.mpr ⟨lw_p34, List.forall_mem_cons.mpr ⟨lw_p35, List.forall_mem_cons.mpr ⟨lw_p36, List.forall_mem_cons.mpr ⟨lw_p37, List.forall_mem_cons.mpr ⟨lw_p38, List.forall_mem_cons.mpr ⟨lw_p39, List.forall_mem_cons.mpr ⟨lw_p40, List.forall_mem_cons.mpr ⟨lw_p41, List.forall_mem_cons.mpr ⟨lw_p42, List.forall_mem_cons.mpr ⟨lw_p43, List.forall_mem_cons.mpr ⟨lw_p44, List.forall_mem_cons.mpr ⟨lw_p45, List.forall_mem_cons.mpr ⟨lw_p46, List.forall_mem_cons.mpr ⟨lw_p47, fun _ h => absurd h List.not_mem_nil⟩⟩⟩⟩⟩⟩⟩⟩⟩⟩⟩⟩⟩⟩⟩⟩
theorem lw_p48 : lw_okq (⟨"BitCongruencesModel", "narrow", "(I)V"⟩, 27) := ⟨⟨by decide +kernel, by decide +kernel⟩, List.mem_of_getElem? (i := 681) (by decide +kernel), List.mem_of_getElem? (i := 942) (by decide +kernel), List.mem_of_getElem? (i := 943) (by decide +kernel)⟩
theorem lw_p49 : lw_okq (⟨"BitCongruencesModel", "isIn", "(IJ)Z"⟩, 27) := ⟨⟨by decide +kernel, by decide +kernel⟩, List.mem_of_getElem? (i := 681) (by decide +kernel), List.mem_of_getElem? (i := 955) (by decide +kernel), List.mem_of_getElem? (i := 956) (by decide +kernel)⟩
theorem lw_p50 : lw_okq (⟨"BitCongruencesModel", "isMethod", "(I)Z"⟩, 27) := ⟨⟨by decide +kernel, by decide +kernel⟩, List.mem_of_getElem? (i := 681) (by decide +kernel), List.mem_of_getElem? (i := 967) (by decide +kernel), List.mem_of_getElem? (i := 968) (by decide +kernel)⟩
theorem lw_p51 : lw_okq (⟨"BitCongruencesModel", "cell", "(III)I"⟩, 27) := ⟨⟨by decide +kernel, by decide +kernel⟩, List.mem_of_getElem? (i := 681) (by decide +kernel), List.mem_of_getElem? (i := 993) (by decide +kernel), List.mem_of_getElem? (i := 994) (by decide +kernel)⟩
theorem lw_p52 : lw_okq (⟨"BitCongruencesModel", "some", "(I)Z"⟩, 27) := ⟨⟨by decide +kernel, by decide +kernel⟩, List.mem_of_getElem? (i := 681) (by decide +kernel), List.mem_of_getElem? (i := 997) (by decide +kernel), List.mem_of_getElem? (i := 998) (by decide +kernel)⟩
theorem lw_p53 : lw_okq (⟨"BitCongruencesModel", "work", "(II)V"⟩, 27) := ⟨⟨by decide +kernel, by decide +kernel⟩, List.mem_of_getElem? (i := 681) (by decide +kernel), List.mem_of_getElem? (i := 1001) (by decide +kernel), List.mem_of_getElem? (i := 1002) (by decide +kernel)⟩
theorem lw_p54 : lw_okq (⟨"BitCongruencesModel", "ready", "()V"⟩, 27) := ⟨⟨by decide +kernel, by decide +kernel⟩, List.mem_of_getElem? (i := 681) (by decide +kernel), List.mem_of_getElem? (i := 1005) (by decide +kernel), List.mem_of_getElem? (i := 1006) (by decide +kernel)⟩
theorem lw_p55 : lw_okq (⟨"BitCongruencesModel", "asked", "(IIIZ)V"⟩, 27) := ⟨⟨by decide +kernel, by decide +kernel⟩, List.mem_of_getElem? (i := 681) (by decide +kernel), List.mem_of_getElem? (i := 1009) (by decide +kernel), List.mem_of_getElem? (i := 1010) (by decide +kernel)⟩
theorem lw_p56 : lw_okq (⟨"BitCongruencesModel", "apart", "(III)V"⟩, 27) := ⟨⟨by decide +kernel, by decide +kernel⟩, List.mem_of_getElem? (i := 681) (by decide +kernel), List.mem_of_getElem? (i := 1013) (by decide +kernel), List.mem_of_getElem? (i := 1014) (by decide +kernel)⟩
theorem lw_p57 : lw_okq (⟨"BitCongruencesModel", "atMost", "(IZJI)V"⟩, 27) := ⟨⟨by decide +kernel, by decide +kernel⟩, List.mem_of_getElem? (i := 681) (by decide +kernel), List.mem_of_getElem? (i := 1017) (by decide +kernel), List.mem_of_getElem? (i := 1018) (by decide +kernel)⟩
theorem lw_p58 : lw_okq (⟨"BitCongruencesModel", "atLeast", "(IZJI)V"⟩, 27) := ⟨⟨by decide +kernel, by decide +kernel⟩, List.mem_of_getElem? (i := 681) (by decide +kernel), List.mem_of_getElem? (i := 1021) (by decide +kernel), List.mem_of_getElem? (i := 1022) (by decide +kernel)⟩
theorem lw_p59 : lw_okq (⟨"BitCongruencesModel", "goTo", "(II)V"⟩, 27) := ⟨⟨by decide +kernel, by decide +kernel⟩, List.mem_of_getElem? (i := 681) (by decide +kernel), List.mem_of_getElem? (i := 1025) (by decide +kernel), List.mem_of_getElem? (i := 1026) (by decide +kernel)⟩
theorem lw_p60 : lw_okq (⟨"BitCongruencesModel", "widen", "(III)V"⟩, 27) := ⟨⟨by decide +kernel, by decide +kernel⟩, List.mem_of_getElem? (i := 681) (by decide +kernel), List.mem_of_getElem? (i := 1029) (by decide +kernel), List.mem_of_getElem? (i := 1030) (by decide +kernel)⟩
theorem lw_p61 : lw_okq (⟨"BitCongruencesModel", "alike", "(II)Z"⟩, 27) := ⟨⟨by decide +kernel, by decide +kernel⟩, List.mem_of_getElem? (i := 681) (by decide +kernel), List.mem_of_getElem? (i := 1033) (by decide +kernel), List.mem_of_getElem? (i := 1034) (by decide +kernel)⟩
theorem lw_p62 : lw_okq (⟨"BitCongruencesModel", "look", "(II)V"⟩, 27) := ⟨⟨by decide +kernel, by decide +kernel⟩, List.mem_of_getElem? (i := 681) (by decide +kernel), List.mem_of_getElem? (i := 1037) (by decide +kernel), List.mem_of_getElem? (i := 1038) (by decide +kernel)⟩
theorem lw_p63 : lw_okq (⟨"BitCongruencesModel", "gives", "(II)I"⟩, 27) := ⟨⟨by decide +kernel, by decide +kernel⟩, List.mem_of_getElem? (i := 681) (by decide +kernel), List.mem_of_getElem? (i := 1049) (by decide +kernel), List.mem_of_getElem? (i := 1050) (by decide +kernel)⟩
def lw_privs_4 : List (MethodName × Nat) := [(⟨"BitCongruencesModel", "narrow", "(I)V"⟩, 27), (⟨"BitCongruencesModel", "isIn", "(IJ)Z"⟩, 27), (⟨"BitCongruencesModel", "isMethod", "(I)Z"⟩, 27), (⟨"BitCongruencesModel", "cell", "(III)I"⟩, 27), (⟨"BitCongruencesModel", "some", "(I)Z"⟩, 27), (⟨"BitCongruencesModel", "work", "(II)V"⟩, 27), (⟨"BitCongruencesModel", "ready", "()V"⟩, 27), (⟨"BitCongruencesModel", "asked", "(IIIZ)V"⟩, 27), (⟨"BitCongruencesModel", "apart", "(III)V"⟩, 27), (⟨"BitCongruencesModel", "atMost", "(IZJI)V"⟩, 27), (⟨"BitCongruencesModel", "atLeast", "(IZJI)V"⟩, 27), (⟨"BitCongruencesModel", "goTo", "(II)V"⟩, 27), (⟨"BitCongruencesModel", "widen", "(III)V"⟩, 27), (⟨"BitCongruencesModel", "alike", "(II)Z"⟩, 27), (⟨"BitCongruencesModel", "look", "(II)V"⟩, 27), (⟨"BitCongruencesModel", "gives", "(II)I"⟩, 27)]
theorem lw_r4 : ∀ q ∈ lw_privs_4, lw_okq q := List.forall_mem_cons.mpr ⟨lw_p48, List.forall_mem_cons.mpr ⟨lw_p49, List.forall_mem_cons.mpr ⟨lw_p50, List.forall_mem_cons.mpr ⟨lw_p51, List.forall_mem_cons.mpr ⟨lw_p52, List.forall_mem_cons.mpr ⟨lw_p53, List.forall_mem_cons.mpr ⟨lw_p54, List.forall_mem_cons.mpr ⟨lw_p55, List.forall_mem_cons.mpr ⟨lw_p56, List.forall_mem_cons.mpr ⟨lw_p57, List.forall_mem_cons.mpr ⟨lw_p58, List.forall_mem_cons.mpr ⟨lw_p59, List.forall_mem_cons.mpr ⟨lw_p60, List.forall_mem_cons.mpr ⟨lw_p61, List.forall_mem_cons.mpr ⟨lw_p62, List.forall_mem_cons.mpr ⟨lw_p63, fun _ h => absurd h List.not_mem_nil⟩⟩⟩⟩⟩⟩⟩⟩⟩⟩⟩⟩⟩⟩⟩⟩
theorem lw_p64 : lw_okq (⟨"BitCongruencesModel", "numbers", "(II)I"⟩, 27) := ⟨⟨by decide +kernel, by decide +kernel⟩, List.mem_of_getElem? (i := 681) (by decide +kernel), List.mem_of_getElem? (i := 1053) (by decide +kernel), List.mem_of_getElem? (i := 1054) (by decide +kernel)⟩
theorem lw_p65 : lw_okq (⟨"BitCongruencesModel", "check", "(I)V"⟩, 27) := ⟨⟨by decide +kernel, by decide +kernel⟩, List.mem_of_getElem? (i := 681) (by decide +kernel), List.mem_of_getElem? (i := 1066) (by decide +kernel), List.mem_of_getElem? (i := 1067) (by decide +kernel)⟩
theorem lw_p66 : lw_okq (⟨"BitCongruencesModel", "line", "(I)Z"⟩, 27) := ⟨⟨by decide +kernel, by decide +kernel⟩, List.mem_of_getElem? (i := 681) (by decide +kernel), List.mem_of_getElem? (i := 1070) (by decide +kernel), List.mem_of_getElem? (i := 1071) (by decide +kernel)⟩
def lw_privs_5 : List (MethodName × Nat) := [(⟨"BitCongruencesModel", "numbers", "(II)I"⟩, 27), (⟨"BitCongruencesModel", "check", "(I)V"⟩, 27), (⟨"BitCongruencesModel", "line", "(I)Z"⟩, 27)]
theorem lw_r5 : ∀ q ∈ lw_privs_5, lw_okq q := List.forall_mem_cons.mpr ⟨lw_p64, List.forall_mem_cons.mpr ⟨lw_p65, List.forall_mem_cons.mpr ⟨lw_p66, fun _ h => absurd h List.not_mem_nil⟩⟩⟩
def lw_privs : List (MethodName × Nat) := lw_privs_1 ++ (lw_privs_2 ++ (lw_privs_3 ++ (lw_privs_4 ++ (lw_privs_5))))
def lw_tbl : List Cond := k2_sels lw_privs ++ tables_1
theorem lw_privs_ok : ∀ q ∈ lw_privs, lw_okq q := by
  show ∀ q ∈ lw_privs_1 ++ (lw_privs_2 ++ (lw_privs_3 ++ (lw_privs_4 ++ (lw_privs_5)))), lw_okq q
  exact List.forall_mem_append.mpr ⟨lw_r1, List.forall_mem_append.mpr ⟨lw_r2, List.forall_mem_append.mpr ⟨lw_r3, List.forall_mem_append.mpr ⟨lw_r4, lw_r5⟩⟩⟩⟩
-- ===== end of PART A; then your names; then what follows =====
def RX0 : String := "BitCongruences$Acts"
def TX0 : u_T := fun k => match k with
  | 0 => ("BitCongruences$Acts", "zero", "LBitCongruences$Fact;", true)
  | _ => ("BitCongruences$Acts", "moved", "LBitCongruences$Fact;", true)
def tyX0 : Nat → FieldType := fun k => match k with
  | 0 => .object "BitCongruences$Fact"
  | _ => .object "BitCongruences$Fact"
abbrev wsX00 : List Cond := u_ws RX0 TX0 2
theorem nmX0 : ∀ a, a < 2 → ∀ b, b < 2 → a ≠ b → (TX0 a).2.1 ≠ (TX0 b).2.1 := by decide +kernel
theorem tyX0_ok : ∀ k, k < 2 → parseFieldDescriptor (TX0 k).2.2.1 = some (tyX0 k) := by decide +kernel
abbrev cX0_init : ByteArray := prog_2_method_1_code
def yX0_init : MethodName := ⟨RX0, "<init>", "()V"⟩
abbrev cX0_stops : ByteArray := prog_2_method_2_code
def yX0_stops : MethodName := ⟨RX0, "stops", "(IJ)Z"⟩
abbrev cX0_number : ByteArray := prog_2_method_3_code
def yX0_number : MethodName := ⟨RX0, "number", "(IJJ)J"⟩
abbrev cX0_givesUp : ByteArray := prog_2_method_4_code
def yX0_givesUp : MethodName := ⟨RX0, "givesUp", "(ILBitCongruences$Fact;LBitCongruences$Fact;)Z"⟩
abbrev cX0_work : ByteArray := prog_2_method_5_code
def yX0_work : MethodName := ⟨RX0, "work", "(ILBitCongruences$Fact;LBitCongruences$Fact;LBitCongruences$Fact;)V"⟩
abbrev cX0_constant : ByteArray := prog_2_method_6_code
def yX0_constant : MethodName := ⟨RX0, "constant", "(IJJLBitCongruences$Fact;)V"⟩
abbrev cX0_plus : ByteArray := prog_2_method_7_code
def yX0_plus : MethodName := ⟨RX0, "plus", "(LBitCongruences$Fact;LBitCongruences$Fact;LBitCongruences$Fact;)V"⟩
abbrev cX0_minus : ByteArray := prog_2_method_8_code
def yX0_minus : MethodName := ⟨RX0, "minus", "(LBitCongruences$Fact;LBitCongruences$Fact;LBitCongruences$Fact;)V"⟩
abbrev cX0_times : ByteArray := prog_2_method_9_code
def yX0_times : MethodName := ⟨RX0, "times", "(LBitCongruences$Fact;LBitCongruences$Fact;LBitCongruences$Fact;)V"⟩
abbrev cX0_productBits : ByteArray := prog_2_method_10_code
def yX0_productBits : MethodName := ⟨RX0, "productBits", "(LBitCongruences$Fact;LBitCongruences$Fact;LBitCongruences$Fact;)V"⟩
abbrev cX0_productModulus : ByteArray := prog_2_method_11_code
def yX0_productModulus : MethodName := ⟨RX0, "productModulus", "(LBitCongruences$Fact;LBitCongruences$Fact;)J"⟩
abbrev cX0_multipliedModulus : ByteArray := prog_2_method_12_code
def yX0_multipliedModulus : MethodName := ⟨RX0, "multipliedModulus", "(JJ)J"⟩
abbrev cX0_bitwise : ByteArray := prog_2_method_13_code
def yX0_bitwise : MethodName := ⟨RX0, "bitwise", "(ILBitCongruences$Fact;LBitCongruences$Fact;LBitCongruences$Fact;)V"⟩
abbrev cX0_shifted : ByteArray := prog_2_method_14_code
def yX0_shifted : MethodName := ⟨RX0, "shifted", "(ILBitCongruences$Fact;LBitCongruences$Fact;LBitCongruences$Fact;)V"⟩
abbrev cX0_move : ByteArray := prog_2_method_15_code
def yX0_move : MethodName := ⟨RX0, "move", "(ILBitCongruences$Fact;I)V"⟩
abbrev cX0_moveLeft : ByteArray := prog_2_method_16_code
def yX0_moveLeft : MethodName := ⟨RX0, "moveLeft", "(LBitCongruences$Fact;I)V"⟩
abbrev cX0_moveRightZeros : ByteArray := prog_2_method_17_code
def yX0_moveRightZeros : MethodName := ⟨RX0, "moveRightZeros", "(LBitCongruences$Fact;I)V"⟩
abbrev cX0_quotient : ByteArray := prog_2_method_18_code
def yX0_quotient : MethodName := ⟨RX0, "quotient", "(LBitCongruences$Fact;JLBitCongruences$Fact;)V"⟩
abbrev cX0_remainder : ByteArray := prog_2_method_19_code
def yX0_remainder : MethodName := ⟨RX0, "remainder", "(LBitCongruences$Fact;JLBitCongruences$Fact;)V"⟩
abbrev cX0_turned : ByteArray := prog_2_method_20_code
def yX0_turned : MethodName := ⟨RX0, "turned", "(LBitCongruences$Fact;LBitCongruences$Fact;)V"⟩
abbrev cX0_narrowed : ByteArray := prog_2_method_21_code
def yX0_narrowed : MethodName := ⟨RX0, "narrowed", "(ILBitCongruences$Fact;LBitCongruences$Fact;)V"⟩
def RX1 : String := "BitCongruences$Fact"
def TX1 : u_T := fun k => match k with
  | 0 => ("BitCongruences$Fact", "none", "Z", false)
  | 1 => ("BitCongruences$Fact", "low", "J", false)
  | 2 => ("BitCongruences$Fact", "high", "J", false)
  | 3 => ("BitCongruences$Fact", "known", "J", false)
  | 4 => ("BitCongruences$Fact", "values", "J", false)
  | 5 => ("BitCongruences$Fact", "modulus", "J", false)
  | _ => ("BitCongruences$Fact", "rest", "J", false)
def tyX1 : Nat → FieldType := fun k => match k with
  | 0 => .boolean
  | 1 => .long
  | 2 => .long
  | 3 => .long
  | 4 => .long
  | 5 => .long
  | _ => .long
abbrev wsX10 : List Cond := u_ws RX1 TX1 7
theorem nmX1 : ∀ a, a < 7 → ∀ b, b < 7 → a ≠ b → (TX1 a).2.1 ≠ (TX1 b).2.1 := by decide +kernel
theorem tyX1_ok : ∀ k, k < 7 → parseFieldDescriptor (TX1 k).2.2.1 = some (tyX1 k) := by decide +kernel
abbrev cX1_init : ByteArray := prog_3_method_1_code
def yX1_init : MethodName := ⟨RX1, "<init>", "()V"⟩
abbrev cX1_makeAll : ByteArray := prog_3_method_2_code
def yX1_makeAll : MethodName := ⟨RX1, "makeAll", "()V"⟩
abbrev cX1_makeNone : ByteArray := prog_3_method_3_code
def yX1_makeNone : MethodName := ⟨RX1, "makeNone", "()V"⟩
abbrev cX1_makeConstant : ByteArray := prog_3_method_4_code
def yX1_makeConstant : MethodName := ⟨RX1, "makeConstant", "(J)V"⟩
abbrev cX1_become : ByteArray := prog_3_method_5_code
def yX1_become : MethodName := ⟨RX1, "become", "(JJJJJJ)V"⟩
abbrev cX1_copy : ByteArray := prog_3_method_6_code
def yX1_copy : MethodName := ⟨RX1, "copy", "(LBitCongruences$Fact;)V"⟩
abbrev cX1_isConstant : ByteArray := prog_3_method_7_code
def yX1_isConstant : MethodName := ⟨RX1, "isConstant", "()Z"⟩
abbrev cX1_isLike : ByteArray := prog_3_method_8_code
def yX1_isLike : MethodName := ⟨RX1, "isLike", "(LBitCongruences$Fact;)Z"⟩
abbrev cX1_holds : ByteArray := prog_3_method_9_code
def yX1_holds : MethodName := ⟨RX1, "holds", "(J)Z"⟩
abbrev cX1_countedModulus : ByteArray := prog_3_method_10_code
def yX1_countedModulus : MethodName := ⟨RX1, "countedModulus", "()J"⟩
abbrev cX1_countedRest : ByteArray := prog_3_method_11_code
def yX1_countedRest : MethodName := ⟨RX1, "countedRest", "()J"⟩
abbrev cX1_sharpen : ByteArray := prog_3_method_12_code
def yX1_sharpen : MethodName := ⟨RX1, "sharpen", "()V"⟩
abbrev cX1_fitBits : ByteArray := prog_3_method_13_code
def yX1_fitBits : MethodName := ⟨RX1, "fitBits", "()Z"⟩
abbrev cX1_fitRest : ByteArray := prog_3_method_14_code
def yX1_fitRest : MethodName := ⟨RX1, "fitRest", "()Z"⟩
abbrev cX1_learnBits : ByteArray := prog_3_method_15_code
def yX1_learnBits : MethodName := ⟨RX1, "learnBits", "()Z"⟩
abbrev cX1_becomeJoin : ByteArray := prog_3_method_16_code
def yX1_becomeJoin : MethodName := ⟨RX1, "becomeJoin", "(LBitCongruences$Fact;LBitCongruences$Fact;)V"⟩
abbrev cX1_joinModulus : ByteArray := prog_3_method_17_code
def yX1_joinModulus : MethodName := ⟨RX1, "joinModulus", "(LBitCongruences$Fact;LBitCongruences$Fact;)J"⟩
abbrev cX1_becomeMeet : ByteArray := prog_3_method_18_code
def yX1_becomeMeet : MethodName := ⟨RX1, "becomeMeet", "(LBitCongruences$Fact;LBitCongruences$Fact;)V"⟩
abbrev cX1_becomeBitSum : ByteArray := prog_3_method_19_code
def yX1_becomeBitSum : MethodName := ⟨RX1, "becomeBitSum", "(JJJJJ)V"⟩
abbrev cX1_limit : ByteArray := prog_3_method_20_code
def yX1_limit : MethodName := ⟨RX1, "limit", "(JJJJ)V"⟩
def RX2 : String := "BitCongruences$Finder"
def TX2 : u_T := fun k => match k with
  | 0 => ("BitCongruences$Finder", "acts", "LBitCongruences$Acts;", true)
  | 1 => ("BitCongruences$Finder", "coming", "[LBitCongruences$Fact;", true)
  | 2 => ("BitCongruences$Finder", "scratch", "LBitCongruences$Fact;", true)
  | 3 => ("BitCongruences$Finder", "waiting", "[Z", true)
  | 4 => ("BitCongruences$Finder", "lessened", "[I", true)
  | _ => ("BitCongruences$Finder", "risen", "[I", true)
def tyX2 : Nat → FieldType := fun k => match k with
  | 0 => .object "BitCongruences$Acts"
  | 1 => .array (.object "BitCongruences$Fact")
  | 2 => .object "BitCongruences$Fact"
  | 3 => .array .boolean
  | 4 => .array .int
  | _ => .array .int
abbrev wsX20 : List Cond := u_ws RX2 TX2 6
theorem nmX2 : ∀ a, a < 6 → ∀ b, b < 6 → a ≠ b → (TX2 a).2.1 ≠ (TX2 b).2.1 := by decide +kernel
theorem tyX2_ok : ∀ k, k < 6 → parseFieldDescriptor (TX2 k).2.2.1 = some (tyX2 k) := by decide +kernel
abbrev cX2_init : ByteArray := prog_4_method_1_code
def yX2_init : MethodName := ⟨RX2, "<init>", "()V"⟩
abbrev cX2_begin : ByteArray := prog_4_method_2_code
def yX2_begin : MethodName := ⟨RX2, "begin", "(LBitCongruences$Routine;)V"⟩
abbrev cX2_someWait : ByteArray := prog_4_method_3_code
def yX2_someWait : MethodName := ⟨RX2, "someWait", "()Z"⟩
abbrev cX2_end : ByteArray := prog_4_method_4_code
def yX2_end : MethodName := ⟨RX2, "end", "(LBitCongruences$Routine;)V"⟩
abbrev cX2_reachAll : ByteArray := prog_4_method_5_code
def yX2_reachAll : MethodName := ⟨RX2, "reachAll", "(LBitCongruences$Routine;)V"⟩
abbrev cX2_workLine : ByteArray := prog_4_method_6_code
def yX2_workLine : MethodName := ⟨RX2, "workLine", "(LBitCongruences$Routine;LBitCongruences$Tables;I)V"⟩
abbrev cX2_fetch : ByteArray := prog_4_method_7_code
def yX2_fetch : MethodName := ⟨RX2, "fetch", "(LBitCongruences$Routine;I)V"⟩
abbrev cX2_lookUp : ByteArray := prog_4_method_8_code
def yX2_lookUp : MethodName := ⟨RX2, "lookUp", "(LBitCongruences$Tables;ILBitCongruences$Fact;LBitCongruences$Fact;)V"⟩
abbrev cX2_branch : ByteArray := prog_4_method_9_code
def yX2_branch : MethodName := ⟨RX2, "branch", "(LBitCongruences$Routine;IZ)V"⟩
abbrev cX2_learnBit : ByteArray := prog_4_method_10_code
def yX2_learnBit : MethodName := ⟨RX2, "learnBit", "(LBitCongruences$Fact;JZ)V"⟩
abbrev cX2_keepApart : ByteArray := prog_4_method_11_code
def yX2_keepApart : MethodName := ⟨RX2, "keepApart", "(LBitCongruences$Fact;LBitCongruences$Fact;LBitCongruences$Fact;)V"⟩
abbrev cX2_keepBelow : ByteArray := prog_4_method_12_code
def yX2_keepBelow : MethodName := ⟨RX2, "keepBelow", "(LBitCongruences$Fact;LBitCongruences$Fact;LBitCongruences$Fact;)V"⟩
abbrev cX2_keepAbove : ByteArray := prog_4_method_13_code
def yX2_keepAbove : MethodName := ⟨RX2, "keepAbove", "(LBitCongruences$Fact;LBitCongruences$Fact;LBitCongruences$Fact;)V"⟩
abbrev cX2_keepFrom : ByteArray := prog_4_method_14_code
def yX2_keepFrom : MethodName := ⟨RX2, "keepFrom", "(LBitCongruences$Fact;JLBitCongruences$Fact;)V"⟩
abbrev cX2_keepUpTo : ByteArray := prog_4_method_15_code
def yX2_keepUpTo : MethodName := ⟨RX2, "keepUpTo", "(LBitCongruences$Fact;JLBitCongruences$Fact;)V"⟩
abbrev cX2_send : ByteArray := prog_4_method_16_code
def yX2_send : MethodName := ⟨RX2, "send", "(LBitCongruences$Routine;I)V"⟩
abbrev cX2_someComeToNone : ByteArray := prog_4_method_17_code
def yX2_someComeToNone : MethodName := ⟨RX2, "someComeToNone", "()Z"⟩
abbrev cX2_merge : ByteArray := prog_4_method_18_code
def yX2_merge : MethodName := ⟨RX2, "merge", "(LBitCongruences$Routine;ILBitCongruences$Fact;)Z"⟩
def RX3 : String := "BitCongruences$Routine"
def TX3 : u_T := fun k => match k with
  | 0 => ("BitCongruences$Routine", "ops", "[I", true)
  | 1 => ("BitCongruences$Routine", "firsts", "[I", true)
  | 2 => ("BitCongruences$Routine", "seconds", "[I", true)
  | 3 => ("BitCongruences$Routine", "count", "I", false)
  | 4 => ("BitCongruences$Routine", "start", "[LBitCongruences$Fact;", true)
  | 5 => ("BitCongruences$Routine", "ahead", "[LBitCongruences$Fact;", true)
  | 6 => ("BitCongruences$Routine", "reached", "[Z", true)
  | 7 => ("BitCongruences$Routine", "isFound", "Z", false)
  | _ => ("BitCongruences$Routine", "widened", "I", false)
def tyX3 : Nat → FieldType := fun k => match k with
  | 0 => .array .int
  | 1 => .array .int
  | 2 => .array .int
  | 3 => .int
  | 4 => .array (.object "BitCongruences$Fact")
  | 5 => .array (.object "BitCongruences$Fact")
  | 6 => .array .boolean
  | 7 => .boolean
  | _ => .int
abbrev wsX30 : List Cond := u_ws RX3 TX3 9
theorem nmX3 : ∀ a, a < 9 → ∀ b, b < 9 → a ≠ b → (TX3 a).2.1 ≠ (TX3 b).2.1 := by decide +kernel
theorem tyX3_ok : ∀ k, k < 9 → parseFieldDescriptor (TX3 k).2.2.1 = some (tyX3 k) := by decide +kernel
abbrev cX3_init : ByteArray := prog_5_method_1_code
def yX3_init : MethodName := ⟨RX3, "<init>", "()V"⟩
abbrev cX3_addLine : ByteArray := prog_5_method_2_code
def yX3_addLine : MethodName := ⟨RX3, "addLine", "(III)V"⟩
abbrev cX3_allows : ByteArray := prog_5_method_3_code
def yX3_allows : MethodName := ⟨RX3, "allows", "([J)Z"⟩
abbrev cX3_reachedLines : ByteArray := prog_5_method_4_code
def yX3_reachedLines : MethodName := ⟨RX3, "reachedLines", "()I"⟩
abbrev cX3_givenUpLines : ByteArray := prog_5_method_5_code
def yX3_givenUpLines : MethodName := ⟨RX3, "givenUpLines", "()I"⟩
abbrev cX3_constants : ByteArray := prog_5_method_6_code
def yX3_constants : MethodName := ⟨RX3, "constants", "()I"⟩
def RX4 : String := "BitCongruences$Run"
def TX4 : u_T := fun k => match k with
  | 0 => ("BitCongruences$Run", "numbers", "[J", true)
  | 1 => ("BitCongruences$Run", "ended", "I", false)
  | 2 => ("BitCongruences$Run", "next", "I", false)
  | _ => ("BitCongruences$Run", "wrongAt", "I", false)
def tyX4 : Nat → FieldType := fun k => match k with
  | 0 => .array .long
  | 1 => .int
  | 2 => .int
  | _ => .int
abbrev wsX40 : List Cond := u_ws RX4 TX4 4
theorem nmX4 : ∀ a, a < 4 → ∀ b, b < 4 → a ≠ b → (TX4 a).2.1 ≠ (TX4 b).2.1 := by decide +kernel
theorem tyX4_ok : ∀ k, k < 4 → parseFieldDescriptor (TX4 k).2.2.1 = some (tyX4 k) := by decide +kernel
abbrev cX4_init : ByteArray := prog_6_method_1_code
def yX4_init : MethodName := ⟨RX4, "<init>", "()V"⟩
abbrev cX4_begin : ByteArray := prog_6_method_2_code
def yX4_begin : MethodName := ⟨RX4, "begin", "(LBitCongruences$Routine;LBitCongruences$Tables;[JI)I"⟩
abbrev cX4_look : ByteArray := prog_6_method_3_code
def yX4_look : MethodName := ⟨RX4, "look", "(LBitCongruences$Routine;)V"⟩
abbrev cX4_step : ByteArray := prog_6_method_4_code
def yX4_step : MethodName := ⟨RX4, "step", "(LBitCongruences$Routine;LBitCongruences$Tables;)I"⟩
abbrev cX4_lookUp : ByteArray := prog_6_method_5_code
def yX4_lookUp : MethodName := ⟨RX4, "lookUp", "(LBitCongruences$Tables;II)Z"⟩
abbrev cX4_compute : ByteArray := prog_6_method_6_code
def yX4_compute : MethodName := ⟨RX4, "compute", "(III)Z"⟩
def RX5 : String := "BitCongruences$Tables"
def TX5 : u_T := fun k => match k with
  | 0 => ("BitCongruences$Tables", "numbers", "[[J", true)
  | _ => ("BitCongruences$Tables", "sizes", "[I", true)
def tyX5 : Nat → FieldType := fun k => match k with
  | 0 => .array (.array .long)
  | _ => .array .int
abbrev wsX50 : List Cond := u_ws RX5 TX5 2
theorem nmX5 : ∀ a, a < 2 → ∀ b, b < 2 → a ≠ b → (TX5 a).2.1 ≠ (TX5 b).2.1 := by decide +kernel
theorem tyX5_ok : ∀ k, k < 2 → parseFieldDescriptor (TX5 k).2.2.1 = some (tyX5 k) := by decide +kernel
abbrev cX5_init : ByteArray := prog_7_method_1_code
def yX5_init : MethodName := ⟨RX5, "<init>", "()V"⟩
abbrev cX5_addNumber : ByteArray := prog_7_method_2_code
def yX5_addNumber : MethodName := ⟨RX5, "addNumber", "(IJ)V"⟩
abbrev cX5_has : ByteArray := prog_7_method_3_code
def yX5_has : MethodName := ⟨RX5, "has", "(IJ)Z"⟩
def RX6 : String := "BitCongruences"
def TX6 : u_T := fun k => match k with
  | 0 => ("BitCongruences", "facts", "[LBitCongruences$Fact;", true)
  | 1 => ("BitCongruences", "routines", "[LBitCongruences$Routine;", true)
  | 2 => ("BitCongruences", "routineCount", "I", false)
  | 3 => ("BitCongruences", "tables", "LBitCongruences$Tables;", true)
  | 4 => ("BitCongruences", "acts", "LBitCongruences$Acts;", true)
  | 5 => ("BitCongruences", "finder", "LBitCongruences$Finder;", true)
  | 6 => ("BitCongruences", "run", "LBitCongruences$Run;", true)
  | 7 => ("BitCongruences", "putIn", "[J", true)
  | 8 => ("BitCongruences", "besides", "LBitCongruences$Fact;", true)
  | _ => ("BitCongruences", "outcome", "LBitCongruences$Fact;", true)
def tyX6 : Nat → FieldType := fun k => match k with
  | 0 => .array (.object "BitCongruences$Fact")
  | 1 => .array (.object "BitCongruences$Routine")
  | 2 => .int
  | 3 => .object "BitCongruences$Tables"
  | 4 => .object "BitCongruences$Acts"
  | 5 => .object "BitCongruences$Finder"
  | 6 => .object "BitCongruences$Run"
  | 7 => .array .long
  | 8 => .object "BitCongruences$Fact"
  | _ => .object "BitCongruences$Fact"
abbrev wsX60 : List Cond := u_ws RX6 TX6 10
theorem nmX6 : ∀ a, a < 10 → ∀ b, b < 10 → a ≠ b → (TX6 a).2.1 ≠ (TX6 b).2.1 := by decide +kernel
theorem tyX6_ok : ∀ k, k < 10 → parseFieldDescriptor (TX6 k).2.2.1 = some (tyX6 k) := by decide +kernel
abbrev cX6_init : ByteArray := prog_1_method_1_code
def yX6_init : MethodName := ⟨RX6, "<init>", "()V"⟩
abbrev cX6_fact : ByteArray := prog_1_method_2_code
def yX6_fact : MethodName := ⟨RX6, "fact", "(IJJ)I"⟩
abbrev cX6_bits : ByteArray := prog_1_method_3_code
def yX6_bits : MethodName := ⟨RX6, "bits", "(IJJ)I"⟩
abbrev cX6_rest : ByteArray := prog_1_method_4_code
def yX6_rest : MethodName := ⟨RX6, "rest", "(IIJ)I"⟩
abbrev cX6_act : ByteArray := prog_1_method_5_code
def yX6_act : MethodName := ⟨RX6, "act", "(IIII)I"⟩
abbrev cX6_told : ByteArray := prog_1_method_6_code
def yX6_told : MethodName := ⟨RX6, "told", "(II)J"⟩
abbrev cX6_isOf : ByteArray := prog_1_method_7_code
def yX6_isOf : MethodName := ⟨RX6, "isOf", "(IJ)Z"⟩
abbrev cX6_method : ByteArray := prog_1_method_8_code
def yX6_method : MethodName := ⟨RX6, "method", "()I"⟩
abbrev cX6_op : ByteArray := prog_1_method_9_code
def yX6_op : MethodName := ⟨RX6, "op", "(IIII)I"⟩
abbrev cX6_table : ByteArray := prog_1_method_10_code
def yX6_table : MethodName := ⟨RX6, "table", "(IJ)I"⟩
abbrev cX6_given : ByteArray := prog_1_method_11_code
def yX6_given : MethodName := ⟨RX6, "given", "(III)I"⟩
abbrev cX6_find : ByteArray := prog_1_method_12_code
def yX6_find : MethodName := ⟨RX6, "find", "(I)I"⟩
abbrev cX6_found : ByteArray := prog_1_method_13_code
def yX6_found : MethodName := ⟨RX6, "found", "(IIII)I"⟩
abbrev cX6_sum : ByteArray := prog_1_method_14_code
def yX6_sum : MethodName := ⟨RX6, "sum", "(II)I"⟩
abbrev cX6_put : ByteArray := prog_1_method_15_code
def yX6_put : MethodName := ⟨RX6, "put", "(IJ)J"⟩
abbrev cX6_walk : ByteArray := prog_1_method_16_code
def yX6_walk : MethodName := ⟨RX6, "walk", "(II)I"⟩
abbrev cX6_now : ByteArray := prog_1_method_17_code
def yX6_now : MethodName := ⟨RX6, "now", "(I)J"⟩
abbrev cX6_ran : ByteArray := prog_1_method_18_code
def yX6_ran : MethodName := ⟨RX6, "ran", "(I)I"⟩
abbrev cX6_factAt : ByteArray := prog_1_method_19_code
def yX6_factAt : MethodName := ⟨RX6, "factAt", "(I)LBitCongruences$Fact;"⟩
abbrev cX6_routineAt : ByteArray := prog_1_method_20_code
def yX6_routineAt : MethodName := ⟨RX6, "routineAt", "(I)LBitCongruences$Routine;"⟩
abbrev cX6_meetBesides : ByteArray := prog_1_method_21_code
def yX6_meetBesides : MethodName := ⟨RX6, "meetBesides", "(LBitCongruences$Fact;)I"⟩
abbrev cX6_oneUnlessNone : ByteArray := prog_1_method_22_code
def yX6_oneUnlessNone : MethodName := ⟨RX6, "oneUnlessNone", "(LBitCongruences$Fact;)I"⟩
abbrev cX6_isPlace : ByteArray := prog_1_method_23_code
def yX6_isPlace : MethodName := ⟨RX6, "isPlace", "(I)Z"⟩
abbrev cX6_isLine : ByteArray := prog_1_method_24_code
def yX6_isLine : MethodName := ⟨RX6, "isLine", "(III)Z"⟩
abbrev cX6_restBy : ByteArray := prog_1_method_25_code
def yX6_restBy : MethodName := ⟨RX6, "restBy", "(JJ)J"⟩
abbrev cX6_commonDivisor : ByteArray := prog_1_method_26_code
def yX6_commonDivisor : MethodName := ⟨RX6, "commonDivisor", "(JJ)J"⟩
abbrev cX6_withoutTwos : ByteArray := prog_1_method_27_code
def yX6_withoutTwos : MethodName := ⟨RX6, "withoutTwos", "(J)J"⟩
abbrev cX6_oddPart : ByteArray := prog_1_method_28_code
def yX6_oddPart : MethodName := ⟨RX6, "oddPart", "(J)J"⟩
abbrev cX6_leastWithBits : ByteArray := prog_1_method_29_code
def yX6_leastWithBits : MethodName := ⟨RX6, "leastWithBits", "(JJJ)J"⟩
abbrev cX6_sumWraps : ByteArray := prog_1_method_30_code
def yX6_sumWraps : MethodName := ⟨RX6, "sumWraps", "(JJ)Z"⟩
abbrev cX6_differenceWraps : ByteArray := prog_1_method_31_code
def yX6_differenceWraps : MethodName := ⟨RX6, "differenceWraps", "(JJ)Z"⟩
abbrev cX6_productWraps : ByteArray := prog_1_method_32_code
def yX6_productWraps : MethodName := ⟨RX6, "productWraps", "(JJ)Z"⟩
def RX7 : String := "BitCongruencesModel"
def TX7 : u_T := fun k => match k with
  | 0 => ("BitCongruencesModel", "none", "[Z", true)
  | 1 => ("BitCongruencesModel", "low", "[J", true)
  | 2 => ("BitCongruencesModel", "high", "[J", true)
  | 3 => ("BitCongruencesModel", "known", "[J", true)
  | 4 => ("BitCongruencesModel", "value", "[J", true)
  | 5 => ("BitCongruencesModel", "by", "[J", true)
  | 6 => ("BitCongruencesModel", "rest", "[J", true)
  | 7 => ("BitCongruencesModel", "is", "Z", false)
  | 8 => ("BitCongruencesModel", "givenUp", "Z", false)
  | 9 => ("BitCongruencesModel", "methods", "I", false)
  | 10 => ("BitCongruencesModel", "lines", "[I", true)
  | 11 => ("BitCongruencesModel", "opOf", "[I", true)
  | 12 => ("BitCongruencesModel", "first", "[I", true)
  | 13 => ("BitCongruencesModel", "second", "[I", true)
  | 14 => ("BitCongruencesModel", "tableSize", "[I", true)
  | 15 => ("BitCongruencesModel", "tables", "[J", true)
  | 16 => ("BitCongruencesModel", "isFound", "[Z", true)
  | 17 => ("BitCongruencesModel", "reached", "[Z", true)
  | 18 => ("BitCongruencesModel", "made", "[I", true)
  | 19 => ("BitCongruencesModel", "waits", "[Z", true)
  | 20 => ("BitCongruencesModel", "lesser", "[I", true)
  | 21 => ("BitCongruencesModel", "greater", "[I", true)
  | 22 => ("BitCongruencesModel", "input", "[J", true)
  | 23 => ("BitCongruencesModel", "now", "[J", true)
  | 24 => ("BitCongruencesModel", "runEnd", "I", false)
  | 25 => ("BitCongruencesModel", "runLine", "I", false)
  | _ => ("BitCongruencesModel", "missed", "I", false)
def tyX7 : Nat → FieldType := fun k => match k with
  | 0 => .array .boolean
  | 1 => .array .long
  | 2 => .array .long
  | 3 => .array .long
  | 4 => .array .long
  | 5 => .array .long
  | 6 => .array .long
  | 7 => .boolean
  | 8 => .boolean
  | 9 => .int
  | 10 => .array .int
  | 11 => .array .int
  | 12 => .array .int
  | 13 => .array .int
  | 14 => .array .int
  | 15 => .array .long
  | 16 => .array .boolean
  | 17 => .array .boolean
  | 18 => .array .int
  | 19 => .array .boolean
  | 20 => .array .int
  | 21 => .array .int
  | 22 => .array .long
  | 23 => .array .long
  | 24 => .int
  | 25 => .int
  | _ => .int
abbrev wsX70 : List Cond := u_ws RX7 TX7 27
theorem nmX7 : ∀ a, a < 27 → ∀ b, b < 27 → a ≠ b → (TX7 a).2.1 ≠ (TX7 b).2.1 := by decide +kernel
theorem tyX7_ok : ∀ k, k < 27 → parseFieldDescriptor (TX7 k).2.2.1 = some (tyX7 k) := by decide +kernel
abbrev cX7_init : ByteArray := prog_9_method_1_code
def yX7_init : MethodName := ⟨RX7, "<init>", "()V"⟩
abbrev cX7_in : ByteArray := prog_9_method_2_code
def yX7_in : MethodName := ⟨RX7, "in", "(JJJ)Z"⟩
abbrev cX7_rem : ByteArray := prog_9_method_3_code
def yX7_rem : MethodName := ⟨RX7, "rem", "(JJ)J"⟩
abbrev cX7_more : ByteArray := prog_9_method_4_code
def yX7_more : MethodName := ⟨RX7, "more", "(JJ)J"⟩
abbrev cX7_less : ByteArray := prog_9_method_5_code
def yX7_less : MethodName := ⟨RX7, "less", "(JJ)J"⟩
abbrev cX7_all : ByteArray := prog_9_method_6_code
def yX7_all : MethodName := ⟨RX7, "all", "(I)V"⟩
abbrev cX7_nothing : ByteArray := prog_9_method_7_code
def yX7_nothing : MethodName := ⟨RX7, "nothing", "(I)V"⟩
abbrev cX7_number : ByteArray := prog_9_method_8_code
def yX7_number : MethodName := ⟨RX7, "number", "(IJ)V"⟩
abbrev cX7_copy : ByteArray := prog_9_method_9_code
def yX7_copy : MethodName := ⟨RX7, "copy", "(II)V"⟩
abbrev cX7_isNumber : ByteArray := prog_9_method_10_code
def yX7_isNumber : MethodName := ⟨RX7, "isNumber", "(I)Z"⟩
abbrev cX7_alike : ByteArray := prog_9_method_11_code
def yX7_alike : MethodName := ⟨RX7, "alike", "(II)Z"⟩
abbrev cX7_isIn : ByteArray := prog_9_method_12_code
def yX7_isIn : MethodName := ⟨RX7, "isIn", "(IJ)Z"⟩
abbrev cX7_up : ByteArray := prog_9_method_13_code
def yX7_up : MethodName := ⟨RX7, "up", "(JJJ)J"⟩
abbrev cX7_down : ByteArray := prog_9_method_14_code
def yX7_down : MethodName := ⟨RX7, "down", "(JJJ)J"⟩
abbrev cX7_sharpen : ByteArray := prog_9_method_15_code
def yX7_sharpen : MethodName := ⟨RX7, "sharpen", "(I)V"⟩
abbrev cX7_byBits : ByteArray := prog_9_method_16_code
def yX7_byBits : MethodName := ⟨RX7, "byBits", "(I)Z"⟩
abbrev cX7_byRest : ByteArray := prog_9_method_17_code
def yX7_byRest : MethodName := ⟨RX7, "byRest", "(I)Z"⟩
abbrev cX7_byEnds : ByteArray := prog_9_method_18_code
def yX7_byEnds : MethodName := ⟨RX7, "byEnds", "(I)Z"⟩
abbrev cX7_odd : ByteArray := prog_9_method_19_code
def yX7_odd : MethodName := ⟨RX7, "odd", "(J)J"⟩
abbrev cX7_common : ByteArray := prog_9_method_20_code
def yX7_common : MethodName := ⟨RX7, "common", "(JJ)J"⟩
abbrev cX7_left : ByteArray := prog_9_method_21_code
def yX7_left : MethodName := ⟨RX7, "left", "(JJ)J"⟩
abbrev cX7_byOf : ByteArray := prog_9_method_22_code
def yX7_byOf : MethodName := ⟨RX7, "byOf", "(I)J"⟩
abbrev cX7_restOf : ByteArray := prog_9_method_23_code
def yX7_restOf : MethodName := ⟨RX7, "restOf", "(I)J"⟩
abbrev cX7_setRest : ByteArray := prog_9_method_24_code
def yX7_setRest : MethodName := ⟨RX7, "setRest", "(IJJ)V"⟩
abbrev cX7_join : ByteArray := prog_9_method_25_code
def yX7_join : MethodName := ⟨RX7, "join", "(III)V"⟩
abbrev cX7_put : ByteArray := prog_9_method_26_code
def yX7_put : MethodName := ⟨RX7, "put", "(IJJJJ)V"⟩
abbrev cX7_meet : ByteArray := prog_9_method_27_code
def yX7_meet : MethodName := ⟨RX7, "meet", "(III)V"⟩
abbrev cX7_reckon : ByteArray := prog_9_method_28_code
def yX7_reckon : MethodName := ⟨RX7, "reckon", "(IJJ)J"⟩
abbrev cX7_alone : ByteArray := prog_9_method_29_code
def yX7_alone : MethodName := ⟨RX7, "alone", "(IJ)J"⟩
abbrev cX7_does : ByteArray := prog_9_method_30_code
def yX7_does : MethodName := ⟨RX7, "does", "(IIII)V"⟩
abbrev cX7_turn : ByteArray := prog_9_method_31_code
def yX7_turn : MethodName := ⟨RX7, "turn", "(II)V"⟩
abbrev cX7_ripple : ByteArray := prog_9_method_32_code
def yX7_ripple : MethodName := ⟨RX7, "ripple", "(IIZI)V"⟩
abbrev cX7_bit : ByteArray := prog_9_method_33_code
def yX7_bit : MethodName := ⟨RX7, "bit", "(II)I"⟩
abbrev cX7_add : ByteArray := prog_9_method_34_code
def yX7_add : MethodName := ⟨RX7, "add", "(IIZ)V"⟩
abbrev cX7_isOver : ByteArray := prog_9_method_35_code
def yX7_isOver : MethodName := ⟨RX7, "isOver", "(JJJ)Z"⟩
abbrev cX7_multiply : ByteArray := prog_9_method_36_code
def yX7_multiply : MethodName := ⟨RX7, "multiply", "()V"⟩
abbrev cX7_oddProduct : ByteArray := prog_9_method_37_code
def yX7_oddProduct : MethodName := ⟨RX7, "oddProduct", "()J"⟩
abbrev cX7_bitwise : ByteArray := prog_9_method_38_code
def yX7_bitwise : MethodName := ⟨RX7, "bitwise", "(I)V"⟩
abbrev cX7_shift : ByteArray := prog_9_method_39_code
def yX7_shift : MethodName := ⟨RX7, "shift", "(I)V"⟩
abbrev cX7_move : ByteArray := prog_9_method_40_code
def yX7_move : MethodName := ⟨RX7, "move", "(II)V"⟩
abbrev cX7_divide : ByteArray := prog_9_method_41_code
def yX7_divide : MethodName := ⟨RX7, "divide", "(I)V"⟩
abbrev cX7_narrow : ByteArray := prog_9_method_42_code
def yX7_narrow : MethodName := ⟨RX7, "narrow", "(I)V"⟩
abbrev cX7_isFact : ByteArray := prog_9_method_43_code
def yX7_isFact : MethodName := ⟨RX7, "isFact", "(I)Z"⟩
abbrev cX7_fact : ByteArray := prog_9_method_44_code
def yX7_fact : MethodName := ⟨RX7, "fact", "(IJJ)I"⟩
abbrev cX7_bits : ByteArray := prog_9_method_45_code
def yX7_bits : MethodName := ⟨RX7, "bits", "(IJJ)I"⟩
abbrev cX7_rest : ByteArray := prog_9_method_46_code
def yX7_rest : MethodName := ⟨RX7, "rest", "(IIJ)I"⟩
abbrev cX7_act : ByteArray := prog_9_method_47_code
def yX7_act : MethodName := ⟨RX7, "act", "(IIII)I"⟩
abbrev cX7_told : ByteArray := prog_9_method_48_code
def yX7_told : MethodName := ⟨RX7, "told", "(II)J"⟩
abbrev cX7_isOf : ByteArray := prog_9_method_49_code
def yX7_isOf : MethodName := ⟨RX7, "isOf", "(IJ)Z"⟩
abbrev cX7_method : ByteArray := prog_9_method_50_code
def yX7_method : MethodName := ⟨RX7, "method", "()I"⟩
abbrev cX7_isMethod : ByteArray := prog_9_method_51_code
def yX7_isMethod : MethodName := ⟨RX7, "isMethod", "(I)Z"⟩
abbrev cX7_isPlace : ByteArray := prog_9_method_52_code
def yX7_isPlace : MethodName := ⟨RX7, "isPlace", "(I)Z"⟩
abbrev cX7_isLine : ByteArray := prog_9_method_53_code
def yX7_isLine : MethodName := ⟨RX7, "isLine", "(III)Z"⟩
abbrev cX7_op : ByteArray := prog_9_method_54_code
def yX7_op : MethodName := ⟨RX7, "op", "(IIII)I"⟩
abbrev cX7_table : ByteArray := prog_9_method_55_code
def yX7_table : MethodName := ⟨RX7, "table", "(IJ)I"⟩
abbrev cX7_given : ByteArray := prog_9_method_56_code
def yX7_given : MethodName := ⟨RX7, "given", "(III)I"⟩
abbrev cX7_cell : ByteArray := prog_9_method_57_code
def yX7_cell : MethodName := ⟨RX7, "cell", "(III)I"⟩
abbrev cX7_find : ByteArray := prog_9_method_58_code
def yX7_find : MethodName := ⟨RX7, "find", "(I)I"⟩
abbrev cX7_some : ByteArray := prog_9_method_59_code
def yX7_some : MethodName := ⟨RX7, "some", "(I)Z"⟩
abbrev cX7_ready : ByteArray := prog_9_method_60_code
def yX7_ready : MethodName := ⟨RX7, "ready", "()V"⟩
abbrev cX7_work : ByteArray := prog_9_method_61_code
def yX7_work : MethodName := ⟨RX7, "work", "(II)V"⟩
abbrev cX7_look : ByteArray := prog_9_method_62_code
def yX7_look : MethodName := ⟨RX7, "look", "(II)V"⟩
abbrev cX7_asked : ByteArray := prog_9_method_63_code
def yX7_asked : MethodName := ⟨RX7, "asked", "(IIIZ)V"⟩
abbrev cX7_apart : ByteArray := prog_9_method_64_code
def yX7_apart : MethodName := ⟨RX7, "apart", "(III)V"⟩
abbrev cX7_atMost : ByteArray := prog_9_method_65_code
def yX7_atMost : MethodName := ⟨RX7, "atMost", "(IZJI)V"⟩
abbrev cX7_atLeast : ByteArray := prog_9_method_66_code
def yX7_atLeast : MethodName := ⟨RX7, "atLeast", "(IZJI)V"⟩
abbrev cX7_goTo : ByteArray := prog_9_method_67_code
def yX7_goTo : MethodName := ⟨RX7, "goTo", "(II)V"⟩
abbrev cX7_widen : ByteArray := prog_9_method_68_code
def yX7_widen : MethodName := ⟨RX7, "widen", "(III)V"⟩
abbrev cX7_found : ByteArray := prog_9_method_69_code
def yX7_found : MethodName := ⟨RX7, "found", "(IIII)I"⟩
abbrev cX7_sum : ByteArray := prog_9_method_70_code
def yX7_sum : MethodName := ⟨RX7, "sum", "(II)I"⟩
abbrev cX7_gives : ByteArray := prog_9_method_71_code
def yX7_gives : MethodName := ⟨RX7, "gives", "(II)I"⟩
abbrev cX7_numbers : ByteArray := prog_9_method_72_code
def yX7_numbers : MethodName := ⟨RX7, "numbers", "(II)I"⟩
abbrev cX7_put_ : ByteArray := prog_9_method_73_code
def yX7_put_ : MethodName := ⟨RX7, "put", "(IJ)J"⟩
abbrev cX7_walk : ByteArray := prog_9_method_74_code
def yX7_walk : MethodName := ⟨RX7, "walk", "(II)I"⟩
abbrev cX7_check : ByteArray := prog_9_method_75_code
def yX7_check : MethodName := ⟨RX7, "check", "(I)V"⟩
abbrev cX7_line : ByteArray := prog_9_method_76_code
def yX7_line : MethodName := ⟨RX7, "line", "(I)Z"⟩
abbrev cX7_now : ByteArray := prog_9_method_77_code
def yX7_now : MethodName := ⟨RX7, "now", "(I)J"⟩
abbrev cX7_ran : ByteArray := prog_9_method_78_code
def yX7_ran : MethodName := ⟨RX7, "ran", "(I)I"⟩
def RJ13 : String := "java/lang/Long"
abbrev cJ13_bitCount_95d88 : ByteArray := prog_10_method_50_code
def yJ13_bitCount_95d88 : MethodName := ⟨RJ13, "bitCount", "(J)I"⟩
def RJ9 : String := "java/lang/Math"
abbrev cJ9_abs_067f4 : ByteArray := prog_11_method_61_code
def yJ9_abs_067f4 : MethodName := ⟨RJ9, "abs", "(J)J"⟩
abbrev cJ9_max_f86c9 : ByteArray := prog_11_method_66_code
def yJ9_max_f86c9 : MethodName := ⟨RJ9, "max", "(JJ)J"⟩
abbrev cJ9_min_7cf53 : ByteArray := prog_11_method_69_code
def yJ9_min_7cf53 : MethodName := ⟨RJ9, "min", "(II)I"⟩
abbrev cJ9_min_f86c9 : ByteArray := prog_11_method_70_code
def yJ9_min_f86c9 : MethodName := ⟨RJ9, "min", "(JJ)J"⟩
def RL : String := "BitCongruencesLaw"
abbrev vwCl : List vw_C := [(RX0, TX0, 2), (RX1, TX1, 7), (RX2, TX2, 6), (RX3, TX3, 9), (RX4, TX4, 4), (RX5, TX5, 2), (RX6, TX6, 10), (RX7, TX7, 27)]
theorem inX0 : ∀ w ∈ wsX00, w ∈ lw_tbl := by decide +kernel
theorem inX1 : ∀ w ∈ wsX10, w ∈ lw_tbl := by decide +kernel
theorem inX2 : ∀ w ∈ wsX20, w ∈ lw_tbl := by decide +kernel
theorem inX3 : ∀ w ∈ wsX30, w ∈ lw_tbl := by decide +kernel
theorem inX4 : ∀ w ∈ wsX40, w ∈ lw_tbl := by decide +kernel
theorem inX5 : ∀ w ∈ wsX50, w ∈ lw_tbl := by decide +kernel
theorem inX6 : ∀ w ∈ wsX60, w ∈ lw_tbl := by decide +kernel
theorem inX7 : ∀ w ∈ wsX70, w ∈ lw_tbl := by decide +kernel
end
section
/-! LABELS AND MEMORY. Objects and arrays are numbered in the order in which they are made (0: the script; new ones are M.1 + 1); what a reference field or a place of an array of references holds, once it is set, is a fixed label; M: how many there are, which references are set, the ints (and booleans), the longs. -/
abbrev Mem : Type := Nat × (Nat → Nat → Bool) × (Nat → Nat → Int32) × (Nat → Nat → Int64)
def mK (M : Mem) : Nat := M.1
def mB (M : Mem) (a k : Nat) : Bool := M.2.1 a k
def mI (M : Mem) (a k : Nat) : Int32 := M.2.2.1 a k
def mL (M : Mem) (a k : Nat) : Int64 := M.2.2.2 a k
def u2 {α : Type} (f : Nat → Nat → α) (a k : Nat) (v : α) : Nat → Nat → α := fun b j => if b = a ∧ j = k then v else f b j
def uB (M : Mem) (a k : Nat) : Mem := (M.1, u2 M.2.1 a k true, M.2.2.1, M.2.2.2)
def uI (M : Mem) (a k : Nat) (v : Int32) : Mem := (M.1, M.2.1, u2 M.2.2.1 a k v, M.2.2.2)
def uL (M : Mem) (a k : Nat) (v : Int64) : Mem := (M.1, M.2.1, M.2.2.1, u2 M.2.2.2 a k v)
def mN (M : Mem) : Mem := (M.1 + 1, fun b j => if b = M.1 + 1 then false else M.2.1 b j, fun b j => if b = M.1 + 1 then 0 else M.2.2.1 b j, fun b j => if b = M.1 + 1 then 0 else M.2.2.2 b j)
/-- kind (1 .. 8: an object of class kind - 1 of vwCl; 20 int[], 21 boolean[], 22 long[], 23 .. 26 Fact[], 27 Routine[], 28 long[][]) and length -/
def SHt : List (Nat × Nat) := [(0, 0), (7, 0), (23, 16), (27, 6), (6, 0), (28, 4), (22, 16), (22, 16), (22, 16), (22, 16), (20, 4), (1, 0), (2, 0), (2, 0), (3, 0), (1, 0), (2, 0), (2, 0), (24, 8), (2, 0), (21, 32), (20, 256), (20, 256), (2, 0), (2, 0), (2, 0), (2, 0), (2, 0), (2, 0), (2, 0), (2, 0), (5, 0), (22, 8), (22, 8), (2, 0), (2, 0), (2, 0), (2, 0), (2, 0), (2, 0), (2, 0), (2, 0), (2, 0), (2, 0), (2, 0), (2, 0), (2, 0), (2, 0), (2, 0), (2, 0), (2, 0), (2, 0), (8, 0), (21, 1648), (22, 1648), (22, 1648), (22, 1648), (22, 1648), (22, 1648), (22, 1648), (20, 6), (20, 192), (20, 192), (20, 192), (20, 4), (22, 64), (21, 6), (21, 192), (20, 6), (21, 32), (20, 256), (20, 256), (22, 8), (22, 8)]
def SHr (o : Nat) : Nat × Nat := match o with
  | 0 => (4, 0)
  | 1 => (20, 32)
  | 2 => (20, 32)
  | 3 => (20, 32)
  | 4 => (25, 8)
  | 5 => (26, 256)
  | 6 => (21, 32)
  | _ => (2, 0)
def SH (a : Nat) : Nat × Nat := if a < 74 then SHt.getD a (0, 0) else if (a - 74) / 271 < 6 then SHr ((a - 74) % 271) else (0, 0)
/-- a field: 0 int, 1 long, 2 a reference to the label that is so much more, 3 boolean -/
def FTt : List (List (Nat × Nat)) := [[(2, 1), (2, 2)], [(3, 0), (1, 0), (1, 0), (1, 0), (1, 0), (1, 0), (1, 0)], [(2, 1), (2, 4), (2, 5), (2, 6), (2, 7), (2, 8)], [(2, 1), (2, 2), (2, 3), (0, 0), (2, 4), (2, 5), (2, 6), (3, 0), (0, 0)], [(2, 1), (0, 0), (0, 0), (0, 0)], [(2, 1), (2, 6)], [(2, 1), (2, 2), (0, 0), (2, 3), (2, 10), (2, 13), (2, 30), (2, 32), (2, 33), (2, 34)], [(2, 1), (2, 2), (2, 3), (2, 4), (2, 5), (2, 6), (2, 7), (3, 0), (3, 0), (0, 0), (2, 8), (2, 9), (2, 10), (2, 11), (2, 12), (2, 13), (2, 14), (2, 15), (2, 16), (2, 17), (2, 18), (2, 19), (2, 20), (2, 21), (0, 0), (0, 0), (0, 0)]]
def ft (c k : Nat) : Nat × Nat := (FTt.getD c []).getD k (0, 0)
/-- what a set place of an array of references holds -/
def el (kd a j : Nat) : Nat := match kd with
  | 23 => a + 34 + j
  | 24 => a + 5 + j
  | 25 => a + 3 + j
  | 26 => a + 10 + j
  | 27 => 74 + 271 * j
  | _ => a + 1 + j
def fvl (M : Mem) (c a k : Nat) : Value := match (ft c k).1 with
  | 1 => .long (mL M a k)
  | 2 => if mB M a k = true then .ref (a + (ft c k).2) else .null
  | _ => .int (mI M a k)
def avl (M : Mem) (kd a j : Nat) : Value := if kd < 22 then .int (mI M a j) else if kd = 22 then .long (mL M a j) else if mB M a j = true then .ref (el kd a j) else .null
/-- the first new address; the script's; the classes' numbers and slots; the array classes' numbers, by kind -/
abbrev Ctx : Type := Nat × Nat × va_G × (Nat → ClassId)
def ad (G : Ctx) : Nat → Nat
  | 0 => G.2.1
  | a + 1 => G.1 + a
def cv (G : Ctx) (v : Value) : Value := match v with
  | .ref a => .ref (ad G a)
  | v => v
def aty (kd : Nat) : FieldType := match kd with
  | 20 => .int
  | 21 => .boolean
  | 22 => .long
  | 27 => .object RX3
  | 28 => .array .long
  | _ => .object RX1
def cAt (G : Ctx) (M : Mem) (H : Heap) (a : Nat) : Prop :=
  (∀ (c : Nat) (r : vw_C), (SH a).1 = c + 1 → vwCl[c]? = some r → t_OB (ad G a) (G.2.2.1.1 c) r.2.2 (G.2.2.1.2 c) H (fun j => cv G (fvl M c a j))) ∧
  (20 ≤ (SH a).1 → H[ad G a]? = some (arrV (G.2.2.2 (SH a).1) (SH a).2 (fun j => cv G (avl M (SH a).1 a j))))
/-- the heap holds the memory -/
def Rep (G : Ctx) (M : Mem) (H : Heap) : Prop := H.size = G.1 + mK M ∧ ∀ a, 0 < a → a ≤ mK M → cAt G M H a
theorem cv_cat (G : Ctx) (v : Value) : (cv G v).category = v.category := by cases v <;> rfl
theorem ad_pos {G : Ctx} {a : Nat} (h : 0 < a) : ad G a = G.1 + (a - 1) := by
  cases a with
  | zero => omega
  | succ n => rfl
theorem ad_inj {G : Ctx} {a b : Nat} (ha : 0 < a) (hb : 0 < b) (h : ad G a = ad G b) : a = b := by
  rw [ad_pos ha, ad_pos hb] at h; omega
/-- what the tables say, at any state -/
def nestWs : List Cond := lw_tbl.filter (fun w => match w with | .methodLinkNest _ _ _ _ => true | _ => false)
def KS (G : Ctx) (U : State) : Prop := va_K G.2.2.1 vwCl [] U ∧ (∀ kd, 20 ≤ kd → kd ≤ 28 → ArrOfT U (G.2.2.2 kd) (aty kd) ∧ va_RA U (G.2.2.2 kd) (aty kd)) ∧ (∀ w ∈ nestWs, va_Nw w U) ∧ va_AO RX1 U ∧ va_AO RX3 U ∧ (Cond.arrayOver (.array .long)).before #[] U = true
def TB : List Cond := lw_tbl.filter goodWord
theorem TB_good {w : Cond} (h : w ∈ TB) : w ∈ lw_tbl ∧ goodWord w = true := List.mem_filter.mp h
theorem TB_in {w : Cond} (h : w ∈ lw_tbl) (g : goodWord w = true) : w ∈ TB := List.mem_filter.mpr ⟨h, g⟩
theorem inTB {ws : List Cond} (h : ∀ w ∈ ws, w ∈ lw_tbl) (g : ws.all goodWord = true) : ∀ w ∈ ws, w ∈ TB := fun w hw => TB_in (h w hw) (List.all_eq_true.mp g w hw)
theorem tbX0 : ∀ w ∈ wsX00, w ∈ TB := inTB inX0 (by decide +kernel)
theorem tbX1 : ∀ w ∈ wsX10, w ∈ TB := inTB inX1 (by decide +kernel)
theorem tbX2 : ∀ w ∈ wsX20, w ∈ TB := inTB inX2 (by decide +kernel)
theorem tbX3 : ∀ w ∈ wsX30, w ∈ TB := inTB inX3 (by decide +kernel)
theorem tbX4 : ∀ w ∈ wsX40, w ∈ TB := inTB inX4 (by decide +kernel)
theorem tbX5 : ∀ w ∈ wsX50, w ∈ TB := inTB inX5 (by decide +kernel)
theorem tbX6 : ∀ w ∈ wsX60, w ∈ TB := inTB inX6 (by decide +kernel)
theorem tbX7 : ∀ w ∈ wsX70, w ∈ TB := inTB inX7 (by decide +kernel)
def tyc (c k : Nat) : FieldType := match c with
  | 0 => tyX0 k
  | 1 => tyX1 k
  | 2 => tyX2 k
  | 3 => tyX3 k
  | 4 => tyX4 k
  | 5 => tyX5 k
  | 6 => tyX6 k
  | _ => tyX7 k
/-- the classes' own tables, by number -/
theorem clOK {c : Nat} {r : vw_C} (h : vwCl[c]? = some r) : (∀ w ∈ u_ws r.1 r.2.1 r.2.2, w ∈ TB) ∧ (∀ k, k < r.2.2 → parseFieldDescriptor (r.2.1 k).2.2.1 = some (tyc c k)) ∧ (∀ a, a < r.2.2 → ∀ b, b < r.2.2 → a ≠ b → (r.2.1 a).2.1 ≠ (r.2.1 b).2.1) := by
  match c, h with
  | 0, h => cases h; exact ⟨tbX0, tyX0_ok, nmX0⟩
  | 1, h => cases h; exact ⟨tbX1, tyX1_ok, nmX1⟩
  | 2, h => cases h; exact ⟨tbX2, tyX2_ok, nmX2⟩
  | 3, h => cases h; exact ⟨tbX3, tyX3_ok, nmX3⟩
  | 4, h => cases h; exact ⟨tbX4, tyX4_ok, nmX4⟩
  | 5, h => cases h; exact ⟨tbX5, tyX5_ok, nmX5⟩
  | 6, h => cases h; exact ⟨tbX6, tyX6_ok, nmX6⟩
  | 7, h => cases h; exact ⟨tbX7, tyX7_ok, nmX7⟩
  | k + 8, h => simp [vwCl] at h
/-- a field's kind and its type are one -/
def tagOK (t : Nat) (ty : FieldType) : Bool := match t, ty with
  | 0, .int => true
  | 1, .long => true
  | 3, .boolean => true
  | 2, .object _ => true
  | 2, .array _ => true
  | _, _ => false
theorem tags_ok : (List.range 8).all (fun c => (List.range ((vwCl.getD c ("", fun _ => ("", "", "", false), 0)).2.2)).all (fun k => tagOK (ft c k).1 (tyc c k))) = true := by decide +kernel
theorem tag_of {c k : Nat} {r : vw_C} (h : vwCl[c]? = some r) (hk : k < r.2.2) : tagOK (ft c k).1 (tyc c k) = true := by
  have hc : c < 8 := (List.getElem?_eq_some_iff.mp h).1
  have h1 := List.all_eq_true.mp tags_ok c (List.mem_range.mpr hc)
  have h2 : vwCl.getD c ("", fun _ => ("", "", "", false), 0) = r := by rw [List.getD_eq_getElem?_getD, h]; rfl
  rw [h2] at h1
  exact List.all_eq_true.mp h1 k (List.mem_range.mpr hk)
end
section
/-! THE MACHINE OVER LABELS: a judgement V (the walk stands at pc with these locals, this stack, this memory), and one rule a kind of instruction; straight stretches run as one list (sxs) -/
theorem Rep.upd {G : Ctx} {M M' : Mem} {H H' : Heap} {a : Nat} (h : Rep G M H) (ha : 0 < a) (hz : H'.size = H.size) (ho : ∀ q, q ≠ ad G a → H'[q]? = H[q]?) (hk : mK M' = mK M)
    (hr : ∀ b, b ≠ a → ∀ j, mB M' b j = mB M b j ∧ mI M' b j = mI M b j ∧ mL M' b j = mL M b j) (hc : cAt G M' H' a) : Rep G M' H' := by
  refine ⟨by rw [hz, hk]; exact h.1, fun b hb hbk => ?_⟩
  by_cases e : b = a
  · rw [e]; exact hc
  · rw [hk] at hbk
    have hq : H'[ad G b]? = H[ad G b]? := ho _ (fun q => e (ad_inj hb ha q))
    obtain ⟨h1, h2⟩ := h.2 b hb hbk
    refine ⟨fun c r hs hv => ?_, fun hs => ?_⟩
    · refine ((h1 c r hs hv).kept hq).to (fun j _ => ?_)
      obtain ⟨r1, r2, r3⟩ := hr b e j
      simp only [fvl, r1, r2, r3]
    · rw [hq, h2 hs]
      congr 2
      funext j
      obtain ⟨r1, r2, r3⟩ := hr b e j
      simp only [avl, r1, r2, r3]
theorem u2_ne {α : Type} {f : Nat → Nat → α} {a k b j : Nat} {v : α} (h : b ≠ a) : u2 f a k v b j = f b j := by simp [u2, h]
theorem u2_nk {α : Type} {f : Nat → Nat → α} {a k b j : Nat} {v : α} (h : j ≠ k) : u2 f a k v b j = f b j := by simp [u2, h]
theorem u2_self {α : Type} {f : Nat → Nat → α} {a k : Nat} {v : α} : u2 f a k v a k = v := by simp [u2]
theorem mI_uI_ne {M : Mem} {a k b j : Nat} {v : Int32} (h : b ≠ a) : mI (uI M a k v) b j = mI M b j := u2_ne h
theorem mI_uI_nk {M : Mem} {a k b j : Nat} {v : Int32} (h : j ≠ k) : mI (uI M a k v) b j = mI M b j := u2_nk h
theorem mI_uI {M : Mem} {a k : Nat} {v : Int32} : mI (uI M a k v) a k = v := u2_self
theorem mL_uL_ne {M : Mem} {a k b j : Nat} {v : Int64} (h : b ≠ a) : mL (uL M a k v) b j = mL M b j := u2_ne h
theorem mL_uL_nk {M : Mem} {a k b j : Nat} {v : Int64} (h : j ≠ k) : mL (uL M a k v) b j = mL M b j := u2_nk h
theorem mL_uL {M : Mem} {a k : Nat} {v : Int64} : mL (uL M a k v) a k = v := u2_self
theorem mB_uB_ne {M : Mem} {a k b j : Nat} (h : b ≠ a) : mB (uB M a k) b j = mB M b j := u2_ne h
theorem mB_uB_nk {M : Mem} {a k b j : Nat} (h : j ≠ k) : mB (uB M a k) b j = mB M b j := u2_nk h
theorem mB_uB {M : Mem} {a k : Nat} : mB (uB M a k) a k = true := u2_self
theorem mI_uL {M : Mem} {a k b j : Nat} {v : Int64} : mI (uL M a k v) b j = mI M b j := rfl
theorem mB_uL {M : Mem} {a k b j : Nat} {v : Int64} : mB (uL M a k v) b j = mB M b j := rfl
theorem mL_uI {M : Mem} {a k b j : Nat} {v : Int32} : mL (uI M a k v) b j = mL M b j := rfl
theorem mB_uI {M : Mem} {a k b j : Nat} {v : Int32} : mB (uI M a k v) b j = mB M b j := rfl
theorem mI_uB {M : Mem} {a k b j : Nat} : mI (uB M a k) b j = mI M b j := rfl
theorem mL_uB {M : Mem} {a k b j : Nat} : mL (uB M a k) b j = mL M b j := rfl
theorem mK_uI {M : Mem} {a k : Nat} {v : Int32} : mK (uI M a k v) = mK M := rfl
theorem mK_uL {M : Mem} {a k : Nat} {v : Int64} : mK (uL M a k v) = mK M := rfl
theorem mK_uB {M : Mem} {a k : Nat} : mK (uB M a k) = mK M := rfl
/-- an object's cell behind a write of its field k: M' is M but for (a, k) -/
theorem cAt.put {G : Ctx} {M M' : Mem} {H' : Heap} {a c k : Nat} {r : vw_C} {cell : Cell} (hs : (SH a).1 = c + 1) (hv : vwCl[c]? = some r)
    (hap : ∀ x y, x < r.2.2 → y < r.2.2 → x ≠ y → (G.2.2.1.2 c) x ≠ (G.2.2.1.2 c) y) (hk : k < r.2.2)
    (q2 : cell.cls = G.2.2.1.1 c) (q3 : cell.vm = .none) (q4 : ∀ j, j < r.2.2 → cell.slots[(G.2.2.1.2 c) j]? = some (cv G (fvl M c a j)))
    (e1 : H'[ad G a]? = some (cell.setSlot ((G.2.2.1.2 c) k) (cv G (fvl M' c a k)))) (hn : ∀ j, j ≠ k → fvl M' c a j = fvl M c a j) : cAt G M' H' a := by
  refine ⟨fun c' r' hs' hv' => ?_, fun h20 => ?_⟩
  · have ec : c' = c := by omega
    subst ec
    cases hv.symm.trans hv'
    refine t_OB.to (V := updV (fun j => cv G (fvl M c' a j)) k (cv G (fvl M' c' a k))) ⟨_, e1, q2, q3, t_set q4 hap hk _⟩ (fun j _ => ?_)
    by_cases e : j = k
    · subst e; simp [updV]
    · simp [updV, e, hn j e]
  · have h8 : c < 8 := (List.getElem?_eq_some_iff.mp hv).1
    omega
abbrev Xt : Type := Program × Launch × Env × Room × State × MethodId × Array Value × List Frame × Method × Code
def Xs (X : Xt) : State := X.2.2.2.2.1
def Xm (X : Xt) : MethodId := X.2.2.2.2.2.1
def Wx (X : Xt) (H : Heap) (locs : List Loc) (cells slots : Nat) (Q : State → Prop) (g : JFrame) : Prop :=
  W X.1 X.2.1 X.2.2.1 X.2.2.2.1 X.2.2.2.2.1 X.2.2.2.2.2.1 X.2.2.2.2.2.2.1 X.2.2.2.2.2.2.2.1 X.2.2.2.2.2.2.2.2.1 X.2.2.2.2.2.2.2.2.2 H locs cells slots Q g
/-- what stays the same during a method's walk -/
def Fx (G : Ctx) (X : Xt) (own : String) (cc : ByteArray) (nL : Nat) (ret : Option FieldType) : Prop :=
  X.1.tables.exec = Jvm.exec ∧ X.2.2.2.2.2.2.2.2.2.code = cc ∧ X.2.2.2.2.2.2.2.2.2.maxLocals = nL ∧ X.2.2.2.2.1.vm.findClass own = some X.2.2.2.2.2.1.cls ∧ (∀ w ∈ TB, w.before X.2.2.2.2.2.2.1 X.2.2.2.2.1 = true) ∧ KS G X.2.2.2.2.1 ∧ X.2.2.2.2.2.2.2.2.1.sig.returnType = ret ∧ X.2.2.2.2.2.2.2.2.1.locks = false ∧ G.1 ≤ X.2.2.2.2.1.heap.size
/-- the walk stands at pc, with these locals, this stack, this memory -/
def V (G : Ctx) (X : Xt) (nL cells slots : Nat) (Q : State → Prop) (pc : Nat) (lv : List (Nat × Value)) (st : List Value) (M : Mem) : Prop :=
  ∀ (H : Heap) (locs : List Loc) (ls : Array Slot), lv_has ls nL (lv.map fun q => (q.1, cv G q.2)) → Rep G M H → va_S (fun q => G.1 ≤ q) X.2.2.2.2.1.heap H locs →
    Wx X H locs cells slots Q (F0 X.2.2.2.2.2.1 pc ls (st.map (cv G)))
def lk : List (Nat × Value) → Nat → Option Value
  | [], _ => none
  | q :: t, i => if q.1 = i then some q.2 else lk t i
theorem lk_mem : ∀ {l : List (Nat × Value)} {i : Nat} {v : Value}, lk l i = some v → (i, v) ∈ l
  | [], _, _, h => by cases h
  | q :: t, i, v, h => by
    unfold lk at h
    split at h
    · rename_i e
      cases h
      rw [← e]
      exact List.mem_cons_self
    · exact List.mem_cons_of_mem _ (lk_mem h)
def s1 (lv : List (Nat × Value)) (i : Nat) (v : Value) : List (Nat × Value) := (i, v) :: lv.filter (fun q => !(q.1 == i) && !(q.1 + 1 == i && q.2.category == 2))
def s2 (lv : List (Nat × Value)) (i : Nat) (v : Value) : List (Nat × Value) := (i, v) :: lv.filter (fun q => !(q.1 == i) && (!(q.1 == i + 1) && !(q.1 + 1 == i && q.2.category == 2)))
theorem s1_map (G : Ctx) (lv : List (Nat × Value)) (i : Nat) (v : Value) : (i, cv G v) :: (lv.map fun q => (q.1, cv G q.2)).filter (fun q => !(q.1 == i) && !(q.1 + 1 == i && q.2.category == 2)) = (s1 lv i v).map fun q => (q.1, cv G q.2) := by
  simp only [s1, List.map_cons, List.filter_map, Function.comp_def, cv_cat]
theorem s2_map (G : Ctx) (lv : List (Nat × Value)) (i : Nat) (v : Value) : (i, cv G v) :: (lv.map fun q => (q.1, cv G q.2)).filter (fun q => !(q.1 == i) && (!(q.1 == i + 1) && !(q.1 + 1 == i && q.2.category == 2))) = (s2 lv i v).map fun q => (q.1, cv G q.2) := by
  simp only [s2, List.map_cons, List.filter_map, Function.comp_def, cv_cat]
theorem lk_at {G : Ctx} {ls : Array Slot} {nL : Nat} {lv : List (Nat × Value)} {i : Nat} {v : Value} (h : lv_has ls nL (lv.map fun q => (q.1, cv G q.2))) (hk : lk lv i = some v) : ls[i]? = some (.val (cv G v)) :=
  h.2.2 (i, cv G v) (List.mem_map.mpr ⟨(i, v), lk_mem hk, rfl⟩)
/-- an object of class c -/
def isO (M : Mem) (a c : Nat) : Prop := (SH a).1 = c + 1 ∧ 0 < a ∧ a ≤ mK M
/-- an array of this kind, with this place in it -/
def isA (M : Mem) (a kd : Nat) (i : Int32) : Prop := (SH a).1 = kd ∧ 0 < a ∧ a ≤ mK M ∧ vp_in i (SH a).2
def ilen (i : Instr) : Nat := match i with
  | .bipush _ => 2
  | .sipush _ => 3
  | .ldc2_w _ => 3
  | .iload _ => 2
  | .lload _ => 2
  | .aload _ => 2
  | .istore _ => 2
  | .lstore _ => 2
  | .astore _ => 2
  | .iinc _ _ => 3
  | .getfield _ => 3
  | .putfield _ => 3
  | .goto _ => 3
  | _ => 1
def npc (i : Instr) (pc : Nat) : Nat := match i with
  | .goto off => ((pc : Int) + off).toNat
  | i => pc + ilen i
def sx1 (fl : Nat → Option (Nat × Nat)) (cj : Nat → Option Int64) (nL pc : Nat) (i : Instr) (lv : List (Nat × Value)) (st : List Value) (M : Mem) : Option (List (Nat × Value) × List Value × Mem × Prop) :=
  match i with
  | .aconst_null => some (lv, .null :: st, M, True)
  | .iconst n => some (lv, .int (Int32.ofInt n) :: st, M, True)
  | .bipush n => some (lv, .int (Int8.ofInt n).toInt32 :: st, M, True)
  | .sipush n => some (lv, .int (Int16.ofInt n).toInt32 :: st, M, True)
  | .lconst n => some (lv, .long (Int64.ofNat (n : Nat)) :: st, M, True)
  | .ldc2_w x => match cj x with
    | some v => some (lv, .long v :: st, M, True)
    | none => none
  | .iload_n k => match lk lv (k : Nat) with
    | some (.int x) => some (lv, .int x :: st, M, True)
    | _ => none
  | .iload k => match lk lv k with
    | some (.int x) => some (lv, .int x :: st, M, True)
    | _ => none
  | .lload_n k => match lk lv (k : Nat) with
    | some (.long x) => some (lv, .long x :: st, M, True)
    | _ => none
  | .lload k => match lk lv k with
    | some (.long x) => some (lv, .long x :: st, M, True)
    | _ => none
  | .aload_n k => match lk lv (k : Nat) with
    | some (.ref x) => some (lv, .ref x :: st, M, True)
    | some .null => some (lv, .null :: st, M, True)
    | _ => none
  | .aload k => match lk lv k with
    | some (.ref x) => some (lv, .ref x :: st, M, True)
    | some .null => some (lv, .null :: st, M, True)
    | _ => none
  | .istore_n k => match st with
    | .int x :: r => some (s1 lv (k : Nat) (.int x), r, M, (k : Nat) < nL)
    | _ => none
  | .istore k => match st with
    | .int x :: r => some (s1 lv k (.int x), r, M, k < nL)
    | _ => none
  | .lstore_n k => match st with
    | .long x :: r => some (s2 lv (k : Nat) (.long x), r, M, (k : Nat) + 1 < nL)
    | _ => none
  | .lstore k => match st with
    | .long x :: r => some (s2 lv k (.long x), r, M, k + 1 < nL)
    | _ => none
  | .astore_n k => match st with
    | .ref x :: r => some (s1 lv (k : Nat) (.ref x), r, M, (k : Nat) < nL)
    | .null :: r => some (s1 lv (k : Nat) .null, r, M, (k : Nat) < nL)
    | _ => none
  | .astore k => match st with
    | .ref x :: r => some (s1 lv k (.ref x), r, M, k < nL)
    | _ => none
  | .iinc k n => match lk lv k with
    | some (.int x) => some (s1 lv k (.int (x + Int32.ofInt n)), st, M, k < nL)
    | _ => none
  | .iadd => match st with
    | .int y :: .int x :: r => some (lv, .int (x + y) :: r, M, True)
    | _ => none
  | .isub => match st with
    | .int y :: .int x :: r => some (lv, .int (x - y) :: r, M, True)
    | _ => none
  | .imul => match st with
    | .int y :: .int x :: r => some (lv, .int (x * y) :: r, M, True)
    | _ => none
  | .idiv => match st with
    | .int y :: .int x :: r => some (lv, .int (x / y) :: r, M, ¬ y = 0)
    | _ => none
  | .irem => match st with
    | .int y :: .int x :: r => some (lv, .int (x - x / y * y) :: r, M, ¬ y = 0)
    | _ => none
  | .iand => match st with
    | .int y :: .int x :: r => some (lv, .int (x &&& y) :: r, M, True)
    | _ => none
  | .ishl => match st with
    | .int y :: .int x :: r => some (lv, .int (x <<< (y &&& 31)) :: r, M, True)
    | _ => none
  | .ladd => match st with
    | .long y :: .long x :: r => some (lv, .long (x + y) :: r, M, True)
    | _ => none
  | .lsub => match st with
    | .long y :: .long x :: r => some (lv, .long (x - y) :: r, M, True)
    | _ => none
  | .lmul => match st with
    | .long y :: .long x :: r => some (lv, .long (x * y) :: r, M, True)
    | _ => none
  | .ldiv => match st with
    | .long y :: .long x :: r => some (lv, .long (x / y) :: r, M, ¬ y = 0)
    | _ => none
  | .lrem => match st with
    | .long y :: .long x :: r => some (lv, .long (x - x / y * y) :: r, M, ¬ y = 0)
    | _ => none
  | .land => match st with
    | .long y :: .long x :: r => some (lv, .long (x &&& y) :: r, M, True)
    | _ => none
  | .lor => match st with
    | .long y :: .long x :: r => some (lv, .long (x ||| y) :: r, M, True)
    | _ => none
  | .lxor => match st with
    | .long y :: .long x :: r => some (lv, .long (x ^^^ y) :: r, M, True)
    | _ => none
  | .lshl => match st with
    | .int y :: .long x :: r => some (lv, .long (x <<< (y.toInt64 &&& 63)) :: r, M, True)
    | _ => none
  | .lshr => match st with
    | .int y :: .long x :: r => some (lv, .long (x >>> (y.toInt64 &&& 63)) :: r, M, True)
    | _ => none
  | .lushr => match st with
    | .int y :: .long x :: r => some (lv, .long (x.toUInt64 >>> (y.toInt64.toUInt64 &&& Int64.toUInt64 63)).toInt64 :: r, M, True)
    | _ => none
  | .lneg => match st with
    | .long x :: r => some (lv, .long (-x) :: r, M, True)
    | _ => none
  | .i2l => match st with
    | .int x :: r => some (lv, .long x.toInt64 :: r, M, True)
    | _ => none
  | .l2i => match st with
    | .long x :: r => some (lv, .int x.toInt32 :: r, M, True)
    | _ => none
  | .i2b => match st with
    | .int x :: r => some (lv, .int x.toInt8.toInt32 :: r, M, True)
    | _ => none
  | .i2s => match st with
    | .int x :: r => some (lv, .int x.toInt16.toInt32 :: r, M, True)
    | _ => none
  | .lcmp => match st with
    | .long y :: .long x :: r => some (lv, .int (lg_cmp x y) :: r, M, True)
    | _ => none
  | .dup => match st with
    | .ref x :: r => some (lv, .ref x :: .ref x :: r, M, True)
    | .int x :: r => some (lv, .int x :: .int x :: r, M, True)
    | _ => none
  | .dup2 => match st with
    | .long x :: r => some (lv, .long x :: .long x :: r, M, True)
    | .int x :: .ref y :: r => some (lv, .int x :: .ref y :: .int x :: .ref y :: r, M, True)
    | _ => none
  | .goto off => some (lv, st, M, 0 ≤ (pc : Int) + off)
  | .getfield x => match fl x with
    | some (c, k) => match st with
      | .ref a :: r => match (ft c k).1 with
        | 1 => some (lv, .long (mL M a k) :: r, M, isO M a c)
        | 2 => some (lv, .ref (a + (ft c k).2) :: r, M, isO M a c ∧ mB M a k = true)
        | _ => some (lv, .int (mI M a k) :: r, M, isO M a c)
      | _ => none
    | none => none
  | .putfield x => match fl x with
    | some (c, k) => match (ft c k).1 with
      | 0 => match st with
        | .int v :: .ref a :: r => some (lv, r, uI M a k v, isO M a c)
        | _ => none
      | 1 => match st with
        | .long v :: .ref a :: r => some (lv, r, uL M a k v, isO M a c)
        | _ => none
      | 3 => match st with
        | .int v :: .ref a :: r => some (lv, r, uI M a k v, isO M a c ∧ (v = 0 ∨ v = 1))
        | _ => none
      | _ => none
    | none => none
  | .iaload => match st with
    | .int i :: .ref a :: r => some (lv, .int (mI M a i.toNatClampNeg) :: r, M, isA M a 20 i)
    | _ => none
  | .baload => match st with
    | .int i :: .ref a :: r => some (lv, .int (mI M a i.toNatClampNeg) :: r, M, isA M a 21 i)
    | _ => none
  | .laload => match st with
    | .int i :: .ref a :: r => some (lv, .long (mL M a i.toNatClampNeg) :: r, M, isA M a 22 i)
    | _ => none
  | .iastore => match st with
    | .int v :: .int i :: .ref a :: r => some (lv, r, uI M a i.toNatClampNeg v, isA M a 20 i)
    | _ => none
  | .bastore => match st with
    | .int v :: .int i :: .ref a :: r => some (lv, r, uI M a i.toNatClampNeg v, isA M a 21 i ∧ (v = 0 ∨ v = 1))
    | _ => none
  | .lastore => match st with
    | .long v :: .int i :: .ref a :: r => some (lv, r, uL M a i.toNatClampNeg v, isA M a 22 i)
    | _ => none
  | _ => none
/-- what the constant pool of a class says, by index: fields and long constants -/
def FlOK (own : String) (fl : Nat → Option (Nat × Nat)) : Prop := ∀ x c k, fl x = some (c, k) → ∃ r : vw_C, vwCl[c]? = some r ∧ k < r.2.2 ∧ Cond.fieldLink own x (r.2.1 k).1 (r.2.1 k).2.1 (r.2.1 k).2.2.1 ∈ TB ∧ ((ft c k).1 ≠ 2 → (r.2.1 k).2.2.2 = false)
def CjOK (own : String) (cj : Nat → Option Int64) : Prop := ∀ x v, cj x = some v → Cond.constantLong own x v ∈ TB
end
section
section SX
variable {G : Ctx} {X : Xt} {own : String} {cc : ByteArray} {nL : Nat} {ret : Option FieldType} {cells slots : Nat} {Q : State → Prop} {pc : Nat} {lv : List (Nat × Value)} {st : List Value} {M : Mem}
theorem va_ap {G : Ctx} {s : State} {args : Array Value} {c : Nat} {r : vw_C} (hts : ∀ w ∈ TB, w.before args s = true) (hK : KS G s) (hv : vwCl[c]? = some r) : ∀ x y, x < r.2.2 → y < r.2.2 → x ≠ y → (G.2.2.1.2 c) x ≠ (G.2.2.1.2 c) y := by
  obtain ⟨C, T, N⟩ := r
  obtain ⟨h1, h2, h3⟩ := clOK hv
  exact va_apart (own := "") (D := G.2.2.1) (cl := vwCl) (tys := []) hts h1 (tyc c) h2 h3 hK.1 hv
theorem w_get {p : Program} {l : Launch} {e : Env} {R : Room} {s : State} {m : MethodId} {args : Array Value} {below : List Frame} {meth : Method} {c0 : Code} {H : Heap} {locs : List Loc} {ls : Array Slot} {rest : List Value} {a c k x : Nat} {r : vw_C}
    (hx : p.tables.exec = Jvm.exec) (hb : c0.code = cc) (hts : ∀ w ∈ TB, w.before args s = true) (hK : KS G s) (hown : s.vm.findClass own = some m.cls) (hR : Rep G M H) (ho : isO M a c) (hv : vwCl[c]? = some r) (hk : k < r.2.2)
    (hl : Cond.fieldLink own x (r.2.1 k).1 (r.2.1 k).2.1 (r.2.1 k).2.2.1 ∈ TB) (hd : decode cc pc = .ok (.getfield x, 3))
    (kk : W p l e R s m args below meth c0 H locs cells slots Q (F0 m (pc + 3) ls (cv G (fvl M c a k) :: rest))) : W p l e R s m args below meth c0 H locs cells slots Q (F0 m pc ls (.ref (ad G a) :: rest)) := by
  obtain ⟨C, T, N⟩ := r
  obtain ⟨cell, q1, q2, q3, q4⟩ := (hR.2 a ho.2.1 ho.2.2).1 c _ ho.1 hv
  obtain ⟨h1, h2, h3⟩ := clOK hv
  obtain ⟨hS, hfc, kC, hkC, hkind⟩ := hK.1.1 c _ hv
  obtain ⟨cf, kf, fi, f, hi, hsl⟩ := hS k hk
  refine W.getf hx hb hown (hts _ hl) hi (u_facts hfc hkC (u_lays hts h1 hk) hi).1 q1 (by rw [q3]; exact fun h => by cases h) (v := cv G (fvl M c a k)) ?_ rfl rfl hd kk
  rw [hsl]
  exact q4 k hk
theorem fvl_1 {M : Mem} {c a k : Nat} (h : (ft c k).1 = 1) : fvl M c a k = .long (mL M a k) := by simp only [fvl, h]
theorem fvl_2 {M : Mem} {c a k : Nat} (h : (ft c k).1 = 2) (hb : mB M a k = true) : fvl M c a k = .ref (a + (ft c k).2) := by simp only [fvl, h, hb, if_true]
theorem fvl_0 {M : Mem} {c a k : Nat} (h1 : (ft c k).1 ≠ 1) (h2 : (ft c k).1 ≠ 2) : fvl M c a k = .int (mI M a k) := by
  unfold fvl
  split
  · exact absurd (by assumption) h1
  · exact absurd (by assumption) h2
  · rfl
theorem fvl_ne {M M' : Mem} {c a j : Nat} (h : mB M' a j = mB M a j ∧ mI M' a j = mI M a j ∧ mL M' a j = mL M a j) : fvl M' c a j = fvl M c a j := by
  obtain ⟨r1, r2, r3⟩ := h
  simp only [fvl, r1, r2, r3]
/-- a write of a field that isn't a reference -/
theorem w_put {p : Program} {l : Launch} {e : Env} {R : Room} {s : State} {m : MethodId} {args : Array Value} {below : List Frame} {meth : Method} {c0 : Code} {H : Heap} {locs : List Loc} {ls : Array Slot} {rest : List Value} {a c k x : Nat} {r : vw_C} {M' : Mem} {v : Value}
    (hx : p.tables.exec = Jvm.exec) (hb : c0.code = cc) (hts : ∀ w ∈ TB, w.before args s = true) (hK : KS G s) (hown : s.vm.findClass own = some m.cls) (hR : Rep G M H) (hS0 : va_S (fun q => G.1 ≤ q) s.heap H locs) (ho : isO M a c) (hv : vwCl[c]? = some r) (hk : k < r.2.2)
    (hl : Cond.fieldLink own x (r.2.1 k).1 (r.2.1 k).2.1 (r.2.1 k).2.2.1 ∈ TB) (hfin : (r.2.1 k).2.2.2 = false) (hn : narrow (tyc c k) v = v) (hfit : fits (tyc c k) v = true) (hd : decode cc pc = .ok (.putfield x, 3))
    (hM : mK M' = mK M ∧ (∀ b j, (b ≠ a ∨ j ≠ k) → mB M' b j = mB M b j ∧ mI M' b j = mI M b j ∧ mL M' b j = mL M b j) ∧ cv G (fvl M' c a k) = v)
    (kk : ∀ (H1 : Heap) (locs1 : List Loc), Rep G M' H1 → va_S (fun q => G.1 ≤ q) s.heap H1 locs1 → W p l e R s m args below meth c0 H1 locs1 cells slots Q (F0 m (pc + 3) ls rest)) : W p l e R s m args below meth c0 H locs cells slots Q (F0 m pc ls (v :: .ref (ad G a) :: rest)) := by
  have hap := va_ap hts hK hv
  obtain ⟨cell, q1, q2, q3, q4⟩ := (hR.2 a ho.2.1 ho.2.2).1 c _ ho.1 hv
  obtain ⟨h1, h2, h3⟩ := clOK hv
  obtain ⟨hS, hfc, kC, hkC, hkind⟩ := hK.1.1 c _ hv
  obtain ⟨cf, kf, fi, f, hi, hsl⟩ := hS k hk
  have hlay := hts _ (h1 _ (u_in_lay hk))
  unfold u_lay at hlay
  rw [if_neg (by rw [hfin]; decide)] at hlay
  have hst := (u_facts hfc hkC (u_lays hts h1 hk) hi).1
  have h6 := u_store hfc hkC hkind hlay hi (h2 k hk) hn hfit
  refine W.putK hx hb (f := f) ⟨hown, hts _ hl, ⟨_, _, _, hi⟩, hst⟩ (by rw [q2]; exact h6) q1 q3 (by rw [hsl]; exact k2_hasslot (q4 k hk)) rfl rfl hd fun H' e1 e2 e3 => ?_
  rw [hsl] at e1 ⊢
  have hc : cAt G M' H' a := cAt.put ho.1 hv hap hk q2 q3 q4 (by rw [hM.2.2]; exact e1) (fun j hj => fvl_ne (hM.2.1 a j (Or.inr hj)))
  exact kk H' _ (hR.upd ho.2.1 e2 e3 hM.1 (fun b hb j => hM.2.1 b j (Or.inl hb)) hc) (hS0.put e2 e3 (by show G.1 ≤ ad G a; rw [ad_pos ho.2.1]; omega))
theorem arr_at {H : Heap} {a kd : Nat} {i : Int32} (hR : Rep G M H) (h : isA M a kd i) (h20 : 20 ≤ kd) : H[ad G a]? = some (arrV (G.2.2.2 kd) (SH a).2 (fun j => cv G (avl M kd a j))) := by
  obtain ⟨h1, h2, h3, h4⟩ := h
  have := (hR.2 a h2 h3).2 (by omega)
  rw [h1] at this
  exact this
/-- a write of a place of an array -/
theorem rep_ast {H H' : Heap} {a kd j : Nat} {v : Value} {M' : Mem} (hR : Rep G M H) (hs : (SH a).1 = kd) (h0 : 0 < a) (h20 : 20 ≤ kd)
    (e1 : H'[ad G a]? = some ((arrV (G.2.2.2 kd) (SH a).2 (fun j => cv G (avl M kd a j))).setSlot j v)) (e2 : H'.size = H.size) (e3 : ∀ q, q ≠ ad G a → H'[q]? = H[q]?)
    (hM : mK M' = mK M ∧ (∀ b i, (b ≠ a ∨ i ≠ j) → mB M' b i = mB M b i ∧ mI M' b i = mI M b i ∧ mL M' b i = mL M b i) ∧ cv G (avl M' kd a j) = v) : Rep G M' H' := by
  refine hR.upd h0 e2 e3 hM.1 (fun b hb i => hM.2.1 b i (Or.inl hb)) ⟨fun c r hc hv => ?_, fun _ => ?_⟩
  · have : c < 8 := (List.getElem?_eq_some_iff.mp hv).1
    omega
  · rw [e1, hs, arrV_store]
    congr 2
    funext i
    by_cases e : i = j
    · subst e; simp [updV, hM.2.2]
    · obtain ⟨r1, r2, r3⟩ := hM.2.1 a i (Or.inr e)
      simp only [updV, e, if_false, avl, r1, r2, r3]
theorem A_ad {a : Nat} (h : 0 < a) : G.1 ≤ ad G a := by rw [ad_pos h]; omega
theorem nar_b {v : Int32} (h : v = 0 ∨ v = 1) : narrow .boolean (.int v) = .int v := by rcases h with rfl | rfl <;> rfl
theorem tag0 {ty : FieldType} (h : tagOK 0 ty = true) : ty = .int := by cases ty <;> first | rfl | (simp [tagOK] at h)
theorem tag1 {ty : FieldType} (h : tagOK 1 ty = true) : ty = .long := by cases ty <;> first | rfl | (simp [tagOK] at h)
theorem tag3 {ty : FieldType} (h : tagOK 3 ty = true) : ty = .boolean := by cases ty <;> first | rfl | (simp [tagOK] at h)
theorem uI_M {M : Mem} {a k : Nat} {v : Int32} : mK (uI M a k v) = mK M ∧ (∀ b j, (b ≠ a ∨ j ≠ k) → mB (uI M a k v) b j = mB M b j ∧ mI (uI M a k v) b j = mI M b j ∧ mL (uI M a k v) b j = mL M b j) :=
  ⟨rfl, fun b j h => ⟨rfl, h.elim mI_uI_ne mI_uI_nk, rfl⟩⟩
theorem uL_M {M : Mem} {a k : Nat} {v : Int64} : mK (uL M a k v) = mK M ∧ (∀ b j, (b ≠ a ∨ j ≠ k) → mB (uL M a k v) b j = mB M b j ∧ mI (uL M a k v) b j = mI M b j ∧ mL (uL M a k v) b j = mL M b j) :=
  ⟨rfl, fun b j h => ⟨rfl, rfl, h.elim mL_uL_ne mL_uL_nk⟩⟩
theorem uB_M {M : Mem} {a k : Nat} : mK (uB M a k) = mK M ∧ (∀ b j, (b ≠ a ∨ j ≠ k) → mB (uB M a k) b j = mB M b j ∧ mI (uB M a k) b j = mI M b j ∧ mL (uB M a k) b j = mL M b j) :=
  ⟨rfl, fun b j h => ⟨h.elim mB_uB_ne mB_uB_nk, rfl, rfl⟩⟩
end SX
end
section
theorem vin_lt {i : Int32} {n : Nat} (h : vp_in i n) : i.toNatClampNeg < n := Nat.not_le.mp fun q => h (Or.inr q)
set_option maxHeartbeats 4000000 in
theorem sx1_ok {G : Ctx} {X : Xt} {own : String} {cc : ByteArray} {nL : Nat} {ret : Option FieldType} {cells slots : Nat} {Q : State → Prop} {pc : Nat} {lv lv' : List (Nat × Value)} {st st' : List Value} {M M' : Mem} {C : Prop} {fl : Nat → Option (Nat × Nat)} {cj : Nat → Option Int64} {i : Instr}
    (F : Fx G X own cc nL ret) (hfl : FlOK own fl) (hcj : CjOK own cj) (hd : decode cc pc = .ok (i, ilen i)) (h : sx1 fl cj nL pc i lv st M = some (lv', st', M', C)) (hC : C) (k : V G X nL cells slots Q (npc i pc) lv' st' M') : V G X nL cells slots Q pc lv st M := by
  intro H locs ls hl hR hS
  obtain ⟨p, l, e, R, s, m, args, below, meth, c0⟩ := X
  obtain ⟨hx, hb, hml, hown, hts, hK, hret, hlocks, hZ⟩ := F
  unfold sx1 at h
  split at h
  · cases h
    exact lv_null hx hb hd (k H locs ls hl hR hS)
  · cases h
    exact lv_iconst hx hb hd rfl (k H locs ls hl hR hS)
  · cases h
    exact lv_bipush hx hb hd rfl (k H locs ls hl hR hS)
  · cases h
    exact lv_sipush hx hb hd rfl (k H locs ls hl hR hS)
  · cases h
    exact lv_lconst hx hb hd rfl (k H locs ls hl hR hS)
  · split at h
    · rename_i e
      cases h
      exact lv_ldc2 hx hb hown (hts _ (hcj _ _ e)) hd (k H locs ls hl hR hS)
    · cases h
  · split at h
    · rename_i e
      cases h
      exact lv_iload_n hx hb hd rfl (lk_at hl e) (k H locs ls hl hR hS)
    · cases h
  · split at h
    · rename_i e
      cases h
      exact lv_iload hx hb hd (lk_at hl e) (k H locs ls hl hR hS)
    · cases h
  · split at h
    · rename_i e
      cases h
      exact lv_lload_n hx hb hd rfl (lk_at hl e) (k H locs ls hl hR hS)
    · cases h
  · split at h
    · rename_i e
      cases h
      exact lv_lload hx hb hd (lk_at hl e) (k H locs ls hl hR hS)
    · cases h
  · split at h
    · rename_i e
      cases h
      exact lv_aload_n hx hb hd rfl (lk_at hl e) (k H locs ls hl hR hS)
    · rename_i e
      cases h
      exact lv_aload_nN hx hb hd rfl (lk_at hl e) (k H locs ls hl hR hS)
    · cases h
  · split at h
    · rename_i e
      cases h
      exact lv_aload hx hb hd (lk_at hl e) (k H locs ls hl hR hS)
    · rename_i e
      cases h
      exact lv_aloadN hx hb hd (lk_at hl e) (k H locs ls hl hR hS)
    · cases h
  · split at h
    · cases h
      exact lv_istore_n hx hb hd rfl hl hC (s1_map G lv _ (.int _)) (fun ls' hl' => k H locs ls' hl' hR hS)
    · cases h
  · split at h
    · cases h
      exact lv_istore hx hb hd hl hC (s1_map G lv _ (.int _)) (fun ls' hl' => k H locs ls' hl' hR hS)
    · cases h
  · split at h
    · cases h
      exact lv_lstore_n hx hb hd rfl hl hC (s2_map G lv _ (.long _)) (fun ls' hl' => k H locs ls' hl' hR hS)
    · cases h
  · split at h
    · cases h
      exact lv_lstore hx hb hd hl hC (s2_map G lv _ (.long _)) (fun ls' hl' => k H locs ls' hl' hR hS)
    · cases h
  · split at h
    · cases h
      exact lv_astore_n hx hb hd rfl hl hC (s1_map G lv _ (.ref _)) (fun ls' hl' => k H locs ls' hl' hR hS)
    · cases h
      exact lv_astore_nN hx hb hd rfl hl hC (s1_map G lv _ .null) (fun ls' hl' => k H locs ls' hl' hR hS)
    · cases h
  · split at h
    · cases h
      exact lv_astore hx hb hd hl hC (s1_map G lv _ (.ref _)) (fun ls' hl' => k H locs ls' hl' hR hS)
    · cases h
  · split at h
    · rename_i e
      cases h
      obtain ⟨j, hj⟩ := List.getElem?_of_mem (List.mem_map.mpr ⟨_, lk_mem e, rfl⟩ : _ ∈ lv.map fun q => (q.1, cv G q.2))
      exact lv_iinc hx hb hd hl hj rfl hC (s1_map G lv _ (.int _)) (fun ls' hl' => k H locs ls' hl' hR hS)
    · cases h
  · split at h
    · cases h
      exact lv_iadd hx hb hd (k H locs ls hl hR hS)
    · cases h
  · split at h
    · cases h
      exact lv_isub hx hb hd (k H locs ls hl hR hS)
    · cases h
  · split at h
    · cases h
      exact lv_imul hx hb hd (k H locs ls hl hR hS)
    · cases h
  · split at h
    · cases h
      exact lv_idiv hx hb hd hC (k H locs ls hl hR hS)
    · cases h
  · split at h
    · cases h
      exact lv_irem hx hb hd hC (k H locs ls hl hR hS)
    · cases h
  · split at h
    · cases h
      exact lv_iand hx hb hd (k H locs ls hl hR hS)
    · cases h
  · split at h
    · cases h
      exact lv_ishl hx hb hd (k H locs ls hl hR hS)
    · cases h
  · split at h
    · cases h
      exact lv_ladd hx hb hd (k H locs ls hl hR hS)
    · cases h
  · split at h
    · cases h
      exact lv_lsub hx hb hd (k H locs ls hl hR hS)
    · cases h
  · split at h
    · cases h
      exact lv_lmul hx hb hd (k H locs ls hl hR hS)
    · cases h
  · split at h
    · cases h
      exact lv_ldiv hx hb hd hC (k H locs ls hl hR hS)
    · cases h
  · split at h
    · cases h
      exact lv_lrem hx hb hd hC (k H locs ls hl hR hS)
    · cases h
  · split at h
    · cases h
      exact lv_land hx hb hd (k H locs ls hl hR hS)
    · cases h
  · split at h
    · cases h
      exact lv_lor hx hb hd (k H locs ls hl hR hS)
    · cases h
  · split at h
    · cases h
      exact lv_lxor hx hb hd (k H locs ls hl hR hS)
    · cases h
  · split at h
    · cases h
      exact lv_lshl hx hb hd rfl (k H locs ls hl hR hS)
    · cases h
  · split at h
    · cases h
      exact lv_lshr hx hb hd rfl (k H locs ls hl hR hS)
    · cases h
  · split at h
    · cases h
      exact lv_lushr hx hb hd rfl (k H locs ls hl hR hS)
    · cases h
  · split at h
    · cases h
      exact lv_lneg hx hb hd (k H locs ls hl hR hS)
    · cases h
  · split at h
    · cases h
      exact lv_i2l hx hb hd rfl (k H locs ls hl hR hS)
    · cases h
  · split at h
    · cases h
      exact lv_l2i hx hb hd rfl (k H locs ls hl hR hS)
    · cases h
  · split at h
    · cases h
      exact lv_i2b hx hb hd rfl (k H locs ls hl hR hS)
    · cases h
  · split at h
    · cases h
      exact lv_i2s hx hb hd rfl (k H locs ls hl hR hS)
    · cases h
  · split at h
    · cases h
      exact W.lcmp hx hb hd (k H locs ls hl hR hS)
    · cases h
  · split at h
    · cases h
      exact lv_dup hx hb hd rfl (k H locs ls hl hR hS)
    · cases h
      exact lv_dup hx hb hd rfl (k H locs ls hl hR hS)
    · cases h
  · split at h
    · cases h
      exact lv_dup2_2 hx hb hd rfl (k H locs ls hl hR hS)
    · cases h
      exact lv_dup2_11 hx hb hd rfl rfl (k H locs ls hl hR hS)
    · cases h
  · cases h
    exact lv_goto hx hb hd (by simp only [npc]; rw [Int.toNat_of_nonneg hC]) (k H locs ls hl hR hS)
  · split at h
    · rename_i c j e
      obtain ⟨r, hv, hk, hlk, -⟩ := hfl _ _ _ e
      split at h
      · split at h
        · rename_i et
          cases h
          refine w_get hx hb hts hK hown hR hC hv hk hlk hd ?_
          rw [fvl_1 et]
          exact k H locs ls hl hR hS
        · rename_i et
          cases h
          refine w_get hx hb hts hK hown hR hC.1 hv hk hlk hd ?_
          rw [fvl_2 et hC.2]
          exact k H locs ls hl hR hS
        · rename_i e1 e2
          cases h
          refine w_get hx hb hts hK hown hR hC hv hk hlk hd ?_
          rw [fvl_0 (fun q => e1 q) (fun q => e2 q)]
          exact k H locs ls hl hR hS
      · cases h
    · cases h
  · split at h
    · rename_i c j e
      obtain ⟨r, hv, hk, hlk, hfin⟩ := hfl _ _ _ e
      have htag := tag_of hv hk
      split at h
      · rename_i et
        rw [et] at htag hfin
        split at h
        · cases h
          refine w_put (M' := uI M _ j _) hx hb hts hK hown hR hS hC hv hk hlk (hfin (by decide)) (by rw [tag0 htag]; rfl) (by rw [tag0 htag]; rfl) hd ⟨uI_M.1, uI_M.2, by rw [fvl_0 (by rw [et]; decide) (by rw [et]; decide), mI_uI]⟩ (fun H1 locs1 hR1 hS1 => k H1 locs1 ls hl hR1 hS1)
        · cases h
      · rename_i et
        rw [et] at htag hfin
        split at h
        · cases h
          refine w_put (M' := uL M _ j _) hx hb hts hK hown hR hS hC hv hk hlk (hfin (by decide)) (by rw [tag1 htag]; rfl) (by rw [tag1 htag]; rfl) hd ⟨uL_M.1, uL_M.2, by rw [fvl_1 et, mL_uL]⟩ (fun H1 locs1 hR1 hS1 => k H1 locs1 ls hl hR1 hS1)
        · cases h
      · rename_i et
        rw [et] at htag hfin
        split at h
        · cases h
          refine w_put (M' := uI M _ j _) hx hb hts hK hown hR hS hC.1 hv hk hlk (hfin (by decide)) (by rw [tag3 htag]; exact nar_b hC.2) (by rw [tag3 htag]; rcases hC.2 with e | e <;> rw [e] <;> rfl) hd ⟨uI_M.1, uI_M.2, by rw [fvl_0 (by rw [et]; decide) (by rw [et]; decide), mI_uI]⟩ (fun H1 locs1 hR1 hS1 => k H1 locs1 ls hl hR1 hS1)
        · cases h
      · cases h
    · cases h
  · split at h
    · cases h
      have hlt := vin_lt hC.2.2.2
      exact W.iald hx hb (arr_at hR hC (by decide)) ((hK.2.1 20 (by decide) (by decide)).1 _ _) (fun q => by cases q) (by show ¬ (_ < 0 ∨ (arrV _ _ _).slots.size ≤ _); rw [arrV_size]; exact hC.2.2.2) (by show (arrV _ _ _).slots[_]? = _; rw [arrV_read _ _ hlt]; rfl) rfl rfl hd (k H locs ls hl hR hS)
    · cases h
  · split at h
    · cases h
      have hlt := vin_lt hC.2.2.2
      exact W.zald hx hb (arr_at hR hC (by decide)) ((hK.2.1 21 (by decide) (by decide)).1 _ _) (fun q => by cases q) (by show ¬ (_ < 0 ∨ (arrV _ _ _).slots.size ≤ _); rw [arrV_size]; exact hC.2.2.2) (by show (arrV _ _ _).slots[_]? = _; rw [arrV_read _ _ hlt]; rfl) rfl rfl hd (k H locs ls hl hR hS)
    · cases h
  · split at h
    · cases h
      have hlt := vin_lt hC.2.2.2
      exact W.lald hx hb (arr_at hR hC (by decide)) ((hK.2.1 22 (by decide) (by decide)).1 _ _) (fun q => by cases q) (by show ¬ (_ < 0 ∨ (arrV _ _ _).slots.size ≤ _); rw [arrV_size]; exact hC.2.2.2) (by show (arrV _ _ _).slots[_]? = _; rw [arrV_read _ _ hlt]; rfl) rfl rfl hd (k H locs ls hl hR hS)
    · cases h
  · split at h
    · cases h
      have hlt := vin_lt hC.2.2.2
      refine W.iast hx hb (arr_at hR hC (by decide)) ((hK.2.1 20 (by decide) (by decide)).1 _ _) (fun q => by cases q) (by show ¬ (_ < 0 ∨ (arrV _ _ _).slots.size ≤ _); rw [arrV_size]; exact hC.2.2.2) rfl rfl hd (fun H' e1 e2 e3 => ?_)
      exact k H' _ ls hl (rep_ast (M' := uI M _ _ _) hR hC.1 hC.2.1 (by decide) e1 e2 e3 ⟨uI_M.1, uI_M.2, by simp only [avl]; rw [if_pos (by decide), mI_uI]; rfl⟩) (hS.put e2 e3 (A_ad hC.2.1))
    · cases h
  · split at h
    · cases h
      have hlt := vin_lt hC.1.2.2.2
      refine W.zast hx hb (arr_at hR hC.1 (by decide)) ((hK.2.1 21 (by decide) (by decide)).1 _ _) (fun q => by cases q) (by show ¬ (_ < 0 ∨ (arrV _ _ _).slots.size ≤ _); rw [arrV_size]; exact hC.1.2.2.2) rfl rfl hd (fun H' e1 e2 e3 => ?_)
      rw [nar_b hC.2] at e1
      exact k H' _ ls hl (rep_ast (M' := uI M _ _ _) hR hC.1.1 hC.1.2.1 (by decide) e1 e2 e3 ⟨uI_M.1, uI_M.2, by simp only [avl]; rw [if_pos (by decide), mI_uI]; rfl⟩) (hS.put e2 e3 (A_ad hC.1.2.1))
    · cases h
  · split at h
    · cases h
      have hlt := vin_lt hC.2.2.2
      refine W.last hx hb (arr_at hR hC (by decide)) ((hK.2.1 22 (by decide) (by decide)).1 _ _) (fun q => by cases q) (by show ¬ (_ < 0 ∨ (arrV _ _ _).slots.size ≤ _); rw [arrV_size]; exact hC.2.2.2) rfl rfl hd (fun H' e1 e2 e3 => ?_)
      exact k H' _ ls hl (rep_ast (M' := uL M _ _ _) hR hC.1 hC.2.1 (by decide) e1 e2 e3 ⟨uL_M.1, uL_M.2, by simp only [avl]; rw [if_neg (by decide), if_pos (by trivial), mL_uL]; rfl⟩) (hS.put e2 e3 (A_ad hC.2.1))
    · cases h
  · cases h
def sxs (fl : Nat → Option (Nat × Nat)) (cj : Nat → Option Int64) (nL : Nat) : List Instr → Nat → List (Nat × Value) → List Value → Mem → Option (Nat × List (Nat × Value) × List Value × Mem × Prop)
  | [], pc, lv, st, M => some (pc, lv, st, M, True)
  | i :: is, pc, lv, st, M => match sx1 fl cj nL pc i lv st M with
    | some (lv', st', M', C) => match sxs fl cj nL is (npc i pc) lv' st' M' with
      | some (pc2, lv2, st2, M2, C2) => some (pc2, lv2, st2, M2, C ∧ C2)
      | none => none
    | none => none
def decs (cc : ByteArray) : List Instr → Nat → Bool
  | [], _ => true
  | i :: is, pc => decide (decode cc pc = .ok (i, ilen i)) && decs cc is (npc i pc)
/-- a straight stretch as one step -/
theorem V.seg {G : Ctx} {X : Xt} {own : String} {cc : ByteArray} {nL : Nat} {ret : Option FieldType} {cells slots : Nat} {Q : State → Prop} {M2 : Mem} {fl : Nat → Option (Nat × Nat)} {cj : Nat → Option Int64} {pc2 : Nat} {lv2 : List (Nat × Value)} {st2 : List Value}
    (F : Fx G X own cc nL ret) (hfl : FlOK own fl) (hcj : CjOK own cj) : ∀ (is : List Instr) {pc : Nat} {lv : List (Nat × Value)} {st : List Value} {M : Mem} {C : Prop}, decs cc is pc = true → sxs fl cj nL is pc lv st M = some (pc2, lv2, st2, M2, C) → C → V G X nL cells slots Q pc2 lv2 st2 M2 → V G X nL cells slots Q pc lv st M
  | [], pc, lv, st, M, C, _, h, _, k => by
    simp only [sxs] at h
    cases h
    exact k
  | i :: is, pc, lv, st, M, C, hd, h, hC, k => by
    simp only [decs, Bool.and_eq_true, decide_eq_true_eq] at hd
    simp only [sxs] at h
    split at h
    · rename_i lv1 st1 M1 C1 e1
      split at h
      · rename_i pc3 lv3 st3 M3 C3 e3
        cases h
        exact sx1_ok F hfl hcj hd.1 e1 hC.1 (V.seg F hfl hcj is hd.2 e3 hC.2 k)
      · cases h
    · cases h
end
section
section BR
variable {G : Ctx} {X : Xt} {own : String} {cc : ByteArray} {nL : Nat} {ret : Option FieldType} {cells slots : Nat} {Q : State → Prop} {pc tgt : Nat} {lv : List (Nat × Value)} {st : List Value} {M : Mem} {off : Int}
theorem V.if_eq (F : Fx G X own cc nL ret) {x : Int32} (hd : decode cc pc = .ok (.ifCond .eq off, 3)) (ht : (pc : Int) + off = (tgt : Int)) (kt : x = 0 → V G X nL cells slots Q tgt lv st M) (kf : ¬ (x = 0) → V G X nL cells slots Q (pc + 3) lv st M) : V G X nL cells slots Q pc lv (.int x :: st) M := by
  intro H locs ls hl hR hS
  obtain ⟨p, l, e, R, s, m, args, below, meth, c0⟩ := X
  obtain ⟨hx, hb, -⟩ := F
  exact lv_if_eq hx hb hd ht (fun q => kt q H locs ls hl hR hS) (fun q => kf q H locs ls hl hR hS)
theorem V.ic_eq (F : Fx G X own cc nL ret) {x y : Int32} (hd : decode cc pc = .ok (.if_icmp .eq off, 3)) (ht : (pc : Int) + off = (tgt : Int)) (kt : x = y → V G X nL cells slots Q tgt lv st M) (kf : ¬ (x = y) → V G X nL cells slots Q (pc + 3) lv st M) : V G X nL cells slots Q pc lv (.int y :: .int x :: st) M := by
  intro H locs ls hl hR hS
  obtain ⟨p, l, e, R, s, m, args, below, meth, c0⟩ := X
  obtain ⟨hx, hb, -⟩ := F
  exact lv_icmp_eq hx hb hd ht (fun q => kt q H locs ls hl hR hS) (fun q => kf q H locs ls hl hR hS)
theorem V.if_ne (F : Fx G X own cc nL ret) {x : Int32} (hd : decode cc pc = .ok (.ifCond .ne off, 3)) (ht : (pc : Int) + off = (tgt : Int)) (kt : ¬ x = 0 → V G X nL cells slots Q tgt lv st M) (kf : x = 0 → V G X nL cells slots Q (pc + 3) lv st M) : V G X nL cells slots Q pc lv (.int x :: st) M := by
  intro H locs ls hl hR hS
  obtain ⟨p, l, e, R, s, m, args, below, meth, c0⟩ := X
  obtain ⟨hx, hb, -⟩ := F
  exact lv_if_ne hx hb hd ht (fun q => kt q H locs ls hl hR hS) (fun q => kf q H locs ls hl hR hS)
theorem V.ic_ne (F : Fx G X own cc nL ret) {x y : Int32} (hd : decode cc pc = .ok (.if_icmp .ne off, 3)) (ht : (pc : Int) + off = (tgt : Int)) (kt : ¬ x = y → V G X nL cells slots Q tgt lv st M) (kf : x = y → V G X nL cells slots Q (pc + 3) lv st M) : V G X nL cells slots Q pc lv (.int y :: .int x :: st) M := by
  intro H locs ls hl hR hS
  obtain ⟨p, l, e, R, s, m, args, below, meth, c0⟩ := X
  obtain ⟨hx, hb, -⟩ := F
  exact lv_icmp_ne hx hb hd ht (fun q => kt q H locs ls hl hR hS) (fun q => kf q H locs ls hl hR hS)
theorem V.if_lt (F : Fx G X own cc nL ret) {x : Int32} (hd : decode cc pc = .ok (.ifCond .lt off, 3)) (ht : (pc : Int) + off = (tgt : Int)) (kt : x < 0 → V G X nL cells slots Q tgt lv st M) (kf : ¬ (x < 0) → V G X nL cells slots Q (pc + 3) lv st M) : V G X nL cells slots Q pc lv (.int x :: st) M := by
  intro H locs ls hl hR hS
  obtain ⟨p, l, e, R, s, m, args, below, meth, c0⟩ := X
  obtain ⟨hx, hb, -⟩ := F
  exact lv_if_lt hx hb hd ht (fun q => kt q H locs ls hl hR hS) (fun q => kf q H locs ls hl hR hS)
theorem V.ic_lt (F : Fx G X own cc nL ret) {x y : Int32} (hd : decode cc pc = .ok (.if_icmp .lt off, 3)) (ht : (pc : Int) + off = (tgt : Int)) (kt : x < y → V G X nL cells slots Q tgt lv st M) (kf : ¬ (x < y) → V G X nL cells slots Q (pc + 3) lv st M) : V G X nL cells slots Q pc lv (.int y :: .int x :: st) M := by
  intro H locs ls hl hR hS
  obtain ⟨p, l, e, R, s, m, args, below, meth, c0⟩ := X
  obtain ⟨hx, hb, -⟩ := F
  exact lv_icmp_lt hx hb hd ht (fun q => kt q H locs ls hl hR hS) (fun q => kf q H locs ls hl hR hS)
theorem V.if_ge (F : Fx G X own cc nL ret) {x : Int32} (hd : decode cc pc = .ok (.ifCond .ge off, 3)) (ht : (pc : Int) + off = (tgt : Int)) (kt : 0 ≤ x → V G X nL cells slots Q tgt lv st M) (kf : ¬ (0 ≤ x) → V G X nL cells slots Q (pc + 3) lv st M) : V G X nL cells slots Q pc lv (.int x :: st) M := by
  intro H locs ls hl hR hS
  obtain ⟨p, l, e, R, s, m, args, below, meth, c0⟩ := X
  obtain ⟨hx, hb, -⟩ := F
  exact lv_if_ge hx hb hd ht (fun q => kt q H locs ls hl hR hS) (fun q => kf q H locs ls hl hR hS)
theorem V.ic_ge (F : Fx G X own cc nL ret) {x y : Int32} (hd : decode cc pc = .ok (.if_icmp .ge off, 3)) (ht : (pc : Int) + off = (tgt : Int)) (kt : y ≤ x → V G X nL cells slots Q tgt lv st M) (kf : ¬ (y ≤ x) → V G X nL cells slots Q (pc + 3) lv st M) : V G X nL cells slots Q pc lv (.int y :: .int x :: st) M := by
  intro H locs ls hl hR hS
  obtain ⟨p, l, e, R, s, m, args, below, meth, c0⟩ := X
  obtain ⟨hx, hb, -⟩ := F
  exact lv_icmp_ge hx hb hd ht (fun q => kt q H locs ls hl hR hS) (fun q => kf q H locs ls hl hR hS)
theorem V.if_gt (F : Fx G X own cc nL ret) {x : Int32} (hd : decode cc pc = .ok (.ifCond .gt off, 3)) (ht : (pc : Int) + off = (tgt : Int)) (kt : 0 < x → V G X nL cells slots Q tgt lv st M) (kf : ¬ (0 < x) → V G X nL cells slots Q (pc + 3) lv st M) : V G X nL cells slots Q pc lv (.int x :: st) M := by
  intro H locs ls hl hR hS
  obtain ⟨p, l, e, R, s, m, args, below, meth, c0⟩ := X
  obtain ⟨hx, hb, -⟩ := F
  exact lv_if_gt hx hb hd ht (fun q => kt q H locs ls hl hR hS) (fun q => kf q H locs ls hl hR hS)
theorem V.ic_gt (F : Fx G X own cc nL ret) {x y : Int32} (hd : decode cc pc = .ok (.if_icmp .gt off, 3)) (ht : (pc : Int) + off = (tgt : Int)) (kt : y < x → V G X nL cells slots Q tgt lv st M) (kf : ¬ (y < x) → V G X nL cells slots Q (pc + 3) lv st M) : V G X nL cells slots Q pc lv (.int y :: .int x :: st) M := by
  intro H locs ls hl hR hS
  obtain ⟨p, l, e, R, s, m, args, below, meth, c0⟩ := X
  obtain ⟨hx, hb, -⟩ := F
  exact lv_icmp_gt hx hb hd ht (fun q => kt q H locs ls hl hR hS) (fun q => kf q H locs ls hl hR hS)
theorem V.if_le (F : Fx G X own cc nL ret) {x : Int32} (hd : decode cc pc = .ok (.ifCond .le off, 3)) (ht : (pc : Int) + off = (tgt : Int)) (kt : x ≤ 0 → V G X nL cells slots Q tgt lv st M) (kf : ¬ (x ≤ 0) → V G X nL cells slots Q (pc + 3) lv st M) : V G X nL cells slots Q pc lv (.int x :: st) M := by
  intro H locs ls hl hR hS
  obtain ⟨p, l, e, R, s, m, args, below, meth, c0⟩ := X
  obtain ⟨hx, hb, -⟩ := F
  exact lv_if_le hx hb hd ht (fun q => kt q H locs ls hl hR hS) (fun q => kf q H locs ls hl hR hS)
theorem V.ic_le (F : Fx G X own cc nL ret) {x y : Int32} (hd : decode cc pc = .ok (.if_icmp .le off, 3)) (ht : (pc : Int) + off = (tgt : Int)) (kt : x ≤ y → V G X nL cells slots Q tgt lv st M) (kf : ¬ (x ≤ y) → V G X nL cells slots Q (pc + 3) lv st M) : V G X nL cells slots Q pc lv (.int y :: .int x :: st) M := by
  intro H locs ls hl hR hS
  obtain ⟨p, l, e, R, s, m, args, below, meth, c0⟩ := X
  obtain ⟨hx, hb, -⟩ := F
  exact lv_icmp_le hx hb hd ht (fun q => kt q H locs ls hl hR hS) (fun q => kf q H locs ls hl hR hS)
theorem V.lc_eq (F : Fx G X own cc nL ret) {x y : Int64} (hd : decode cc pc = .ok (.ifCond .eq off, 3)) (ht : (pc : Int) + off = (tgt : Int)) (kt : x = y → V G X nL cells slots Q tgt lv st M) (kf : ¬ (x = y) → V G X nL cells slots Q (pc + 3) lv st M) : V G X nL cells slots Q pc lv (.int (lg_cmp x y) :: st) M :=
  V.if_eq F hd ht (fun q => kt ((lg_cmp_eq x y).mp q)) (fun q => kf (fun z => q ((lg_cmp_eq x y).mpr z)))
theorem V.lc_ne (F : Fx G X own cc nL ret) {x y : Int64} (hd : decode cc pc = .ok (.ifCond .ne off, 3)) (ht : (pc : Int) + off = (tgt : Int)) (kt : ¬ x = y → V G X nL cells slots Q tgt lv st M) (kf : x = y → V G X nL cells slots Q (pc + 3) lv st M) : V G X nL cells slots Q pc lv (.int (lg_cmp x y) :: st) M :=
  V.if_ne F hd ht (fun q => kt ((not_congr (lg_cmp_eq x y)).mp q)) (fun q => kf ((lg_cmp_eq x y).mp q))
theorem V.lc_lt (F : Fx G X own cc nL ret) {x y : Int64} (hd : decode cc pc = .ok (.ifCond .lt off, 3)) (ht : (pc : Int) + off = (tgt : Int)) (kt : x < y → V G X nL cells slots Q tgt lv st M) (kf : ¬ (x < y) → V G X nL cells slots Q (pc + 3) lv st M) : V G X nL cells slots Q pc lv (.int (lg_cmp x y) :: st) M :=
  V.if_lt F hd ht (fun q => kt ((lg_cmp_lt x y).mp q)) (fun q => kf (fun z => q ((lg_cmp_lt x y).mpr z)))
theorem V.lc_ge (F : Fx G X own cc nL ret) {x y : Int64} (hd : decode cc pc = .ok (.ifCond .ge off, 3)) (ht : (pc : Int) + off = (tgt : Int)) (kt : y ≤ x → V G X nL cells slots Q tgt lv st M) (kf : ¬ (y ≤ x) → V G X nL cells slots Q (pc + 3) lv st M) : V G X nL cells slots Q pc lv (.int (lg_cmp x y) :: st) M :=
  V.if_ge F hd ht (fun q => kt ((lg_cmp_ge x y).mp q)) (fun q => kf (fun z => q ((lg_cmp_ge x y).mpr z)))
theorem V.lc_gt (F : Fx G X own cc nL ret) {x y : Int64} (hd : decode cc pc = .ok (.ifCond .gt off, 3)) (ht : (pc : Int) + off = (tgt : Int)) (kt : y < x → V G X nL cells slots Q tgt lv st M) (kf : ¬ (y < x) → V G X nL cells slots Q (pc + 3) lv st M) : V G X nL cells slots Q pc lv (.int (lg_cmp x y) :: st) M :=
  V.if_gt F hd ht (fun q => kt ((lg_cmp_gt x y).mp q)) (fun q => kf (fun z => q ((lg_cmp_gt x y).mpr z)))
theorem V.lc_le (F : Fx G X own cc nL ret) {x y : Int64} (hd : decode cc pc = .ok (.ifCond .le off, 3)) (ht : (pc : Int) + off = (tgt : Int)) (kt : x ≤ y → V G X nL cells slots Q tgt lv st M) (kf : ¬ (x ≤ y) → V G X nL cells slots Q (pc + 3) lv st M) : V G X nL cells slots Q pc lv (.int (lg_cmp x y) :: st) M :=
  V.if_le F hd ht (fun q => kt ((lg_cmp_le x y).mp q)) (fun q => kf (fun z => q ((lg_cmp_le x y).mpr z)))
theorem V.nul_r (F : Fx G X own cc nL ret) {x : Nat} (hd : decode cc pc = .ok (.ifnull off, 3)) (k : V G X nL cells slots Q (pc + 3) lv st M) : V G X nL cells slots Q pc lv (.ref x :: st) M := by
  intro H locs ls hl hR hS
  obtain ⟨p, l, e, R, s, m, args, below, meth, c0⟩ := X
  obtain ⟨hx, hb, -⟩ := F
  exact lv_ifnull hx hb hd (k H locs ls hl hR hS)
theorem V.nul_n (F : Fx G X own cc nL ret) (hd : decode cc pc = .ok (.ifnull off, 3)) (ht : (pc : Int) + off = (tgt : Int)) (k : V G X nL cells slots Q tgt lv st M) : V G X nL cells slots Q pc lv (.null :: st) M := by
  intro H locs ls hl hR hS
  obtain ⟨p, l, e, R, s, m, args, below, meth, c0⟩ := X
  obtain ⟨hx, hb, -⟩ := F
  exact lv_ifnullN hx hb hd ht (k H locs ls hl hR hS)
theorem V.nonnul_r (F : Fx G X own cc nL ret) {x : Nat} (hd : decode cc pc = .ok (.ifnonnull off, 3)) (ht : (pc : Int) + off = (tgt : Int)) (k : V G X nL cells slots Q tgt lv st M) : V G X nL cells slots Q pc lv (.ref x :: st) M := by
  intro H locs ls hl hR hS
  obtain ⟨p, l, e, R, s, m, args, below, meth, c0⟩ := X
  obtain ⟨hx, hb, -⟩ := F
  exact lv_ifnonnull hx hb hd ht (k H locs ls hl hR hS)
theorem V.nonnul_n (F : Fx G X own cc nL ret) (hd : decode cc pc = .ok (.ifnonnull off, 3)) (k : V G X nL cells slots Q (pc + 3) lv st M) : V G X nL cells slots Q pc lv (.null :: st) M := by
  intro H locs ls hl hR hS
  obtain ⟨p, l, e, R, s, m, args, below, meth, c0⟩ := X
  obtain ⟨hx, hb, -⟩ := F
  exact lv_ifnonnullN hx hb hd (k H locs ls hl hR hS)
theorem V.sw_in (F : Fx G X own cc nL ret) {dflt lo hi : Int} {offs : Array Int} {len : Nat} {x : Int32} (hd : decode cc pc = .ok (.tableswitch dflt lo hi offs, len)) (h1 : ¬ x.toInt < lo) (h2 : ¬ hi < x.toInt) (ho : offs[(x.toInt - lo).toNat]? = some off) (ht : (pc : Int) + off = (tgt : Int)) (k : V G X nL cells slots Q tgt lv st M) : V G X nL cells slots Q pc lv (.int x :: st) M := by
  intro H locs ls hl hR hS
  obtain ⟨p, l, e, R, s, m, args, below, meth, c0⟩ := X
  obtain ⟨hx, hb, -⟩ := F
  exact lv_tableIn hx hb hd h1 h2 ho ht (k H locs ls hl hR hS)
theorem V.sw_out (F : Fx G X own cc nL ret) {dflt lo hi : Int} {offs : Array Int} {len : Nat} {x : Int32} (hd : decode cc pc = .ok (.tableswitch dflt lo hi offs, len)) (h : x.toInt < lo ∨ hi < x.toInt) (ht : (pc : Int) + dflt = (tgt : Int)) (k : V G X nL cells slots Q tgt lv st M) : V G X nL cells slots Q pc lv (.int x :: st) M := by
  intro H locs ls hl hR hS
  obtain ⟨p, l, e, R, s, m, args, below, meth, c0⟩ := X
  obtain ⟨hx, hb, -⟩ := F
  exact lv_tableOut hx hb hd h ht (k H locs ls hl hR hS)
/-- a place of an array of references that is set -/
theorem V.aald (F : Fx G X own cc nL ret) {a kd : Nat} {i : Int32} (hd : decode cc pc = .ok (.aaload, 1)) (h : isA M a kd i) (h23 : 23 ≤ kd ∧ kd ≤ 28) (hb1 : mB M a i.toNatClampNeg = true) (k : V G X nL cells slots Q (pc + 1) lv (.ref (el kd a i.toNatClampNeg) :: st) M) : V G X nL cells slots Q pc lv (.int i :: .ref a :: st) M := by
  intro H locs ls hl hR hS
  obtain ⟨p, l, e, R, s, m, args, below, meth, c0⟩ := X
  obtain ⟨hx, hb, hml, hown, hts, hK, -⟩ := F
  have hlt := vin_lt h.2.2.2
  refine W.aald (v := .ref (ad G (el kd a i.toNatClampNeg))) (ty := aty kd) hx hb (arr_at hR h (by omega)) ((hK.2.1 kd (by omega) (by omega)).1 _ _) ?_ (fun q => by cases q) (by show ¬ (_ < 0 ∨ (arrV _ _ _).slots.size ≤ _); rw [arrV_size]; exact h.2.2.2) ?_ rfl rfl hd (k H locs ls hl hR hS)
  · obtain ⟨h1, h2⟩ := h23
    rcases (show kd = 23 ∨ kd = 24 ∨ kd = 25 ∨ kd = 26 ∨ kd = 27 ∨ kd = 28 by omega) with rfl | rfl | rfl | rfl | rfl | rfl <;> rfl
  · show (arrV _ _ _).slots[_]? = _
    rw [arrV_read _ _ hlt]
    simp only [avl]
    rw [if_neg (by omega), if_neg (by omega), if_pos hb1]
    rfl
end BR
/-- a method: its name, code, locals, what it answers -/
abbrev Mth : Type := MethodName × ByteArray × Nat × Option FieldType
def rmd (d mc ms : Nat) : Room := { frames := d, cells := mc, slots := ms, locals := 50 * d }
def wsOf (k : Mth) : List Cond := .code k.1 k.2.1 k.2.2.1 k.2.2.2 :: TB
def PcG (G : Ctx) (as : List Value) (M : Mem) : Array Value → State → Prop := fun v U => v = (as.map (cv G)).toArray ∧ Rep G M U.heap ∧ KS G U
def QcG (G : Ctx) (post : Option Value → Mem → Prop) : Array Value → State → Outcome → State → Prop := fun _ st oc t => ∃ (r : Option Value) (M' : Mem), oc = .returned (r.map (cv G)) ∧ post r M' ∧ Rep G M' t.heap ∧ va_F (fun q => G.1 ≤ q) st t
/-- THE CONTRACT of a method at a memory: with room for D frames (or more), mc cells and ms slots it returns, and 'post' holds of its answer and the memory behind it -/
def CT (G : Ctx) (l : Launch) (D : Nat) (k : Mth) (as : List Value) (M : Mem) (mc ms : Nat) (post : Option Value → Mem → Prop) : Prop :=
  ∀ d, D ≤ d → Met l k.1 (wsOf k) (rmd d mc ms) (PcG G as M) (QcG G post) mc ms (fun q => G.1 ≤ q)
/-- where a walk of a method ends -/
def Qx (G : Ctx) (X : Xt) (mc ms : Nat) (post : Option Value → Mem → Prop) : State → Prop := MQ X.2.2.2.2.2.2.2.1 (QcG G post) X.2.2.2.2.2.2.1 X.2.2.2.2.1 mc ms (fun q => G.1 ≤ q)
section RT
variable {G : Ctx} {X : Xt} {own : String} {cc : ByteArray} {nL : Nat} {cells slots mc ms : Nat} {pc : Nat} {lv : List (Nat × Value)} {M : Mem} {post : Option Value → Mem → Prop}
theorem V.widen {Q : State → Prop} {st : List Value} (h1 : cells ≤ mc) (h2 : slots ≤ ms) (k : V G X nL mc ms Q pc lv st M) : V G X nL cells slots Q pc lv st M := fun H locs ls hl hR hS => W.widen h1 h2 (k H locs ls hl hR hS)
theorem V.iret (F : Fx G X own cc nL (some .int)) {v : Int32} (hd : decode cc pc = .ok (.ireturn, 1)) (hp : post (some (.int v)) M) : V G X nL mc ms (Qx G X mc ms post) pc lv [(.int v)] M := by
  intro H locs ls hl hR hS
  obtain ⟨p, l, e, R, s, m, args, below, meth, c0⟩ := X
  obtain ⟨hx, hb, hml, hown, hts, hK, hr, hlocks, hZ⟩ := F
  exact W.iret hx hb hr (fun t ht hW => ⟨(some (.int v)), M, rfl, hp, by rw [ht]; exact hR, hS.F ht⟩) hS.2.2 hd hlocks
theorem V.zret (F : Fx G X own cc nL (some .boolean)) {v : Int32} (h01 : v = 0 ∨ v = 1) (hd : decode cc pc = .ok (.ireturn, 1)) (hp : post (some (.int v)) M) : V G X nL mc ms (Qx G X mc ms post) pc lv [(.int v)] M := by
  intro H locs ls hl hR hS
  obtain ⟨p, l, e, R, s, m, args, below, meth, c0⟩ := X
  obtain ⟨hx, hb, hml, hown, hts, hK, hr, hlocks, hZ⟩ := F
  exact W.zret hx hb hr (nar_b h01) (fun t ht hW => ⟨(some (.int v)), M, rfl, hp, by rw [ht]; exact hR, hS.F ht⟩) hS.2.2 hd hlocks
theorem V.lret (F : Fx G X own cc nL (some .long)) {v : Int64} (hd : decode cc pc = .ok (.lreturn, 1)) (hp : post (some (.long v)) M) : V G X nL mc ms (Qx G X mc ms post) pc lv [(.long v)] M := by
  intro H locs ls hl hR hS
  obtain ⟨p, l, e, R, s, m, args, below, meth, c0⟩ := X
  obtain ⟨hx, hb, hml, hown, hts, hK, hr, hlocks, hZ⟩ := F
  exact W.lret hx hb hr (fun t ht hW => ⟨(some (.long v)), M, rfl, hp, by rw [ht]; exact hR, hS.F ht⟩) hS.2.2 hd hlocks
theorem V.vret (F : Fx G X own cc nL none) (hd : decode cc pc = .ok (.return_, 1)) (hp : post none M) : V G X nL mc ms (Qx G X mc ms post) pc lv [] M := by
  intro H locs ls hl hR hS
  obtain ⟨p, l, e, R, s, m, args, below, meth, c0⟩ := X
  obtain ⟨hx, hb, hml, hown, hts, hK, hr, hlocks, hZ⟩ := F
  exact W.vret hx hb hr (fun t ht hW => ⟨none, M, rfl, hp, by rw [ht]; exact hR, hS.F ht⟩) hS.2.2 hd hlocks
theorem V.aret {C : String} (F : Fx G X own cc nL (some (.object C))) {v : Nat} (hd : decode cc pc = .ok (.areturn, 1)) (hp : post (some (.ref v)) M) : V G X nL mc ms (Qx G X mc ms post) pc lv [(.ref v)] M := by
  intro H locs ls hl hR hS
  obtain ⟨p, l, e, R, s, m, args, below, meth, c0⟩ := X
  obtain ⟨hx, hb, hml, hown, hts, hK, hr, hlocks, hZ⟩ := F
  exact W.aret hx hb hr (Or.inl ⟨_, rfl⟩) (Or.inr ⟨_, rfl⟩) (fun t ht hW => ⟨(some (.ref v)), M, rfl, hp, by rw [ht]; exact hR, hS.F ht⟩) hS.2.2 hd hlocks
theorem V.nret {C : String} (F : Fx G X own cc nL (some (.object C))) (hd : decode cc pc = .ok (.areturn, 1)) (hp : post (some .null) M) : V G X nL mc ms (Qx G X mc ms post) pc lv [.null] M := by
  intro H locs ls hl hR hS
  obtain ⟨p, l, e, R, s, m, args, below, meth, c0⟩ := X
  obtain ⟨hx, hb, hml, hown, hts, hK, hr, hlocks, hZ⟩ := F
  exact W.aret hx hb hr (Or.inl ⟨_, rfl⟩) (Or.inl rfl) (fun t ht hW => ⟨(some .null), M, rfl, hp, by rw [ht]; exact hR, hS.F ht⟩) hS.2.2 hd hlocks
/-- a contract out of a walk from the method's entry -/
theorem CT.of {l : Launch} {D : Nat} {k : Mth} {as : List Value} (hy : plainName k.1.cls = true) (hlen : (lg_sl as).length ≤ k.2.2.1)
    (w : ∀ (X : Xt) (d : Nat), D ≤ d → X.2.1 = l → X.2.2.2.1 = rmd d mc ms → X.2.2.2.2.2.2.2.2.1.name = k.1.name → Fx G X k.1.cls k.2.1 k.2.2.1 k.2.2.2 → V G X k.2.2.1 0 0 (Qx G X mc ms post) 0 (lv_args 0 as) [] M) : CT G l D k as M mc ms post := by
  intro d hd
  refine Met.ofW (cc := k.2.1) (maxL := k.2.2.1) (ret := k.2.2.2) hy rfl ?_
  intro p e s m args below meth c s₁ B hml hv
  obtain ⟨rfl, hR, hK⟩ := hv
  have hts := atoms_spec (ws := wsOf k) B.pre
  have hF : Fx G (p, l, e, rmd d mc ms, s, m, (as.map (cv G)).toArray, below, meth, c) k.1.cls k.2.1 k.2.2.1 k.2.2.2 := ⟨B.exec, B.bytes, hml, findClass_of_methodNamed B.named, fun w hw => hts w (List.mem_cons_of_mem _ hw), hK, B.returns, B.notSynchronized, by show G.1 ≤ s.heap.size; rw [hR.1]; omega⟩
  have hw := w (p, l, e, rmd d mc ms, s, m, (as.map (cv G)).toArray, below, meth, c) d hd rfl rfl (name_of_methodNamed B.named B.method).1 hF
  have hcat : ∀ vs : List Value, (lg_sl (vs.map (cv G))).length = (lg_sl vs).length := by
    intro vs
    induction vs with
    | nil => rfl
    | cons v t ih =>
      simp only [lg_sl, List.map_cons, List.flatMap_cons, List.length_append] at ih ⊢
      rw [ih, cv_cat]
      split <;> rfl
  have hl := lv_entry (as.map (cv G)) (n := k.2.2.1) (by rw [hcat]; exact hlen)
  rw [lg_entry_eq]
  have hargs : ∀ (vs : List Value) (n : Nat), lv_args n (vs.map (cv G)) = (lv_args n vs).map fun q => (q.1, cv G q.2) := by
    intro vs
    induction vs with
    | nil => intro n; rfl
    | cons v t ih =>
      intro n
      simp only [List.map_cons, lv_args, ih, cv_cat]
  rw [hargs] at hl
  exact hw s.heap [] _ hl hR va_S.rf
end RT
end
section
theorem KS.warm {G : Ctx} {s U : State} (hW : s.WarmedH U.vm) (h : KS G s) : KS G U := by
  obtain ⟨h1, h2, h3, h4, h5, h6⟩ := h
  refine ⟨va_K.moved hW.alike h1, fun kd a b => ⟨arrOfT_moved hW.alike (h2 kd a b).1, (h2 kd a b).2.moved hW.alike⟩, fun w hw => ?_, va_AO.moved hW.alike h4, va_AO.moved hW.alike h5, over_moved hW.alike h6⟩
  have hq := (List.mem_filter.mp hw).2
  have h0 := h3 w hw
  cases w <;> first | exact va_Nw.warmM hW h0 | (simp at hq)
theorem TB_pay {s U : State} {args a' : Array Value} (hts : ∀ w ∈ TB, w.before args s = true) (hW : s.WarmedH U.vm) {w : Cond} (hw : w ∈ TB) : w.before a' U = true := word_at hW (good_of_word (TB_good hw).2) (hts w hw)
def RmOK (R : Room) (D mL : Nat) : Prop := D + 1 ≤ R.frames ∧ 22 + mL + 50 * D ≤ R.locals
theorem rm_ok {R : Room} {d D D' mc ms mL : Nat} (h : R = rmd d mc ms) (hd : D ≤ d) (hD : D' + 1 ≤ D) (hL : mL ≤ 28) : RmOK R D' mL := by
  subst h
  exact ⟨by show D' + 1 ≤ d; omega, by show 22 + mL + 50 * D' ≤ 50 * d; omega⟩
theorem PcG_blind {G : Ctx} {as : List Value} {M : Mem} : FrameBlind (PcG G as M) := fun _ U _ _ h => ⟨h.1, h.2.1, KS.warm (s := U) (State.WarmedH.refl U) h.2.2⟩
theorem back_G {G : Ctx} {p : Program} {l : Launch} {e : Env} {R : Room} {s : State} {args : Array Value} {below : List Frame} {k : Mth} {as : List Value} {M : Mem} {D mc ms : Nat} {post : Option Value → Mem → Prop}
    (hts : ∀ w ∈ TB, w.before args s = true) (C : CT G l D k as M mc ms post) (hRm : RmOK R D k.2.2.1) (hc : Cond.code k.1 k.2.1 k.2.2.1 k.2.2.2 ∈ TB) (hi : Cond.initialized k.1.cls ∈ TB) :
    Back l R p e below s args k.1 3 11 (PreOf R mc ms (PcG G as M)) (PostOf (QcG G post) mc ms (fun q => G.1 ≤ q)) := by
  refine back_of (bytes := k.2.1) (maxL := k.2.2.1) (ret := k.2.2.2) (C D (Nat.le_refl D)) PcG_blind rfl rfl hRm.1 (by show 11 + (k.2.2.1 + 11) + 50 * D ≤ R.locals; have := hRm.2; omega) (fun w hw a' U hW => ?_) List.mem_cons_self (fun a' U hW => TB_pay hts hW hi)
  rcases List.mem_cons.mp hw with rfl | h
  · exact TB_pay hts hW hc
  · exact TB_pay hts hW h
/-- behind any call -/
theorem V.after {G : Ctx} {p : Program} {l : Launch} {e : Env} {R : Room} {s : State} {m : MethodId} {args : Array Value} {below : List Frame} {meth : Method} {c0 : Code} {nL cells slots mc ms : Nat} {Q : State → Prop} {pc : Nat} {lv : List (Nat × Value)} {rest st : List Value} {post : Option Value → Mem → Prop} {H : Heap} {locs : List Loc} {ls : Array Slot} {T : State}
    (hl : lv_has ls nL (lv.map fun q => (q.1, cv G q.2))) (hS : va_S (fun q => G.1 ≤ q) s.heap H locs) (hT : T.heap = H)
    (h : ∃ (v : Option Value) (vm₁ : Vm) (B : Pt) (as : Array Value), s.WarmedH vm₁ ∧ Stand p l e R s m args below meth c0 B.U B.locs B.cells B.slots ∧ PostOf (QcG G post) mc ms (fun q => G.1 ≤ q) ⟨T.setVm vm₁, locs, cells, slots⟩ as v B ∧
      ∀ target, Steps p.tables e below (B.U.setTop { (F0 m pc ls st) with pc := (F0 m pc ls st).pc + 3, stack := v.toList ++ rest.map (cv G) }) target → Steps p.tables e below (T.setTop (F0 m pc ls st)) target)
    (kk : ∀ (r : Option Value) (M' : Mem), post r M' → V G (p, l, e, R, s, m, args, below, meth, c0) nL (cells + mc) (slots + ms) Q (pc + 3) lv (r.toList ++ rest) M') : ∃ t, Steps p.tables e below (T.setTop (F0 m pc ls st)) t ∧ Q t := by
  obtain ⟨v, vm₁, ⟨U', l2, c2, s2⟩, as, hW₁, X', ⟨g', mk, t, L, e1, e2, ⟨r, M', hv, hp, hR', hz, hk⟩, h1, hL, h2, h3⟩, st'⟩ := h
  dsimp only [Pt.U, Pt.locs, Pt.cells, Pt.slots] at X' e1 e2 h1 h2 h3 st'
  subst h1; subst h2; subst h3
  cases hv
  have hz : T.heap.size ≤ t.heap.size := hz
  have hk : ∀ q : Nat, q < T.heap.size → ¬ G.1 ≤ q → t.heap[q]? = T.heap[q]? := hk
  rw [hT] at hz hk
  have hS1 : va_S (fun q => G.1 ≤ q) s.heap U'.heap (locs ++ L) := ⟨Nat.le_trans hS.1 (by rw [e1]; exact hz), fun q q1 q2 => by rw [e1, hk q (Nat.lt_of_lt_of_le q1 hS.1) q2]; exact hS.2.1 q q1 q2, fun q hq => by
      rcases List.mem_append.mp hq with h | h
      · exact hS.2.2 q h
      · exact hL q h⟩
  obtain ⟨t2, a1, b1⟩ := kk r M' hp U'.heap (locs ++ L) ls hl (by rw [e1]; exact hR') hS1 U' rfl X'
  refine ⟨t2, st' t2 ?_, b1⟩
  have e9 : (r.map (cv G)).toList ++ rest.map (cv G) = (r.toList ++ rest).map (cv G) := by cases r <;> rfl
  rw [e9]
  exact a1
def notMH (k : Mth) : Prop := k.1.cls ≠ "java/lang/invoke/MethodHandle" ∧ k.1.cls ≠ "java/lang/invoke/VarHandle"
def parN (k : Mth) (n : Nat) : Prop := (parseMethodDescriptor k.1.desc).map (fun d => d.parameters.length) = some n
def baseOK (k : Mth) (n : Nat) : Prop := Cond.code k.1 k.2.1 k.2.2.1 k.2.2.2 ∈ TB ∧ Cond.initialized k.1.cls ∈ TB ∧ notMH k ∧ parN k n
def lkS (own : String) (x : Nat) (k : Mth) : Prop := Cond.methodLink own x k.1 ∈ TB ∧ Cond.static k.1 ∈ TB
def lkSN (own : String) (x : Nat) (k : Mth) : Prop := (∃ host, Cond.methodLinkNest own x k.1 host ∈ nestWs) ∧ Cond.static k.1 ∈ TB
def lkV (own : String) (x : Nat) (k : Mth) : Prop := Cond.methodLink own x k.1 ∈ TB ∧ Cond.instanceMethod k.1 ∈ TB ∧ Cond.selects k.1.cls k.1 k.1 ∈ TB
def lkVN (own : String) (x : Nat) (k : Mth) : Prop := (∃ host, Cond.methodLinkNest own x k.1 host ∈ nestWs) ∧ Cond.instanceMethod k.1 ∈ TB ∧ Cond.selects k.1.cls k.1 k.1 ∈ TB
def lkI (own : String) (x : Nat) (k : Mth) : Prop := Cond.methodLink own x k.1 ∈ TB ∧ Cond.instanceMethod k.1 ∈ TB ∧ k.1.name = "<init>" ∧ k.2.2.2 = none
def lkIN (own : String) (x : Nat) (k : Mth) : Prop := (∃ host, Cond.methodLinkNest own x k.1 host ∈ nestWs) ∧ Cond.instanceMethod k.1 ∈ TB ∧ k.1.name = "<init>" ∧ k.2.2.2 = none
theorem par_of {k : Mth} {n : Nat} (h : parN k n) : ∀ sig, parseMethodDescriptor k.1.desc = some sig → n = sig.parameters.length := fun sig q => by
  unfold parN at h
  rw [q] at h
  exact (Option.some.inj h).symm
section CL
variable {G : Ctx} {X : Xt} {own : String} {cc : ByteArray} {nL : Nat} {ret : Option FieldType} {cells slots mc ms : Nat} {Q : State → Prop} {pc x D : Nat} {lv : List (Nat × Value)} {as rest : List Value} {M : Mem} {post : Option Value → Mem → Prop} {k : Mth}
theorem V.callS (F : Fx G X own cc nL ret) (hd : decode cc pc = .ok (.invokestatic x, 3)) (hk : lkS own x k) (hB : baseOK k as.length) (C : CT G X.2.1 D k as M mc ms post) (hRm : RmOK X.2.2.2.1 D k.2.2.1) (hcs : cells + mc ≤ X.2.2.2.1.cells ∧ slots + ms ≤ X.2.2.2.1.slots) (hw : (rest.map fun v => v.category).sum ≤ 11)
    (kk : ∀ (r : Option Value) (M' : Mem), post r M' → V G X nL (cells + mc) (slots + ms) Q (pc + 3) lv (r.toList ++ rest) M') : V G X nL cells slots Q pc lv (as.reverse ++ rest) M := by
  obtain ⟨p, l, e, R, s, m, args, below, meth, c0⟩ := X
  obtain ⟨hx, hb, hml, hown, hts, hK, hr, hlocks, hZ⟩ := F
  obtain ⟨hc, hi, hmh, hpar⟩ := hB
  intro H locs ls hl hR hS T hT XX
  have hBk := back_G (p := p) (e := e) (below := below) hts C hRm hc hi
  obtain ⟨hlk, hk2⟩ := hk
  have hlk0 := hts _ hlk
  obtain ⟨v, vm₁, B, g1, g2, g3, g4⟩ := callS XX hx (bytes := k.2.1) (maxL := k.2.2.1) (ret := k.2.2.2) hown hlk0 (hts _ hk2) (hts _ hi) (hts _ hc) hmh hBk (g := F0 m pc ls ((as.reverse ++ rest).map (cv G))) rfl (hl.1.trans hml.symm) (argsL := as.map (cv G)) (rest := rest.map (cv G)) (fun sig h => by rw [List.length_map]; exact par_of hpar sig h) (by show List.map (cv G) _ = _; rw [List.map_append, List.map_reverse]) (by show 2 * 0 + _ ≤ 11; rw [List.map_map]; simp only [Function.comp_def, cv_cat]; omega) (by rw [hb]; exact hd) (fun vm₁ hW₁ => ⟨hcs.1, hcs.2, rfl, by show Rep G M T.heap; rw [hT]; exact hR, KS.warm (U := T.setVm vm₁) hW₁ hK⟩)
  exact V.after hl hS hT ⟨v, vm₁, B, _, g1, g2, g3, g4⟩ kk
theorem V.callSN (F : Fx G X own cc nL ret) (hd : decode cc pc = .ok (.invokestatic x, 3)) (hk : lkSN own x k) (hB : baseOK k as.length) (C : CT G X.2.1 D k as M mc ms post) (hRm : RmOK X.2.2.2.1 D k.2.2.1) (hcs : cells + mc ≤ X.2.2.2.1.cells ∧ slots + ms ≤ X.2.2.2.1.slots) (hw : (rest.map fun v => v.category).sum ≤ 11)
    (kk : ∀ (r : Option Value) (M' : Mem), post r M' → V G X nL (cells + mc) (slots + ms) Q (pc + 3) lv (r.toList ++ rest) M') : V G X nL cells slots Q pc lv (as.reverse ++ rest) M := by
  obtain ⟨p, l, e, R, s, m, args, below, meth, c0⟩ := X
  obtain ⟨hx, hb, hml, hown, hts, hK, hr, hlocks, hZ⟩ := F
  obtain ⟨hc, hi, hmh, hpar⟩ := hB
  intro H locs ls hl hR hS T hT XX
  have hBk := back_G (p := p) (e := e) (below := below) hts C hRm hc hi
  obtain ⟨⟨host, hlk⟩, hk2⟩ := hk
  have hlk0 := va_Nw.use (A := args) rfl (hK.2.2.1 _ hlk)
  obtain ⟨v, vm₁, B, g1, g2, g3, g4⟩ := va_callSN XX hx (bytes := k.2.1) (maxL := k.2.2.1) (ret := k.2.2.2) hown hlk0 (hts _ hk2) (hts _ hi) (hts _ hc) hmh hBk (g := F0 m pc ls ((as.reverse ++ rest).map (cv G))) rfl (hl.1.trans hml.symm) (argsL := as.map (cv G)) (rest := rest.map (cv G)) (fun sig h => by rw [List.length_map]; exact par_of hpar sig h) (by show List.map (cv G) _ = _; rw [List.map_append, List.map_reverse]) (by show 2 * 0 + _ ≤ 11; rw [List.map_map]; simp only [Function.comp_def, cv_cat]; omega) (by rw [hb]; exact hd) (fun vm₁ hW₁ => ⟨hcs.1, hcs.2, rfl, by show Rep G M T.heap; rw [hT]; exact hR, KS.warm (U := T.setVm vm₁) hW₁ hK⟩)
  exact V.after hl hS hT ⟨v, vm₁, B, _, g1, g2, g3, g4⟩ kk
theorem V.callV {b : Nat} (F : Fx G X own cc nL ret) (hd : decode cc pc = .ok (.invokevirtual x, 3)) (hk : lkV own x k) (hB : baseOK k as.length) (hrecv : ∃ c r, isO M b c ∧ vwCl[c]? = some r ∧ r.1 = k.1.cls) (C : CT G X.2.1 D k (.ref b :: as) M mc ms post) (hRm : RmOK X.2.2.2.1 D k.2.2.1) (hcs : cells + mc ≤ X.2.2.2.1.cells ∧ slots + ms ≤ X.2.2.2.1.slots) (hw : (rest.map fun v => v.category).sum ≤ 11)
    (kk : ∀ (r : Option Value) (M' : Mem), post r M' → V G X nL (cells + mc) (slots + ms) Q (pc + 3) lv (r.toList ++ rest) M') : V G X nL cells slots Q pc lv (as.reverse ++ .ref b :: rest) M := by
  obtain ⟨p, l, e, R, s, m, args, below, meth, c0⟩ := X
  obtain ⟨hx, hb, hml, hown, hts, hK, hr, hlocks, hZ⟩ := F
  obtain ⟨hc, hi, hmh, hpar⟩ := hB
  intro H locs ls hl hR hS T hT XX
  have hBk := back_G (p := p) (e := e) (below := below) hts C hRm hc hi
  obtain ⟨hlk, hk2⟩ := hk
  have hlk0 := hts _ hlk
  obtain ⟨hin, hsel⟩ := hk2
  obtain ⟨cN, rC, ho, hv, hcn⟩ := hrecv
  obtain ⟨cell, q1, q2, q3, -⟩ := (hR.2 b ho.2.1 ho.2.2).1 cN _ ho.1 hv
  have hfc := (hK.1.1 cN _ hv).2.1
  obtain ⟨v, vm₁, B, g1, g2, g3, g4⟩ := callV XX hx (C := k.1.cls) (bytes := k.2.1) (maxL := k.2.2.1) (ret := k.2.2.2) hown hlk0 (hts _ hin) (hts _ hsel) (hts _ hc) hmh hBk (b := ad G b) (cellB := cell) (by rw [hT]; exact q1) (by rw [q3]; rfl) (by rw [q2, ← hcn]; exact hfc) (g := F0 m pc ls ((as.reverse ++ .ref b :: rest).map (cv G))) rfl (hl.1.trans hml.symm) (argsL := as.map (cv G)) (rest := rest.map (cv G)) (fun sig h => by rw [List.length_map]; exact par_of hpar sig h) (by show List.map (cv G) _ = _; rw [List.map_append, List.map_reverse]; rfl) (by show 2 * 0 + _ ≤ 11; rw [List.map_map]; simp only [Function.comp_def, cv_cat]; omega) (by rw [hb]; exact hd) (fun vm₁ hW₁ => ⟨hcs.1, hcs.2, rfl, by show Rep G M T.heap; rw [hT]; exact hR, KS.warm (U := T.setVm vm₁) hW₁ hK⟩)
  exact V.after hl hS hT ⟨v, vm₁, B, _, g1, g2, g3, g4⟩ kk
theorem V.callVN {b : Nat} (F : Fx G X own cc nL ret) (hd : decode cc pc = .ok (.invokevirtual x, 3)) (hk : lkVN own x k) (hB : baseOK k as.length) (hrecv : ∃ c r, isO M b c ∧ vwCl[c]? = some r ∧ r.1 = k.1.cls) (C : CT G X.2.1 D k (.ref b :: as) M mc ms post) (hRm : RmOK X.2.2.2.1 D k.2.2.1) (hcs : cells + mc ≤ X.2.2.2.1.cells ∧ slots + ms ≤ X.2.2.2.1.slots) (hw : (rest.map fun v => v.category).sum ≤ 11)
    (kk : ∀ (r : Option Value) (M' : Mem), post r M' → V G X nL (cells + mc) (slots + ms) Q (pc + 3) lv (r.toList ++ rest) M') : V G X nL cells slots Q pc lv (as.reverse ++ .ref b :: rest) M := by
  obtain ⟨p, l, e, R, s, m, args, below, meth, c0⟩ := X
  obtain ⟨hx, hb, hml, hown, hts, hK, hr, hlocks, hZ⟩ := F
  obtain ⟨hc, hi, hmh, hpar⟩ := hB
  intro H locs ls hl hR hS T hT XX
  have hBk := back_G (p := p) (e := e) (below := below) hts C hRm hc hi
  obtain ⟨⟨host, hlk⟩, hk2⟩ := hk
  have hlk0 := va_Nw.use (A := args) rfl (hK.2.2.1 _ hlk)
  obtain ⟨hin, hsel⟩ := hk2
  obtain ⟨cN, rC, ho, hv, hcn⟩ := hrecv
  obtain ⟨cell, q1, q2, q3, -⟩ := (hR.2 b ho.2.1 ho.2.2).1 cN _ ho.1 hv
  have hfc := (hK.1.1 cN _ hv).2.1
  obtain ⟨v, vm₁, B, g1, g2, g3, g4⟩ := va_callVN XX hx (C := k.1.cls) (bytes := k.2.1) (maxL := k.2.2.1) (ret := k.2.2.2) hown hlk0 (hts _ hin) (hts _ hsel) (hts _ hc) hmh hBk (b := ad G b) (cellB := cell) (by rw [hT]; exact q1) (by rw [q3]; rfl) (by rw [q2, ← hcn]; exact hfc) (g := F0 m pc ls ((as.reverse ++ .ref b :: rest).map (cv G))) rfl (hl.1.trans hml.symm) (argsL := as.map (cv G)) (rest := rest.map (cv G)) (fun sig h => by rw [List.length_map]; exact par_of hpar sig h) (by show List.map (cv G) _ = _; rw [List.map_append, List.map_reverse]; rfl) (by show 2 * 0 + _ ≤ 11; rw [List.map_map]; simp only [Function.comp_def, cv_cat]; omega) (by rw [hb]; exact hd) (fun vm₁ hW₁ => ⟨hcs.1, hcs.2, rfl, by show Rep G M T.heap; rw [hT]; exact hR, KS.warm (U := T.setVm vm₁) hW₁ hK⟩)
  exact V.after hl hS hT ⟨v, vm₁, B, _, g1, g2, g3, g4⟩ kk
theorem V.callI {b : Nat} (F : Fx G X own cc nL ret) (hd : decode cc pc = .ok (.invokespecial x, 3)) (hk : lkI own x k) (hB : baseOK k as.length) (C : CT G X.2.1 D k (.ref b :: as) M mc ms post) (hRm : RmOK X.2.2.2.1 D k.2.2.1) (hcs : cells + mc ≤ X.2.2.2.1.cells ∧ slots + ms ≤ X.2.2.2.1.slots) (hw : (rest.map fun v => v.category).sum ≤ 11)
    (kk : ∀ (r : Option Value) (M' : Mem), post r M' → V G X nL (cells + mc) (slots + ms) Q (pc + 3) lv (r.toList ++ rest) M') : V G X nL cells slots Q pc lv (as.reverse ++ .ref b :: rest) M := by
  obtain ⟨p, l, e, R, s, m, args, below, meth, c0⟩ := X
  obtain ⟨hx, hb, hml, hown, hts, hK, hr, hlocks, hZ⟩ := F
  obtain ⟨hc, hi, hmh, hpar⟩ := hB
  intro H locs ls hl hR hS T hT XX
  have hBk := back_G (p := p) (e := e) (below := below) hts C hRm hc hi
  obtain ⟨hlk, hk2⟩ := hk
  have hlk0 := hts _ hlk
  obtain ⟨hin, hnm, hrt⟩ := hk2
  have hc0 := hts _ hc
  rw [hrt] at hc0
  obtain ⟨v, vm₁, B, g1, g2, g3, g4⟩ := callI XX hx (bytes := k.2.1) (maxL := k.2.2.1) hown hnm hlk0 (hts _ hin) hc0 hmh hBk (g := F0 m pc ls ((as.reverse ++ .ref b :: rest).map (cv G))) rfl (hl.1.trans hml.symm) (a := ad G b) (argsL := as.map (cv G)) (rest := rest.map (cv G)) (fun sig h => by rw [List.length_map]; exact par_of hpar sig h) (by show List.map (cv G) _ = _; rw [List.map_append, List.map_reverse]; rfl) (by show 2 * 0 + _ ≤ 11; rw [List.map_map]; simp only [Function.comp_def, cv_cat]; omega) (by rw [hb]; exact hd) (fun vm₁ hW₁ => ⟨hcs.1, hcs.2, rfl, by show Rep G M T.heap; rw [hT]; exact hR, KS.warm (U := T.setVm vm₁) hW₁ hK⟩)
  exact V.after hl hS hT ⟨v, vm₁, B, _, g1, g2, g3, g4⟩ kk
theorem V.callIN {b : Nat} (F : Fx G X own cc nL ret) (hd : decode cc pc = .ok (.invokespecial x, 3)) (hk : lkIN own x k) (hB : baseOK k as.length) (C : CT G X.2.1 D k (.ref b :: as) M mc ms post) (hRm : RmOK X.2.2.2.1 D k.2.2.1) (hcs : cells + mc ≤ X.2.2.2.1.cells ∧ slots + ms ≤ X.2.2.2.1.slots) (hw : (rest.map fun v => v.category).sum ≤ 11)
    (kk : ∀ (r : Option Value) (M' : Mem), post r M' → V G X nL (cells + mc) (slots + ms) Q (pc + 3) lv (r.toList ++ rest) M') : V G X nL cells slots Q pc lv (as.reverse ++ .ref b :: rest) M := by
  obtain ⟨p, l, e, R, s, m, args, below, meth, c0⟩ := X
  obtain ⟨hx, hb, hml, hown, hts, hK, hr, hlocks, hZ⟩ := F
  obtain ⟨hc, hi, hmh, hpar⟩ := hB
  intro H locs ls hl hR hS T hT XX
  have hBk := back_G (p := p) (e := e) (below := below) hts C hRm hc hi
  obtain ⟨⟨host, hlk⟩, hk2⟩ := hk
  have hlk0 := va_Nw.use (A := args) rfl (hK.2.2.1 _ hlk)
  obtain ⟨hin, hnm, hrt⟩ := hk2
  have hc0 := hts _ hc
  rw [hrt] at hc0
  obtain ⟨v, vm₁, B, g1, g2, g3, g4⟩ := va_callIN XX hx (bytes := k.2.1) (maxL := k.2.2.1) hown hnm hlk0 (hts _ hin) hc0 hmh hBk (g := F0 m pc ls ((as.reverse ++ .ref b :: rest).map (cv G))) rfl (hl.1.trans hml.symm) (a := ad G b) (argsL := as.map (cv G)) (rest := rest.map (cv G)) (fun sig h => by rw [List.length_map]; exact par_of hpar sig h) (by show List.map (cv G) _ = _; rw [List.map_append, List.map_reverse]; rfl) (by show 2 * 0 + _ ≤ 11; rw [List.map_map]; simp only [Function.comp_def, cv_cat]; omega) (by rw [hb]; exact hd) (fun vm₁ hW₁ => ⟨hcs.1, hcs.2, rfl, by show Rep G M T.heap; rw [hT]; exact hR, KS.warm (U := T.setVm vm₁) hW₁ hK⟩)
  exact V.after hl hS hT ⟨v, vm₁, B, _, g1, g2, g3, g4⟩ kk
end CL
end
section
/-! what is made: objects, arrays; references that are set -/
theorem mN_ne {M : Mem} {b j : Nat} (h : b ≠ mK M + 1) : mB (mN M) b j = mB M b j ∧ mI (mN M) b j = mI M b j ∧ mL (mN M) b j = mL M b j := by
  have h' : b ≠ M.1 + 1 := h
  simp [mB, mI, mL, mN, h']
theorem mN_new {M : Mem} {j : Nat} : mB (mN M) (mK M + 1) j = false ∧ mI (mN M) (mK M + 1) j = 0 ∧ mL (mN M) (mK M + 1) j = 0 := by
  simp [mB, mI, mL, mN, mK]
/-- one cell more -/
theorem Rep.more {G : Ctx} {M : Mem} {H H' : Heap} (h : Rep G M H) (hz : H'.size = H.size + 1) (ho : ∀ q, q < H.size → H'[q]? = H[q]?) (hc : cAt G (mN M) H' (mK M + 1)) : Rep G (mN M) H' := by
  refine ⟨by rw [hz, h.1]; rfl, fun b hb hbk => ?_⟩
  have hbk : b ≤ mK M + 1 := hbk
  by_cases e : b = mK M + 1
  · rw [e]; exact hc
  · obtain ⟨h1, h2⟩ := h.2 b hb (by omega)
    have hq : H'[ad G b]? = H[ad G b]? := ho _ (by rw [ad_pos hb, h.1]; omega)
    refine ⟨fun c r hs hv => ?_, fun hs => ?_⟩
    · refine ((h1 c r hs hv).kept hq).to (fun j _ => ?_)
      obtain ⟨r1, r2, r3⟩ := mN_ne (M := M) (j := j) e
      simp only [fvl, r1, r2, r3]
    · rw [hq, h2 hs]
      congr 2
      funext j
      obtain ⟨r1, r2, r3⟩ := mN_ne (M := M) (j := j) e
      simp only [avl, r1, r2, r3]
theorem fvl_new {G : Ctx} {M : Mem} {c k : Nat} {r : vw_C} (hv : vwCl[c]? = some r) (hk : k < r.2.2) : defaultValue (tyc c k) = cv G (fvl (mN M) c (mK M + 1) k) := by
  have ht := tag_of hv hk
  obtain ⟨r1, r2, r3⟩ := mN_new (M := M) (j := k)
  unfold fvl
  rw [r1, r2, r3]
  generalize tyc c k = ty at ht ⊢
  generalize hq : (ft c k).1 = t at ht ⊢
  match t, ht with
  | 0, ht => rw [tag0 ht]; rfl
  | 1, ht => rw [tag1 ht]; rfl
  | 2, ht => cases ty <;> first | rfl | (simp [tagOK] at ht)
  | 3, ht => rw [tag3 ht]; rfl
  | t + 4, ht => cases ty <;> simp [tagOK] at ht
section AL
variable {G : Ctx} {X : Xt} {own : String} {cc : ByteArray} {nL : Nat} {ret : Option FieldType} {cells slots : Nat} {Q : State → Prop} {pc x : Nat} {lv : List (Nat × Value)} {st : List Value} {M : Mem}
theorem V.new (F : Fx G X own cc nL ret) {c : Nat} {r : vw_C} (hd : decode cc pc = .ok (.new x, 3)) (hv : vwCl[c]? = some r) (hs : (SH (mK M + 1)).1 = c + 1) (hl1 : Cond.classLink own x r.1 ∈ TB) (hl2 : Cond.instantiable r.1 r.2.2 ∈ TB) (hl3 : Cond.initialized r.1 ∈ TB) (hc1 : cells + 1 ≤ X.2.2.2.1.cells) (hc2 : slots + r.2.2 ≤ X.2.2.2.1.slots)
    (k : V G X nL (cells + 1) (slots + r.2.2) Q (pc + 3) lv (.ref (mK M + 1) :: st) (mN M)) : V G X nL cells slots Q pc lv st M := by
  intro H locs ls hl hR hS
  obtain ⟨p, l, e, R, s, m, args, below, meth, c0⟩ := X
  obtain ⟨hx, hb, hml, hown, hts, hK, hr, hlocks, hZ⟩ := F
  obtain ⟨h1, h2, h3⟩ := clOK hv
  have hKn := hK.1.1 c _ hv
  refine W.newcK hx hb hown (hts _ hl1) (hts _ hl2) (hts _ hl3) rfl hd hc1 hc2 hKn.2.1 rfl fun H1 kC hkC e1 z1 o1 => ?_
  have had : ad G (mK M + 1) = H.size := by rw [hR.1]; rfl
  have hc : cAt G (mN M) H1 (mK M + 1) := by
    refine ⟨fun c' r' hs' hv' => ?_, fun h20 => ?_⟩
    · have ec : c' = c := by omega
      subst ec
      cases hv.symm.trans hv'
      rw [had]
      exact t_OB.to (u_born (tyc c') hts h1 hKn hkC e1 h2) (fun j hj => fvl_new hv hj)
    · have h8 : c < 8 := (List.getElem?_eq_some_iff.mp hv).1
      omega
  have hw := k H1 locs ls hl (hR.more z1 (fun q h => o1 q h) hc) ⟨Nat.le_trans hS.1 (by omega), fun q h1 h2 => (o1 q (Nat.lt_of_lt_of_le h1 hS.1)).trans (hS.2.1 q h1 h2), hS.2.2⟩
  rw [← had]
  exact hw
theorem avl_new {M : Mem} {kd j : Nat} : avl (mN M) kd (mK M + 1) j = if kd < 22 then .int 0 else if kd = 22 then .long 0 else .null := by
  obtain ⟨r1, r2, r3⟩ := mN_new (M := M) (j := j)
  unfold avl
  rw [r1, r2, r3]
  rfl
theorem cAt_arr {H1 : Heap} {kd n : Nat} {dv : Value} (h20 : 20 ≤ kd) (hs : SH (mK M + 1) = (kd, n)) (e1 : H1[ad G (mK M + 1)]? = some (arrV (G.2.2.2 kd) n (fun _ => dv))) (hdv : cv G (if kd < 22 then .int 0 else if kd = 22 then .long 0 else .null) = dv) : cAt G (mN M) H1 (mK M + 1) := by
  refine ⟨fun c' r' hs' hv' => ?_, fun _ => ?_⟩
  · have h8 : c' < 8 := (List.getElem?_eq_some_iff.mp hv').1
    rw [hs] at hs'
    simp at hs'
    omega
  · rw [e1, hs]
    congr 2
    funext j
    rw [avl_new, hdv]
theorem V.newarr (F : Fx G X own cc nL ret) {kd n : Nat} {at_ : ArrayType} {i : Int32} (hd : decode cc pc = .ok (.newarray at_, 2)) (hs : SH (mK M + 1) = (kd, n)) (hk : (kd = 20 ∧ at_ = .int) ∨ (kd = 21 ∧ at_ = .boolean) ∨ (kd = 22 ∧ at_ = .long)) (hi : ¬ i < 0) (hn : i.toNatClampNeg = n) (hn2 : n ≤ 60000) (hc1 : cells + 1 ≤ X.2.2.2.1.cells) (hc2 : slots + n ≤ X.2.2.2.1.slots) (ha : Cond.arrayClass (newarray.typeOf at_) ∈ TB)
    (k : V G X nL (cells + 1) (slots + n) Q (pc + 2) lv (.ref (mK M + 1) :: st) (mN M)) : V G X nL cells slots Q pc lv (.int i :: st) M := by
  intro H locs ls hl hR hS
  obtain ⟨p, l, e, R, s, m, args, below, meth, c0⟩ := X
  obtain ⟨hx, hb, hml, hown, hts, hK, hr, hlocks, hZ⟩ := F
  have hby : n * componentBytes (newarray.typeOf at_) ≤ 536870912 := by
    have : componentBytes (newarray.typeOf at_) ≤ 8 := by cases at_ <;> decide
    exact Nat.le_trans (Nat.mul_le_mul hn2 this) (by decide)
  refine va_newaK hx hb (hts _ ha) rfl hd rfl hi hn hby hc1 hc2 rfl fun H1 cA e1 z1 o1 hAr hNm => ?_
  have had : ad G (mK M + 1) = H.size := by rw [hR.1]; rfl
  have hkd : 20 ≤ kd ∧ kd ≤ 28 := by rcases hk with ⟨h, -⟩ | ⟨h, -⟩ | ⟨h, -⟩ <;> omega
  have hcA : cA = G.2.2.2 kd := by
    have h9 := (hK.2.1 kd hkd.1 hkd.2).2
    rcases hk with ⟨rfl, rfl⟩ | ⟨rfl, rfl⟩ | ⟨rfl, rfl⟩ <;> exact Option.some.inj (hNm.symm.trans h9)
  have hc : cAt G (mN M) H1 (mK M + 1) := by
    refine cAt_arr hkd.1 hs (dv := defaultValue (newarray.typeOf at_)) (by rw [had, e1, hcA]) ?_
    rcases hk with ⟨rfl, rfl⟩ | ⟨rfl, rfl⟩ | ⟨rfl, rfl⟩ <;> rfl
  have hw := k H1 locs ls hl (hR.more z1 (fun q h => o1 q h) hc) ⟨Nat.le_trans hS.1 (by omega), fun q h1 h2 => (o1 q (Nat.lt_of_lt_of_le h1 hS.1)).trans (hS.2.1 q h1 h2), hS.2.2⟩
  rw [← had]
  exact hw
theorem V.anew (F : Fx G X own cc nL ret) {kd n : Nat} {C : String} {i : Int32} (hd : decode cc pc = .ok (.anewarray x, 3)) (hs : SH (mK M + 1) = (kd, n)) (hk : (23 ≤ kd ∧ kd ≤ 26 ∧ C = RX1) ∨ (kd = 27 ∧ C = RX3)) (hi : ¬ i < 0) (hn : i.toNatClampNeg = n) (hn2 : n ≤ 60000) (hc1 : cells + 1 ≤ X.2.2.2.1.cells) (hc2 : slots + n ≤ X.2.2.2.1.slots) (ha : Cond.classLink own x C ∈ TB)
    (k : V G X nL (cells + 1) (slots + n) Q (pc + 3) lv (.ref (mK M + 1) :: st) (mN M)) : V G X nL cells slots Q pc lv (.int i :: st) M := by
  subst hn
  intro H locs ls hl hR hS
  obtain ⟨p, l, e, R, s, m, args, below, meth, c0⟩ := X
  obtain ⟨hx, hb, hml, hown, hts, hK, hr, hlocks, hZ⟩ := F
  have hover : (Cond.arrayOver (.object C)).before args s = true := by
    rcases hk with ⟨-, -, rfl⟩ | ⟨-, rfl⟩
    · exact va_AO.use hK.2.2.2.1
    · exact va_AO.use hK.2.2.2.2.1
  have hkd : 23 ≤ kd ∧ kd ≤ 28 ∧ aty kd = .object C := by
    rcases hk with ⟨h1, h2, rfl⟩ | ⟨rfl, rfl⟩
    · refine ⟨h1, by omega, ?_⟩
      rcases (show kd = 23 ∨ kd = 24 ∨ kd = 25 ∨ kd = 26 by omega) with rfl | rfl | rfl | rfl <;> rfl
    · exact ⟨by decide, by decide, rfl⟩
  refine W.anew hx hb hown (hts _ ha) hover rfl hd rfl hi (by omega) hc1 hc2 fun cA kA comp f1 f2 f3 f4 => ?_
  generalize hH1 : H.push ({ cls := cA, slots := Array.replicate i.toNatClampNeg .null, vm := .none } : Cell) = H1
  have z1 : H1.size = H.size + 1 := by rw [← hH1, Array.size_push]
  have e1 : H1[H.size]? = some (arrV cA i.toNatClampNeg (fun _ => .null)) := by rw [← hH1, Array.getElem?_push_size, ← arrV_new]
  have o1 : ∀ q, q < H.size → H1[q]? = H[q]? := fun q hq => by rw [← hH1, Array.getElem?_push_lt hq, Array.getElem?_eq_getElem hq]
  have had : ad G (mK M + 1) = H.size := by rw [hR.1]; rfl
  have hcA : cA = G.2.2.2 kd := by
    have h9 := (hK.2.1 kd (by omega) (by omega)).2
    rw [hkd.2.2] at h9
    obtain ⟨-, -, -, -, -, h9⟩ := h9
    exact Option.some.inj (f1.symm.trans h9)
  have hc : cAt G (mN M) H1 (mK M + 1) := cAt_arr (by omega) hs (dv := .null) (by rw [had, e1, hcA]) (by rw [if_neg (by omega), if_neg (by omega)]; rfl)
  have hw := k H1 locs ls hl (hR.more z1 o1 hc) ⟨Nat.le_trans hS.1 (by omega), fun q h1 h2 => (o1 q (Nat.lt_of_lt_of_le h1 hS.1)).trans (hS.2.1 q h1 h2), hS.2.2⟩
  rw [← had]
  exact hw
/-- a final reference field, in a constructor -/
theorem V.putR (F : Fx G X own cc nL ret) {a c j : Nat} {r : vw_C} (hin : X.2.2.2.2.2.2.2.2.1.name = "<init>") (hd : decode cc pc = .ok (.putfield x, 3)) (hv : vwCl[c]? = some r) (hj : j < r.2.2) (ho : isO M a c) (ht : (ft c j).1 = 2) (hl1 : Cond.fieldLink own x (r.2.1 j).1 (r.2.1 j).2.1 (r.2.1 j).2.2.1 ∈ TB) (hfin : (r.2.1 j).2.2.2 = true) (hdecl : (r.2.1 j).1 = own)
    (k : V G X nL cells slots Q (pc + 3) lv st (uB M a j)) : V G X nL cells slots Q pc lv (.ref (a + (ft c j).2) :: .ref a :: st) M := by
  intro H locs ls hl hR hS
  obtain ⟨p, l, e, R, s, m, args, below, meth, c0⟩ := X
  obtain ⟨hx, hb, hml, hown, hts, hK, hr, hlocks, hZ⟩ := F
  have hap := va_ap hts hK hv
  obtain ⟨cell, q1, q2, q3, q4⟩ := (hR.2 a ho.2.1 ho.2.2).1 c _ ho.1 hv
  obtain ⟨h1, h2, h3⟩ := clOK hv
  obtain ⟨hS9, hfc, kC, hkC, hkind⟩ := hK.1.1 c _ hv
  obtain ⟨cf, kf, fi, f, hi, hsl⟩ := hS9 j hj
  have hlay := hts _ (h1 _ (u_in_lay hj))
  unfold u_lay at hlay
  rw [if_pos hfin] at hlay
  have hst := (u_facts hfc hkC (u_lays hts h1 hj) hi).1
  have hcf : m.cls = cf := by
    obtain ⟨_, _, c', _, _, _, -, -, hf', -, -, -, hown2, -⟩ := Cond.laysFinal_spec hlay
    have e1 : c' = cf := by have := hi.symm.trans hf'; simp at this; exact this.1.symm
    rw [hdecl] at hown2
    rw [← e1]; exact Option.some.inj (hown.symm.trans hown2)
  have htag := tag_of hv hj
  rw [ht] at htag
  have hty : ∀ q, narrow (tyc c j) (.ref q) = .ref q ∧ fits (tyc c j) (.ref q) = true := by
    generalize tyc c j = ty at htag
    intro q
    cases ty <;> first | exact ⟨rfl, rfl⟩ | (simp [tagOK] at htag)
  have h6 := u_fits hfc hkC hkind (Or.inr hlay) hi (h2 j hj) (hty (ad G (a + (ft c j).2))).1 (hty _).2
  refine W.putFinK hx hb hown (hts _ hl1) hi hst hcf hin (by rw [q2]; exact h6) q1 q3 (by rw [hsl]; exact k2_hasslot (q4 j hj)) rfl rfl hd fun H' e1 e2 e3 => ?_
  rw [hsl] at e1 ⊢
  have hc : cAt G (uB M a j) H' a := cAt.put ho.1 hv hap hj q2 q3 q4 (by rw [fvl_2 ht mB_uB]; exact e1) (fun i hi => fvl_ne (uB_M.2 a i (Or.inr hi)))
  exact k H' _ ls hl (hR.upd ho.2.1 e2 e3 uB_M.1 (fun b hb i => uB_M.2 b i (Or.inl hb)) hc) (hS.put e2 e3 (A_ad ho.2.1))
/-- a place of an array of references is set -/
theorem V.aast (F : Fx G X own cc nL ret) {a kd c : Nat} {r : vw_C} {i : Int32} (hd : decode cc pc = .ok (.aastore, 1)) (h : isA M a kd i) (hk : 23 ≤ kd ∧ kd ≤ 27) (hv : vwCl[c]? = some r) (hty : aty kd = .object r.1) (ho : isO M (el kd a i.toNatClampNeg) c)
    (k : V G X nL cells slots Q (pc + 1) lv st (uB M a i.toNatClampNeg)) : V G X nL cells slots Q pc lv (.ref (el kd a i.toNatClampNeg) :: .int i :: .ref a :: st) M := by
  intro H locs ls hl hR hS
  obtain ⟨p, l, e, R, s, m, args, below, meth, c0⟩ := X
  obtain ⟨hx, hb, hml, hown, hts, hK, hr, hlocks, hZ⟩ := F
  have hlt := vin_lt h.2.2.2
  have h0 : ¬ i < 0 := fun q => h.2.2.2 (Or.inl q)
  obtain ⟨cellV, g1, g2, g3, -⟩ := (hR.2 _ ho.2.1 ho.2.2).1 c _ ho.1 hv
  have hcls := (hK.1.1 c _ hv).2
  have hRA := (hK.2.1 kd (by omega) (by omega)).2
  rw [hty] at hRA
  obtain ⟨kA, comp, k1, k2, k3, -⟩ := hRA
  have hcomp : comp = G.2.2.1.1 c := Option.some.inj (k3.symm.trans hcls.1)
  subst hcomp
  obtain ⟨hf1, kC, hkC, hkind⟩ := id hcls
  refine W.aast (v := ad G (el kd a i.toNatClampNeg)) (t := .object r.1) hx hb (arr_at hR h (by omega)) (fun q => by intro z; cases z) (fun z => by cases z) k1 k2 rfl hkC ⟨h0, by show _ < (arrV _ _ _).slots.size; rw [arrV_size]; exact hlt⟩ g1 (fun q => by rw [g3]; intro z; cases z) (by rw [g2]; exact hkC) (by rw [g2]; exact va_assign hcls) rfl rfl hd (fun H' e1 e2 e3 => ?_)
  exact k H' _ ls hl (rep_ast (M' := uB M _ _) hR h.1 h.2.1 (by omega) e1 e2 e3 ⟨uB_M.1, uB_M.2, by simp only [avl]; rw [if_neg (by omega), if_neg (by omega), if_pos mB_uB]; rfl⟩) (hS.put e2 e3 (A_ad h.2.1))
theorem oi_code : Cond.code Lib.objectInit ⟨#[0xb1]⟩ 1 none ∈ TB := by decide +kernel
theorem oi_inst : Cond.instanceMethod Lib.objectInit ∈ TB := by decide +kernel
theorem V.objInit (F : Fx G X own cc nL ret) {a : Nat} (hd : decode cc pc = .ok (.invokespecial x, 3)) (hlk : Cond.methodLink own x Lib.objectInit ∈ TB) (hRm : RmOK X.2.2.2.1 0 0) (hw : (st.map fun v => v.category).sum ≤ 8) (k : V G X nL cells slots Q (pc + 3) lv st M) : V G X nL cells slots Q pc lv (.ref a :: st) M := by
  intro H locs ls hl hR hS
  obtain ⟨p, l, e, R, s, m, args, below, meth, c0⟩ := X
  obtain ⟨hx, hb, hml, hown, hts, hK, hr, hlocks, hZ⟩ := F
  refine W.objInit hx hb hown (hts _ hlk) (hts _ oi_inst) (hts _ oi_code) rfl (hl.1.trans hml.symm) rfl hd (by have := hRm.1; omega) ?_ (k H locs ls hl hR hS)
  show 2 * 0 + _ + 12 ≤ R.locals
  rw [List.map_map]
  simp only [Function.comp_def, cv_cat]
  have h9 : 22 + 0 + 50 * 0 ≤ R.locals := hRm.2
  omega
end AL
end
section
theorem i_vc : Claimed_1_1 ∧ Claimed_1_2 := sorry
end

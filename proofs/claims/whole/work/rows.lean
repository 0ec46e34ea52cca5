section
-- ===== PART A: goes FIRST, ahead of the names: the tables' words, and 'selects' of the private methods out of them =====
/-- a private method of a class that the tables say can be made, by its rows of tables_1 -/
def lw_okq (q : MethodName × Nat) : Prop := (q.1.cls ≠ "java/lang/invoke/MethodHandle" ∧ q.1.cls ≠ "java/lang/invoke/VarHandle") ∧ Cond.instantiable q.1.cls q.2 ∈ tables_1 ∧ Cond.privateMethod q.1 ∈ tables_1 ∧ Cond.instanceMethod q.1 ∈ tables_1
theorem lw_p0 : lw_okq (⟨"BitCongruences", "factAt", "(I)LBitCongruences$Fact;"⟩, 10) := ⟨⟨by decide +kernel, by decide +kernel⟩, List.mem_of_getElem? (i := 12) (by decide +kernel), List.mem_of_getElem? (i := 205) (by decide +kernel), List.mem_of_getElem? (i := 206) (by decide +kernel)⟩
theorem lw_p1 : lw_okq (⟨"BitCongruences$Fact", "fitBits", "()Z"⟩, 7) := ⟨⟨by decide +kernel, by decide +kernel⟩, List.mem_of_getElem? (i := 51) (by decide +kernel), List.mem_of_getElem? (i := 217) (by decide +kernel), List.mem_of_getElem? (i := 218) (by decide +kernel)⟩
theorem lw_p2 : lw_okq (⟨"BitCongruences$Fact", "fitRest", "()Z"⟩, 7) := ⟨⟨by decide +kernel, by decide +kernel⟩, List.mem_of_getElem? (i := 51) (by decide +kernel), List.mem_of_getElem? (i := 226) (by decide +kernel), List.mem_of_getElem? (i := 227) (by decide +kernel)⟩
theorem lw_p3 : lw_okq (⟨"BitCongruences$Fact", "learnBits", "()Z"⟩, 7) := ⟨⟨by decide +kernel, by decide +kernel⟩, List.mem_of_getElem? (i := 51) (by decide +kernel), List.mem_of_getElem? (i := 233) (by decide +kernel), List.mem_of_getElem? (i := 234) (by decide +kernel)⟩
theorem lw_p4 : lw_okq (⟨"BitCongruences", "meetBesides", "(LBitCongruences$Fact;)I"⟩, 10) := ⟨⟨by decide +kernel, by decide +kernel⟩, List.mem_of_getElem? (i := 12) (by decide +kernel), List.mem_of_getElem? (i := 249) (by decide +kernel), List.mem_of_getElem? (i := 250) (by decide +kernel)⟩
theorem lw_p5 : lw_okq (⟨"BitCongruences$Acts", "shifted", "(ILBitCongruences$Fact;LBitCongruences$Fact;LBitCongruences$Fact;)V"⟩, 2) := ⟨⟨by decide +kernel, by decide +kernel⟩, List.mem_of_getElem? (i := 45) (by decide +kernel), List.mem_of_getElem? (i := 388) (by decide +kernel), List.mem_of_getElem? (i := 389) (by decide +kernel)⟩
theorem lw_p6 : lw_okq (⟨"BitCongruences$Acts", "move", "(ILBitCongruences$Fact;I)V"⟩, 2) := ⟨⟨by decide +kernel, by decide +kernel⟩, List.mem_of_getElem? (i := 45) (by decide +kernel), List.mem_of_getElem? (i := 392) (by decide +kernel), List.mem_of_getElem? (i := 393) (by decide +kernel)⟩
theorem lw_p7 : lw_okq (⟨"BitCongruences$Acts", "moveLeft", "(LBitCongruences$Fact;I)V"⟩, 2) := ⟨⟨by decide +kernel, by decide +kernel⟩, List.mem_of_getElem? (i := 45) (by decide +kernel), List.mem_of_getElem? (i := 397) (by decide +kernel), List.mem_of_getElem? (i := 398) (by decide +kernel)⟩
theorem lw_p8 : lw_okq (⟨"BitCongruences$Acts", "moveRightZeros", "(LBitCongruences$Fact;I)V"⟩, 2) := ⟨⟨by decide +kernel, by decide +kernel⟩, List.mem_of_getElem? (i := 45) (by decide +kernel), List.mem_of_getElem? (i := 402) (by decide +kernel), List.mem_of_getElem? (i := 403) (by decide +kernel)⟩
theorem lw_p9 : lw_okq (⟨"BitCongruences", "routineAt", "(I)LBitCongruences$Routine;"⟩, 10) := ⟨⟨by decide +kernel, by decide +kernel⟩, List.mem_of_getElem? (i := 12) (by decide +kernel), List.mem_of_getElem? (i := 497) (by decide +kernel), List.mem_of_getElem? (i := 498) (by decide +kernel)⟩
theorem lw_p10 : lw_okq (⟨"BitCongruences$Finder", "send", "(LBitCongruences$Routine;I)V"⟩, 6) := ⟨⟨by decide +kernel, by decide +kernel⟩, List.mem_of_getElem? (i := 116) (by decide +kernel), List.mem_of_getElem? (i := 532) (by decide +kernel), List.mem_of_getElem? (i := 533) (by decide +kernel)⟩
theorem lw_p11 : lw_okq (⟨"BitCongruences$Finder", "someComeToNone", "()Z"⟩, 6) := ⟨⟨by decide +kernel, by decide +kernel⟩, List.mem_of_getElem? (i := 116) (by decide +kernel), List.mem_of_getElem? (i := 536) (by decide +kernel), List.mem_of_getElem? (i := 537) (by decide +kernel)⟩
theorem lw_p12 : lw_okq (⟨"BitCongruences$Finder", "merge", "(LBitCongruences$Routine;ILBitCongruences$Fact;)Z"⟩, 6) := ⟨⟨by decide +kernel, by decide +kernel⟩, List.mem_of_getElem? (i := 116) (by decide +kernel), List.mem_of_getElem? (i := 540) (by decide +kernel), List.mem_of_getElem? (i := 541) (by decide +kernel)⟩
theorem lw_p13 : lw_okq (⟨"BitCongruences$Finder", "fetch", "(LBitCongruences$Routine;I)V"⟩, 6) := ⟨⟨by decide +kernel, by decide +kernel⟩, List.mem_of_getElem? (i := 116) (by decide +kernel), List.mem_of_getElem? (i := 560) (by decide +kernel), List.mem_of_getElem? (i := 561) (by decide +kernel)⟩
theorem lw_p14 : lw_okq (⟨"BitCongruences$Finder", "lookUp", "(LBitCongruences$Tables;ILBitCongruences$Fact;LBitCongruences$Fact;)V"⟩, 6) := ⟨⟨by decide +kernel, by decide +kernel⟩, List.mem_of_getElem? (i := 116) (by decide +kernel), List.mem_of_getElem? (i := 565) (by decide +kernel), List.mem_of_getElem? (i := 566) (by decide +kernel)⟩
theorem lw_p15 : lw_okq (⟨"BitCongruences$Finder", "branch", "(LBitCongruences$Routine;IZ)V"⟩, 6) := ⟨⟨by decide +kernel, by decide +kernel⟩, List.mem_of_getElem? (i := 116) (by decide +kernel), List.mem_of_getElem? (i := 571) (by decide +kernel), List.mem_of_getElem? (i := 572) (by decide +kernel)⟩
def lw_privs_1 : List (MethodName × Nat) := [(⟨"BitCongruences", "factAt", "(I)LBitCongruences$Fact;"⟩, 10), (⟨"BitCongruences$Fact", "fitBits", "()Z"⟩, 7), (⟨"BitCongruences$Fact", "fitRest", "()Z"⟩, 7), (⟨"BitCongruences$Fact", "learnBits", "()Z"⟩, 7), (⟨"BitCongruences", "meetBesides", "(LBitCongruences$Fact;)I"⟩, 10), (⟨"BitCongruences$Acts", "shifted", "(ILBitCongruences$Fact;LBitCongruences$Fact;LBitCongruences$Fact;)V"⟩, 2), (⟨"BitCongruences$Acts", "move", "(ILBitCongruences$Fact;I)V"⟩, 2), (⟨"BitCongruences$Acts", "moveLeft", "(LBitCongruences$Fact;I)V"⟩, 2), (⟨"BitCongruences$Acts", "moveRightZeros", "(LBitCongruences$Fact;I)V"⟩, 2), (⟨"BitCongruences", "routineAt", "(I)LBitCongruences$Routine;"⟩, 10), (⟨"BitCongruences$Finder", "send", "(LBitCongruences$Routine;I)V"⟩, 6), (⟨"BitCongruences$Finder", "someComeToNone", "()Z"⟩, 6), (⟨"BitCongruences$Finder", "merge", "(LBitCongruences$Routine;ILBitCongruences$Fact;)Z"⟩, 6), (⟨"BitCongruences$Finder", "fetch", "(LBitCongruences$Routine;I)V"⟩, 6), (⟨"BitCongruences$Finder", "lookUp", "(LBitCongruences$Tables;ILBitCongruences$Fact;LBitCongruences$Fact;)V"⟩, 6), (⟨"BitCongruences$Finder", "branch", "(LBitCongruences$Routine;IZ)V"⟩, 6)]
theorem lw_r1 : ∀ q ∈ lw_privs_1, lw_okq q := List.forall_mem_cons.mpr ⟨lw_p0, List.forall_mem_cons.mpr ⟨lw_p1, List.forall_mem_cons.mpr ⟨lw_p2, List.forall_mem_cons.mpr ⟨lw_p3, List.forall_mem_cons.mpr ⟨lw_p4, List.forall_mem_cons.mpr ⟨lw_p5, List.forall_mem_cons.mpr ⟨lw_p6, List.forall_mem_cons.mpr ⟨lw_p7, List.forall_mem_cons.mpr ⟨lw_p8, List.forall_mem_cons.mpr ⟨lw_p9, List.forall_mem_cons.mpr ⟨lw_p10, List.forall_mem_cons.mpr ⟨lw_p11, List.forall_mem_cons.mpr ⟨lw_p12, List.forall_mem_cons.mpr ⟨lw_p13, List.forall_mem_cons.mpr ⟨lw_p14, List.forall_mem_cons.mpr ⟨lw_p15, fun _ h => absurd h List.not_mem_nil⟩⟩⟩⟩⟩⟩⟩⟩⟩⟩⟩⟩⟩⟩⟩⟩
theorem lw_p16 : lw_okq (⟨"BitCongruences$Run", "look", "(LBitCongruences$Routine;)V"⟩, 4) := ⟨⟨by decide +kernel, by decide +kernel⟩, List.mem_of_getElem? (i := 146) (by decide +kernel), List.mem_of_getElem? (i := 647) (by decide +kernel), List.mem_of_getElem? (i := 648) (by decide +kernel)⟩
theorem lw_p17 : lw_okq (⟨"BitCongruences$Run", "step", "(LBitCongruences$Routine;LBitCongruences$Tables;)I"⟩, 4) := ⟨⟨by decide +kernel, by decide +kernel⟩, List.mem_of_getElem? (i := 146) (by decide +kernel), List.mem_of_getElem? (i := 652) (by decide +kernel), List.mem_of_getElem? (i := 653) (by decide +kernel)⟩
theorem lw_p18 : lw_okq (⟨"BitCongruences$Run", "lookUp", "(LBitCongruences$Tables;II)Z"⟩, 4) := ⟨⟨by decide +kernel, by decide +kernel⟩, List.mem_of_getElem? (i := 146) (by decide +kernel), List.mem_of_getElem? (i := 656) (by decide +kernel), List.mem_of_getElem? (i := 657) (by decide +kernel)⟩
theorem lw_p19 : lw_okq (⟨"BitCongruences$Run", "compute", "(III)Z"⟩, 4) := ⟨⟨by decide +kernel, by decide +kernel⟩, List.mem_of_getElem? (i := 146) (by decide +kernel), List.mem_of_getElem? (i := 664) (by decide +kernel), List.mem_of_getElem? (i := 665) (by decide +kernel)⟩
theorem lw_p20 : lw_okq (⟨"BitCongruencesModel", "all", "(I)V"⟩, 27) := ⟨⟨by decide +kernel, by decide +kernel⟩, List.mem_of_getElem? (i := 681) (by decide +kernel), List.mem_of_getElem? (i := 687) (by decide +kernel), List.mem_of_getElem? (i := 688) (by decide +kernel)⟩
theorem lw_p21 : lw_okq (⟨"BitCongruencesModel", "put", "(IJJJJ)V"⟩, 27) := ⟨⟨by decide +kernel, by decide +kernel⟩, List.mem_of_getElem? (i := 681) (by decide +kernel), List.mem_of_getElem? (i := 786) (by decide +kernel), List.mem_of_getElem? (i := 787) (by decide +kernel)⟩
theorem lw_p22 : lw_okq (⟨"BitCongruencesModel", "nothing", "(I)V"⟩, 27) := ⟨⟨by decide +kernel, by decide +kernel⟩, List.mem_of_getElem? (i := 681) (by decide +kernel), List.mem_of_getElem? (i := 790) (by decide +kernel), List.mem_of_getElem? (i := 791) (by decide +kernel)⟩
theorem lw_p23 : lw_okq (⟨"BitCongruencesModel", "sharpen", "(I)V"⟩, 27) := ⟨⟨by decide +kernel, by decide +kernel⟩, List.mem_of_getElem? (i := 681) (by decide +kernel), List.mem_of_getElem? (i := 794) (by decide +kernel), List.mem_of_getElem? (i := 795) (by decide +kernel)⟩
theorem lw_p24 : lw_okq (⟨"BitCongruencesModel", "byBits", "(I)Z"⟩, 27) := ⟨⟨by decide +kernel, by decide +kernel⟩, List.mem_of_getElem? (i := 681) (by decide +kernel), List.mem_of_getElem? (i := 798) (by decide +kernel), List.mem_of_getElem? (i := 799) (by decide +kernel)⟩
theorem lw_p25 : lw_okq (⟨"BitCongruencesModel", "up", "(JJJ)J"⟩, 27) := ⟨⟨by decide +kernel, by decide +kernel⟩, List.mem_of_getElem? (i := 681) (by decide +kernel), List.mem_of_getElem? (i := 802) (by decide +kernel), List.mem_of_getElem? (i := 803) (by decide +kernel)⟩
theorem lw_p26 : lw_okq (⟨"BitCongruencesModel", "down", "(JJJ)J"⟩, 27) := ⟨⟨by decide +kernel, by decide +kernel⟩, List.mem_of_getElem? (i := 681) (by decide +kernel), List.mem_of_getElem? (i := 807) (by decide +kernel), List.mem_of_getElem? (i := 808) (by decide +kernel)⟩
theorem lw_p27 : lw_okq (⟨"BitCongruencesModel", "byRest", "(I)Z"⟩, 27) := ⟨⟨by decide +kernel, by decide +kernel⟩, List.mem_of_getElem? (i := 681) (by decide +kernel), List.mem_of_getElem? (i := 811) (by decide +kernel), List.mem_of_getElem? (i := 812) (by decide +kernel)⟩
theorem lw_p28 : lw_okq (⟨"BitCongruencesModel", "byEnds", "(I)Z"⟩, 27) := ⟨⟨by decide +kernel, by decide +kernel⟩, List.mem_of_getElem? (i := 681) (by decide +kernel), List.mem_of_getElem? (i := 818) (by decide +kernel), List.mem_of_getElem? (i := 819) (by decide +kernel)⟩
theorem lw_p29 : lw_okq (⟨"BitCongruencesModel", "number", "(IJ)V"⟩, 27) := ⟨⟨by decide +kernel, by decide +kernel⟩, List.mem_of_getElem? (i := 681) (by decide +kernel), List.mem_of_getElem? (i := 822) (by decide +kernel), List.mem_of_getElem? (i := 823) (by decide +kernel)⟩
theorem lw_p30 : lw_okq (⟨"BitCongruencesModel", "meet", "(III)V"⟩, 27) := ⟨⟨by decide +kernel, by decide +kernel⟩, List.mem_of_getElem? (i := 681) (by decide +kernel), List.mem_of_getElem? (i := 830) (by decide +kernel), List.mem_of_getElem? (i := 831) (by decide +kernel)⟩
theorem lw_p31 : lw_okq (⟨"BitCongruencesModel", "setRest", "(IJJ)V"⟩, 27) := ⟨⟨by decide +kernel, by decide +kernel⟩, List.mem_of_getElem? (i := 681) (by decide +kernel), List.mem_of_getElem? (i := 840) (by decide +kernel), List.mem_of_getElem? (i := 841) (by decide +kernel)⟩
def lw_privs_2 : List (MethodName × Nat) := [(⟨"BitCongruences$Run", "look", "(LBitCongruences$Routine;)V"⟩, 4), (⟨"BitCongruences$Run", "step", "(LBitCongruences$Routine;LBitCongruences$Tables;)I"⟩, 4), (⟨"BitCongruences$Run", "lookUp", "(LBitCongruences$Tables;II)Z"⟩, 4), (⟨"BitCongruences$Run", "compute", "(III)Z"⟩, 4), (⟨"BitCongruencesModel", "all", "(I)V"⟩, 27), (⟨"BitCongruencesModel", "put", "(IJJJJ)V"⟩, 27), (⟨"BitCongruencesModel", "nothing", "(I)V"⟩, 27), (⟨"BitCongruencesModel", "sharpen", "(I)V"⟩, 27), (⟨"BitCongruencesModel", "byBits", "(I)Z"⟩, 27), (⟨"BitCongruencesModel", "up", "(JJJ)J"⟩, 27), (⟨"BitCongruencesModel", "down", "(JJJ)J"⟩, 27), (⟨"BitCongruencesModel", "byRest", "(I)Z"⟩, 27), (⟨"BitCongruencesModel", "byEnds", "(I)Z"⟩, 27), (⟨"BitCongruencesModel", "number", "(IJ)V"⟩, 27), (⟨"BitCongruencesModel", "meet", "(III)V"⟩, 27), (⟨"BitCongruencesModel", "setRest", "(IJJ)V"⟩, 27)]
theorem lw_r2 : ∀ q ∈ lw_privs_2, lw_okq q := List.forall_mem_cons.mpr ⟨lw_p16, List.forall_mem_cons.mpr ⟨lw_p17, List.forall_mem_cons.mpr ⟨lw_p18, List.forall_mem_cons.mpr ⟨lw_p19, List.forall_mem_cons.mpr ⟨lw_p20, List.forall_mem_cons.mpr ⟨lw_p21, List.forall_mem_cons.mpr ⟨lw_p22, List.forall_mem_cons.mpr ⟨lw_p23, List.forall_mem_cons.mpr ⟨lw_p24, List.forall_mem_cons.mpr ⟨lw_p25, List.forall_mem_cons.mpr ⟨lw_p26, List.forall_mem_cons.mpr ⟨lw_p27, List.forall_mem_cons.mpr ⟨lw_p28, List.forall_mem_cons.mpr ⟨lw_p29, List.forall_mem_cons.mpr ⟨lw_p30, List.forall_mem_cons.mpr ⟨lw_p31, fun _ h => absurd h List.not_mem_nil⟩⟩⟩⟩⟩⟩⟩⟩⟩⟩⟩⟩⟩⟩⟩⟩
theorem lw_p32 : lw_okq (⟨"BitCongruencesModel", "join", "(III)V"⟩, 27) := ⟨⟨by decide +kernel, by decide +kernel⟩, List.mem_of_getElem? (i := 681) (by decide +kernel), List.mem_of_getElem? (i := 853) (by decide +kernel), List.mem_of_getElem? (i := 854) (by decide +kernel)⟩
theorem lw_p33 : lw_okq (⟨"BitCongruencesModel", "copy", "(II)V"⟩, 27) := ⟨⟨by decide +kernel, by decide +kernel⟩, List.mem_of_getElem? (i := 681) (by decide +kernel), List.mem_of_getElem? (i := 857) (by decide +kernel), List.mem_of_getElem? (i := 858) (by decide +kernel)⟩
theorem lw_p34 : lw_okq (⟨"BitCongruencesModel", "isNumber", "(I)Z"⟩, 27) := ⟨⟨by decide +kernel, by decide +kernel⟩, List.mem_of_getElem? (i := 681) (by decide +kernel), List.mem_of_getElem? (i := 861) (by decide +kernel), List.mem_of_getElem? (i := 862) (by decide +kernel)⟩
theorem lw_p35 : lw_okq (⟨"BitCongruencesModel", "restOf", "(I)J"⟩, 27) := ⟨⟨by decide +kernel, by decide +kernel⟩, List.mem_of_getElem? (i := 681) (by decide +kernel), List.mem_of_getElem? (i := 865) (by decide +kernel), List.mem_of_getElem? (i := 866) (by decide +kernel)⟩
theorem lw_p36 : lw_okq (⟨"BitCongruencesModel", "byOf", "(I)J"⟩, 27) := ⟨⟨by decide +kernel, by decide +kernel⟩, List.mem_of_getElem? (i := 681) (by decide +kernel), List.mem_of_getElem? (i := 869) (by decide +kernel), List.mem_of_getElem? (i := 870) (by decide +kernel)⟩
theorem lw_p37 : lw_okq (⟨"BitCongruencesModel", "does", "(IIII)V"⟩, 27) := ⟨⟨by decide +kernel, by decide +kernel⟩, List.mem_of_getElem? (i := 681) (by decide +kernel), List.mem_of_getElem? (i := 883) (by decide +kernel), List.mem_of_getElem? (i := 884) (by decide +kernel)⟩
theorem lw_p38 : lw_okq (⟨"BitCongruencesModel", "add", "(IIZ)V"⟩, 27) := ⟨⟨by decide +kernel, by decide +kernel⟩, List.mem_of_getElem? (i := 681) (by decide +kernel), List.mem_of_getElem? (i := 897) (by decide +kernel), List.mem_of_getElem? (i := 898) (by decide +kernel)⟩
theorem lw_p39 : lw_okq (⟨"BitCongruencesModel", "turn", "(II)V"⟩, 27) := ⟨⟨by decide +kernel, by decide +kernel⟩, List.mem_of_getElem? (i := 681) (by decide +kernel), List.mem_of_getElem? (i := 904) (by decide +kernel), List.mem_of_getElem? (i := 905) (by decide +kernel)⟩
theorem lw_p40 : lw_okq (⟨"BitCongruencesModel", "ripple", "(IIZI)V"⟩, 27) := ⟨⟨by decide +kernel, by decide +kernel⟩, List.mem_of_getElem? (i := 681) (by decide +kernel), List.mem_of_getElem? (i := 908) (by decide +kernel), List.mem_of_getElem? (i := 909) (by decide +kernel)⟩
theorem lw_p41 : lw_okq (⟨"BitCongruencesModel", "bit", "(II)I"⟩, 27) := ⟨⟨by decide +kernel, by decide +kernel⟩, List.mem_of_getElem? (i := 681) (by decide +kernel), List.mem_of_getElem? (i := 912) (by decide +kernel), List.mem_of_getElem? (i := 913) (by decide +kernel)⟩
theorem lw_p42 : lw_okq (⟨"BitCongruencesModel", "multiply", "()V"⟩, 27) := ⟨⟨by decide +kernel, by decide +kernel⟩, List.mem_of_getElem? (i := 681) (by decide +kernel), List.mem_of_getElem? (i := 916) (by decide +kernel), List.mem_of_getElem? (i := 917) (by decide +kernel)⟩
theorem lw_p43 : lw_okq (⟨"BitCongruencesModel", "oddProduct", "()J"⟩, 27) := ⟨⟨by decide +kernel, by decide +kernel⟩, List.mem_of_getElem? (i := 681) (by decide +kernel), List.mem_of_getElem? (i := 920) (by decide +kernel), List.mem_of_getElem? (i := 921) (by decide +kernel)⟩
theorem lw_p44 : lw_okq (⟨"BitCongruencesModel", "bitwise", "(I)V"⟩, 27) := ⟨⟨by decide +kernel, by decide +kernel⟩, List.mem_of_getElem? (i := 681) (by decide +kernel), List.mem_of_getElem? (i := 924) (by decide +kernel), List.mem_of_getElem? (i := 925) (by decide +kernel)⟩
theorem lw_p45 : lw_okq (⟨"BitCongruencesModel", "shift", "(I)V"⟩, 27) := ⟨⟨by decide +kernel, by decide +kernel⟩, List.mem_of_getElem? (i := 681) (by decide +kernel), List.mem_of_getElem? (i := 928) (by decide +kernel), List.mem_of_getElem? (i := 929) (by decide +kernel)⟩
theorem lw_p46 : lw_okq (⟨"BitCongruencesModel", "move", "(II)V"⟩, 27) := ⟨⟨by decide +kernel, by decide +kernel⟩, List.mem_of_getElem? (i := 681) (by decide +kernel), List.mem_of_getElem? (i := 933) (by decide +kernel), List.mem_of_getElem? (i := 934) (by decide +kernel)⟩
theorem lw_p47 : lw_okq (⟨"BitCongruencesModel", "divide", "(I)V"⟩, 27) := ⟨⟨by decide +kernel, by decide +kernel⟩, List.mem_of_getElem? (i := 681) (by decide +kernel), List.mem_of_getElem? (i := 938) (by decide +kernel), List.mem_of_getElem? (i := 939) (by decide +kernel)⟩
def lw_privs_3 : List (MethodName × Nat) := [(⟨"BitCongruencesModel", "join", "(III)V"⟩, 27), (⟨"BitCongruencesModel", "copy", "(II)V"⟩, 27), (⟨"BitCongruencesModel", "isNumber", "(I)Z"⟩, 27), (⟨"BitCongruencesModel", "restOf", "(I)J"⟩, 27), (⟨"BitCongruencesModel", "byOf", "(I)J"⟩, 27), (⟨"BitCongruencesModel", "does", "(IIII)V"⟩, 27), (⟨"BitCongruencesModel", "add", "(IIZ)V"⟩, 27), (⟨"BitCongruencesModel", "turn", "(II)V"⟩, 27), (⟨"BitCongruencesModel", "ripple", "(IIZI)V"⟩, 27), (⟨"BitCongruencesModel", "bit", "(II)I"⟩, 27), (⟨"BitCongruencesModel", "multiply", "()V"⟩, 27), (⟨"BitCongruencesModel", "oddProduct", "()J"⟩, 27), (⟨"BitCongruencesModel", "bitwise", "(I)V"⟩, 27), (⟨"BitCongruencesModel", "shift", "(I)V"⟩, 27), (⟨"BitCongruencesModel", "move", "(II)V"⟩, 27), (⟨"BitCongruencesModel", "divide", "(I)V"⟩, 27)]
theorem lw_r3 : ∀ q ∈ lw_privs_3, lw_okq q := List.forall_mem_cons.mpr ⟨lw_p32, List.forall_mem_cons.mpr ⟨lw_p33, List.forall_mem_cons.mpr ⟨lw_p34, List.forall_mem_cons.mpr ⟨lw_p35, List.forall_mem_cons.mpr ⟨lw_p36, List.forall_mem_cons.mpr ⟨lw_p37, List.forall_mem_cons.mpr ⟨lw_p38, List.forall_mem_cons.mpr ⟨lw_p39, List.forall_mem_cons.mpr ⟨lw_p40, List.forall_mem_cons.mpr ⟨lw_p41, List.forall_mem_cons.mpr ⟨lw_p42, List.forall_mem_cons.mpr ⟨lw_p43, List.forall_mem_cons.mpr ⟨lw_p44, List.forall_mem_cons.mpr ⟨lw_p45, List.forall_mem_cons.mpr ⟨lw_p46, List.forall_mem_cons.mpr ⟨lw_p47, fun _ h => absurd h List.not_mem_nil⟩⟩⟩⟩⟩⟩⟩⟩⟩⟩⟩⟩⟩⟩⟩⟩
theorem lw_p48 : lw_okq (⟨"BitCongruencesModel", "narrow", "(I)V"⟩, 27) := ⟨⟨by decide +kernel, by decide +kernel⟩, List.mem_of_getElem? (i := 681) (by decide +kernel), List.mem_of_getElem? (i := 942) (by decide +kernel), List.mem_of_getElem? (i := 943) (by decide +kernel)⟩
theorem lw_p49 : lw_okq (⟨"BitCongruencesModel", "isIn", "(IJ)Z"⟩, 27) := ⟨⟨by decide +kernel, by decide +kernel⟩, List.mem_of_getElem? (i := 681) (by decide +kernel), List.mem_of_getElem? (i := 955) (by decide +kernel), List.mem_of_getElem? (i := 956) (by decide +kernel)⟩
theorem lw_p50 : lw_okq (⟨"BitCongruencesModel", "isMethod", "(I)Z"⟩, 27) := ⟨⟨by decide +kernel, by decide +kernel⟩, List.mem_of_getElem? (i := 681) (by decide +kernel), List.mem_of_getElem? (i := 967) (by decide +kernel), List.mem_of_getElem? (i := 968) (by decide +kernel)⟩
theorem lw_p51 : lw_okq (⟨"BitCongruencesModel", "cell", "(III)I"⟩, 27) := ⟨⟨by decide +kernel, by decide +kernel⟩, List.mem_of_getElem? (i := 681) (by decide +kernel), List.mem_of_getElem? (i := 993) (by decide +kernel), List.mem_of_getElem? (i := 994) (by decide +kernel)⟩
theorem lw_p52 : lw_okq (⟨"BitCongruencesModel", "some", "(I)Z"⟩, 27) := ⟨⟨by decide +kernel, by decide +kernel⟩, List.mem_of_getElem? (i := 681) (by decide +kernel), List.mem_of_getElem? (i := 997) (by decide +kernel), List.mem_of_getElem? (i := 998) (by decide +kernel)⟩
theorem lw_p53 : lw_okq (⟨"BitCongruencesModel", "work", "(II)V"⟩, 27) := ⟨⟨by decide +kernel, by decide +kernel⟩, List.mem_of_getElem? (i := 681) (by decide +kernel), List.mem_of_getElem? (i := 1001) (by decide +kernel), List.mem_of_getElem? (i := 1002) (by decide +kernel)⟩
theorem lw_p54 : lw_okq (⟨"BitCongruencesModel", "ready", "()V"⟩, 27) := ⟨⟨by decide +kernel, by decide +kernel⟩, List.mem_of_getElem? (i := 681) (by decide +kernel), List.mem_of_getElem? (i := 1005) (by decide +kernel), List.mem_of_getElem? (i := 1006) (by decide +kernel)⟩
theorem lw_p55 : lw_okq (⟨"BitCongruencesModel", "asked", "(IIIZ)V"⟩, 27) := ⟨⟨by decide +kernel, by decide +kernel⟩, List.mem_of_getElem? (i := 681) (by decide +kernel), List.mem_of_getElem? (i := 1009) (by decide +kernel), List.mem_of_getElem? (i := 1010) (by decide +kernel)⟩
theorem lw_p56 : lw_okq (⟨"BitCongruencesModel", "apart", "(III)V"⟩, 27) := ⟨⟨by decide +kernel, by decide +kernel⟩, List.mem_of_getElem? (i := 681) (by decide +kernel), List.mem_of_getElem? (i := 1013) (by decide +kernel), List.mem_of_getElem? (i := 1014) (by decide +kernel)⟩
theorem lw_p57 : lw_okq (⟨"BitCongruencesModel", "atMost", "(IZJI)V"⟩, 27) := ⟨⟨by decide +kernel, by decide +kernel⟩, List.mem_of_getElem? (i := 681) (by decide +kernel), List.mem_of_getElem? (i := 1017) (by decide +kernel), List.mem_of_getElem? (i := 1018) (by decide +kernel)⟩
theorem lw_p58 : lw_okq (⟨"BitCongruencesModel", "atLeast", "(IZJI)V"⟩, 27) := ⟨⟨by decide +kernel, by decide +kernel⟩, List.mem_of_getElem? (i := 681) (by decide +kernel), List.mem_of_getElem? (i := 1021) (by decide +kernel), List.mem_of_getElem? (i := 1022) (by decide +kernel)⟩
theorem lw_p59 : lw_okq (⟨"BitCongruencesModel", "goTo", "(II)V"⟩, 27) := ⟨⟨by decide +kernel, by decide +kernel⟩, List.mem_of_getElem? (i := 681) (by decide +kernel), List.mem_of_getElem? (i := 1025) (by decide +kernel), List.mem_of_getElem? (i := 1026) (by decide +kernel)⟩
theorem lw_p60 : lw_okq (⟨"BitCongruencesModel", "widen", "(III)V"⟩, 27) := ⟨⟨by decide +kernel, by decide +kernel⟩, List.mem_of_getElem? (i := 681) (by decide +kernel), List.mem_of_getElem? (i := 1029) (by decide +kernel), List.mem_of_getElem? (i := 1030) (by decide +kernel)⟩
theorem lw_p61 : lw_okq (⟨"BitCongruencesModel", "alike", "(II)Z"⟩, 27) := ⟨⟨by decide +kernel, by decide +kernel⟩, List.mem_of_getElem? (i := 681) (by decide +kernel), List.mem_of_getElem? (i := 1033) (by decide +kernel), List.mem_of_getElem? (i := 1034) (by decide +kernel)⟩
theorem lw_p62 : lw_okq (⟨"BitCongruencesModel", "look", "(II)V"⟩, 27) := ⟨⟨by decide +kernel, by decide +kernel⟩, List.mem_of_getElem? (i := 681) (by decide +kernel), List.mem_of_getElem? (i := 1037) (by decide +kernel), List.mem_of_getElem? (i := 1038) (by decide +kernel)⟩
theorem lw_p63 : lw_okq (⟨"BitCongruencesModel", "gives", "(II)I"⟩, 27) := ⟨⟨by decide +kernel, by decide +kernel⟩, List.mem_of_getElem? (i := 681) (by decide +kernel), List.mem_of_getElem? (i := 1049) (by decide +kernel), List.mem_of_getElem? (i := 1050) (by decide +kernel)⟩
def lw_privs_4 : List (MethodName × Nat) := [(⟨"BitCongruencesModel", "narrow", "(I)V"⟩, 27), (⟨"BitCongruencesModel", "isIn", "(IJ)Z"⟩, 27), (⟨"BitCongruencesModel", "isMethod", "(I)Z"⟩, 27), (⟨"BitCongruencesModel", "cell", "(III)I"⟩, 27), (⟨"BitCongruencesModel", "some", "(I)Z"⟩, 27), (⟨"BitCongruencesModel", "work", "(II)V"⟩, 27), (⟨"BitCongruencesModel", "ready", "()V"⟩, 27), (⟨"BitCongruencesModel", "asked", "(IIIZ)V"⟩, 27), (⟨"BitCongruencesModel", "apart", "(III)V"⟩, 27), (⟨"BitCongruencesModel", "atMost", "(IZJI)V"⟩, 27), (⟨"BitCongruencesModel", "atLeast", "(IZJI)V"⟩, 27), (⟨"BitCongruencesModel", "goTo", "(II)V"⟩, 27), (⟨"BitCongruencesModel", "widen", "(III)V"⟩, 27), (⟨"BitCongruencesModel", "alike", "(II)Z"⟩, 27), (⟨"BitCongruencesModel", "look", "(II)V"⟩, 27), (⟨"BitCongruencesModel", "gives", "(II)I"⟩, 27)]
theorem lw_r4 : ∀ q ∈ lw_privs_4, lw_okq q := List.forall_mem_cons.mpr ⟨lw_p48, List.forall_mem_cons.mpr ⟨lw_p49, List.forall_mem_cons.mpr ⟨lw_p50, List.forall_mem_cons.mpr ⟨lw_p51, List.forall_mem_cons.mpr ⟨lw_p52, List.forall_mem_cons.mpr ⟨lw_p53, List.forall_mem_cons.mpr ⟨lw_p54, List.forall_mem_cons.mpr ⟨lw_p55, List.forall_mem_cons.mpr ⟨lw_p56, List.forall_mem_cons.mpr ⟨lw_p57, List.forall_mem_cons.mpr ⟨lw_p58, List.forall_mem_cons.mpr ⟨lw_p59, List.forall_mem_cons.mpr ⟨lw_p60, List.forall_mem_cons.mpr ⟨lw_p61, List.forall_mem_cons.mpr ⟨lw_p62, List.forall_mem_cons.mpr ⟨lw_p63, fun _ h => absurd h List.not_mem_nil⟩⟩⟩⟩⟩⟩⟩⟩⟩⟩⟩⟩⟩⟩⟩⟩
theorem lw_p64 : lw_okq (⟨"BitCongruencesModel", "numbers", "(II)I"⟩, 27) := ⟨⟨by decide +kernel, by decide +kernel⟩, List.mem_of_getElem? (i := 681) (by decide +kernel), List.mem_of_getElem? (i := 1053) (by decide +kernel), List.mem_of_getElem? (i := 1054) (by decide +kernel)⟩
theorem lw_p65 : lw_okq (⟨"BitCongruencesModel", "check", "(I)V"⟩, 27) := ⟨⟨by decide +kernel, by decide +kernel⟩, List.mem_of_getElem? (i := 681) (by decide +kernel), List.mem_of_getElem? (i := 1066) (by decide +kernel), List.mem_of_getElem? (i := 1067) (by decide +kernel)⟩
theorem lw_p66 : lw_okq (⟨"BitCongruencesModel", "line", "(I)Z"⟩, 27) := ⟨⟨by decide +kernel, by decide +kernel⟩, List.mem_of_getElem? (i := 681) (by decide +kernel), List.mem_of_getElem? (i := 1070) (by decide +kernel), List.mem_of_getElem? (i := 1071) (by decide +kernel)⟩
def lw_privs_5 : List (MethodName × Nat) := [(⟨"BitCongruencesModel", "numbers", "(II)I"⟩, 27), (⟨"BitCongruencesModel", "check", "(I)V"⟩, 27), (⟨"BitCongruencesModel", "line", "(I)Z"⟩, 27)]
theorem lw_r5 : ∀ q ∈ lw_privs_5, lw_okq q := List.forall_mem_cons.mpr ⟨lw_p64, List.forall_mem_cons.mpr ⟨lw_p65, List.forall_mem_cons.mpr ⟨lw_p66, fun _ h => absurd h List.not_mem_nil⟩⟩⟩
def lw_privs : List (MethodName × Nat) := lw_privs_1 ++ (lw_privs_2 ++ (lw_privs_3 ++ (lw_privs_4 ++ (lw_privs_5))))
def lw_tbl : List Cond := k2_sels lw_privs ++ tables_1
theorem lw_privs_ok : ∀ q ∈ lw_privs, lw_okq q := by
  show ∀ q ∈ lw_privs_1 ++ (lw_privs_2 ++ (lw_privs_3 ++ (lw_privs_4 ++ (lw_privs_5)))), lw_okq q
  exact List.forall_mem_append.mpr ⟨lw_r1, List.forall_mem_append.mpr ⟨lw_r2, List.forall_mem_append.mpr ⟨lw_r3, List.forall_mem_append.mpr ⟨lw_r4, lw_r5⟩⟩⟩⟩
-- ===== end of PART A; then your names; then what follows =====
def RX0 : String := "BitCongruences$Acts"
def TX0 : u_T := fun k => match k with
  | 0 => ("BitCongruences$Acts", "zero", "LBitCongruences$Fact;", true)
  | _ => ("BitCongruences$Acts", "moved", "LBitCongruences$Fact;", true)
def tyX0 : Nat → FieldType := fun k => match k with
  | 0 => .object "BitCongruences$Fact"
  | _ => .object "BitCongruences$Fact"
abbrev wsX00 : List Cond := u_ws RX0 TX0 2
theorem nmX0 : ∀ a, a < 2 → ∀ b, b < 2 → a ≠ b → (TX0 a).2.1 ≠ (TX0 b).2.1 := by decide +kernel
theorem tyX0_ok : ∀ k, k < 2 → parseFieldDescriptor (TX0 k).2.2.1 = some (tyX0 k) := by decide +kernel
abbrev cX0_init : ByteArray := prog_2_method_1_code
def yX0_init : MethodName := ⟨RX0, "<init>", "()V"⟩
abbrev cX0_stops : ByteArray := prog_2_method_2_code
def yX0_stops : MethodName := ⟨RX0, "stops", "(IJ)Z"⟩
abbrev cX0_number : ByteArray := prog_2_method_3_code
def yX0_number : MethodName := ⟨RX0, "number", "(IJJ)J"⟩
abbrev cX0_givesUp : ByteArray := prog_2_method_4_code
def yX0_givesUp : MethodName := ⟨RX0, "givesUp", "(ILBitCongruences$Fact;LBitCongruences$Fact;)Z"⟩
abbrev cX0_work : ByteArray := prog_2_method_5_code
def yX0_work : MethodName := ⟨RX0, "work", "(ILBitCongruences$Fact;LBitCongruences$Fact;LBitCongruences$Fact;)V"⟩
abbrev cX0_constant : ByteArray := prog_2_method_6_code
def yX0_constant : MethodName := ⟨RX0, "constant", "(IJJLBitCongruences$Fact;)V"⟩
abbrev cX0_plus : ByteArray := prog_2_method_7_code
def yX0_plus : MethodName := ⟨RX0, "plus", "(LBitCongruences$Fact;LBitCongruences$Fact;LBitCongruences$Fact;)V"⟩
abbrev cX0_minus : ByteArray := prog_2_method_8_code
def yX0_minus : MethodName := ⟨RX0, "minus", "(LBitCongruences$Fact;LBitCongruences$Fact;LBitCongruences$Fact;)V"⟩
abbrev cX0_times : ByteArray := prog_2_method_9_code
def yX0_times : MethodName := ⟨RX0, "times", "(LBitCongruences$Fact;LBitCongruences$Fact;LBitCongruences$Fact;)V"⟩
abbrev cX0_productBits : ByteArray := prog_2_method_10_code
def yX0_productBits : MethodName := ⟨RX0, "productBits", "(LBitCongruences$Fact;LBitCongruences$Fact;LBitCongruences$Fact;)V"⟩
abbrev cX0_productModulus : ByteArray := prog_2_method_11_code
def yX0_productModulus : MethodName := ⟨RX0, "productModulus", "(LBitCongruences$Fact;LBitCongruences$Fact;)J"⟩
abbrev cX0_multipliedModulus : ByteArray := prog_2_method_12_code
def yX0_multipliedModulus : MethodName := ⟨RX0, "multipliedModulus", "(JJ)J"⟩
abbrev cX0_bitwise : ByteArray := prog_2_method_13_code
def yX0_bitwise : MethodName := ⟨RX0, "bitwise", "(ILBitCongruences$Fact;LBitCongruences$Fact;LBitCongruences$Fact;)V"⟩
abbrev cX0_shifted : ByteArray := prog_2_method_14_code
def yX0_shifted : MethodName := ⟨RX0, "shifted", "(ILBitCongruences$Fact;LBitCongruences$Fact;LBitCongruences$Fact;)V"⟩
abbrev cX0_move : ByteArray := prog_2_method_15_code
def yX0_move : MethodName := ⟨RX0, "move", "(ILBitCongruences$Fact;I)V"⟩
abbrev cX0_moveLeft : ByteArray := prog_2_method_16_code
def yX0_moveLeft : MethodName := ⟨RX0, "moveLeft", "(LBitCongruences$Fact;I)V"⟩
abbrev cX0_moveRightZeros : ByteArray := prog_2_method_17_code
def yX0_moveRightZeros : MethodName := ⟨RX0, "moveRightZeros", "(LBitCongruences$Fact;I)V"⟩
abbrev cX0_quotient : ByteArray := prog_2_method_18_code
def yX0_quotient : MethodName := ⟨RX0, "quotient", "(LBitCongruences$Fact;JLBitCongruences$Fact;)V"⟩
abbrev cX0_remainder : ByteArray := prog_2_method_19_code
def yX0_remainder : MethodName := ⟨RX0, "remainder", "(LBitCongruences$Fact;JLBitCongruences$Fact;)V"⟩
abbrev cX0_turned : ByteArray := prog_2_method_20_code
def yX0_turned : MethodName := ⟨RX0, "turned", "(LBitCongruences$Fact;LBitCongruences$Fact;)V"⟩
abbrev cX0_narrowed : ByteArray := prog_2_method_21_code
def yX0_narrowed : MethodName := ⟨RX0, "narrowed", "(ILBitCongruences$Fact;LBitCongruences$Fact;)V"⟩
def RX1 : String := "BitCongruences$Fact"
def TX1 : u_T := fun k => match k with
  | 0 => ("BitCongruences$Fact", "none", "Z", false)
  | 1 => ("BitCongruences$Fact", "low", "J", false)
  | 2 => ("BitCongruences$Fact", "high", "J", false)
  | 3 => ("BitCongruences$Fact", "known", "J", false)
  | 4 => ("BitCongruences$Fact", "values", "J", false)
  | 5 => ("BitCongruences$Fact", "modulus", "J", false)
  | _ => ("BitCongruences$Fact", "rest", "J", false)
def tyX1 : Nat → FieldType := fun k => match k with
  | 0 => .boolean
  | 1 => .long
  | 2 => .long
  | 3 => .long
  | 4 => .long
  | 5 => .long
  | _ => .long
abbrev wsX10 : List Cond := u_ws RX1 TX1 7
theorem nmX1 : ∀ a, a < 7 → ∀ b, b < 7 → a ≠ b → (TX1 a).2.1 ≠ (TX1 b).2.1 := by decide +kernel
theorem tyX1_ok : ∀ k, k < 7 → parseFieldDescriptor (TX1 k).2.2.1 = some (tyX1 k) := by decide +kernel
abbrev cX1_init : ByteArray := prog_3_method_1_code
def yX1_init : MethodName := ⟨RX1, "<init>", "()V"⟩
abbrev cX1_makeAll : ByteArray := prog_3_method_2_code
def yX1_makeAll : MethodName := ⟨RX1, "makeAll", "()V"⟩
abbrev cX1_makeNone : ByteArray := prog_3_method_3_code
def yX1_makeNone : MethodName := ⟨RX1, "makeNone", "()V"⟩
abbrev cX1_makeConstant : ByteArray := prog_3_method_4_code
def yX1_makeConstant : MethodName := ⟨RX1, "makeConstant", "(J)V"⟩
abbrev cX1_become : ByteArray := prog_3_method_5_code
def yX1_become : MethodName := ⟨RX1, "become", "(JJJJJJ)V"⟩
abbrev cX1_copy : ByteArray := prog_3_method_6_code
def yX1_copy : MethodName := ⟨RX1, "copy", "(LBitCongruences$Fact;)V"⟩
abbrev cX1_isConstant : ByteArray := prog_3_method_7_code
def yX1_isConstant : MethodName := ⟨RX1, "isConstant", "()Z"⟩
abbrev cX1_isLike : ByteArray := prog_3_method_8_code
def yX1_isLike : MethodName := ⟨RX1, "isLike", "(LBitCongruences$Fact;)Z"⟩
abbrev cX1_holds : ByteArray := prog_3_method_9_code
def yX1_holds : MethodName := ⟨RX1, "holds", "(J)Z"⟩
abbrev cX1_countedModulus : ByteArray := prog_3_method_10_code
def yX1_countedModulus : MethodName := ⟨RX1, "countedModulus", "()J"⟩
abbrev cX1_countedRest : ByteArray := prog_3_method_11_code
def yX1_countedRest : MethodName := ⟨RX1, "countedRest", "()J"⟩
abbrev cX1_sharpen : ByteArray := prog_3_method_12_code
def yX1_sharpen : MethodName := ⟨RX1, "sharpen", "()V"⟩
abbrev cX1_fitBits : ByteArray := prog_3_method_13_code
def yX1_fitBits : MethodName := ⟨RX1, "fitBits", "()Z"⟩
abbrev cX1_fitRest : ByteArray := prog_3_method_14_code
def yX1_fitRest : MethodName := ⟨RX1, "fitRest", "()Z"⟩
abbrev cX1_learnBits : ByteArray := prog_3_method_15_code
def yX1_learnBits : MethodName := ⟨RX1, "learnBits", "()Z"⟩
abbrev cX1_becomeJoin : ByteArray := prog_3_method_16_code
def yX1_becomeJoin : MethodName := ⟨RX1, "becomeJoin", "(LBitCongruences$Fact;LBitCongruences$Fact;)V"⟩
abbrev cX1_joinModulus : ByteArray := prog_3_method_17_code
def yX1_joinModulus : MethodName := ⟨RX1, "joinModulus", "(LBitCongruences$Fact;LBitCongruences$Fact;)J"⟩
abbrev cX1_becomeMeet : ByteArray := prog_3_method_18_code
def yX1_becomeMeet : MethodName := ⟨RX1, "becomeMeet", "(LBitCongruences$Fact;LBitCongruences$Fact;)V"⟩
abbrev cX1_becomeBitSum : ByteArray := prog_3_method_19_code
def yX1_becomeBitSum : MethodName := ⟨RX1, "becomeBitSum", "(JJJJJ)V"⟩
abbrev cX1_limit : ByteArray := prog_3_method_20_code
def yX1_limit : MethodName := ⟨RX1, "limit", "(JJJJ)V"⟩
def RX2 : String := "BitCongruences$Finder"
def TX2 : u_T := fun k => match k with
  | 0 => ("BitCongruences$Finder", "acts", "LBitCongruences$Acts;", true)
  | 1 => ("BitCongruences$Finder", "coming", "[LBitCongruences$Fact;", true)
  | 2 => ("BitCongruences$Finder", "scratch", "LBitCongruences$Fact;", true)
  | 3 => ("BitCongruences$Finder", "waiting", "[Z", true)
  | 4 => ("BitCongruences$Finder", "lessened", "[I", true)
  | _ => ("BitCongruences$Finder", "risen", "[I", true)
def tyX2 : Nat → FieldType := fun k => match k with
  | 0 => .object "BitCongruences$Acts"
  | 1 => .array (.object "BitCongruences$Fact")
  | 2 => .object "BitCongruences$Fact"
  | 3 => .array .boolean
  | 4 => .array .int
  | _ => .array .int
abbrev wsX20 : List Cond := u_ws RX2 TX2 6
theorem nmX2 : ∀ a, a < 6 → ∀ b, b < 6 → a ≠ b → (TX2 a).2.1 ≠ (TX2 b).2.1 := by decide +kernel
theorem tyX2_ok : ∀ k, k < 6 → parseFieldDescriptor (TX2 k).2.2.1 = some (tyX2 k) := by decide +kernel
abbrev cX2_init : ByteArray := prog_4_method_1_code
def yX2_init : MethodName := ⟨RX2, "<init>", "()V"⟩
abbrev cX2_begin : ByteArray := prog_4_method_2_code
def yX2_begin : MethodName := ⟨RX2, "begin", "(LBitCongruences$Routine;)V"⟩
abbrev cX2_someWait : ByteArray := prog_4_method_3_code
def yX2_someWait : MethodName := ⟨RX2, "someWait", "()Z"⟩
abbrev cX2_end : ByteArray := prog_4_method_4_code
def yX2_end : MethodName := ⟨RX2, "end", "(LBitCongruences$Routine;)V"⟩
abbrev cX2_reachAll : ByteArray := prog_4_method_5_code
def yX2_reachAll : MethodName := ⟨RX2, "reachAll", "(LBitCongruences$Routine;)V"⟩
abbrev cX2_workLine : ByteArray := prog_4_method_6_code
def yX2_workLine : MethodName := ⟨RX2, "workLine", "(LBitCongruences$Routine;LBitCongruences$Tables;I)V"⟩
abbrev cX2_fetch : ByteArray := prog_4_method_7_code
def yX2_fetch : MethodName := ⟨RX2, "fetch", "(LBitCongruences$Routine;I)V"⟩
abbrev cX2_lookUp : ByteArray := prog_4_method_8_code
def yX2_lookUp : MethodName := ⟨RX2, "lookUp", "(LBitCongruences$Tables;ILBitCongruences$Fact;LBitCongruences$Fact;)V"⟩
abbrev cX2_branch : ByteArray := prog_4_method_9_code
def yX2_branch : MethodName := ⟨RX2, "branch", "(LBitCongruences$Routine;IZ)V"⟩
abbrev cX2_learnBit : ByteArray := prog_4_method_10_code
def yX2_learnBit : MethodName := ⟨RX2, "learnBit", "(LBitCongruences$Fact;JZ)V"⟩
abbrev cX2_keepApart : ByteArray := prog_4_method_11_code
def yX2_keepApart : MethodName := ⟨RX2, "keepApart", "(LBitCongruences$Fact;LBitCongruences$Fact;LBitCongruences$Fact;)V"⟩
abbrev cX2_keepBelow : ByteArray := prog_4_method_12_code
def yX2_keepBelow : MethodName := ⟨RX2, "keepBelow", "(LBitCongruences$Fact;LBitCongruences$Fact;LBitCongruences$Fact;)V"⟩
abbrev cX2_keepAbove : ByteArray := prog_4_method_13_code
def yX2_keepAbove : MethodName := ⟨RX2, "keepAbove", "(LBitCongruences$Fact;LBitCongruences$Fact;LBitCongruences$Fact;)V"⟩
abbrev cX2_keepFrom : ByteArray := prog_4_method_14_code
def yX2_keepFrom : MethodName := ⟨RX2, "keepFrom", "(LBitCongruences$Fact;JLBitCongruences$Fact;)V"⟩
abbrev cX2_keepUpTo : ByteArray := prog_4_method_15_code
def yX2_keepUpTo : MethodName := ⟨RX2, "keepUpTo", "(LBitCongruences$Fact;JLBitCongruences$Fact;)V"⟩
abbrev cX2_send : ByteArray := prog_4_method_16_code
def yX2_send : MethodName := ⟨RX2, "send", "(LBitCongruences$Routine;I)V"⟩
abbrev cX2_someComeToNone : ByteArray := prog_4_method_17_code
def yX2_someComeToNone : MethodName := ⟨RX2, "someComeToNone", "()Z"⟩
abbrev cX2_merge : ByteArray := prog_4_method_18_code
def yX2_merge : MethodName := ⟨RX2, "merge", "(LBitCongruences$Routine;ILBitCongruences$Fact;)Z"⟩
def RX3 : String := "BitCongruences$Routine"
def TX3 : u_T := fun k => match k with
  | 0 => ("BitCongruences$Routine", "ops", "[I", true)
  | 1 => ("BitCongruences$Routine", "firsts", "[I", true)
  | 2 => ("BitCongruences$Routine", "seconds", "[I", true)
  | 3 => ("BitCongruences$Routine", "count", "I", false)
  | 4 => ("BitCongruences$Routine", "start", "[LBitCongruences$Fact;", true)
  | 5 => ("BitCongruences$Routine", "ahead", "[LBitCongruences$Fact;", true)
  | 6 => ("BitCongruences$Routine", "reached", "[Z", true)
  | 7 => ("BitCongruences$Routine", "isFound", "Z", false)
  | _ => ("BitCongruences$Routine", "widened", "I", false)
def tyX3 : Nat → FieldType := fun k => match k with
  | 0 => .array .int
  | 1 => .array .int
  | 2 => .array .int
  | 3 => .int
  | 4 => .array (.object "BitCongruences$Fact")
  | 5 => .array (.object "BitCongruences$Fact")
  | 6 => .array .boolean
  | 7 => .boolean
  | _ => .int
abbrev wsX30 : List Cond := u_ws RX3 TX3 9
theorem nmX3 : ∀ a, a < 9 → ∀ b, b < 9 → a ≠ b → (TX3 a).2.1 ≠ (TX3 b).2.1 := by decide +kernel
theorem tyX3_ok : ∀ k, k < 9 → parseFieldDescriptor (TX3 k).2.2.1 = some (tyX3 k) := by decide +kernel
abbrev cX3_init : ByteArray := prog_5_method_1_code
def yX3_init : MethodName := ⟨RX3, "<init>", "()V"⟩
abbrev cX3_addLine : ByteArray := prog_5_method_2_code
def yX3_addLine : MethodName := ⟨RX3, "addLine", "(III)V"⟩
abbrev cX3_allows : ByteArray := prog_5_method_3_code
def yX3_allows : MethodName := ⟨RX3, "allows", "([J)Z"⟩
abbrev cX3_reachedLines : ByteArray := prog_5_method_4_code
def yX3_reachedLines : MethodName := ⟨RX3, "reachedLines", "()I"⟩
abbrev cX3_givenUpLines : ByteArray := prog_5_method_5_code
def yX3_givenUpLines : MethodName := ⟨RX3, "givenUpLines", "()I"⟩
abbrev cX3_constants : ByteArray := prog_5_method_6_code
def yX3_constants : MethodName := ⟨RX3, "constants", "()I"⟩
def RX4 : String := "BitCongruences$Run"
def TX4 : u_T := fun k => match k with
  | 0 => ("BitCongruences$Run", "numbers", "[J", true)
  | 1 => ("BitCongruences$Run", "ended", "I", false)
  | 2 => ("BitCongruences$Run", "next", "I", false)
  | _ => ("BitCongruences$Run", "wrongAt", "I", false)
def tyX4 : Nat → FieldType := fun k => match k with
  | 0 => .array .long
  | 1 => .int
  | 2 => .int
  | _ => .int
abbrev wsX40 : List Cond := u_ws RX4 TX4 4
theorem nmX4 : ∀ a, a < 4 → ∀ b, b < 4 → a ≠ b → (TX4 a).2.1 ≠ (TX4 b).2.1 := by decide +kernel
theorem tyX4_ok : ∀ k, k < 4 → parseFieldDescriptor (TX4 k).2.2.1 = some (tyX4 k) := by decide +kernel
abbrev cX4_init : ByteArray := prog_6_method_1_code
def yX4_init : MethodName := ⟨RX4, "<init>", "()V"⟩
abbrev cX4_begin : ByteArray := prog_6_method_2_code
def yX4_begin : MethodName := ⟨RX4, "begin", "(LBitCongruences$Routine;LBitCongruences$Tables;[JI)I"⟩
abbrev cX4_look : ByteArray := prog_6_method_3_code
def yX4_look : MethodName := ⟨RX4, "look", "(LBitCongruences$Routine;)V"⟩
abbrev cX4_step : ByteArray := prog_6_method_4_code
def yX4_step : MethodName := ⟨RX4, "step", "(LBitCongruences$Routine;LBitCongruences$Tables;)I"⟩
abbrev cX4_lookUp : ByteArray := prog_6_method_5_code
def yX4_lookUp : MethodName := ⟨RX4, "lookUp", "(LBitCongruences$Tables;II)Z"⟩
abbrev cX4_compute : ByteArray := prog_6_method_6_code
def yX4_compute : MethodName := ⟨RX4, "compute", "(III)Z"⟩
def RX5 : String := "BitCongruences$Tables"
def TX5 : u_T := fun k => match k with
  | 0 => ("BitCongruences$Tables", "numbers", "[[J", true)
  | _ => ("BitCongruences$Tables", "sizes", "[I", true)
def tyX5 : Nat → FieldType := fun k => match k with
  | 0 => .array (.array .long)
  | _ => .array .int
abbrev wsX50 : List Cond := u_ws RX5 TX5 2
theorem nmX5 : ∀ a, a < 2 → ∀ b, b < 2 → a ≠ b → (TX5 a).2.1 ≠ (TX5 b).2.1 := by decide +kernel
theorem tyX5_ok : ∀ k, k < 2 → parseFieldDescriptor (TX5 k).2.2.1 = some (tyX5 k) := by decide +kernel
abbrev cX5_init : ByteArray := prog_7_method_1_code
def yX5_init : MethodName := ⟨RX5, "<init>", "()V"⟩
abbrev cX5_addNumber : ByteArray := prog_7_method_2_code
def yX5_addNumber : MethodName := ⟨RX5, "addNumber", "(IJ)V"⟩
abbrev cX5_has : ByteArray := prog_7_method_3_code
def yX5_has : MethodName := ⟨RX5, "has", "(IJ)Z"⟩
def RX6 : String := "BitCongruences"
def TX6 : u_T := fun k => match k with
  | 0 => ("BitCongruences", "facts", "[LBitCongruences$Fact;", true)
  | 1 => ("BitCongruences", "routines", "[LBitCongruences$Routine;", true)
  | 2 => ("BitCongruences", "routineCount", "I", false)
  | 3 => ("BitCongruences", "tables", "LBitCongruences$Tables;", true)
  | 4 => ("BitCongruences", "acts", "LBitCongruences$Acts;", true)
  | 5 => ("BitCongruences", "finder", "LBitCongruences$Finder;", true)
  | 6 => ("BitCongruences", "run", "LBitCongruences$Run;", true)
  | 7 => ("BitCongruences", "putIn", "[J", true)
  | 8 => ("BitCongruences", "besides", "LBitCongruences$Fact;", true)
  | _ => ("BitCongruences", "outcome", "LBitCongruences$Fact;", true)
def tyX6 : Nat → FieldType := fun k => match k with
  | 0 => .array (.object "BitCongruences$Fact")
  | 1 => .array (.object "BitCongruences$Routine")
  | 2 => .int
  | 3 => .object "BitCongruences$Tables"
  | 4 => .object "BitCongruences$Acts"
  | 5 => .object "BitCongruences$Finder"
  | 6 => .object "BitCongruences$Run"
  | 7 => .array .long
  | 8 => .object "BitCongruences$Fact"
  | _ => .object "BitCongruences$Fact"
abbrev wsX60 : List Cond := u_ws RX6 TX6 10
theorem nmX6 : ∀ a, a < 10 → ∀ b, b < 10 → a ≠ b → (TX6 a).2.1 ≠ (TX6 b).2.1 := by decide +kernel
theorem tyX6_ok : ∀ k, k < 10 → parseFieldDescriptor (TX6 k).2.2.1 = some (tyX6 k) := by decide +kernel
abbrev cX6_init : ByteArray := prog_1_method_1_code
def yX6_init : MethodName := ⟨RX6, "<init>", "()V"⟩
abbrev cX6_fact : ByteArray := prog_1_method_2_code
def yX6_fact : MethodName := ⟨RX6, "fact", "(IJJ)I"⟩
abbrev cX6_bits : ByteArray := prog_1_method_3_code
def yX6_bits : MethodName := ⟨RX6, "bits", "(IJJ)I"⟩
abbrev cX6_rest : ByteArray := prog_1_method_4_code
def yX6_rest : MethodName := ⟨RX6, "rest", "(IIJ)I"⟩
abbrev cX6_act : ByteArray := prog_1_method_5_code
def yX6_act : MethodName := ⟨RX6, "act", "(IIII)I"⟩
abbrev cX6_told : ByteArray := prog_1_method_6_code
def yX6_told : MethodName := ⟨RX6, "told", "(II)J"⟩
abbrev cX6_isOf : ByteArray := prog_1_method_7_code
def yX6_isOf : MethodName := ⟨RX6, "isOf", "(IJ)Z"⟩
abbrev cX6_method : ByteArray := prog_1_method_8_code
def yX6_method : MethodName := ⟨RX6, "method", "()I"⟩
abbrev cX6_op : ByteArray := prog_1_method_9_code
def yX6_op : MethodName := ⟨RX6, "op", "(IIII)I"⟩
abbrev cX6_table : ByteArray := prog_1_method_10_code
def yX6_table : MethodName := ⟨RX6, "table", "(IJ)I"⟩
abbrev cX6_given : ByteArray := prog_1_method_11_code
def yX6_given : MethodName := ⟨RX6, "given", "(III)I"⟩
abbrev cX6_find : ByteArray := prog_1_method_12_code
def yX6_find : MethodName := ⟨RX6, "find", "(I)I"⟩
abbrev cX6_found : ByteArray := prog_1_method_13_code
def yX6_found : MethodName := ⟨RX6, "found", "(IIII)I"⟩
abbrev cX6_sum : ByteArray := prog_1_method_14_code
def yX6_sum : MethodName := ⟨RX6, "sum", "(II)I"⟩
abbrev cX6_put : ByteArray := prog_1_method_15_code
def yX6_put : MethodName := ⟨RX6, "put", "(IJ)J"⟩
abbrev cX6_walk : ByteArray := prog_1_method_16_code
def yX6_walk : MethodName := ⟨RX6, "walk", "(II)I"⟩
abbrev cX6_now : ByteArray := prog_1_method_17_code
def yX6_now : MethodName := ⟨RX6, "now", "(I)J"⟩
abbrev cX6_ran : ByteArray := prog_1_method_18_code
def yX6_ran : MethodName := ⟨RX6, "ran", "(I)I"⟩
abbrev cX6_factAt : ByteArray := prog_1_method_19_code
def yX6_factAt : MethodName := ⟨RX6, "factAt", "(I)LBitCongruences$Fact;"⟩
abbrev cX6_routineAt : ByteArray := prog_1_method_20_code
def yX6_routineAt : MethodName := ⟨RX6, "routineAt", "(I)LBitCongruences$Routine;"⟩
abbrev cX6_meetBesides : ByteArray := prog_1_method_21_code
def yX6_meetBesides : MethodName := ⟨RX6, "meetBesides", "(LBitCongruences$Fact;)I"⟩
abbrev cX6_oneUnlessNone : ByteArray := prog_1_method_22_code
def yX6_oneUnlessNone : MethodName := ⟨RX6, "oneUnlessNone", "(LBitCongruences$Fact;)I"⟩
abbrev cX6_isPlace : ByteArray := prog_1_method_23_code
def yX6_isPlace : MethodName := ⟨RX6, "isPlace", "(I)Z"⟩
abbrev cX6_isLine : ByteArray := prog_1_method_24_code
def yX6_isLine : MethodName := ⟨RX6, "isLine", "(III)Z"⟩
abbrev cX6_restBy : ByteArray := prog_1_method_25_code
def yX6_restBy : MethodName := ⟨RX6, "restBy", "(JJ)J"⟩
abbrev cX6_commonDivisor : ByteArray := prog_1_method_26_code
def yX6_commonDivisor : MethodName := ⟨RX6, "commonDivisor", "(JJ)J"⟩
abbrev cX6_withoutTwos : ByteArray := prog_1_method_27_code
def yX6_withoutTwos : MethodName := ⟨RX6, "withoutTwos", "(J)J"⟩
abbrev cX6_oddPart : ByteArray := prog_1_method_28_code
def yX6_oddPart : MethodName := ⟨RX6, "oddPart", "(J)J"⟩
abbrev cX6_leastWithBits : ByteArray := prog_1_method_29_code
def yX6_leastWithBits : MethodName := ⟨RX6, "leastWithBits", "(JJJ)J"⟩
abbrev cX6_sumWraps : ByteArray := prog_1_method_30_code
def yX6_sumWraps : MethodName := ⟨RX6, "sumWraps", "(JJ)Z"⟩
abbrev cX6_differenceWraps : ByteArray := prog_1_method_31_code
def yX6_differenceWraps : MethodName := ⟨RX6, "differenceWraps", "(JJ)Z"⟩
abbrev cX6_productWraps : ByteArray := prog_1_method_32_code
def yX6_productWraps : MethodName := ⟨RX6, "productWraps", "(JJ)Z"⟩
def RX7 : String := "BitCongruencesModel"
def TX7 : u_T := fun k => match k with
  | 0 => ("BitCongruencesModel", "none", "[Z", true)
  | 1 => ("BitCongruencesModel", "low", "[J", true)
  | 2 => ("BitCongruencesModel", "high", "[J", true)
  | 3 => ("BitCongruencesModel", "known", "[J", true)
  | 4 => ("BitCongruencesModel", "value", "[J", true)
  | 5 => ("BitCongruencesModel", "by", "[J", true)
  | 6 => ("BitCongruencesModel", "rest", "[J", true)
  | 7 => ("BitCongruencesModel", "is", "Z", false)
  | 8 => ("BitCongruencesModel", "givenUp", "Z", false)
  | 9 => ("BitCongruencesModel", "methods", "I", false)
  | 10 => ("BitCongruencesModel", "lines", "[I", true)
  | 11 => ("BitCongruencesModel", "opOf", "[I", true)
  | 12 => ("BitCongruencesModel", "first", "[I", true)
  | 13 => ("BitCongruencesModel", "second", "[I", true)
  | 14 => ("BitCongruencesModel", "tableSize", "[I", true)
  | 15 => ("BitCongruencesModel", "tables", "[J", true)
  | 16 => ("BitCongruencesModel", "isFound", "[Z", true)
  | 17 => ("BitCongruencesModel", "reached", "[Z", true)
  | 18 => ("BitCongruencesModel", "made", "[I", true)
  | 19 => ("BitCongruencesModel", "waits", "[Z", true)
  | 20 => ("BitCongruencesModel", "lesser", "[I", true)
  | 21 => ("BitCongruencesModel", "greater", "[I", true)
  | 22 => ("BitCongruencesModel", "input", "[J", true)
  | 23 => ("BitCongruencesModel", "now", "[J", true)
  | 24 => ("BitCongruencesModel", "runEnd", "I", false)
  | 25 => ("BitCongruencesModel", "runLine", "I", false)
  | _ => ("BitCongruencesModel", "missed", "I", false)
def tyX7 : Nat → FieldType := fun k => match k with
  | 0 => .array .boolean
  | 1 => .array .long
  | 2 => .array .long
  | 3 => .array .long
  | 4 => .array .long
  | 5 => .array .long
  | 6 => .array .long
  | 7 => .boolean
  | 8 => .boolean
  | 9 => .int
  | 10 => .array .int
  | 11 => .array .int
  | 12 => .array .int
  | 13 => .array .int
  | 14 => .array .int
  | 15 => .array .long
  | 16 => .array .boolean
  | 17 => .array .boolean
  | 18 => .array .int
  | 19 => .array .boolean
  | 20 => .array .int
  | 21 => .array .int
  | 22 => .array .long
  | 23 => .array .long
  | 24 => .int
  | 25 => .int
  | _ => .int
abbrev wsX70 : List Cond := u_ws RX7 TX7 27
theorem nmX7 : ∀ a, a < 27 → ∀ b, b < 27 → a ≠ b → (TX7 a).2.1 ≠ (TX7 b).2.1 := by decide +kernel
theorem tyX7_ok : ∀ k, k < 27 → parseFieldDescriptor (TX7 k).2.2.1 = some (tyX7 k) := by decide +kernel
abbrev cX7_init : ByteArray := prog_9_method_1_code
def yX7_init : MethodName := ⟨RX7, "<init>", "()V"⟩
abbrev cX7_in : ByteArray := prog_9_method_2_code
def yX7_in : MethodName := ⟨RX7, "in", "(JJJ)Z"⟩
abbrev cX7_rem : ByteArray := prog_9_method_3_code
def yX7_rem : MethodName := ⟨RX7, "rem", "(JJ)J"⟩
abbrev cX7_more : ByteArray := prog_9_method_4_code
def yX7_more : MethodName := ⟨RX7, "more", "(JJ)J"⟩
abbrev cX7_less : ByteArray := prog_9_method_5_code
def yX7_less : MethodName := ⟨RX7, "less", "(JJ)J"⟩
abbrev cX7_all : ByteArray := prog_9_method_6_code
def yX7_all : MethodName := ⟨RX7, "all", "(I)V"⟩
abbrev cX7_nothing : ByteArray := prog_9_method_7_code
def yX7_nothing : MethodName := ⟨RX7, "nothing", "(I)V"⟩
abbrev cX7_number : ByteArray := prog_9_method_8_code
def yX7_number : MethodName := ⟨RX7, "number", "(IJ)V"⟩
abbrev cX7_copy : ByteArray := prog_9_method_9_code
def yX7_copy : MethodName := ⟨RX7, "copy", "(II)V"⟩
abbrev cX7_isNumber : ByteArray := prog_9_method_10_code
def yX7_isNumber : MethodName := ⟨RX7, "isNumber", "(I)Z"⟩
abbrev cX7_alike : ByteArray := prog_9_method_11_code
def yX7_alike : MethodName := ⟨RX7, "alike", "(II)Z"⟩
abbrev cX7_isIn : ByteArray := prog_9_method_12_code
def yX7_isIn : MethodName := ⟨RX7, "isIn", "(IJ)Z"⟩
abbrev cX7_up : ByteArray := prog_9_method_13_code
def yX7_up : MethodName := ⟨RX7, "up", "(JJJ)J"⟩
abbrev cX7_down : ByteArray := prog_9_method_14_code
def yX7_down : MethodName := ⟨RX7, "down", "(JJJ)J"⟩
abbrev cX7_sharpen : ByteArray := prog_9_method_15_code
def yX7_sharpen : MethodName := ⟨RX7, "sharpen", "(I)V"⟩
abbrev cX7_byBits : ByteArray := prog_9_method_16_code
def yX7_byBits : MethodName := ⟨RX7, "byBits", "(I)Z"⟩
abbrev cX7_byRest : ByteArray := prog_9_method_17_code
def yX7_byRest : MethodName := ⟨RX7, "byRest", "(I)Z"⟩
abbrev cX7_byEnds : ByteArray := prog_9_method_18_code
def yX7_byEnds : MethodName := ⟨RX7, "byEnds", "(I)Z"⟩
abbrev cX7_odd : ByteArray := prog_9_method_19_code
def yX7_odd : MethodName := ⟨RX7, "odd", "(J)J"⟩
abbrev cX7_common : ByteArray := prog_9_method_20_code
def yX7_common : MethodName := ⟨RX7, "common", "(JJ)J"⟩
abbrev cX7_left : ByteArray := prog_9_method_21_code
def yX7_left : MethodName := ⟨RX7, "left", "(JJ)J"⟩
abbrev cX7_byOf : ByteArray := prog_9_method_22_code
def yX7_byOf : MethodName := ⟨RX7, "byOf", "(I)J"⟩
abbrev cX7_restOf : ByteArray := prog_9_method_23_code
def yX7_restOf : MethodName := ⟨RX7, "restOf", "(I)J"⟩
abbrev cX7_setRest : ByteArray := prog_9_method_24_code
def yX7_setRest : MethodName := ⟨RX7, "setRest", "(IJJ)V"⟩
abbrev cX7_join : ByteArray := prog_9_method_25_code
def yX7_join : MethodName := ⟨RX7, "join", "(III)V"⟩
abbrev cX7_put : ByteArray := prog_9_method_26_code
def yX7_put : MethodName := ⟨RX7, "put", "(IJJJJ)V"⟩
abbrev cX7_meet : ByteArray := prog_9_method_27_code
def yX7_meet : MethodName := ⟨RX7, "meet", "(III)V"⟩
abbrev cX7_reckon : ByteArray := prog_9_method_28_code
def yX7_reckon : MethodName := ⟨RX7, "reckon", "(IJJ)J"⟩
abbrev cX7_alone : ByteArray := prog_9_method_29_code
def yX7_alone : MethodName := ⟨RX7, "alone", "(IJ)J"⟩
abbrev cX7_does : ByteArray := prog_9_method_30_code
def yX7_does : MethodName := ⟨RX7, "does", "(IIII)V"⟩
abbrev cX7_turn : ByteArray := prog_9_method_31_code
def yX7_turn : MethodName := ⟨RX7, "turn", "(II)V"⟩
abbrev cX7_ripple : ByteArray := prog_9_method_32_code
def yX7_ripple : MethodName := ⟨RX7, "ripple", "(IIZI)V"⟩
abbrev cX7_bit : ByteArray := prog_9_method_33_code
def yX7_bit : MethodName := ⟨RX7, "bit", "(II)I"⟩
abbrev cX7_add : ByteArray := prog_9_method_34_code
def yX7_add : MethodName := ⟨RX7, "add", "(IIZ)V"⟩
abbrev cX7_isOver : ByteArray := prog_9_method_35_code
def yX7_isOver : MethodName := ⟨RX7, "isOver", "(JJJ)Z"⟩
abbrev cX7_multiply : ByteArray := prog_9_method_36_code
def yX7_multiply : MethodName := ⟨RX7, "multiply", "()V"⟩
abbrev cX7_oddProduct : ByteArray := prog_9_method_37_code
def yX7_oddProduct : MethodName := ⟨RX7, "oddProduct", "()J"⟩
abbrev cX7_bitwise : ByteArray := prog_9_method_38_code
def yX7_bitwise : MethodName := ⟨RX7, "bitwise", "(I)V"⟩
abbrev cX7_shift : ByteArray := prog_9_method_39_code
def yX7_shift : MethodName := ⟨RX7, "shift", "(I)V"⟩
abbrev cX7_move : ByteArray := prog_9_method_40_code
def yX7_move : MethodName := ⟨RX7, "move", "(II)V"⟩
abbrev cX7_divide : ByteArray := prog_9_method_41_code
def yX7_divide : MethodName := ⟨RX7, "divide", "(I)V"⟩
abbrev cX7_narrow : ByteArray := prog_9_method_42_code
def yX7_narrow : MethodName := ⟨RX7, "narrow", "(I)V"⟩
abbrev cX7_isFact : ByteArray := prog_9_method_43_code
def yX7_isFact : MethodName := ⟨RX7, "isFact", "(I)Z"⟩
abbrev cX7_fact : ByteArray := prog_9_method_44_code
def yX7_fact : MethodName := ⟨RX7, "fact", "(IJJ)I"⟩
abbrev cX7_bits : ByteArray := prog_9_method_45_code
def yX7_bits : MethodName := ⟨RX7, "bits", "(IJJ)I"⟩
abbrev cX7_rest : ByteArray := prog_9_method_46_code
def yX7_rest : MethodName := ⟨RX7, "rest", "(IIJ)I"⟩
abbrev cX7_act : ByteArray := prog_9_method_47_code
def yX7_act : MethodName := ⟨RX7, "act", "(IIII)I"⟩
abbrev cX7_told : ByteArray := prog_9_method_48_code
def yX7_told : MethodName := ⟨RX7, "told", "(II)J"⟩
abbrev cX7_isOf : ByteArray := prog_9_method_49_code
def yX7_isOf : MethodName := ⟨RX7, "isOf", "(IJ)Z"⟩
abbrev cX7_method : ByteArray := prog_9_method_50_code
def yX7_method : MethodName := ⟨RX7, "method", "()I"⟩
abbrev cX7_isMethod : ByteArray := prog_9_method_51_code
def yX7_isMethod : MethodName := ⟨RX7, "isMethod", "(I)Z"⟩
abbrev cX7_isPlace : ByteArray := prog_9_method_52_code
def yX7_isPlace : MethodName := ⟨RX7, "isPlace", "(I)Z"⟩
abbrev cX7_isLine : ByteArray := prog_9_method_53_code
def yX7_isLine : MethodName := ⟨RX7, "isLine", "(III)Z"⟩
abbrev cX7_op : ByteArray := prog_9_method_54_code
def yX7_op : MethodName := ⟨RX7, "op", "(IIII)I"⟩
abbrev cX7_table : ByteArray := prog_9_method_55_code
def yX7_table : MethodName := ⟨RX7, "table", "(IJ)I"⟩
abbrev cX7_given : ByteArray := prog_9_method_56_code
def yX7_given : MethodName := ⟨RX7, "given", "(III)I"⟩
abbrev cX7_cell : ByteArray := prog_9_method_57_code
def yX7_cell : MethodName := ⟨RX7, "cell", "(III)I"⟩
abbrev cX7_find : ByteArray := prog_9_method_58_code
def yX7_find : MethodName := ⟨RX7, "find", "(I)I"⟩
abbrev cX7_some : ByteArray := prog_9_method_59_code
def yX7_some : MethodName := ⟨RX7, "some", "(I)Z"⟩
abbrev cX7_ready : ByteArray := prog_9_method_60_code
def yX7_ready : MethodName := ⟨RX7, "ready", "()V"⟩
abbrev cX7_work : ByteArray := prog_9_method_61_code
def yX7_work : MethodName := ⟨RX7, "work", "(II)V"⟩
abbrev cX7_look : ByteArray := prog_9_method_62_code
def yX7_look : MethodName := ⟨RX7, "look", "(II)V"⟩
abbrev cX7_asked : ByteArray := prog_9_method_63_code
def yX7_asked : MethodName := ⟨RX7, "asked", "(IIIZ)V"⟩
abbrev cX7_apart : ByteArray := prog_9_method_64_code
def yX7_apart : MethodName := ⟨RX7, "apart", "(III)V"⟩
abbrev cX7_atMost : ByteArray := prog_9_method_65_code
def yX7_atMost : MethodName := ⟨RX7, "atMost", "(IZJI)V"⟩
abbrev cX7_atLeast : ByteArray := prog_9_method_66_code
def yX7_atLeast : MethodName := ⟨RX7, "atLeast", "(IZJI)V"⟩
abbrev cX7_goTo : ByteArray := prog_9_method_67_code
def yX7_goTo : MethodName := ⟨RX7, "goTo", "(II)V"⟩
abbrev cX7_widen : ByteArray := prog_9_method_68_code
def yX7_widen : MethodName := ⟨RX7, "widen", "(III)V"⟩
abbrev cX7_found : ByteArray := prog_9_method_69_code
def yX7_found : MethodName := ⟨RX7, "found", "(IIII)I"⟩
abbrev cX7_sum : ByteArray := prog_9_method_70_code
def yX7_sum : MethodName := ⟨RX7, "sum", "(II)I"⟩
abbrev cX7_gives : ByteArray := prog_9_method_71_code
def yX7_gives : MethodName := ⟨RX7, "gives", "(II)I"⟩
abbrev cX7_numbers : ByteArray := prog_9_method_72_code
def yX7_numbers : MethodName := ⟨RX7, "numbers", "(II)I"⟩
abbrev cX7_put_ : ByteArray := prog_9_method_73_code
def yX7_put_ : MethodName := ⟨RX7, "put", "(IJ)J"⟩
abbrev cX7_walk : ByteArray := prog_9_method_74_code
def yX7_walk : MethodName := ⟨RX7, "walk", "(II)I"⟩
abbrev cX7_check : ByteArray := prog_9_method_75_code
def yX7_check : MethodName := ⟨RX7, "check", "(I)V"⟩
abbrev cX7_line : ByteArray := prog_9_method_76_code
def yX7_line : MethodName := ⟨RX7, "line", "(I)Z"⟩
abbrev cX7_now : ByteArray := prog_9_method_77_code
def yX7_now : MethodName := ⟨RX7, "now", "(I)J"⟩
abbrev cX7_ran : ByteArray := prog_9_method_78_code
def yX7_ran : MethodName := ⟨RX7, "ran", "(I)I"⟩
def RJ13 : String := "java/lang/Long"
abbrev cJ13_bitCount_95d88 : ByteArray := prog_10_method_50_code
def yJ13_bitCount_95d88 : MethodName := ⟨RJ13, "bitCount", "(J)I"⟩
def RJ9 : String := "java/lang/Math"
abbrev cJ9_abs_067f4 : ByteArray := prog_11_method_61_code
def yJ9_abs_067f4 : MethodName := ⟨RJ9, "abs", "(J)J"⟩
abbrev cJ9_max_f86c9 : ByteArray := prog_11_method_66_code
def yJ9_max_f86c9 : MethodName := ⟨RJ9, "max", "(JJ)J"⟩
abbrev cJ9_min_7cf53 : ByteArray := prog_11_method_69_code
def yJ9_min_7cf53 : MethodName := ⟨RJ9, "min", "(II)I"⟩
abbrev cJ9_min_f86c9 : ByteArray := prog_11_method_70_code
def yJ9_min_f86c9 : MethodName := ⟨RJ9, "min", "(JJ)J"⟩
def RL : String := "BitCongruencesLaw"
abbrev vwCl : List vw_C := [(RX0, TX0, 2), (RX1, TX1, 7), (RX2, TX2, 6), (RX3, TX3, 9), (RX4, TX4, 4), (RX5, TX5, 2), (RX6, TX6, 10), (RX7, TX7, 27)]
theorem inX0 : ∀ w ∈ wsX00, w ∈ lw_tbl := by decide +kernel
theorem inX1 : ∀ w ∈ wsX10, w ∈ lw_tbl := by decide +kernel
theorem inX2 : ∀ w ∈ wsX20, w ∈ lw_tbl := by decide +kernel
theorem inX3 : ∀ w ∈ wsX30, w ∈ lw_tbl := by decide +kernel
theorem inX4 : ∀ w ∈ wsX40, w ∈ lw_tbl := by decide +kernel
theorem inX5 : ∀ w ∈ wsX50, w ∈ lw_tbl := by decide +kernel
theorem inX6 : ∀ w ∈ wsX60, w ∈ lw_tbl := by decide +kernel
theorem inX7 : ∀ w ∈ wsX70, w ∈ lw_tbl := by decide +kernel
end
section
/-! LABELS AND MEMORY. Objects and arrays are numbered in the order in which they are made (0: the script; new ones are M.1 + 1); what a reference field or a place of an array of references holds, once it is set, is a fixed label; M: how many there are, which references are set, the ints (and booleans), the longs. -/
abbrev Mem : Type := Nat × (Nat → Nat → Bool) × (Nat → Nat → Int32) × (Nat → Nat → Int64)
def mK (M : Mem) : Nat := M.1
def mB (M : Mem) (a k : Nat) : Bool := M.2.1 a k
def mI (M : Mem) (a k : Nat) : Int32 := M.2.2.1 a k
def mL (M : Mem) (a k : Nat) : Int64 := M.2.2.2 a k
def u2 {α : Type} (f : Nat → Nat → α) (a k : Nat) (v : α) : Nat → Nat → α := fun b j => if b = a ∧ j = k then v else f b j
def uB (M : Mem) (a k : Nat) : Mem := (M.1, u2 M.2.1 a k true, M.2.2.1, M.2.2.2)
def uI (M : Mem) (a k : Nat) (v : Int32) : Mem := (M.1, M.2.1, u2 M.2.2.1 a k v, M.2.2.2)
def uL (M : Mem) (a k : Nat) (v : Int64) : Mem := (M.1, M.2.1, M.2.2.1, u2 M.2.2.2 a k v)
def mN (M : Mem) : Mem := (M.1 + 1, fun b j => if b = M.1 + 1 then false else M.2.1 b j, fun b j => if b = M.1 + 1 then 0 else M.2.2.1 b j, fun b j => if b = M.1 + 1 then 0 else M.2.2.2 b j)
/-- kind (1 .. 8: an object of class kind - 1 of vwCl; 20 int[], 21 boolean[], 22 long[], 23 .. 26 Fact[], 27 Routine[], 28 long[][]) and length -/
def SHt : List (Nat × Nat) := [(0, 0), (7, 0), (23, 16), (27, 6), (6, 0), (28, 4), (22, 16), (22, 16), (22, 16), (22, 16), (20, 4), (1, 0), (2, 0), (2, 0), (3, 0), (1, 0), (2, 0), (2, 0), (24, 8), (2, 0), (21, 32), (20, 256), (20, 256), (2, 0), (2, 0), (2, 0), (2, 0), (2, 0), (2, 0), (2, 0), (2, 0), (5, 0), (22, 8), (22, 8), (2, 0), (2, 0), (2, 0), (2, 0), (2, 0), (2, 0), (2, 0), (2, 0), (2, 0), (2, 0), (2, 0), (2, 0), (2, 0), (2, 0), (2, 0), (2, 0), (2, 0), (2, 0), (8, 0), (21, 1648), (22, 1648), (22, 1648), (22, 1648), (22, 1648), (22, 1648), (22, 1648), (20, 6), (20, 192), (20, 192), (20, 192), (20, 4), (22, 64), (21, 6), (21, 192), (20, 6), (21, 32), (20, 256), (20, 256), (22, 8), (22, 8)]
def SHr (o : Nat) : Nat × Nat := match o with
  | 0 => (4, 0)
  | 1 => (20, 32)
  | 2 => (20, 32)
  | 3 => (20, 32)
  | 4 => (25, 8)
  | 5 => (26, 256)
  | 6 => (21, 32)
  | _ => (2, 0)
def SH (a : Nat) : Nat × Nat := if a < 74 then SHt.getD a (0, 0) else if (a - 74) / 271 < 6 then SHr ((a - 74) % 271) else (0, 0)
/-- a field: 0 int, 1 long, 2 a reference to the label that is so much more, 3 boolean -/
def FTt : List (List (Nat × Nat)) := [[(2, 1), (2, 2)], [(3, 0), (1, 0), (1, 0), (1, 0), (1, 0), (1, 0), (1, 0)], [(2, 1), (2, 4), (2, 5), (2, 6), (2, 7), (2, 8)], [(2, 1), (2, 2), (2, 3), (0, 0), (2, 4), (2, 5), (2, 6), (3, 0), (0, 0)], [(2, 1), (0, 0), (0, 0), (0, 0)], [(2, 1), (2, 6)], [(2, 1), (2, 2), (0, 0), (2, 3), (2, 10), (2, 13), (2, 30), (2, 32), (2, 33), (2, 34)], [(2, 1), (2, 2), (2, 3), (2, 4), (2, 5), (2, 6), (2, 7), (3, 0), (3, 0), (0, 0), (2, 8), (2, 9), (2, 10), (2, 11), (2, 12), (2, 13), (2, 14), (2, 15), (2, 16), (2, 17), (2, 18), (2, 19), (2, 20), (2, 21), (0, 0), (0, 0), (0, 0)]]
def ft (c k : Nat) : Nat × Nat := (FTt.getD c []).getD k (0, 0)
/-- what a set place of an array of references holds -/
def el (kd a j : Nat) : Nat := match kd with
  | 23 => a + 34 + j
  | 24 => a + 5 + j
  | 25 => a + 3 + j
  | 26 => a + 10 + j
  | 27 => 74 + 271 * j
  | _ => a + 1 + j
def fvl (M : Mem) (c a k : Nat) : Value := match (ft c k).1 with
  | 1 => .long (mL M a k)
  | 2 => if mB M a k = true then .ref (a + (ft c k).2) else .null
  | _ => .int (mI M a k)
def avl (M : Mem) (kd a j : Nat) : Value := if kd < 22 then .int (mI M a j) else if kd = 22 then .long (mL M a j) else if mB M a j = true then .ref (el kd a j) else .null
/-- the first new address; the script's; the classes' numbers and slots; the array classes' numbers, by kind -/
abbrev Ctx : Type := Nat × Nat × va_G × (Nat → ClassId)
def ad (G : Ctx) : Nat → Nat
  | 0 => G.2.1
  | a + 1 => G.1 + a
def cv (G : Ctx) (v : Value) : Value := match v with
  | .ref a => .ref (ad G a)
  | v => v
def aty (kd : Nat) : FieldType := match kd with
  | 20 => .int
  | 21 => .boolean
  | 22 => .long
  | 27 => .object RX3
  | 28 => .array .long
  | _ => .object RX1
def cAt (G : Ctx) (M : Mem) (H : Heap) (a : Nat) : Prop :=
  (∀ (c : Nat) (r : vw_C), (SH a).1 = c + 1 → vwCl[c]? = some r → t_OB (ad G a) (G.2.2.1.1 c) r.2.2 (G.2.2.1.2 c) H (fun j => cv G (fvl M c a j))) ∧
  (20 ≤ (SH a).1 → H[ad G a]? = some (arrV (G.2.2.2 (SH a).1) (SH a).2 (fun j => cv G (avl M (SH a).1 a j))))
/-- where booleans lie -/
def bl (a k : Nat) : Bool := decide ((SH a).1 = 21) || decide ((ft ((SH a).1 - 1) k).1 = 3)
def Bz (M : Mem) : Prop := ∀ a k, bl a k = true → mI M a k = 0 ∨ mI M a k = 1
/-- the heap holds the memory, and its booleans are 0 or 1 -/
def Rep (G : Ctx) (M : Mem) (H : Heap) : Prop := H.size = G.1 + mK M ∧ (∀ a, 0 < a → a ≤ mK M → cAt G M H a) ∧ Bz M
theorem cv_cat (G : Ctx) (v : Value) : (cv G v).category = v.category := by cases v <;> rfl
theorem ad_pos {G : Ctx} {a : Nat} (h : 0 < a) : ad G a = G.1 + (a - 1) := by
  cases a with
  | zero => omega
  | succ n => rfl
theorem ad_inj {G : Ctx} {a b : Nat} (ha : 0 < a) (hb : 0 < b) (h : ad G a = ad G b) : a = b := by
  rw [ad_pos ha, ad_pos hb] at h; omega
/-- what the tables say, at any state -/
def isNest (w : Cond) : Bool := match w with
  | .methodLinkNest _ _ _ _ => true
  | _ => false
def nestWs : List Cond := lw_tbl.filter isNest
def KS (G : Ctx) (U : State) : Prop := va_K G.2.2.1 vwCl [] U ∧ (∀ kd, 20 ≤ kd → kd ≤ 28 → ArrOfT U (G.2.2.2 kd) (aty kd) ∧ va_RA U (G.2.2.2 kd) (aty kd)) ∧ (∀ w ∈ nestWs, va_Nw w U) ∧ va_AO RX1 U ∧ va_AO RX3 U ∧ (Cond.arrayOver (.array .long)).before #[] U = true
def TB : List Cond := lw_tbl.filter goodWord
theorem TB_good {w : Cond} (h : w ∈ TB) : w ∈ lw_tbl ∧ goodWord w = true := List.mem_filter.mp h
theorem TB_in {w : Cond} (h : w ∈ lw_tbl) (g : goodWord w = true) : w ∈ TB := List.mem_filter.mpr ⟨h, g⟩
theorem inTB {ws : List Cond} (h : ∀ w ∈ ws, w ∈ lw_tbl) (g : ws.all goodWord = true) : ∀ w ∈ ws, w ∈ TB := fun w hw => TB_in (h w hw) (List.all_eq_true.mp g w hw)
theorem tbX0 : ∀ w ∈ wsX00, w ∈ TB := inTB inX0 (by decide +kernel)
theorem tbX1 : ∀ w ∈ wsX10, w ∈ TB := inTB inX1 (by decide +kernel)
theorem tbX2 : ∀ w ∈ wsX20, w ∈ TB := inTB inX2 (by decide +kernel)
theorem tbX3 : ∀ w ∈ wsX30, w ∈ TB := inTB inX3 (by decide +kernel)
theorem tbX4 : ∀ w ∈ wsX40, w ∈ TB := inTB inX4 (by decide +kernel)
theorem tbX5 : ∀ w ∈ wsX50, w ∈ TB := inTB inX5 (by decide +kernel)
theorem tbX6 : ∀ w ∈ wsX60, w ∈ TB := inTB inX6 (by decide +kernel)
theorem tbX7 : ∀ w ∈ wsX70, w ∈ TB := inTB inX7 (by decide +kernel)
def tyc (c k : Nat) : FieldType := match c with
  | 0 => tyX0 k
  | 1 => tyX1 k
  | 2 => tyX2 k
  | 3 => tyX3 k
  | 4 => tyX4 k
  | 5 => tyX5 k
  | 6 => tyX6 k
  | _ => tyX7 k
/-- the classes' own tables, by number -/
theorem clOK {c : Nat} {r : vw_C} (h : vwCl[c]? = some r) : (∀ w ∈ u_ws r.1 r.2.1 r.2.2, w ∈ TB) ∧ (∀ k, k < r.2.2 → parseFieldDescriptor (r.2.1 k).2.2.1 = some (tyc c k)) ∧ (∀ a, a < r.2.2 → ∀ b, b < r.2.2 → a ≠ b → (r.2.1 a).2.1 ≠ (r.2.1 b).2.1) := by
  match c, h with
  | 0, h => cases h; exact ⟨tbX0, tyX0_ok, nmX0⟩
  | 1, h => cases h; exact ⟨tbX1, tyX1_ok, nmX1⟩
  | 2, h => cases h; exact ⟨tbX2, tyX2_ok, nmX2⟩
  | 3, h => cases h; exact ⟨tbX3, tyX3_ok, nmX3⟩
  | 4, h => cases h; exact ⟨tbX4, tyX4_ok, nmX4⟩
  | 5, h => cases h; exact ⟨tbX5, tyX5_ok, nmX5⟩
  | 6, h => cases h; exact ⟨tbX6, tyX6_ok, nmX6⟩
  | 7, h => cases h; exact ⟨tbX7, tyX7_ok, nmX7⟩
  | k + 8, h => simp [vwCl] at h
/-- a field's kind and its type are one -/
def tagOK (t : Nat) (ty : FieldType) : Bool := match t, ty with
  | 0, .int => true
  | 1, .long => true
  | 3, .boolean => true
  | 2, .object _ => true
  | 2, .array _ => true
  | _, _ => false
theorem tags_ok : (List.range 8).all (fun c => (List.range ((vwCl.getD c ("", fun _ => ("", "", "", false), 0)).2.2)).all (fun k => tagOK (ft c k).1 (tyc c k))) = true := by decide +kernel
theorem tag_of {c k : Nat} {r : vw_C} (h : vwCl[c]? = some r) (hk : k < r.2.2) : tagOK (ft c k).1 (tyc c k) = true := by
  have hc : c < 8 := (List.getElem?_eq_some_iff.mp h).1
  have h1 := List.all_eq_true.mp tags_ok c (List.mem_range.mpr hc)
  have h2 : vwCl.getD c ("", fun _ => ("", "", "", false), 0) = r := by rw [List.getD_eq_getElem?_getD, h]; rfl
  rw [h2] at h1
  exact List.all_eq_true.mp h1 k (List.mem_range.mpr hk)
end
section
theorem tw_of {w : Cond} (i : Nat) (h : lw_tbl[i]? = some w) (g : goodWord w = true) : w ∈ TB := TB_in (List.mem_of_getElem? h) g
theorem tn_of {w : Cond} (i : Nat) (h : lw_tbl[i]? = some w) (g : isNest w = true) : w ∈ nestWs := List.mem_filter.mpr ⟨List.mem_of_getElem? h, g⟩
theorem tw0 : (Cond.selects "BitCongruences" yX6_factAt yX6_factAt) ∈ TB := tw_of 0 (by decide +kernel) rfl
theorem tw1 : (Cond.selects "BitCongruences$Fact" yX1_fitBits yX1_fitBits) ∈ TB := tw_of 1 (by decide +kernel) rfl
theorem tw2 : (Cond.selects "BitCongruences$Fact" yX1_fitRest yX1_fitRest) ∈ TB := tw_of 2 (by decide +kernel) rfl
theorem tw3 : (Cond.selects "BitCongruences$Fact" yX1_learnBits yX1_learnBits) ∈ TB := tw_of 3 (by decide +kernel) rfl
theorem tw4 : (Cond.selects "BitCongruences" yX6_meetBesides yX6_meetBesides) ∈ TB := tw_of 4 (by decide +kernel) rfl
theorem tw5 : (Cond.selects "BitCongruences$Acts" yX0_shifted yX0_shifted) ∈ TB := tw_of 5 (by decide +kernel) rfl
theorem tw6 : (Cond.selects "BitCongruences$Acts" yX0_move yX0_move) ∈ TB := tw_of 6 (by decide +kernel) rfl
theorem tw7 : (Cond.selects "BitCongruences$Acts" yX0_moveLeft yX0_moveLeft) ∈ TB := tw_of 7 (by decide +kernel) rfl
theorem tw8 : (Cond.selects "BitCongruences$Acts" yX0_moveRightZeros yX0_moveRightZeros) ∈ TB := tw_of 8 (by decide +kernel) rfl
theorem tw9 : (Cond.selects "BitCongruences" yX6_routineAt yX6_routineAt) ∈ TB := tw_of 9 (by decide +kernel) rfl
theorem tw10 : (Cond.selects "BitCongruences$Finder" yX2_send yX2_send) ∈ TB := tw_of 10 (by decide +kernel) rfl
theorem tw11 : (Cond.selects "BitCongruences$Finder" yX2_someComeToNone yX2_someComeToNone) ∈ TB := tw_of 11 (by decide +kernel) rfl
theorem tw12 : (Cond.selects "BitCongruences$Finder" yX2_merge yX2_merge) ∈ TB := tw_of 12 (by decide +kernel) rfl
theorem tw13 : (Cond.selects "BitCongruences$Finder" yX2_fetch yX2_fetch) ∈ TB := tw_of 13 (by decide +kernel) rfl
theorem tw14 : (Cond.selects "BitCongruences$Finder" yX2_lookUp yX2_lookUp) ∈ TB := tw_of 14 (by decide +kernel) rfl
theorem tw15 : (Cond.selects "BitCongruences$Finder" yX2_branch yX2_branch) ∈ TB := tw_of 15 (by decide +kernel) rfl
theorem tw16 : (Cond.selects "BitCongruences$Run" yX4_look yX4_look) ∈ TB := tw_of 16 (by decide +kernel) rfl
theorem tw17 : (Cond.selects "BitCongruences$Run" yX4_step yX4_step) ∈ TB := tw_of 17 (by decide +kernel) rfl
theorem tw18 : (Cond.selects "BitCongruences$Run" yX4_lookUp yX4_lookUp) ∈ TB := tw_of 18 (by decide +kernel) rfl
theorem tw19 : (Cond.selects "BitCongruences$Run" yX4_compute yX4_compute) ∈ TB := tw_of 19 (by decide +kernel) rfl
theorem tw20 : (Cond.selects "BitCongruencesModel" yX7_all yX7_all) ∈ TB := tw_of 20 (by decide +kernel) rfl
theorem tw21 : (Cond.selects "BitCongruencesModel" yX7_put yX7_put) ∈ TB := tw_of 21 (by decide +kernel) rfl
theorem tw22 : (Cond.selects "BitCongruencesModel" yX7_nothing yX7_nothing) ∈ TB := tw_of 22 (by decide +kernel) rfl
theorem tw23 : (Cond.selects "BitCongruencesModel" yX7_sharpen yX7_sharpen) ∈ TB := tw_of 23 (by decide +kernel) rfl
theorem tw24 : (Cond.selects "BitCongruencesModel" yX7_byBits yX7_byBits) ∈ TB := tw_of 24 (by decide +kernel) rfl
theorem tw25 : (Cond.selects "BitCongruencesModel" yX7_up yX7_up) ∈ TB := tw_of 25 (by decide +kernel) rfl
theorem tw26 : (Cond.selects "BitCongruencesModel" yX7_down yX7_down) ∈ TB := tw_of 26 (by decide +kernel) rfl
theorem tw27 : (Cond.selects "BitCongruencesModel" yX7_byRest yX7_byRest) ∈ TB := tw_of 27 (by decide +kernel) rfl
theorem tw28 : (Cond.selects "BitCongruencesModel" yX7_byEnds yX7_byEnds) ∈ TB := tw_of 28 (by decide +kernel) rfl
theorem tw29 : (Cond.selects "BitCongruencesModel" yX7_number yX7_number) ∈ TB := tw_of 29 (by decide +kernel) rfl
theorem tw30 : (Cond.selects "BitCongruencesModel" yX7_meet yX7_meet) ∈ TB := tw_of 30 (by decide +kernel) rfl
theorem tw31 : (Cond.selects "BitCongruencesModel" yX7_setRest yX7_setRest) ∈ TB := tw_of 31 (by decide +kernel) rfl
theorem tw32 : (Cond.selects "BitCongruencesModel" yX7_join yX7_join) ∈ TB := tw_of 32 (by decide +kernel) rfl
theorem tw33 : (Cond.selects "BitCongruencesModel" yX7_copy yX7_copy) ∈ TB := tw_of 33 (by decide +kernel) rfl
theorem tw34 : (Cond.selects "BitCongruencesModel" yX7_isNumber yX7_isNumber) ∈ TB := tw_of 34 (by decide +kernel) rfl
theorem tw35 : (Cond.selects "BitCongruencesModel" yX7_restOf yX7_restOf) ∈ TB := tw_of 35 (by decide +kernel) rfl
theorem tw36 : (Cond.selects "BitCongruencesModel" yX7_byOf yX7_byOf) ∈ TB := tw_of 36 (by decide +kernel) rfl
theorem tw37 : (Cond.selects "BitCongruencesModel" yX7_does yX7_does) ∈ TB := tw_of 37 (by decide +kernel) rfl
theorem tw38 : (Cond.selects "BitCongruencesModel" yX7_add yX7_add) ∈ TB := tw_of 38 (by decide +kernel) rfl
theorem tw39 : (Cond.selects "BitCongruencesModel" yX7_turn yX7_turn) ∈ TB := tw_of 39 (by decide +kernel) rfl
theorem tw40 : (Cond.selects "BitCongruencesModel" yX7_ripple yX7_ripple) ∈ TB := tw_of 40 (by decide +kernel) rfl
theorem tw41 : (Cond.selects "BitCongruencesModel" yX7_bit yX7_bit) ∈ TB := tw_of 41 (by decide +kernel) rfl
theorem tw42 : (Cond.selects "BitCongruencesModel" yX7_multiply yX7_multiply) ∈ TB := tw_of 42 (by decide +kernel) rfl
theorem tw43 : (Cond.selects "BitCongruencesModel" yX7_oddProduct yX7_oddProduct) ∈ TB := tw_of 43 (by decide +kernel) rfl
theorem tw44 : (Cond.selects "BitCongruencesModel" yX7_bitwise yX7_bitwise) ∈ TB := tw_of 44 (by decide +kernel) rfl
theorem tw45 : (Cond.selects "BitCongruencesModel" yX7_shift yX7_shift) ∈ TB := tw_of 45 (by decide +kernel) rfl
theorem tw46 : (Cond.selects "BitCongruencesModel" yX7_move yX7_move) ∈ TB := tw_of 46 (by decide +kernel) rfl
theorem tw47 : (Cond.selects "BitCongruencesModel" yX7_divide yX7_divide) ∈ TB := tw_of 47 (by decide +kernel) rfl
theorem tw48 : (Cond.selects "BitCongruencesModel" yX7_narrow yX7_narrow) ∈ TB := tw_of 48 (by decide +kernel) rfl
theorem tw49 : (Cond.selects "BitCongruencesModel" yX7_isIn yX7_isIn) ∈ TB := tw_of 49 (by decide +kernel) rfl
theorem tw50 : (Cond.selects "BitCongruencesModel" yX7_isMethod yX7_isMethod) ∈ TB := tw_of 50 (by decide +kernel) rfl
theorem tw51 : (Cond.selects "BitCongruencesModel" yX7_cell yX7_cell) ∈ TB := tw_of 51 (by decide +kernel) rfl
theorem tw52 : (Cond.selects "BitCongruencesModel" yX7_some yX7_some) ∈ TB := tw_of 52 (by decide +kernel) rfl
theorem tw53 : (Cond.selects "BitCongruencesModel" yX7_work yX7_work) ∈ TB := tw_of 53 (by decide +kernel) rfl
theorem tw54 : (Cond.selects "BitCongruencesModel" yX7_ready yX7_ready) ∈ TB := tw_of 54 (by decide +kernel) rfl
theorem tw55 : (Cond.selects "BitCongruencesModel" yX7_asked yX7_asked) ∈ TB := tw_of 55 (by decide +kernel) rfl
theorem tw56 : (Cond.selects "BitCongruencesModel" yX7_apart yX7_apart) ∈ TB := tw_of 56 (by decide +kernel) rfl
theorem tw57 : (Cond.selects "BitCongruencesModel" yX7_atMost yX7_atMost) ∈ TB := tw_of 57 (by decide +kernel) rfl
theorem tw58 : (Cond.selects "BitCongruencesModel" yX7_atLeast yX7_atLeast) ∈ TB := tw_of 58 (by decide +kernel) rfl
theorem tw59 : (Cond.selects "BitCongruencesModel" yX7_goTo yX7_goTo) ∈ TB := tw_of 59 (by decide +kernel) rfl
theorem tw60 : (Cond.selects "BitCongruencesModel" yX7_widen yX7_widen) ∈ TB := tw_of 60 (by decide +kernel) rfl
theorem tw61 : (Cond.selects "BitCongruencesModel" yX7_alike yX7_alike) ∈ TB := tw_of 61 (by decide +kernel) rfl
theorem tw62 : (Cond.selects "BitCongruencesModel" yX7_look yX7_look) ∈ TB := tw_of 62 (by decide +kernel) rfl
theorem tw63 : (Cond.selects "BitCongruencesModel" yX7_gives yX7_gives) ∈ TB := tw_of 63 (by decide +kernel) rfl
theorem tw64 : (Cond.selects "BitCongruencesModel" yX7_numbers yX7_numbers) ∈ TB := tw_of 64 (by decide +kernel) rfl
theorem tw65 : (Cond.selects "BitCongruencesModel" yX7_check yX7_check) ∈ TB := tw_of 65 (by decide +kernel) rfl
theorem tw66 : (Cond.selects "BitCongruencesModel" yX7_line yX7_line) ∈ TB := tw_of 66 (by decide +kernel) rfl
theorem tw68 : (Jvm.Cond.initialized "BitCongruences") ∈ TB := tw_of 68 (by decide +kernel) rfl
theorem tw69 : (Jvm.Cond.initialized "BitCongruences$Tables") ∈ TB := tw_of 69 (by decide +kernel) rfl
theorem tw70 : (Jvm.Cond.initialized "BitCongruences$Acts") ∈ TB := tw_of 70 (by decide +kernel) rfl
theorem tw71 : (Jvm.Cond.initialized "BitCongruences$Fact") ∈ TB := tw_of 71 (by decide +kernel) rfl
theorem tw72 : (Jvm.Cond.initialized "BitCongruences$Finder") ∈ TB := tw_of 72 (by decide +kernel) rfl
theorem tw73 : (Jvm.Cond.initialized "BitCongruences$Run") ∈ TB := tw_of 73 (by decide +kernel) rfl
theorem tw74 : (Jvm.Cond.initialized "BitCongruencesModel") ∈ TB := tw_of 74 (by decide +kernel) rfl
theorem tw75 : (Jvm.Cond.initialized "java/lang/Math") ∈ TB := tw_of 75 (by decide +kernel) rfl
theorem tw76 : (Jvm.Cond.initialized "java/lang/Long") ∈ TB := tw_of 76 (by decide +kernel) rfl
theorem tw77 : (Jvm.Cond.initialized "BitCongruences$Routine") ∈ TB := tw_of 77 (by decide +kernel) rfl
theorem tw80 : (Jvm.Cond.methodLink "BitCongruencesLaw" (9 : Nat) yX6_init) ∈ TB := tw_of 80 (by decide +kernel) rfl
theorem tw81 : (Jvm.Cond.instanceMethod yX6_init) ∈ TB := tw_of 81 (by decide +kernel) rfl
set_option maxRecDepth 100000 in
theorem tw82 : (Jvm.Cond.code yX6_init prog_1_method_1_code (2 : Nat) (Option.none : Option Jvm.ClassFile.FieldType)) ∈ TB := tw_of 82 rfl rfl
theorem tn92 : (Jvm.Cond.methodLinkNest "BitCongruences" (27 : Nat) yX5_init "BitCongruences") ∈ nestWs := tn_of 92 (by decide +kernel) rfl
theorem tw93 : (Jvm.Cond.instanceMethod yX5_init) ∈ TB := tw_of 93 (by decide +kernel) rfl
set_option maxRecDepth 100000 in
theorem tw94 : (Jvm.Cond.code yX5_init prog_7_method_1_code (1 : Nat) (Option.none : Option Jvm.ClassFile.FieldType)) ∈ TB := tw_of 94 rfl rfl
theorem tw113 : (Jvm.Cond.methodLink "BitCongruences" (34 : Nat) yX0_init) ∈ TB := tw_of 113 (by decide +kernel) rfl
theorem tw114 : (Jvm.Cond.instanceMethod yX0_init) ∈ TB := tw_of 114 (by decide +kernel) rfl
set_option maxRecDepth 100000 in
theorem tw115 : (Jvm.Cond.code yX0_init prog_2_method_1_code (1 : Nat) (Option.none : Option Jvm.ClassFile.FieldType)) ∈ TB := tw_of 115 rfl rfl
theorem tw119 : (Jvm.Cond.methodLink "BitCongruences$Acts" (11 : Nat) yX1_init) ∈ TB := tw_of 119 (by decide +kernel) rfl
theorem tw120 : (Jvm.Cond.instanceMethod yX1_init) ∈ TB := tw_of 120 (by decide +kernel) rfl
set_option maxRecDepth 100000 in
theorem tw121 : (Jvm.Cond.code yX1_init prog_3_method_1_code (1 : Nat) (Option.none : Option Jvm.ClassFile.FieldType)) ∈ TB := tw_of 121 rfl rfl
theorem tw166 : (Jvm.Cond.methodLink "BitCongruences$Acts" (21 : Nat) yX1_makeConstant) ∈ TB := tw_of 166 (by decide +kernel) rfl
theorem tw167 : (Jvm.Cond.instanceMethod yX1_makeConstant) ∈ TB := tw_of 167 (by decide +kernel) rfl
theorem tw168 : (Jvm.Cond.selects "BitCongruences$Fact" yX1_makeConstant yX1_makeConstant) ∈ TB := tw_of 168 (by decide +kernel) rfl
set_option maxRecDepth 100000 in
theorem tw169 : (Jvm.Cond.code yX1_makeConstant prog_3_method_4_code (3 : Nat) (Option.none : Option Jvm.ClassFile.FieldType)) ∈ TB := tw_of 169 rfl rfl
theorem tw171 : (Jvm.Cond.methodLink "BitCongruences$Fact" (25 : Nat) yX1_become) ∈ TB := tw_of 171 (by decide +kernel) rfl
theorem tw172 : (Jvm.Cond.instanceMethod yX1_become) ∈ TB := tw_of 172 (by decide +kernel) rfl
theorem tw173 : (Jvm.Cond.selects "BitCongruences$Fact" yX1_become yX1_become) ∈ TB := tw_of 173 (by decide +kernel) rfl
set_option maxRecDepth 100000 in
theorem tw174 : (Jvm.Cond.code yX1_become prog_3_method_5_code (13 : Nat) (Option.none : Option Jvm.ClassFile.FieldType)) ∈ TB := tw_of 174 rfl rfl
theorem tw184 : (Jvm.Cond.methodLink "BitCongruences" (41 : Nat) yX2_init) ∈ TB := tw_of 184 (by decide +kernel) rfl
theorem tw185 : (Jvm.Cond.instanceMethod yX2_init) ∈ TB := tw_of 185 (by decide +kernel) rfl
set_option maxRecDepth 100000 in
theorem tw186 : (Jvm.Cond.code yX2_init prog_4_method_1_code (2 : Nat) (Option.none : Option Jvm.ClassFile.FieldType)) ∈ TB := tw_of 186 rfl rfl
theorem tw189 : (Jvm.Cond.methodLink "BitCongruences$Finder" (11 : Nat) yX0_init) ∈ TB := tw_of 189 (by decide +kernel) rfl
theorem tw191 : (Jvm.Cond.methodLink "BitCongruences$Finder" (24 : Nat) yX1_init) ∈ TB := tw_of 191 (by decide +kernel) rfl
theorem tn214 : (Jvm.Cond.methodLinkNest "BitCongruences" (48 : Nat) yX4_init "BitCongruences") ∈ nestWs := tn_of 214 (by decide +kernel) rfl
theorem tw215 : (Jvm.Cond.instanceMethod yX4_init) ∈ TB := tw_of 215 (by decide +kernel) rfl
set_option maxRecDepth 100000 in
theorem tw216 : (Jvm.Cond.code yX4_init prog_6_method_1_code (1 : Nat) (Option.none : Option Jvm.ClassFile.FieldType)) ∈ TB := tw_of 216 rfl rfl
theorem tw235 : (Jvm.Cond.methodLink "BitCongruences" (57 : Nat) yX1_init) ∈ TB := tw_of 235 (by decide +kernel) rfl
theorem tw267 : (Jvm.Cond.methodLink "BitCongruencesLaw" (15 : Nat) yX6_fact) ∈ TB := tw_of 267 (by decide +kernel) rfl
theorem tw268 : (Jvm.Cond.instanceMethod yX6_fact) ∈ TB := tw_of 268 (by decide +kernel) rfl
theorem tw269 : (Jvm.Cond.selects "BitCongruences" yX6_fact yX6_fact) ∈ TB := tw_of 269 (by decide +kernel) rfl
set_option maxRecDepth 100000 in
theorem tw270 : (Jvm.Cond.code yX6_fact prog_1_method_2_code (7 : Nat) (Option.some Jvm.ClassFile.FieldType.int)) ∈ TB := tw_of 270 rfl rfl
theorem tw271 : (Jvm.Cond.methodLink "BitCongruences" (65 : Nat) yX6_factAt) ∈ TB := tw_of 271 (by decide +kernel) rfl
theorem tw273 : (Jvm.Cond.instanceMethod yX6_factAt) ∈ TB := tw_of 273 (by decide +kernel) rfl
set_option maxRecDepth 100000 in
theorem tw274 : (Jvm.Cond.code yX6_factAt prog_1_method_19_code (2 : Nat) (Option.some (Jvm.ClassFile.FieldType.object "BitCongruences$Fact"))) ∈ TB := tw_of 274 rfl rfl
theorem tw275 : (Jvm.Cond.methodLink "BitCongruences" (69 : Nat) yX1_makeAll) ∈ TB := tw_of 275 (by decide +kernel) rfl
theorem tw276 : (Jvm.Cond.instanceMethod yX1_makeAll) ∈ TB := tw_of 276 (by decide +kernel) rfl
theorem tw277 : (Jvm.Cond.selects "BitCongruences$Fact" yX1_makeAll yX1_makeAll) ∈ TB := tw_of 277 (by decide +kernel) rfl
set_option maxRecDepth 100000 in
theorem tw278 : (Jvm.Cond.code yX1_makeAll prog_3_method_2_code (1 : Nat) (Option.none : Option Jvm.ClassFile.FieldType)) ∈ TB := tw_of 278 rfl rfl
theorem tw279 : (Jvm.Cond.methodLink "BitCongruences" (79 : Nat) yX1_sharpen) ∈ TB := tw_of 279 (by decide +kernel) rfl
theorem tw280 : (Jvm.Cond.instanceMethod yX1_sharpen) ∈ TB := tw_of 280 (by decide +kernel) rfl
theorem tw281 : (Jvm.Cond.selects "BitCongruences$Fact" yX1_sharpen yX1_sharpen) ∈ TB := tw_of 281 (by decide +kernel) rfl
set_option maxRecDepth 100000 in
theorem tw282 : (Jvm.Cond.code yX1_sharpen prog_3_method_12_code (8 : Nat) (Option.none : Option Jvm.ClassFile.FieldType)) ∈ TB := tw_of 282 rfl rfl
theorem tw283 : (Jvm.Cond.methodLink "BitCongruences$Fact" (52 : Nat) yX1_fitBits) ∈ TB := tw_of 283 (by decide +kernel) rfl
theorem tw285 : (Jvm.Cond.instanceMethod yX1_fitBits) ∈ TB := tw_of 285 (by decide +kernel) rfl
set_option maxRecDepth 100000 in
theorem tw286 : (Jvm.Cond.code yX1_fitBits prog_3_method_13_code (5 : Nat) (Option.some Jvm.ClassFile.FieldType.boolean)) ∈ TB := tw_of 286 rfl rfl
theorem tn287 : (Jvm.Cond.methodLinkNest "BitCongruences$Fact" (68 : Nat) yX6_leastWithBits "BitCongruences") ∈ nestWs := tn_of 287 (by decide +kernel) rfl
theorem tw288 : (Jvm.Cond.static yX6_leastWithBits) ∈ TB := tw_of 288 (by decide +kernel) rfl
set_option maxRecDepth 100000 in
theorem tw289 : (Jvm.Cond.code yX6_leastWithBits prog_1_method_29_code (18 : Nat) (Option.some Jvm.ClassFile.FieldType.long)) ∈ TB := tw_of 289 rfl rfl
theorem tw292 : (Jvm.Cond.methodLink "BitCongruences$Fact" (55 : Nat) yX1_fitRest) ∈ TB := tw_of 292 (by decide +kernel) rfl
theorem tw294 : (Jvm.Cond.instanceMethod yX1_fitRest) ∈ TB := tw_of 294 (by decide +kernel) rfl
set_option maxRecDepth 100000 in
theorem tw295 : (Jvm.Cond.code yX1_fitRest prog_3_method_14_code (5 : Nat) (Option.some Jvm.ClassFile.FieldType.boolean)) ∈ TB := tw_of 295 rfl rfl
theorem tn296 : (Jvm.Cond.methodLinkNest "BitCongruences$Fact" (44 : Nat) yX6_restBy "BitCongruences") ∈ nestWs := tn_of 296 (by decide +kernel) rfl
theorem tw297 : (Jvm.Cond.static yX6_restBy) ∈ TB := tw_of 297 (by decide +kernel) rfl
set_option maxRecDepth 100000 in
theorem tw298 : (Jvm.Cond.code yX6_restBy prog_1_method_25_code (6 : Nat) (Option.some Jvm.ClassFile.FieldType.long)) ∈ TB := tw_of 298 rfl rfl
theorem tw299 : (Jvm.Cond.methodLink "BitCongruences$Fact" (58 : Nat) yX1_learnBits) ∈ TB := tw_of 299 (by decide +kernel) rfl
theorem tw301 : (Jvm.Cond.instanceMethod yX1_learnBits) ∈ TB := tw_of 301 (by decide +kernel) rfl
set_option maxRecDepth 100000 in
theorem tw302 : (Jvm.Cond.code yX1_learnBits prog_3_method_15_code (5 : Nat) (Option.some Jvm.ClassFile.FieldType.boolean)) ∈ TB := tw_of 302 rfl rfl
theorem tw303 : (Jvm.Cond.methodLink "BitCongruences$Fact" (61 : Nat) yX1_makeNone) ∈ TB := tw_of 303 (by decide +kernel) rfl
theorem tw304 : (Jvm.Cond.instanceMethod yX1_makeNone) ∈ TB := tw_of 304 (by decide +kernel) rfl
theorem tw305 : (Jvm.Cond.selects "BitCongruences$Fact" yX1_makeNone yX1_makeNone) ∈ TB := tw_of 305 (by decide +kernel) rfl
set_option maxRecDepth 100000 in
theorem tw306 : (Jvm.Cond.code yX1_makeNone prog_3_method_3_code (1 : Nat) (Option.none : Option Jvm.ClassFile.FieldType)) ∈ TB := tw_of 306 rfl rfl
theorem tw307 : (Jvm.Cond.methodLink "BitCongruences$Fact" (64 : Nat) yX1_makeConstant) ∈ TB := tw_of 307 (by decide +kernel) rfl
theorem tw308 : (Jvm.Cond.methodLink "BitCongruences" (82 : Nat) yX6_oneUnlessNone) ∈ TB := tw_of 308 (by decide +kernel) rfl
theorem tw309 : (Jvm.Cond.static yX6_oneUnlessNone) ∈ TB := tw_of 309 (by decide +kernel) rfl
set_option maxRecDepth 100000 in
theorem tw310 : (Jvm.Cond.code yX6_oneUnlessNone prog_1_method_22_code (1 : Nat) (Option.some Jvm.ClassFile.FieldType.int)) ∈ TB := tw_of 310 rfl rfl
theorem tw311 : (Jvm.Cond.methodLink "BitCongruencesLaw" (20 : Nat) yX6_bits) ∈ TB := tw_of 311 (by decide +kernel) rfl
theorem tw312 : (Jvm.Cond.instanceMethod yX6_bits) ∈ TB := tw_of 312 (by decide +kernel) rfl
theorem tw313 : (Jvm.Cond.selects "BitCongruences" yX6_bits yX6_bits) ∈ TB := tw_of 313 (by decide +kernel) rfl
set_option maxRecDepth 100000 in
theorem tw314 : (Jvm.Cond.code yX6_bits prog_1_method_3_code (7 : Nat) (Option.some Jvm.ClassFile.FieldType.int)) ∈ TB := tw_of 314 rfl rfl
theorem tw315 : (Jvm.Cond.methodLink "BitCongruences" (92 : Nat) yX6_meetBesides) ∈ TB := tw_of 315 (by decide +kernel) rfl
theorem tw317 : (Jvm.Cond.instanceMethod yX6_meetBesides) ∈ TB := tw_of 317 (by decide +kernel) rfl
set_option maxRecDepth 100000 in
theorem tw318 : (Jvm.Cond.code yX6_meetBesides prog_1_method_21_code (2 : Nat) (Option.some Jvm.ClassFile.FieldType.int)) ∈ TB := tw_of 318 rfl rfl
theorem tw319 : (Jvm.Cond.methodLink "BitCongruences" (109 : Nat) yX1_becomeMeet) ∈ TB := tw_of 319 (by decide +kernel) rfl
theorem tw320 : (Jvm.Cond.instanceMethod yX1_becomeMeet) ∈ TB := tw_of 320 (by decide +kernel) rfl
theorem tw321 : (Jvm.Cond.selects "BitCongruences$Fact" yX1_becomeMeet yX1_becomeMeet) ∈ TB := tw_of 321 (by decide +kernel) rfl
set_option maxRecDepth 100000 in
theorem tw322 : (Jvm.Cond.code yX1_becomeMeet prog_3_method_18_code (4 : Nat) (Option.none : Option Jvm.ClassFile.FieldType)) ∈ TB := tw_of 322 rfl rfl
theorem tw323 : (Jvm.Cond.methodLink "BitCongruences$Fact" (85 : Nat) yJ9_max_f86c9) ∈ TB := tw_of 323 (by decide +kernel) rfl
theorem tw324 : (Jvm.Cond.static yJ9_max_f86c9) ∈ TB := tw_of 324 (by decide +kernel) rfl
set_option maxRecDepth 100000 in
theorem tw325 : (Jvm.Cond.code yJ9_max_f86c9 prog_11_method_66_code (4 : Nat) (Option.some Jvm.ClassFile.FieldType.long)) ∈ TB := tw_of 325 rfl rfl
theorem tw326 : (Jvm.Cond.methodLink "BitCongruences$Fact" (80 : Nat) yJ9_min_f86c9) ∈ TB := tw_of 326 (by decide +kernel) rfl
theorem tw327 : (Jvm.Cond.static yJ9_min_f86c9) ∈ TB := tw_of 327 (by decide +kernel) rfl
set_option maxRecDepth 100000 in
theorem tw328 : (Jvm.Cond.code yJ9_min_f86c9 prog_11_method_70_code (4 : Nat) (Option.some Jvm.ClassFile.FieldType.long)) ∈ TB := tw_of 328 rfl rfl
theorem tw329 : (Jvm.Cond.methodLink "BitCongruences$Fact" (92 : Nat) yX1_sharpen) ∈ TB := tw_of 329 (by decide +kernel) rfl
theorem tw330 : (Jvm.Cond.methodLink "BitCongruencesLaw" (24 : Nat) yX6_rest) ∈ TB := tw_of 330 (by decide +kernel) rfl
theorem tw331 : (Jvm.Cond.instanceMethod yX6_rest) ∈ TB := tw_of 331 (by decide +kernel) rfl
theorem tw332 : (Jvm.Cond.selects "BitCongruences" yX6_rest yX6_rest) ∈ TB := tw_of 332 (by decide +kernel) rfl
set_option maxRecDepth 100000 in
theorem tw333 : (Jvm.Cond.code yX6_rest prog_1_method_4_code (6 : Nat) (Option.some Jvm.ClassFile.FieldType.int)) ∈ TB := tw_of 333 rfl rfl
theorem tw334 : (Jvm.Cond.methodLink "BitCongruences" (98 : Nat) yX6_restBy) ∈ TB := tw_of 334 (by decide +kernel) rfl
theorem tw335 : (Jvm.Cond.methodLink "BitCongruencesLaw" (29 : Nat) yX6_act) ∈ TB := tw_of 335 (by decide +kernel) rfl
theorem tw336 : (Jvm.Cond.instanceMethod yX6_act) ∈ TB := tw_of 336 (by decide +kernel) rfl
theorem tw337 : (Jvm.Cond.selects "BitCongruences" yX6_act yX6_act) ∈ TB := tw_of 337 (by decide +kernel) rfl
set_option maxRecDepth 100000 in
theorem tw338 : (Jvm.Cond.code yX6_act prog_1_method_5_code (8 : Nat) (Option.some Jvm.ClassFile.FieldType.int)) ∈ TB := tw_of 338 rfl rfl
theorem tw339 : (Jvm.Cond.methodLink "BitCongruences" (105 : Nat) yX1_becomeJoin) ∈ TB := tw_of 339 (by decide +kernel) rfl
theorem tw340 : (Jvm.Cond.instanceMethod yX1_becomeJoin) ∈ TB := tw_of 340 (by decide +kernel) rfl
theorem tw341 : (Jvm.Cond.selects "BitCongruences$Fact" yX1_becomeJoin yX1_becomeJoin) ∈ TB := tw_of 341 (by decide +kernel) rfl
set_option maxRecDepth 100000 in
theorem tw342 : (Jvm.Cond.code yX1_becomeJoin prog_3_method_16_code (7 : Nat) (Option.none : Option Jvm.ClassFile.FieldType)) ∈ TB := tw_of 342 rfl rfl
theorem tw343 : (Jvm.Cond.methodLink "BitCongruences$Fact" (72 : Nat) yX1_copy) ∈ TB := tw_of 343 (by decide +kernel) rfl
theorem tw344 : (Jvm.Cond.instanceMethod yX1_copy) ∈ TB := tw_of 344 (by decide +kernel) rfl
theorem tw345 : (Jvm.Cond.selects "BitCongruences$Fact" yX1_copy yX1_copy) ∈ TB := tw_of 345 (by decide +kernel) rfl
set_option maxRecDepth 100000 in
theorem tw346 : (Jvm.Cond.code yX1_copy prog_3_method_6_code (2 : Nat) (Option.none : Option Jvm.ClassFile.FieldType)) ∈ TB := tw_of 346 rfl rfl
theorem tw347 : (Jvm.Cond.methodLink "BitCongruences$Fact" (48 : Nat) yX1_isConstant) ∈ TB := tw_of 347 (by decide +kernel) rfl
theorem tw348 : (Jvm.Cond.instanceMethod yX1_isConstant) ∈ TB := tw_of 348 (by decide +kernel) rfl
theorem tw349 : (Jvm.Cond.selects "BitCongruences$Fact" yX1_isConstant yX1_isConstant) ∈ TB := tw_of 349 (by decide +kernel) rfl
set_option maxRecDepth 100000 in
theorem tw350 : (Jvm.Cond.code yX1_isConstant prog_3_method_7_code (1 : Nat) (Option.some Jvm.ClassFile.FieldType.boolean)) ∈ TB := tw_of 350 rfl rfl
theorem tw351 : (Jvm.Cond.methodLink "BitCongruences$Fact" (76 : Nat) yX1_joinModulus) ∈ TB := tw_of 351 (by decide +kernel) rfl
theorem tw352 : (Jvm.Cond.static yX1_joinModulus) ∈ TB := tw_of 352 (by decide +kernel) rfl
set_option maxRecDepth 100000 in
theorem tw353 : (Jvm.Cond.code yX1_joinModulus prog_3_method_17_code (6 : Nat) (Option.some Jvm.ClassFile.FieldType.long)) ∈ TB := tw_of 353 rfl rfl
theorem tw354 : (Jvm.Cond.methodLink "BitCongruences$Fact" (95 : Nat) yX1_countedModulus) ∈ TB := tw_of 354 (by decide +kernel) rfl
theorem tw355 : (Jvm.Cond.instanceMethod yX1_countedModulus) ∈ TB := tw_of 355 (by decide +kernel) rfl
theorem tw356 : (Jvm.Cond.selects "BitCongruences$Fact" yX1_countedModulus yX1_countedModulus) ∈ TB := tw_of 356 (by decide +kernel) rfl
set_option maxRecDepth 100000 in
theorem tw357 : (Jvm.Cond.code yX1_countedModulus prog_3_method_10_code (1 : Nat) (Option.some Jvm.ClassFile.FieldType.long)) ∈ TB := tw_of 357 rfl rfl
theorem tn358 : (Jvm.Cond.methodLinkNest "BitCongruences$Fact" (98 : Nat) yX6_commonDivisor "BitCongruences") ∈ nestWs := tn_of 358 (by decide +kernel) rfl
theorem tw359 : (Jvm.Cond.static yX6_commonDivisor) ∈ TB := tw_of 359 (by decide +kernel) rfl
set_option maxRecDepth 100000 in
theorem tw360 : (Jvm.Cond.code yX6_commonDivisor prog_1_method_26_code (11 : Nat) (Option.some Jvm.ClassFile.FieldType.long)) ∈ TB := tw_of 360 rfl rfl
theorem tn361 : (Jvm.Cond.methodLinkNest "BitCongruences$Fact" (101 : Nat) yX6_oddPart "BitCongruences") ∈ nestWs := tn_of 361 (by decide +kernel) rfl
theorem tw362 : (Jvm.Cond.static yX6_oddPart) ∈ TB := tw_of 362 (by decide +kernel) rfl
set_option maxRecDepth 100000 in
theorem tw363 : (Jvm.Cond.code yX6_oddPart prog_1_method_28_code (4 : Nat) (Option.some Jvm.ClassFile.FieldType.long)) ∈ TB := tw_of 363 rfl rfl
theorem tw364 : (Jvm.Cond.methodLink "BitCongruences" (219 : Nat) yX6_withoutTwos) ∈ TB := tw_of 364 (by decide +kernel) rfl
theorem tw365 : (Jvm.Cond.static yX6_withoutTwos) ∈ TB := tw_of 365 (by decide +kernel) rfl
set_option maxRecDepth 100000 in
theorem tw366 : (Jvm.Cond.code yX6_withoutTwos prog_1_method_27_code (5 : Nat) (Option.some Jvm.ClassFile.FieldType.long)) ∈ TB := tw_of 366 rfl rfl
theorem tw368 : (Jvm.Cond.methodLink "BitCongruences$Fact" (88 : Nat) yX1_countedRest) ∈ TB := tw_of 368 (by decide +kernel) rfl
theorem tw369 : (Jvm.Cond.instanceMethod yX1_countedRest) ∈ TB := tw_of 369 (by decide +kernel) rfl
theorem tw370 : (Jvm.Cond.selects "BitCongruences$Fact" yX1_countedRest yX1_countedRest) ∈ TB := tw_of 370 (by decide +kernel) rfl
set_option maxRecDepth 100000 in
theorem tw371 : (Jvm.Cond.code yX1_countedRest prog_3_method_11_code (1 : Nat) (Option.some Jvm.ClassFile.FieldType.long)) ∈ TB := tw_of 371 rfl rfl
theorem tw372 : (Jvm.Cond.methodLink "BitCongruences$Fact" (105 : Nat) yJ9_abs_067f4) ∈ TB := tw_of 372 (by decide +kernel) rfl
theorem tw373 : (Jvm.Cond.static yJ9_abs_067f4) ∈ TB := tw_of 373 (by decide +kernel) rfl
set_option maxRecDepth 100000 in
theorem tw374 : (Jvm.Cond.code yJ9_abs_067f4 prog_11_method_61_code (2 : Nat) (Option.some Jvm.ClassFile.FieldType.long)) ∈ TB := tw_of 374 rfl rfl
theorem tw375 : (Jvm.Cond.methodLink "BitCongruences" (112 : Nat) yX0_work) ∈ TB := tw_of 375 (by decide +kernel) rfl
theorem tw376 : (Jvm.Cond.instanceMethod yX0_work) ∈ TB := tw_of 376 (by decide +kernel) rfl
theorem tw377 : (Jvm.Cond.selects "BitCongruences$Acts" yX0_work yX0_work) ∈ TB := tw_of 377 (by decide +kernel) rfl
set_option maxRecDepth 100000 in
theorem tw378 : (Jvm.Cond.code yX0_work prog_2_method_5_code (5 : Nat) (Option.none : Option Jvm.ClassFile.FieldType)) ∈ TB := tw_of 378 rfl rfl
theorem tw379 : (Jvm.Cond.methodLink "BitCongruences$Acts" (58 : Nat) yX1_makeNone) ∈ TB := tw_of 379 (by decide +kernel) rfl
theorem tw380 : (Jvm.Cond.methodLink "BitCongruences$Acts" (47 : Nat) yX1_isConstant) ∈ TB := tw_of 380 (by decide +kernel) rfl
theorem tw381 : (Jvm.Cond.methodLink "BitCongruences$Acts" (61 : Nat) yX0_constant) ∈ TB := tw_of 381 (by decide +kernel) rfl
theorem tw382 : (Jvm.Cond.static yX0_constant) ∈ TB := tw_of 382 (by decide +kernel) rfl
set_option maxRecDepth 100000 in
theorem tw383 : (Jvm.Cond.code yX0_constant prog_2_method_6_code (6 : Nat) (Option.none : Option Jvm.ClassFile.FieldType)) ∈ TB := tw_of 383 rfl rfl
theorem tw384 : (Jvm.Cond.methodLink "BitCongruences$Acts" (107 : Nat) yX0_stops) ∈ TB := tw_of 384 (by decide +kernel) rfl
theorem tw385 : (Jvm.Cond.static yX0_stops) ∈ TB := tw_of 385 (by decide +kernel) rfl
set_option maxRecDepth 100000 in
theorem tw386 : (Jvm.Cond.code yX0_stops prog_2_method_2_code (3 : Nat) (Option.some Jvm.ClassFile.FieldType.boolean)) ∈ TB := tw_of 386 rfl rfl
theorem tw387 : (Jvm.Cond.methodLink "BitCongruences$Acts" (111 : Nat) yX0_number) ∈ TB := tw_of 387 (by decide +kernel) rfl
theorem tw388 : (Jvm.Cond.static yX0_number) ∈ TB := tw_of 388 (by decide +kernel) rfl
set_option maxRecDepth 100000 in
theorem tw389 : (Jvm.Cond.code yX0_number prog_2_method_3_code (5 : Nat) (Option.some Jvm.ClassFile.FieldType.long)) ∈ TB := tw_of 389 rfl rfl
theorem tw396 : (Jvm.Cond.methodLink "BitCongruences$Acts" (65 : Nat) yX1_makeAll) ∈ TB := tw_of 396 (by decide +kernel) rfl
theorem tw397 : (Jvm.Cond.methodLink "BitCongruences$Acts" (68 : Nat) yX0_givesUp) ∈ TB := tw_of 397 (by decide +kernel) rfl
theorem tw398 : (Jvm.Cond.static yX0_givesUp) ∈ TB := tw_of 398 (by decide +kernel) rfl
set_option maxRecDepth 100000 in
theorem tw399 : (Jvm.Cond.code yX0_givesUp prog_2_method_4_code (3 : Nat) (Option.some Jvm.ClassFile.FieldType.boolean)) ∈ TB := tw_of 399 rfl rfl
theorem tw400 : (Jvm.Cond.methodLink "BitCongruences$Acts" (41 : Nat) yJ13_bitCount_95d88) ∈ TB := tw_of 400 (by decide +kernel) rfl
theorem tw401 : (Jvm.Cond.static yJ13_bitCount_95d88) ∈ TB := tw_of 401 (by decide +kernel) rfl
set_option maxRecDepth 100000 in
theorem tw402 : (Jvm.Cond.code yJ13_bitCount_95d88 prog_10_method_50_code (2 : Nat) (Option.some Jvm.ClassFile.FieldType.int)) ∈ TB := tw_of 402 rfl rfl
theorem tw406 : (Jvm.Cond.methodLink "BitCongruences$Acts" (72 : Nat) yX0_plus) ∈ TB := tw_of 406 (by decide +kernel) rfl
theorem tw407 : (Jvm.Cond.static yX0_plus) ∈ TB := tw_of 407 (by decide +kernel) rfl
set_option maxRecDepth 100000 in
theorem tw408 : (Jvm.Cond.code yX0_plus prog_2_method_7_code (7 : Nat) (Option.none : Option Jvm.ClassFile.FieldType)) ∈ TB := tw_of 408 rfl rfl
theorem tw409 : (Jvm.Cond.methodLink "BitCongruences$Acts" (118 : Nat) yX1_becomeBitSum) ∈ TB := tw_of 409 (by decide +kernel) rfl
theorem tw410 : (Jvm.Cond.instanceMethod yX1_becomeBitSum) ∈ TB := tw_of 410 (by decide +kernel) rfl
theorem tw411 : (Jvm.Cond.selects "BitCongruences$Fact" yX1_becomeBitSum yX1_becomeBitSum) ∈ TB := tw_of 411 (by decide +kernel) rfl
set_option maxRecDepth 100000 in
theorem tw412 : (Jvm.Cond.code yX1_becomeBitSum prog_3_method_19_code (21 : Nat) (Option.none : Option Jvm.ClassFile.FieldType)) ∈ TB := tw_of 412 rfl rfl
theorem tn413 : (Jvm.Cond.methodLinkNest "BitCongruences$Acts" (122 : Nat) yX6_sumWraps "BitCongruences") ∈ nestWs := tn_of 413 (by decide +kernel) rfl
theorem tw414 : (Jvm.Cond.static yX6_sumWraps) ∈ TB := tw_of 414 (by decide +kernel) rfl
set_option maxRecDepth 100000 in
theorem tw415 : (Jvm.Cond.code yX6_sumWraps prog_1_method_30_code (4 : Nat) (Option.some Jvm.ClassFile.FieldType.boolean)) ∈ TB := tw_of 415 rfl rfl
theorem tw416 : (Jvm.Cond.methodLink "BitCongruences$Acts" (129 : Nat) yX1_countedModulus) ∈ TB := tw_of 416 (by decide +kernel) rfl
theorem tn417 : (Jvm.Cond.methodLinkNest "BitCongruences$Acts" (133 : Nat) yX6_commonDivisor "BitCongruences") ∈ nestWs := tn_of 417 (by decide +kernel) rfl
theorem tn418 : (Jvm.Cond.methodLinkNest "BitCongruences$Acts" (137 : Nat) yX6_oddPart "BitCongruences") ∈ nestWs := tn_of 418 (by decide +kernel) rfl
theorem tw419 : (Jvm.Cond.methodLink "BitCongruences$Acts" (141 : Nat) yX1_countedRest) ∈ TB := tw_of 419 (by decide +kernel) rfl
theorem tn420 : (Jvm.Cond.methodLinkNest "BitCongruences$Acts" (144 : Nat) yX6_restBy "BitCongruences") ∈ nestWs := tn_of 420 (by decide +kernel) rfl
theorem tw421 : (Jvm.Cond.methodLink "BitCongruences$Acts" (147 : Nat) yX1_limit) ∈ TB := tw_of 421 (by decide +kernel) rfl
theorem tw422 : (Jvm.Cond.instanceMethod yX1_limit) ∈ TB := tw_of 422 (by decide +kernel) rfl
theorem tw423 : (Jvm.Cond.selects "BitCongruences$Fact" yX1_limit yX1_limit) ∈ TB := tw_of 423 (by decide +kernel) rfl
set_option maxRecDepth 100000 in
theorem tw424 : (Jvm.Cond.code yX1_limit prog_3_method_20_code (9 : Nat) (Option.none : Option Jvm.ClassFile.FieldType)) ∈ TB := tw_of 424 rfl rfl
theorem tw425 : (Jvm.Cond.methodLink "BitCongruences$Acts" (76 : Nat) yX0_minus) ∈ TB := tw_of 425 (by decide +kernel) rfl
theorem tw426 : (Jvm.Cond.static yX0_minus) ∈ TB := tw_of 426 (by decide +kernel) rfl
set_option maxRecDepth 100000 in
theorem tw427 : (Jvm.Cond.code yX0_minus prog_2_method_8_code (7 : Nat) (Option.none : Option Jvm.ClassFile.FieldType)) ∈ TB := tw_of 427 rfl rfl
theorem tn428 : (Jvm.Cond.methodLinkNest "BitCongruences$Acts" (151 : Nat) yX6_differenceWraps "BitCongruences") ∈ nestWs := tn_of 428 (by decide +kernel) rfl
theorem tw429 : (Jvm.Cond.static yX6_differenceWraps) ∈ TB := tw_of 429 (by decide +kernel) rfl
set_option maxRecDepth 100000 in
theorem tw430 : (Jvm.Cond.code yX6_differenceWraps prog_1_method_31_code (4 : Nat) (Option.some Jvm.ClassFile.FieldType.boolean)) ∈ TB := tw_of 430 rfl rfl
theorem tw431 : (Jvm.Cond.methodLink "BitCongruences$Acts" (79 : Nat) yX0_times) ∈ TB := tw_of 431 (by decide +kernel) rfl
theorem tw432 : (Jvm.Cond.static yX0_times) ∈ TB := tw_of 432 (by decide +kernel) rfl
set_option maxRecDepth 100000 in
theorem tw433 : (Jvm.Cond.code yX0_times prog_2_method_9_code (15 : Nat) (Option.none : Option Jvm.ClassFile.FieldType)) ∈ TB := tw_of 433 rfl rfl
theorem tw434 : (Jvm.Cond.methodLink "BitCongruences$Acts" (154 : Nat) yX0_productBits) ∈ TB := tw_of 434 (by decide +kernel) rfl
theorem tw435 : (Jvm.Cond.static yX0_productBits) ∈ TB := tw_of 435 (by decide +kernel) rfl
set_option maxRecDepth 100000 in
theorem tw436 : (Jvm.Cond.code yX0_productBits prog_2_method_10_code (10 : Nat) (Option.none : Option Jvm.ClassFile.FieldType)) ∈ TB := tw_of 436 rfl rfl
theorem tn437 : (Jvm.Cond.methodLinkNest "BitCongruences$Acts" (157 : Nat) yX6_productWraps "BitCongruences") ∈ nestWs := tn_of 437 (by decide +kernel) rfl
theorem tw438 : (Jvm.Cond.static yX6_productWraps) ∈ TB := tw_of 438 (by decide +kernel) rfl
set_option maxRecDepth 100000 in
theorem tw439 : (Jvm.Cond.code yX6_productWraps prog_1_method_32_code (4 : Nat) (Option.some Jvm.ClassFile.FieldType.boolean)) ∈ TB := tw_of 439 rfl rfl
theorem tw440 : (Jvm.Cond.methodLink "BitCongruences$Acts" (160 : Nat) yX0_productModulus) ∈ TB := tw_of 440 (by decide +kernel) rfl
theorem tw441 : (Jvm.Cond.static yX0_productModulus) ∈ TB := tw_of 441 (by decide +kernel) rfl
set_option maxRecDepth 100000 in
theorem tw442 : (Jvm.Cond.code yX0_productModulus prog_2_method_11_code (4 : Nat) (Option.some Jvm.ClassFile.FieldType.long)) ∈ TB := tw_of 442 rfl rfl
theorem tw443 : (Jvm.Cond.methodLink "BitCongruences$Acts" (175 : Nat) yX0_multipliedModulus) ∈ TB := tw_of 443 (by decide +kernel) rfl
theorem tw444 : (Jvm.Cond.static yX0_multipliedModulus) ∈ TB := tw_of 444 (by decide +kernel) rfl
set_option maxRecDepth 100000 in
theorem tw445 : (Jvm.Cond.code yX0_multipliedModulus prog_2_method_12_code (6 : Nat) (Option.some Jvm.ClassFile.FieldType.long)) ∈ TB := tw_of 445 rfl rfl
theorem tw446 : (Jvm.Cond.methodLink "BitCongruences$Acts" (181 : Nat) yJ9_abs_067f4) ∈ TB := tw_of 446 (by decide +kernel) rfl
theorem tn447 : (Jvm.Cond.methodLinkNest "BitCongruences$Acts" (184 : Nat) yX6_withoutTwos "BitCongruences") ∈ nestWs := tn_of 447 (by decide +kernel) rfl
theorem tw449 : (Jvm.Cond.methodLink "BitCongruences$Acts" (164 : Nat) yJ9_min_f86c9) ∈ TB := tw_of 449 (by decide +kernel) rfl
theorem tw450 : (Jvm.Cond.methodLink "BitCongruences$Acts" (169 : Nat) yJ9_max_f86c9) ∈ TB := tw_of 450 (by decide +kernel) rfl
theorem tw451 : (Jvm.Cond.methodLink "BitCongruences$Acts" (82 : Nat) yX0_bitwise) ∈ TB := tw_of 451 (by decide +kernel) rfl
theorem tw452 : (Jvm.Cond.static yX0_bitwise) ∈ TB := tw_of 452 (by decide +kernel) rfl
set_option maxRecDepth 100000 in
theorem tw453 : (Jvm.Cond.code yX0_bitwise prog_2_method_13_code (12 : Nat) (Option.none : Option Jvm.ClassFile.FieldType)) ∈ TB := tw_of 453 rfl rfl
theorem tw454 : (Jvm.Cond.methodLink "BitCongruences$Acts" (86 : Nat) yX0_shifted) ∈ TB := tw_of 454 (by decide +kernel) rfl
theorem tw456 : (Jvm.Cond.instanceMethod yX0_shifted) ∈ TB := tw_of 456 (by decide +kernel) rfl
set_option maxRecDepth 100000 in
theorem tw457 : (Jvm.Cond.code yX0_shifted prog_2_method_14_code (10 : Nat) (Option.none : Option Jvm.ClassFile.FieldType)) ∈ TB := tw_of 457 rfl rfl
theorem tw458 : (Jvm.Cond.methodLink "BitCongruences$Acts" (189 : Nat) yX0_move) ∈ TB := tw_of 458 (by decide +kernel) rfl
theorem tw460 : (Jvm.Cond.instanceMethod yX0_move) ∈ TB := tw_of 460 (by decide +kernel) rfl
set_option maxRecDepth 100000 in
theorem tw461 : (Jvm.Cond.code yX0_move prog_2_method_15_code (4 : Nat) (Option.none : Option Jvm.ClassFile.FieldType)) ∈ TB := tw_of 461 rfl rfl
theorem tw462 : (Jvm.Cond.methodLink "BitCongruences$Acts" (196 : Nat) yX1_copy) ∈ TB := tw_of 462 (by decide +kernel) rfl
theorem tw463 : (Jvm.Cond.methodLink "BitCongruences$Acts" (200 : Nat) yX0_moveLeft) ∈ TB := tw_of 463 (by decide +kernel) rfl
theorem tw465 : (Jvm.Cond.instanceMethod yX0_moveLeft) ∈ TB := tw_of 465 (by decide +kernel) rfl
set_option maxRecDepth 100000 in
theorem tw466 : (Jvm.Cond.code yX0_moveLeft prog_2_method_16_code (12 : Nat) (Option.none : Option Jvm.ClassFile.FieldType)) ∈ TB := tw_of 466 rfl rfl
theorem tw467 : (Jvm.Cond.methodLink "BitCongruences$Acts" (204 : Nat) yX1_become) ∈ TB := tw_of 467 (by decide +kernel) rfl
theorem tw468 : (Jvm.Cond.methodLink "BitCongruences$Acts" (208 : Nat) yX0_moveRightZeros) ∈ TB := tw_of 468 (by decide +kernel) rfl
theorem tw470 : (Jvm.Cond.instanceMethod yX0_moveRightZeros) ∈ TB := tw_of 470 (by decide +kernel) rfl
set_option maxRecDepth 100000 in
theorem tw471 : (Jvm.Cond.code yX0_moveRightZeros prog_2_method_17_code (4 : Nat) (Option.none : Option Jvm.ClassFile.FieldType)) ∈ TB := tw_of 471 rfl rfl
theorem tw472 : (Jvm.Cond.methodLink "BitCongruences$Acts" (104 : Nat) yX1_sharpen) ∈ TB := tw_of 472 (by decide +kernel) rfl
theorem tw473 : (Jvm.Cond.methodLink "BitCongruences$Acts" (193 : Nat) yX1_becomeJoin) ∈ TB := tw_of 473 (by decide +kernel) rfl
theorem tw474 : (Jvm.Cond.methodLink "BitCongruences$Acts" (89 : Nat) yX0_quotient) ∈ TB := tw_of 474 (by decide +kernel) rfl
theorem tw475 : (Jvm.Cond.static yX0_quotient) ∈ TB := tw_of 475 (by decide +kernel) rfl
set_option maxRecDepth 100000 in
theorem tw476 : (Jvm.Cond.code yX0_quotient prog_2_method_18_code (4 : Nat) (Option.none : Option Jvm.ClassFile.FieldType)) ∈ TB := tw_of 476 rfl rfl
theorem tw477 : (Jvm.Cond.methodLink "BitCongruences$Acts" (93 : Nat) yX0_remainder) ∈ TB := tw_of 477 (by decide +kernel) rfl
theorem tw478 : (Jvm.Cond.static yX0_remainder) ∈ TB := tw_of 478 (by decide +kernel) rfl
set_option maxRecDepth 100000 in
theorem tw479 : (Jvm.Cond.code yX0_remainder prog_2_method_19_code (8 : Nat) (Option.none : Option Jvm.ClassFile.FieldType)) ∈ TB := tw_of 479 rfl rfl
theorem tw480 : (Jvm.Cond.methodLink "BitCongruences$Acts" (96 : Nat) yX0_turned) ∈ TB := tw_of 480 (by decide +kernel) rfl
theorem tw481 : (Jvm.Cond.static yX0_turned) ∈ TB := tw_of 481 (by decide +kernel) rfl
set_option maxRecDepth 100000 in
theorem tw482 : (Jvm.Cond.code yX0_turned prog_2_method_20_code (2 : Nat) (Option.none : Option Jvm.ClassFile.FieldType)) ∈ TB := tw_of 482 rfl rfl
theorem tw483 : (Jvm.Cond.methodLink "BitCongruences$Acts" (100 : Nat) yX0_narrowed) ∈ TB := tw_of 483 (by decide +kernel) rfl
theorem tw484 : (Jvm.Cond.static yX0_narrowed) ∈ TB := tw_of 484 (by decide +kernel) rfl
set_option maxRecDepth 100000 in
theorem tw485 : (Jvm.Cond.code yX0_narrowed prog_2_method_21_code (10 : Nat) (Option.none : Option Jvm.ClassFile.FieldType)) ∈ TB := tw_of 485 rfl rfl
theorem tw486 : (Jvm.Cond.methodLink "BitCongruences" (116 : Nat) yX1_copy) ∈ TB := tw_of 486 (by decide +kernel) rfl
theorem tw487 : (Jvm.Cond.methodLink "BitCongruencesLaw" (34 : Nat) yX6_told) ∈ TB := tw_of 487 (by decide +kernel) rfl
theorem tw488 : (Jvm.Cond.instanceMethod yX6_told) ∈ TB := tw_of 488 (by decide +kernel) rfl
theorem tw489 : (Jvm.Cond.selects "BitCongruences" yX6_told yX6_told) ∈ TB := tw_of 489 (by decide +kernel) rfl
set_option maxRecDepth 100000 in
theorem tw490 : (Jvm.Cond.code yX6_told prog_1_method_6_code (4 : Nat) (Option.some Jvm.ClassFile.FieldType.long)) ∈ TB := tw_of 490 rfl rfl
theorem tw491 : (Jvm.Cond.methodLink "BitCongruencesLaw" (39 : Nat) yX6_isOf) ∈ TB := tw_of 491 (by decide +kernel) rfl
theorem tw492 : (Jvm.Cond.instanceMethod yX6_isOf) ∈ TB := tw_of 492 (by decide +kernel) rfl
theorem tw493 : (Jvm.Cond.selects "BitCongruences" yX6_isOf yX6_isOf) ∈ TB := tw_of 493 (by decide +kernel) rfl
set_option maxRecDepth 100000 in
theorem tw494 : (Jvm.Cond.code yX6_isOf prog_1_method_7_code (5 : Nat) (Option.some Jvm.ClassFile.FieldType.boolean)) ∈ TB := tw_of 494 rfl rfl
theorem tw495 : (Jvm.Cond.methodLink "BitCongruences" (124 : Nat) yX1_holds) ∈ TB := tw_of 495 (by decide +kernel) rfl
theorem tw496 : (Jvm.Cond.instanceMethod yX1_holds) ∈ TB := tw_of 496 (by decide +kernel) rfl
theorem tw497 : (Jvm.Cond.selects "BitCongruences$Fact" yX1_holds yX1_holds) ∈ TB := tw_of 497 (by decide +kernel) rfl
set_option maxRecDepth 100000 in
theorem tw498 : (Jvm.Cond.code yX1_holds prog_3_method_9_code (3 : Nat) (Option.some Jvm.ClassFile.FieldType.boolean)) ∈ TB := tw_of 498 rfl rfl
theorem tw499 : (Jvm.Cond.methodLink "BitCongruencesLaw" (44 : Nat) yX6_method) ∈ TB := tw_of 499 (by decide +kernel) rfl
theorem tw500 : (Jvm.Cond.instanceMethod yX6_method) ∈ TB := tw_of 500 (by decide +kernel) rfl
theorem tw501 : (Jvm.Cond.selects "BitCongruences" yX6_method yX6_method) ∈ TB := tw_of 501 (by decide +kernel) rfl
set_option maxRecDepth 100000 in
theorem tw502 : (Jvm.Cond.code yX6_method prog_1_method_8_code (1 : Nat) (Option.some Jvm.ClassFile.FieldType.int)) ∈ TB := tw_of 502 rfl rfl
theorem tw504 : (Jvm.Cond.methodLink "BitCongruences" (128 : Nat) yX3_init) ∈ TB := tw_of 504 (by decide +kernel) rfl
theorem tw505 : (Jvm.Cond.instanceMethod yX3_init) ∈ TB := tw_of 505 (by decide +kernel) rfl
set_option maxRecDepth 100000 in
theorem tw506 : (Jvm.Cond.code yX3_init prog_5_method_1_code (2 : Nat) (Option.none : Option Jvm.ClassFile.FieldType)) ∈ TB := tw_of 506 rfl rfl
theorem tw509 : (Jvm.Cond.methodLink "BitCongruences$Routine" (45 : Nat) yX1_init) ∈ TB := tw_of 509 (by decide +kernel) rfl
theorem tw559 : (Jvm.Cond.methodLink "BitCongruencesLaw" (49 : Nat) yX6_op) ∈ TB := tw_of 559 (by decide +kernel) rfl
theorem tw560 : (Jvm.Cond.instanceMethod yX6_op) ∈ TB := tw_of 560 (by decide +kernel) rfl
theorem tw561 : (Jvm.Cond.selects "BitCongruences" yX6_op yX6_op) ∈ TB := tw_of 561 (by decide +kernel) rfl
set_option maxRecDepth 100000 in
theorem tw562 : (Jvm.Cond.code yX6_op prog_1_method_9_code (6 : Nat) (Option.some Jvm.ClassFile.FieldType.int)) ∈ TB := tw_of 562 rfl rfl
theorem tw563 : (Jvm.Cond.methodLink "BitCongruences" (129 : Nat) yX6_routineAt) ∈ TB := tw_of 563 (by decide +kernel) rfl
theorem tw565 : (Jvm.Cond.instanceMethod yX6_routineAt) ∈ TB := tw_of 565 (by decide +kernel) rfl
set_option maxRecDepth 100000 in
theorem tw566 : (Jvm.Cond.code yX6_routineAt prog_1_method_20_code (2 : Nat) (Option.some (Jvm.ClassFile.FieldType.object "BitCongruences$Routine"))) ∈ TB := tw_of 566 rfl rfl
theorem tw567 : (Jvm.Cond.methodLink "BitCongruences" (133 : Nat) yX6_isLine) ∈ TB := tw_of 567 (by decide +kernel) rfl
theorem tw568 : (Jvm.Cond.static yX6_isLine) ∈ TB := tw_of 568 (by decide +kernel) rfl
set_option maxRecDepth 100000 in
theorem tw569 : (Jvm.Cond.code yX6_isLine prog_1_method_24_code (3 : Nat) (Option.some Jvm.ClassFile.FieldType.boolean)) ∈ TB := tw_of 569 rfl rfl
theorem tw570 : (Jvm.Cond.methodLink "BitCongruences" (155 : Nat) yX6_isPlace) ∈ TB := tw_of 570 (by decide +kernel) rfl
theorem tw571 : (Jvm.Cond.static yX6_isPlace) ∈ TB := tw_of 571 (by decide +kernel) rfl
set_option maxRecDepth 100000 in
theorem tw572 : (Jvm.Cond.code yX6_isPlace prog_1_method_23_code (1 : Nat) (Option.some Jvm.ClassFile.FieldType.boolean)) ∈ TB := tw_of 572 rfl rfl
theorem tw573 : (Jvm.Cond.methodLink "BitCongruences" (140 : Nat) yX3_addLine) ∈ TB := tw_of 573 (by decide +kernel) rfl
theorem tw574 : (Jvm.Cond.instanceMethod yX3_addLine) ∈ TB := tw_of 574 (by decide +kernel) rfl
theorem tw575 : (Jvm.Cond.selects "BitCongruences$Routine" yX3_addLine yX3_addLine) ∈ TB := tw_of 575 (by decide +kernel) rfl
set_option maxRecDepth 100000 in
theorem tw576 : (Jvm.Cond.code yX3_addLine prog_5_method_2_code (4 : Nat) (Option.none : Option Jvm.ClassFile.FieldType)) ∈ TB := tw_of 576 rfl rfl
theorem tw577 : (Jvm.Cond.methodLink "BitCongruencesLaw" (53 : Nat) yX6_table) ∈ TB := tw_of 577 (by decide +kernel) rfl
theorem tw578 : (Jvm.Cond.instanceMethod yX6_table) ∈ TB := tw_of 578 (by decide +kernel) rfl
theorem tw579 : (Jvm.Cond.selects "BitCongruences" yX6_table yX6_table) ∈ TB := tw_of 579 (by decide +kernel) rfl
set_option maxRecDepth 100000 in
theorem tw580 : (Jvm.Cond.code yX6_table prog_1_method_10_code (5 : Nat) (Option.some Jvm.ClassFile.FieldType.int)) ∈ TB := tw_of 580 rfl rfl
theorem tw581 : (Jvm.Cond.methodLink "BitCongruences" (148 : Nat) yX5_addNumber) ∈ TB := tw_of 581 (by decide +kernel) rfl
theorem tw582 : (Jvm.Cond.instanceMethod yX5_addNumber) ∈ TB := tw_of 582 (by decide +kernel) rfl
theorem tw583 : (Jvm.Cond.selects "BitCongruences$Tables" yX5_addNumber yX5_addNumber) ∈ TB := tw_of 583 (by decide +kernel) rfl
set_option maxRecDepth 100000 in
theorem tw584 : (Jvm.Cond.code yX5_addNumber prog_7_method_2_code (4 : Nat) (Option.none : Option Jvm.ClassFile.FieldType)) ∈ TB := tw_of 584 rfl rfl
theorem tw585 : (Jvm.Cond.methodLink "BitCongruencesLaw" (58 : Nat) yX6_given) ∈ TB := tw_of 585 (by decide +kernel) rfl
theorem tw586 : (Jvm.Cond.instanceMethod yX6_given) ∈ TB := tw_of 586 (by decide +kernel) rfl
theorem tw587 : (Jvm.Cond.selects "BitCongruences" yX6_given yX6_given) ∈ TB := tw_of 587 (by decide +kernel) rfl
set_option maxRecDepth 100000 in
theorem tw588 : (Jvm.Cond.code yX6_given prog_1_method_11_code (6 : Nat) (Option.some Jvm.ClassFile.FieldType.int)) ∈ TB := tw_of 588 rfl rfl
theorem tw589 : (Jvm.Cond.methodLink "BitCongruencesLaw" (63 : Nat) yX6_find) ∈ TB := tw_of 589 (by decide +kernel) rfl
theorem tw590 : (Jvm.Cond.instanceMethod yX6_find) ∈ TB := tw_of 590 (by decide +kernel) rfl
theorem tw591 : (Jvm.Cond.selects "BitCongruences" yX6_find yX6_find) ∈ TB := tw_of 591 (by decide +kernel) rfl
set_option maxRecDepth 100000 in
theorem tw592 : (Jvm.Cond.code yX6_find prog_1_method_12_code (5 : Nat) (Option.some Jvm.ClassFile.FieldType.int)) ∈ TB := tw_of 592 rfl rfl
theorem tw593 : (Jvm.Cond.methodLink "BitCongruences" (162 : Nat) yX2_begin) ∈ TB := tw_of 593 (by decide +kernel) rfl
theorem tw594 : (Jvm.Cond.instanceMethod yX2_begin) ∈ TB := tw_of 594 (by decide +kernel) rfl
theorem tw595 : (Jvm.Cond.selects "BitCongruences$Finder" yX2_begin yX2_begin) ∈ TB := tw_of 595 (by decide +kernel) rfl
set_option maxRecDepth 100000 in
theorem tw596 : (Jvm.Cond.code yX2_begin prog_4_method_2_code (3 : Nat) (Option.none : Option Jvm.ClassFile.FieldType)) ∈ TB := tw_of 596 rfl rfl
theorem tw597 : (Jvm.Cond.methodLink "BitCongruences$Finder" (52 : Nat) yX1_copy) ∈ TB := tw_of 597 (by decide +kernel) rfl
theorem tw598 : (Jvm.Cond.methodLink "BitCongruences$Finder" (56 : Nat) yX2_send) ∈ TB := tw_of 598 (by decide +kernel) rfl
theorem tw600 : (Jvm.Cond.instanceMethod yX2_send) ∈ TB := tw_of 600 (by decide +kernel) rfl
set_option maxRecDepth 100000 in
theorem tw601 : (Jvm.Cond.code yX2_send prog_4_method_16_code (7 : Nat) (Option.none : Option Jvm.ClassFile.FieldType)) ∈ TB := tw_of 601 rfl rfl
theorem tw602 : (Jvm.Cond.methodLink "BitCongruences$Finder" (185 : Nat) yX2_someComeToNone) ∈ TB := tw_of 602 (by decide +kernel) rfl
theorem tw604 : (Jvm.Cond.instanceMethod yX2_someComeToNone) ∈ TB := tw_of 604 (by decide +kernel) rfl
set_option maxRecDepth 100000 in
theorem tw605 : (Jvm.Cond.code yX2_someComeToNone prog_4_method_17_code (2 : Nat) (Option.some Jvm.ClassFile.FieldType.boolean)) ∈ TB := tw_of 605 rfl rfl
theorem tw606 : (Jvm.Cond.methodLink "BitCongruences$Finder" (188 : Nat) yX2_merge) ∈ TB := tw_of 606 (by decide +kernel) rfl
theorem tw608 : (Jvm.Cond.instanceMethod yX2_merge) ∈ TB := tw_of 608 (by decide +kernel) rfl
set_option maxRecDepth 100000 in
theorem tw609 : (Jvm.Cond.code yX2_merge prog_4_method_18_code (6 : Nat) (Option.some Jvm.ClassFile.FieldType.boolean)) ∈ TB := tw_of 609 rfl rfl
theorem tw610 : (Jvm.Cond.methodLink "BitCongruences$Finder" (125 : Nat) yX1_becomeJoin) ∈ TB := tw_of 610 (by decide +kernel) rfl
theorem tw613 : (Jvm.Cond.methodLink "BitCongruences$Finder" (166 : Nat) yX1_sharpen) ∈ TB := tw_of 613 (by decide +kernel) rfl
theorem tw614 : (Jvm.Cond.methodLink "BitCongruences$Finder" (195 : Nat) yX1_isLike) ∈ TB := tw_of 614 (by decide +kernel) rfl
theorem tw615 : (Jvm.Cond.instanceMethod yX1_isLike) ∈ TB := tw_of 615 (by decide +kernel) rfl
theorem tw616 : (Jvm.Cond.selects "BitCongruences$Fact" yX1_isLike yX1_isLike) ∈ TB := tw_of 616 (by decide +kernel) rfl
set_option maxRecDepth 100000 in
theorem tw617 : (Jvm.Cond.code yX1_isLike prog_3_method_8_code (2 : Nat) (Option.some Jvm.ClassFile.FieldType.boolean)) ∈ TB := tw_of 617 rfl rfl
theorem tw618 : (Jvm.Cond.methodLink "BitCongruences" (166 : Nat) yX2_someWait) ∈ TB := tw_of 618 (by decide +kernel) rfl
theorem tw619 : (Jvm.Cond.instanceMethod yX2_someWait) ∈ TB := tw_of 619 (by decide +kernel) rfl
theorem tw620 : (Jvm.Cond.selects "BitCongruences$Finder" yX2_someWait yX2_someWait) ∈ TB := tw_of 620 (by decide +kernel) rfl
set_option maxRecDepth 100000 in
theorem tw621 : (Jvm.Cond.code yX2_someWait prog_4_method_3_code (2 : Nat) (Option.some Jvm.ClassFile.FieldType.boolean)) ∈ TB := tw_of 621 rfl rfl
theorem tw622 : (Jvm.Cond.methodLink "BitCongruences" (170 : Nat) yX2_workLine) ∈ TB := tw_of 622 (by decide +kernel) rfl
theorem tw623 : (Jvm.Cond.instanceMethod yX2_workLine) ∈ TB := tw_of 623 (by decide +kernel) rfl
theorem tw624 : (Jvm.Cond.selects "BitCongruences$Finder" yX2_workLine yX2_workLine) ∈ TB := tw_of 624 (by decide +kernel) rfl
set_option maxRecDepth 100000 in
theorem tw625 : (Jvm.Cond.code yX2_workLine prog_4_method_6_code (10 : Nat) (Option.none : Option Jvm.ClassFile.FieldType)) ∈ TB := tw_of 625 rfl rfl
theorem tw626 : (Jvm.Cond.methodLink "BitCongruences$Finder" (81 : Nat) yX2_fetch) ∈ TB := tw_of 626 (by decide +kernel) rfl
theorem tw628 : (Jvm.Cond.instanceMethod yX2_fetch) ∈ TB := tw_of 628 (by decide +kernel) rfl
set_option maxRecDepth 100000 in
theorem tw629 : (Jvm.Cond.code yX2_fetch prog_4_method_7_code (4 : Nat) (Option.none : Option Jvm.ClassFile.FieldType)) ∈ TB := tw_of 629 rfl rfl
theorem tw630 : (Jvm.Cond.methodLink "BitCongruences$Finder" (93 : Nat) yX1_makeConstant) ∈ TB := tw_of 630 (by decide +kernel) rfl
theorem tw631 : (Jvm.Cond.methodLink "BitCongruences$Finder" (97 : Nat) yX2_lookUp) ∈ TB := tw_of 631 (by decide +kernel) rfl
theorem tw633 : (Jvm.Cond.instanceMethod yX2_lookUp) ∈ TB := tw_of 633 (by decide +kernel) rfl
set_option maxRecDepth 100000 in
theorem tw634 : (Jvm.Cond.code yX2_lookUp prog_4_method_8_code (6 : Nat) (Option.none : Option Jvm.ClassFile.FieldType)) ∈ TB := tw_of 634 rfl rfl
theorem tw635 : (Jvm.Cond.methodLink "BitCongruences$Finder" (109 : Nat) yX1_makeNone) ∈ TB := tw_of 635 (by decide +kernel) rfl
theorem tw636 : (Jvm.Cond.methodLink "BitCongruences$Finder" (117 : Nat) yX1_holds) ∈ TB := tw_of 636 (by decide +kernel) rfl
theorem tw637 : (Jvm.Cond.methodLink "BitCongruences$Finder" (101 : Nat) yX2_branch) ∈ TB := tw_of 637 (by decide +kernel) rfl
theorem tw639 : (Jvm.Cond.instanceMethod yX2_branch) ∈ TB := tw_of 639 (by decide +kernel) rfl
set_option maxRecDepth 100000 in
theorem tw640 : (Jvm.Cond.code yX2_branch prog_4_method_9_code (11 : Nat) (Option.none : Option Jvm.ClassFile.FieldType)) ∈ TB := tw_of 640 rfl rfl
theorem tw641 : (Jvm.Cond.methodLink "BitCongruences$Finder" (129 : Nat) yX2_learnBit) ∈ TB := tw_of 641 (by decide +kernel) rfl
theorem tw642 : (Jvm.Cond.static yX2_learnBit) ∈ TB := tw_of 642 (by decide +kernel) rfl
set_option maxRecDepth 100000 in
theorem tw643 : (Jvm.Cond.code yX2_learnBit prog_4_method_10_code (6 : Nat) (Option.none : Option Jvm.ClassFile.FieldType)) ∈ TB := tw_of 643 rfl rfl
theorem tw644 : (Jvm.Cond.methodLink "BitCongruences$Finder" (133 : Nat) yX1_becomeMeet) ∈ TB := tw_of 644 (by decide +kernel) rfl
theorem tw645 : (Jvm.Cond.methodLink "BitCongruences$Finder" (136 : Nat) yX2_keepApart) ∈ TB := tw_of 645 (by decide +kernel) rfl
theorem tw646 : (Jvm.Cond.static yX2_keepApart) ∈ TB := tw_of 646 (by decide +kernel) rfl
set_option maxRecDepth 100000 in
theorem tw647 : (Jvm.Cond.code yX2_keepApart prog_4_method_11_code (3 : Nat) (Option.none : Option Jvm.ClassFile.FieldType)) ∈ TB := tw_of 647 rfl rfl
theorem tw648 : (Jvm.Cond.methodLink "BitCongruences$Finder" (169 : Nat) yX1_isConstant) ∈ TB := tw_of 648 (by decide +kernel) rfl
theorem tw649 : (Jvm.Cond.methodLink "BitCongruences$Finder" (140 : Nat) yX2_keepBelow) ∈ TB := tw_of 649 (by decide +kernel) rfl
theorem tw650 : (Jvm.Cond.static yX2_keepBelow) ∈ TB := tw_of 650 (by decide +kernel) rfl
set_option maxRecDepth 100000 in
theorem tw651 : (Jvm.Cond.code yX2_keepBelow prog_4_method_12_code (3 : Nat) (Option.none : Option Jvm.ClassFile.FieldType)) ∈ TB := tw_of 651 rfl rfl
theorem tw652 : (Jvm.Cond.methodLink "BitCongruences$Finder" (157 : Nat) yX2_keepUpTo) ∈ TB := tw_of 652 (by decide +kernel) rfl
theorem tw653 : (Jvm.Cond.static yX2_keepUpTo) ∈ TB := tw_of 653 (by decide +kernel) rfl
set_option maxRecDepth 100000 in
theorem tw654 : (Jvm.Cond.code yX2_keepUpTo prog_4_method_15_code (4 : Nat) (Option.none : Option Jvm.ClassFile.FieldType)) ∈ TB := tw_of 654 rfl rfl
theorem tw655 : (Jvm.Cond.methodLink "BitCongruences$Finder" (182 : Nat) yJ9_min_f86c9) ∈ TB := tw_of 655 (by decide +kernel) rfl
theorem tw656 : (Jvm.Cond.methodLink "BitCongruences$Finder" (143 : Nat) yX2_keepAbove) ∈ TB := tw_of 656 (by decide +kernel) rfl
theorem tw657 : (Jvm.Cond.static yX2_keepAbove) ∈ TB := tw_of 657 (by decide +kernel) rfl
set_option maxRecDepth 100000 in
theorem tw658 : (Jvm.Cond.code yX2_keepAbove prog_4_method_13_code (3 : Nat) (Option.none : Option Jvm.ClassFile.FieldType)) ∈ TB := tw_of 658 rfl rfl
theorem tw659 : (Jvm.Cond.methodLink "BitCongruences$Finder" (150 : Nat) yX2_keepFrom) ∈ TB := tw_of 659 (by decide +kernel) rfl
theorem tw660 : (Jvm.Cond.static yX2_keepFrom) ∈ TB := tw_of 660 (by decide +kernel) rfl
set_option maxRecDepth 100000 in
theorem tw661 : (Jvm.Cond.code yX2_keepFrom prog_4_method_14_code (4 : Nat) (Option.none : Option Jvm.ClassFile.FieldType)) ∈ TB := tw_of 661 rfl rfl
theorem tw662 : (Jvm.Cond.methodLink "BitCongruences$Finder" (176 : Nat) yJ9_max_f86c9) ∈ TB := tw_of 662 (by decide +kernel) rfl
theorem tw663 : (Jvm.Cond.methodLink "BitCongruences$Finder" (105 : Nat) yX0_work) ∈ TB := tw_of 663 (by decide +kernel) rfl
theorem tw664 : (Jvm.Cond.methodLink "BitCongruences" (174 : Nat) yX2_end) ∈ TB := tw_of 664 (by decide +kernel) rfl
theorem tw665 : (Jvm.Cond.instanceMethod yX2_end) ∈ TB := tw_of 665 (by decide +kernel) rfl
theorem tw666 : (Jvm.Cond.selects "BitCongruences$Finder" yX2_end yX2_end) ∈ TB := tw_of 666 (by decide +kernel) rfl
set_option maxRecDepth 100000 in
theorem tw667 : (Jvm.Cond.code yX2_end prog_4_method_4_code (2 : Nat) (Option.none : Option Jvm.ClassFile.FieldType)) ∈ TB := tw_of 667 rfl rfl
theorem tw668 : (Jvm.Cond.methodLink "BitCongruences$Finder" (60 : Nat) yX2_someWait) ∈ TB := tw_of 668 (by decide +kernel) rfl
theorem tw669 : (Jvm.Cond.methodLink "BitCongruences$Finder" (64 : Nat) yX2_reachAll) ∈ TB := tw_of 669 (by decide +kernel) rfl
theorem tw670 : (Jvm.Cond.static yX2_reachAll) ∈ TB := tw_of 670 (by decide +kernel) rfl
set_option maxRecDepth 100000 in
theorem tw671 : (Jvm.Cond.code yX2_reachAll prog_4_method_5_code (2 : Nat) (Option.none : Option Jvm.ClassFile.FieldType)) ∈ TB := tw_of 671 rfl rfl
theorem tw672 : (Jvm.Cond.methodLink "BitCongruences$Finder" (78 : Nat) yX1_makeAll) ∈ TB := tw_of 672 (by decide +kernel) rfl
theorem tw673 : (Jvm.Cond.methodLink "BitCongruencesLaw" (68 : Nat) yX6_found) ∈ TB := tw_of 673 (by decide +kernel) rfl
theorem tw674 : (Jvm.Cond.instanceMethod yX6_found) ∈ TB := tw_of 674 (by decide +kernel) rfl
theorem tw675 : (Jvm.Cond.selects "BitCongruences" yX6_found yX6_found) ∈ TB := tw_of 675 (by decide +kernel) rfl
set_option maxRecDepth 100000 in
theorem tw676 : (Jvm.Cond.code yX6_found prog_1_method_13_code (7 : Nat) (Option.some Jvm.ClassFile.FieldType.int)) ∈ TB := tw_of 676 rfl rfl
theorem tw677 : (Jvm.Cond.methodLink "BitCongruences" (184 : Nat) yX1_makeNone) ∈ TB := tw_of 677 (by decide +kernel) rfl
theorem tw678 : (Jvm.Cond.methodLink "BitCongruencesLaw" (72 : Nat) yX6_sum) ∈ TB := tw_of 678 (by decide +kernel) rfl
theorem tw679 : (Jvm.Cond.instanceMethod yX6_sum) ∈ TB := tw_of 679 (by decide +kernel) rfl
theorem tw680 : (Jvm.Cond.selects "BitCongruences" yX6_sum yX6_sum) ∈ TB := tw_of 680 (by decide +kernel) rfl
set_option maxRecDepth 100000 in
theorem tw681 : (Jvm.Cond.code yX6_sum prog_1_method_14_code (4 : Nat) (Option.some Jvm.ClassFile.FieldType.int)) ∈ TB := tw_of 681 rfl rfl
theorem tw682 : (Jvm.Cond.methodLink "BitCongruences" (187 : Nat) yX3_reachedLines) ∈ TB := tw_of 682 (by decide +kernel) rfl
theorem tw683 : (Jvm.Cond.instanceMethod yX3_reachedLines) ∈ TB := tw_of 683 (by decide +kernel) rfl
theorem tw684 : (Jvm.Cond.selects "BitCongruences$Routine" yX3_reachedLines yX3_reachedLines) ∈ TB := tw_of 684 (by decide +kernel) rfl
set_option maxRecDepth 100000 in
theorem tw685 : (Jvm.Cond.code yX3_reachedLines prog_5_method_4_code (3 : Nat) (Option.some Jvm.ClassFile.FieldType.int)) ∈ TB := tw_of 685 rfl rfl
theorem tw686 : (Jvm.Cond.methodLink "BitCongruences" (191 : Nat) yX3_givenUpLines) ∈ TB := tw_of 686 (by decide +kernel) rfl
theorem tw687 : (Jvm.Cond.instanceMethod yX3_givenUpLines) ∈ TB := tw_of 687 (by decide +kernel) rfl
theorem tw688 : (Jvm.Cond.selects "BitCongruences$Routine" yX3_givenUpLines yX3_givenUpLines) ∈ TB := tw_of 688 (by decide +kernel) rfl
set_option maxRecDepth 100000 in
theorem tw689 : (Jvm.Cond.code yX3_givenUpLines prog_5_method_5_code (5 : Nat) (Option.some Jvm.ClassFile.FieldType.int)) ∈ TB := tw_of 689 rfl rfl
theorem tw690 : (Jvm.Cond.methodLink "BitCongruences$Routine" (50 : Nat) yX0_givesUp) ∈ TB := tw_of 690 (by decide +kernel) rfl
theorem tw691 : (Jvm.Cond.methodLink "BitCongruences" (194 : Nat) yX3_constants) ∈ TB := tw_of 691 (by decide +kernel) rfl
theorem tw692 : (Jvm.Cond.instanceMethod yX3_constants) ∈ TB := tw_of 692 (by decide +kernel) rfl
theorem tw693 : (Jvm.Cond.selects "BitCongruences$Routine" yX3_constants yX3_constants) ∈ TB := tw_of 693 (by decide +kernel) rfl
set_option maxRecDepth 100000 in
theorem tw694 : (Jvm.Cond.code yX3_constants prog_5_method_6_code (3 : Nat) (Option.some Jvm.ClassFile.FieldType.int)) ∈ TB := tw_of 694 rfl rfl
theorem tw695 : (Jvm.Cond.methodLink "BitCongruences$Routine" (56 : Nat) yX1_isConstant) ∈ TB := tw_of 695 (by decide +kernel) rfl
theorem tw696 : (Jvm.Cond.methodLink "BitCongruencesLaw" (77 : Nat) yX6_put) ∈ TB := tw_of 696 (by decide +kernel) rfl
theorem tw697 : (Jvm.Cond.instanceMethod yX6_put) ∈ TB := tw_of 697 (by decide +kernel) rfl
theorem tw698 : (Jvm.Cond.selects "BitCongruences" yX6_put yX6_put) ∈ TB := tw_of 698 (by decide +kernel) rfl
set_option maxRecDepth 100000 in
theorem tw699 : (Jvm.Cond.code yX6_put prog_1_method_15_code (6 : Nat) (Option.some Jvm.ClassFile.FieldType.long)) ∈ TB := tw_of 699 rfl rfl
theorem tw700 : (Jvm.Cond.methodLink "BitCongruencesLaw" (82 : Nat) yX6_walk) ∈ TB := tw_of 700 (by decide +kernel) rfl
theorem tw701 : (Jvm.Cond.instanceMethod yX6_walk) ∈ TB := tw_of 701 (by decide +kernel) rfl
theorem tw702 : (Jvm.Cond.selects "BitCongruences" yX6_walk yX6_walk) ∈ TB := tw_of 702 (by decide +kernel) rfl
set_option maxRecDepth 100000 in
theorem tw703 : (Jvm.Cond.code yX6_walk prog_1_method_16_code (4 : Nat) (Option.some Jvm.ClassFile.FieldType.int)) ∈ TB := tw_of 703 rfl rfl
theorem tw704 : (Jvm.Cond.methodLink "BitCongruences" (200 : Nat) yX3_allows) ∈ TB := tw_of 704 (by decide +kernel) rfl
theorem tw705 : (Jvm.Cond.instanceMethod yX3_allows) ∈ TB := tw_of 705 (by decide +kernel) rfl
theorem tw706 : (Jvm.Cond.selects "BitCongruences$Routine" yX3_allows yX3_allows) ∈ TB := tw_of 706 (by decide +kernel) rfl
set_option maxRecDepth 100000 in
theorem tw707 : (Jvm.Cond.code yX3_allows prog_5_method_3_code (3 : Nat) (Option.some Jvm.ClassFile.FieldType.boolean)) ∈ TB := tw_of 707 rfl rfl
theorem tw708 : (Jvm.Cond.methodLink "BitCongruences$Routine" (46 : Nat) yX1_holds) ∈ TB := tw_of 708 (by decide +kernel) rfl
theorem tw709 : (Jvm.Cond.methodLink "BitCongruences" (204 : Nat) yX4_begin) ∈ TB := tw_of 709 (by decide +kernel) rfl
theorem tw710 : (Jvm.Cond.instanceMethod yX4_begin) ∈ TB := tw_of 710 (by decide +kernel) rfl
theorem tw711 : (Jvm.Cond.selects "BitCongruences$Run" yX4_begin yX4_begin) ∈ TB := tw_of 711 (by decide +kernel) rfl
set_option maxRecDepth 100000 in
theorem tw712 : (Jvm.Cond.code yX4_begin prog_6_method_2_code (8 : Nat) (Option.some Jvm.ClassFile.FieldType.int)) ∈ TB := tw_of 712 rfl rfl
theorem tw713 : (Jvm.Cond.methodLink "BitCongruences$Run" (30 : Nat) yX4_look) ∈ TB := tw_of 713 (by decide +kernel) rfl
theorem tw715 : (Jvm.Cond.instanceMethod yX4_look) ∈ TB := tw_of 715 (by decide +kernel) rfl
set_option maxRecDepth 100000 in
theorem tw716 : (Jvm.Cond.code yX4_look prog_6_method_3_code (4 : Nat) (Option.none : Option Jvm.ClassFile.FieldType)) ∈ TB := tw_of 716 rfl rfl
theorem tw717 : (Jvm.Cond.methodLink "BitCongruences$Run" (52 : Nat) yX1_holds) ∈ TB := tw_of 717 (by decide +kernel) rfl
theorem tw718 : (Jvm.Cond.methodLink "BitCongruences$Run" (34 : Nat) yX4_step) ∈ TB := tw_of 718 (by decide +kernel) rfl
theorem tw720 : (Jvm.Cond.instanceMethod yX4_step) ∈ TB := tw_of 720 (by decide +kernel) rfl
set_option maxRecDepth 100000 in
theorem tw721 : (Jvm.Cond.code yX4_step prog_6_method_4_code (6 : Nat) (Option.some Jvm.ClassFile.FieldType.int)) ∈ TB := tw_of 721 rfl rfl
theorem tw722 : (Jvm.Cond.methodLink "BitCongruences$Run" (68 : Nat) yX4_lookUp) ∈ TB := tw_of 722 (by decide +kernel) rfl
theorem tw724 : (Jvm.Cond.instanceMethod yX4_lookUp) ∈ TB := tw_of 724 (by decide +kernel) rfl
set_option maxRecDepth 100000 in
theorem tw725 : (Jvm.Cond.code yX4_lookUp prog_6_method_5_code (6 : Nat) (Option.some Jvm.ClassFile.FieldType.boolean)) ∈ TB := tw_of 725 rfl rfl
theorem tw726 : (Jvm.Cond.methodLink "BitCongruences$Run" (76 : Nat) yX5_has) ∈ TB := tw_of 726 (by decide +kernel) rfl
theorem tw727 : (Jvm.Cond.instanceMethod yX5_has) ∈ TB := tw_of 727 (by decide +kernel) rfl
theorem tw728 : (Jvm.Cond.selects "BitCongruences$Tables" yX5_has yX5_has) ∈ TB := tw_of 728 (by decide +kernel) rfl
set_option maxRecDepth 100000 in
theorem tw729 : (Jvm.Cond.code yX5_has prog_7_method_3_code (4 : Nat) (Option.some Jvm.ClassFile.FieldType.boolean)) ∈ TB := tw_of 729 rfl rfl
theorem tw730 : (Jvm.Cond.methodLink "BitCongruences$Run" (72 : Nat) yX4_compute) ∈ TB := tw_of 730 (by decide +kernel) rfl
theorem tw732 : (Jvm.Cond.instanceMethod yX4_compute) ∈ TB := tw_of 732 (by decide +kernel) rfl
set_option maxRecDepth 100000 in
theorem tw733 : (Jvm.Cond.code yX4_compute prog_6_method_6_code (6 : Nat) (Option.some Jvm.ClassFile.FieldType.boolean)) ∈ TB := tw_of 733 rfl rfl
theorem tw734 : (Jvm.Cond.methodLink "BitCongruences$Run" (85 : Nat) yX0_stops) ∈ TB := tw_of 734 (by decide +kernel) rfl
theorem tw735 : (Jvm.Cond.methodLink "BitCongruences$Run" (90 : Nat) yX0_number) ∈ TB := tw_of 735 (by decide +kernel) rfl
theorem tw736 : (Jvm.Cond.methodLink "BitCongruences$Run" (38 : Nat) yJ9_min_7cf53) ∈ TB := tw_of 736 (by decide +kernel) rfl
theorem tw737 : (Jvm.Cond.static yJ9_min_7cf53) ∈ TB := tw_of 737 (by decide +kernel) rfl
set_option maxRecDepth 100000 in
theorem tw738 : (Jvm.Cond.code yJ9_min_7cf53 prog_11_method_69_code (2 : Nat) (Option.some Jvm.ClassFile.FieldType.int)) ∈ TB := tw_of 738 rfl rfl
theorem tw739 : (Jvm.Cond.methodLink "BitCongruencesLaw" (86 : Nat) yX6_now) ∈ TB := tw_of 739 (by decide +kernel) rfl
theorem tw740 : (Jvm.Cond.instanceMethod yX6_now) ∈ TB := tw_of 740 (by decide +kernel) rfl
theorem tw741 : (Jvm.Cond.selects "BitCongruences" yX6_now yX6_now) ∈ TB := tw_of 741 (by decide +kernel) rfl
set_option maxRecDepth 100000 in
theorem tw742 : (Jvm.Cond.code yX6_now prog_1_method_17_code (2 : Nat) (Option.some Jvm.ClassFile.FieldType.long)) ∈ TB := tw_of 742 rfl rfl
theorem tw743 : (Jvm.Cond.methodLink "BitCongruencesLaw" (91 : Nat) yX6_ran) ∈ TB := tw_of 743 (by decide +kernel) rfl
theorem tw744 : (Jvm.Cond.instanceMethod yX6_ran) ∈ TB := tw_of 744 (by decide +kernel) rfl
theorem tw745 : (Jvm.Cond.selects "BitCongruences" yX6_ran yX6_ran) ∈ TB := tw_of 745 (by decide +kernel) rfl
set_option maxRecDepth 100000 in
theorem tw746 : (Jvm.Cond.code yX6_ran prog_1_method_18_code (2 : Nat) (Option.some Jvm.ClassFile.FieldType.int)) ∈ TB := tw_of 746 rfl rfl
theorem tw749 : (Jvm.Cond.methodLink "BitCongruencesLaw" (12 : Nat) yX7_init) ∈ TB := tw_of 749 (by decide +kernel) rfl
theorem tw750 : (Jvm.Cond.instanceMethod yX7_init) ∈ TB := tw_of 750 (by decide +kernel) rfl
set_option maxRecDepth 100000 in
theorem tw751 : (Jvm.Cond.code yX7_init prog_9_method_1_code (2 : Nat) (Option.none : Option Jvm.ClassFile.FieldType)) ∈ TB := tw_of 751 rfl rfl
theorem tw753 : (Jvm.Cond.methodLink "BitCongruencesModel" (79 : Nat) yX7_all) ∈ TB := tw_of 753 (by decide +kernel) rfl
theorem tw755 : (Jvm.Cond.instanceMethod yX7_all) ∈ TB := tw_of 755 (by decide +kernel) rfl
set_option maxRecDepth 100000 in
theorem tw756 : (Jvm.Cond.code yX7_all prog_9_method_6_code (2 : Nat) (Option.none : Option Jvm.ClassFile.FieldType)) ∈ TB := tw_of 756 rfl rfl
theorem tw841 : (Jvm.Cond.methodLink "BitCongruencesLaw" (19 : Nat) yX7_fact) ∈ TB := tw_of 841 (by decide +kernel) rfl
theorem tw842 : (Jvm.Cond.instanceMethod yX7_fact) ∈ TB := tw_of 842 (by decide +kernel) rfl
theorem tw843 : (Jvm.Cond.selects "BitCongruencesModel" yX7_fact yX7_fact) ∈ TB := tw_of 843 (by decide +kernel) rfl
set_option maxRecDepth 100000 in
theorem tw844 : (Jvm.Cond.code yX7_fact prog_9_method_44_code (6 : Nat) (Option.some Jvm.ClassFile.FieldType.int)) ∈ TB := tw_of 844 rfl rfl
theorem tw845 : (Jvm.Cond.methodLink "BitCongruencesModel" (237 : Nat) yX7_isFact) ∈ TB := tw_of 845 (by decide +kernel) rfl
theorem tw846 : (Jvm.Cond.static yX7_isFact) ∈ TB := tw_of 846 (by decide +kernel) rfl
set_option maxRecDepth 100000 in
theorem tw847 : (Jvm.Cond.code yX7_isFact prog_9_method_43_code (1 : Nat) (Option.some Jvm.ClassFile.FieldType.boolean)) ∈ TB := tw_of 847 rfl rfl
theorem tw849 : (Jvm.Cond.methodLink "BitCongruencesModel" (89 : Nat) yX7_in) ∈ TB := tw_of 849 (by decide +kernel) rfl
theorem tw850 : (Jvm.Cond.static yX7_in) ∈ TB := tw_of 850 (by decide +kernel) rfl
set_option maxRecDepth 100000 in
theorem tw851 : (Jvm.Cond.code yX7_in prog_9_method_2_code (6 : Nat) (Option.some Jvm.ClassFile.FieldType.boolean)) ∈ TB := tw_of 851 rfl rfl
theorem tw852 : (Jvm.Cond.methodLink "BitCongruencesModel" (157 : Nat) yX7_put) ∈ TB := tw_of 852 (by decide +kernel) rfl
theorem tw854 : (Jvm.Cond.instanceMethod yX7_put) ∈ TB := tw_of 854 (by decide +kernel) rfl
set_option maxRecDepth 100000 in
theorem tw855 : (Jvm.Cond.code yX7_put prog_9_method_26_code (10 : Nat) (Option.none : Option Jvm.ClassFile.FieldType)) ∈ TB := tw_of 855 rfl rfl
theorem tw856 : (Jvm.Cond.methodLink "BitCongruencesModel" (115 : Nat) yX7_nothing) ∈ TB := tw_of 856 (by decide +kernel) rfl
theorem tw858 : (Jvm.Cond.instanceMethod yX7_nothing) ∈ TB := tw_of 858 (by decide +kernel) rfl
set_option maxRecDepth 100000 in
theorem tw859 : (Jvm.Cond.code yX7_nothing prog_9_method_7_code (2 : Nat) (Option.none : Option Jvm.ClassFile.FieldType)) ∈ TB := tw_of 859 rfl rfl
theorem tw860 : (Jvm.Cond.methodLink "BitCongruencesModel" (165 : Nat) yX7_sharpen) ∈ TB := tw_of 860 (by decide +kernel) rfl
theorem tw862 : (Jvm.Cond.instanceMethod yX7_sharpen) ∈ TB := tw_of 862 (by decide +kernel) rfl
set_option maxRecDepth 100000 in
theorem tw863 : (Jvm.Cond.code yX7_sharpen prog_9_method_15_code (11 : Nat) (Option.none : Option Jvm.ClassFile.FieldType)) ∈ TB := tw_of 863 rfl rfl
theorem tw864 : (Jvm.Cond.methodLink "BitCongruencesModel" (105 : Nat) yX7_byBits) ∈ TB := tw_of 864 (by decide +kernel) rfl
theorem tw866 : (Jvm.Cond.instanceMethod yX7_byBits) ∈ TB := tw_of 866 (by decide +kernel) rfl
set_option maxRecDepth 100000 in
theorem tw867 : (Jvm.Cond.code yX7_byBits prog_9_method_16_code (3 : Nat) (Option.some Jvm.ClassFile.FieldType.boolean)) ∈ TB := tw_of 867 rfl rfl
theorem tw868 : (Jvm.Cond.methodLink "BitCongruencesModel" (101 : Nat) yX7_up) ∈ TB := tw_of 868 (by decide +kernel) rfl
theorem tw870 : (Jvm.Cond.instanceMethod yX7_up) ∈ TB := tw_of 870 (by decide +kernel) rfl
set_option maxRecDepth 100000 in
theorem tw871 : (Jvm.Cond.code yX7_up prog_9_method_13_code (16 : Nat) (Option.some Jvm.ClassFile.FieldType.long)) ∈ TB := tw_of 871 rfl rfl
theorem tw873 : (Jvm.Cond.methodLink "BitCongruencesModel" (122 : Nat) yX7_down) ∈ TB := tw_of 873 (by decide +kernel) rfl
theorem tw875 : (Jvm.Cond.instanceMethod yX7_down) ∈ TB := tw_of 875 (by decide +kernel) rfl
set_option maxRecDepth 100000 in
theorem tw876 : (Jvm.Cond.code yX7_down prog_9_method_14_code (7 : Nat) (Option.some Jvm.ClassFile.FieldType.long)) ∈ TB := tw_of 876 rfl rfl
theorem tw877 : (Jvm.Cond.methodLink "BitCongruencesModel" (109 : Nat) yX7_byRest) ∈ TB := tw_of 877 (by decide +kernel) rfl
theorem tw879 : (Jvm.Cond.instanceMethod yX7_byRest) ∈ TB := tw_of 879 (by decide +kernel) rfl
set_option maxRecDepth 100000 in
theorem tw880 : (Jvm.Cond.code yX7_byRest prog_9_method_17_code (8 : Nat) (Option.some Jvm.ClassFile.FieldType.boolean)) ∈ TB := tw_of 880 rfl rfl
theorem tw881 : (Jvm.Cond.methodLink "BitCongruencesModel" (93 : Nat) yX7_rem) ∈ TB := tw_of 881 (by decide +kernel) rfl
theorem tw882 : (Jvm.Cond.static yX7_rem) ∈ TB := tw_of 882 (by decide +kernel) rfl
set_option maxRecDepth 100000 in
theorem tw883 : (Jvm.Cond.code yX7_rem prog_9_method_3_code (6 : Nat) (Option.some Jvm.ClassFile.FieldType.long)) ∈ TB := tw_of 883 rfl rfl
theorem tw884 : (Jvm.Cond.methodLink "BitCongruencesModel" (112 : Nat) yX7_byEnds) ∈ TB := tw_of 884 (by decide +kernel) rfl
theorem tw886 : (Jvm.Cond.instanceMethod yX7_byEnds) ∈ TB := tw_of 886 (by decide +kernel) rfl
set_option maxRecDepth 100000 in
theorem tw887 : (Jvm.Cond.code yX7_byEnds prog_9_method_18_code (5 : Nat) (Option.some Jvm.ClassFile.FieldType.boolean)) ∈ TB := tw_of 887 rfl rfl
theorem tw888 : (Jvm.Cond.methodLink "BitCongruencesModel" (118 : Nat) yX7_number) ∈ TB := tw_of 888 (by decide +kernel) rfl
theorem tw890 : (Jvm.Cond.instanceMethod yX7_number) ∈ TB := tw_of 890 (by decide +kernel) rfl
set_option maxRecDepth 100000 in
theorem tw891 : (Jvm.Cond.code yX7_number prog_9_method_8_code (4 : Nat) (Option.none : Option Jvm.ClassFile.FieldType)) ∈ TB := tw_of 891 rfl rfl
theorem tw892 : (Jvm.Cond.methodLink "BitCongruencesLaw" (23 : Nat) yX7_bits) ∈ TB := tw_of 892 (by decide +kernel) rfl
theorem tw893 : (Jvm.Cond.instanceMethod yX7_bits) ∈ TB := tw_of 893 (by decide +kernel) rfl
theorem tw894 : (Jvm.Cond.selects "BitCongruencesModel" yX7_bits yX7_bits) ∈ TB := tw_of 894 (by decide +kernel) rfl
set_option maxRecDepth 100000 in
theorem tw895 : (Jvm.Cond.code yX7_bits prog_9_method_45_code (6 : Nat) (Option.some Jvm.ClassFile.FieldType.int)) ∈ TB := tw_of 895 rfl rfl
theorem tw896 : (Jvm.Cond.methodLink "BitCongruencesModel" (240 : Nat) yX7_meet) ∈ TB := tw_of 896 (by decide +kernel) rfl
theorem tw898 : (Jvm.Cond.instanceMethod yX7_meet) ∈ TB := tw_of 898 (by decide +kernel) rfl
set_option maxRecDepth 100000 in
theorem tw899 : (Jvm.Cond.code yX7_meet prog_9_method_27_code (18 : Nat) (Option.none : Option Jvm.ClassFile.FieldType)) ∈ TB := tw_of 899 rfl rfl
theorem tw900 : (Jvm.Cond.methodLink "BitCongruencesModel" (154 : Nat) yX7_more) ∈ TB := tw_of 900 (by decide +kernel) rfl
theorem tw901 : (Jvm.Cond.static yX7_more) ∈ TB := tw_of 901 (by decide +kernel) rfl
set_option maxRecDepth 100000 in
theorem tw902 : (Jvm.Cond.code yX7_more prog_9_method_4_code (4 : Nat) (Option.some Jvm.ClassFile.FieldType.long)) ∈ TB := tw_of 902 rfl rfl
theorem tw903 : (Jvm.Cond.methodLink "BitCongruencesModel" (151 : Nat) yX7_less) ∈ TB := tw_of 903 (by decide +kernel) rfl
theorem tw904 : (Jvm.Cond.static yX7_less) ∈ TB := tw_of 904 (by decide +kernel) rfl
set_option maxRecDepth 100000 in
theorem tw905 : (Jvm.Cond.code yX7_less prog_9_method_5_code (4 : Nat) (Option.some Jvm.ClassFile.FieldType.long)) ∈ TB := tw_of 905 rfl rfl
theorem tw906 : (Jvm.Cond.methodLink "BitCongruencesModel" (161 : Nat) yX7_setRest) ∈ TB := tw_of 906 (by decide +kernel) rfl
theorem tw908 : (Jvm.Cond.instanceMethod yX7_setRest) ∈ TB := tw_of 908 (by decide +kernel) rfl
set_option maxRecDepth 100000 in
theorem tw909 : (Jvm.Cond.code yX7_setRest prog_9_method_24_code (6 : Nat) (Option.none : Option Jvm.ClassFile.FieldType)) ∈ TB := tw_of 909 rfl rfl
theorem tw910 : (Jvm.Cond.methodLink "BitCongruencesLaw" (28 : Nat) yX7_rest) ∈ TB := tw_of 910 (by decide +kernel) rfl
theorem tw911 : (Jvm.Cond.instanceMethod yX7_rest) ∈ TB := tw_of 911 (by decide +kernel) rfl
theorem tw912 : (Jvm.Cond.selects "BitCongruencesModel" yX7_rest yX7_rest) ∈ TB := tw_of 912 (by decide +kernel) rfl
set_option maxRecDepth 100000 in
theorem tw913 : (Jvm.Cond.code yX7_rest prog_9_method_46_code (5 : Nat) (Option.some Jvm.ClassFile.FieldType.int)) ∈ TB := tw_of 913 rfl rfl
theorem tw914 : (Jvm.Cond.methodLink "BitCongruencesLaw" (33 : Nat) yX7_act) ∈ TB := tw_of 914 (by decide +kernel) rfl
theorem tw915 : (Jvm.Cond.instanceMethod yX7_act) ∈ TB := tw_of 915 (by decide +kernel) rfl
theorem tw916 : (Jvm.Cond.selects "BitCongruencesModel" yX7_act yX7_act) ∈ TB := tw_of 916 (by decide +kernel) rfl
set_option maxRecDepth 100000 in
theorem tw917 : (Jvm.Cond.code yX7_act prog_9_method_47_code (5 : Nat) (Option.some Jvm.ClassFile.FieldType.int)) ∈ TB := tw_of 917 rfl rfl
theorem tw919 : (Jvm.Cond.methodLink "BitCongruencesModel" (229 : Nat) yX7_join) ∈ TB := tw_of 919 (by decide +kernel) rfl
theorem tw921 : (Jvm.Cond.instanceMethod yX7_join) ∈ TB := tw_of 921 (by decide +kernel) rfl
set_option maxRecDepth 100000 in
theorem tw922 : (Jvm.Cond.code yX7_join prog_9_method_25_code (20 : Nat) (Option.none : Option Jvm.ClassFile.FieldType)) ∈ TB := tw_of 922 rfl rfl
theorem tw923 : (Jvm.Cond.methodLink "BitCongruencesModel" (133 : Nat) yX7_copy) ∈ TB := tw_of 923 (by decide +kernel) rfl
theorem tw925 : (Jvm.Cond.instanceMethod yX7_copy) ∈ TB := tw_of 925 (by decide +kernel) rfl
set_option maxRecDepth 100000 in
theorem tw926 : (Jvm.Cond.code yX7_copy prog_9_method_9_code (3 : Nat) (Option.none : Option Jvm.ClassFile.FieldType)) ∈ TB := tw_of 926 rfl rfl
theorem tw927 : (Jvm.Cond.methodLink "BitCongruencesModel" (130 : Nat) yX7_isNumber) ∈ TB := tw_of 927 (by decide +kernel) rfl
theorem tw929 : (Jvm.Cond.instanceMethod yX7_isNumber) ∈ TB := tw_of 929 (by decide +kernel) rfl
set_option maxRecDepth 100000 in
theorem tw930 : (Jvm.Cond.code yX7_isNumber prog_9_method_10_code (2 : Nat) (Option.some Jvm.ClassFile.FieldType.boolean)) ∈ TB := tw_of 930 rfl rfl
theorem tw931 : (Jvm.Cond.methodLink "BitCongruencesModel" (137 : Nat) yX7_restOf) ∈ TB := tw_of 931 (by decide +kernel) rfl
theorem tw933 : (Jvm.Cond.instanceMethod yX7_restOf) ∈ TB := tw_of 933 (by decide +kernel) rfl
set_option maxRecDepth 100000 in
theorem tw934 : (Jvm.Cond.code yX7_restOf prog_9_method_23_code (2 : Nat) (Option.some Jvm.ClassFile.FieldType.long)) ∈ TB := tw_of 934 rfl rfl
theorem tw935 : (Jvm.Cond.methodLink "BitCongruencesModel" (141 : Nat) yX7_byOf) ∈ TB := tw_of 935 (by decide +kernel) rfl
theorem tw937 : (Jvm.Cond.instanceMethod yX7_byOf) ∈ TB := tw_of 937 (by decide +kernel) rfl
set_option maxRecDepth 100000 in
theorem tw938 : (Jvm.Cond.code yX7_byOf prog_9_method_22_code (2 : Nat) (Option.some Jvm.ClassFile.FieldType.long)) ∈ TB := tw_of 938 rfl rfl
theorem tw939 : (Jvm.Cond.methodLink "BitCongruencesModel" (144 : Nat) yX7_common) ∈ TB := tw_of 939 (by decide +kernel) rfl
theorem tw940 : (Jvm.Cond.static yX7_common) ∈ TB := tw_of 940 (by decide +kernel) rfl
set_option maxRecDepth 100000 in
theorem tw941 : (Jvm.Cond.code yX7_common prog_9_method_20_code (10 : Nat) (Option.some Jvm.ClassFile.FieldType.long)) ∈ TB := tw_of 941 rfl rfl
theorem tw942 : (Jvm.Cond.methodLink "BitCongruencesModel" (127 : Nat) yX7_left) ∈ TB := tw_of 942 (by decide +kernel) rfl
theorem tw943 : (Jvm.Cond.static yX7_left) ∈ TB := tw_of 943 (by decide +kernel) rfl
set_option maxRecDepth 100000 in
theorem tw944 : (Jvm.Cond.code yX7_left prog_9_method_21_code (8 : Nat) (Option.some Jvm.ClassFile.FieldType.long)) ∈ TB := tw_of 944 rfl rfl
theorem tw945 : (Jvm.Cond.methodLink "BitCongruencesModel" (147 : Nat) yX7_odd) ∈ TB := tw_of 945 (by decide +kernel) rfl
theorem tw946 : (Jvm.Cond.static yX7_odd) ∈ TB := tw_of 946 (by decide +kernel) rfl
set_option maxRecDepth 100000 in
theorem tw947 : (Jvm.Cond.code yX7_odd prog_9_method_19_code (4 : Nat) (Option.some Jvm.ClassFile.FieldType.long)) ∈ TB := tw_of 947 rfl rfl
theorem tw949 : (Jvm.Cond.methodLink "BitCongruencesModel" (245 : Nat) yX7_does) ∈ TB := tw_of 949 (by decide +kernel) rfl
theorem tw951 : (Jvm.Cond.instanceMethod yX7_does) ∈ TB := tw_of 951 (by decide +kernel) rfl
set_option maxRecDepth 100000 in
theorem tw952 : (Jvm.Cond.code yX7_does prog_9_method_30_code (6 : Nat) (Option.none : Option Jvm.ClassFile.FieldType)) ∈ TB := tw_of 952 rfl rfl
theorem tw953 : (Jvm.Cond.methodLink "BitCongruencesModel" (183 : Nat) yX7_reckon) ∈ TB := tw_of 953 (by decide +kernel) rfl
theorem tw954 : (Jvm.Cond.static yX7_reckon) ∈ TB := tw_of 954 (by decide +kernel) rfl
set_option maxRecDepth 100000 in
theorem tw955 : (Jvm.Cond.code yX7_reckon prog_9_method_28_code (5 : Nat) (Option.some Jvm.ClassFile.FieldType.long)) ∈ TB := tw_of 955 rfl rfl
theorem tw957 : (Jvm.Cond.methodLink "BitCongruencesModel" (170 : Nat) yX7_alone) ∈ TB := tw_of 957 (by decide +kernel) rfl
theorem tw958 : (Jvm.Cond.static yX7_alone) ∈ TB := tw_of 958 (by decide +kernel) rfl
set_option maxRecDepth 100000 in
theorem tw959 : (Jvm.Cond.code yX7_alone prog_9_method_29_code (3 : Nat) (Option.some Jvm.ClassFile.FieldType.long)) ∈ TB := tw_of 959 rfl rfl
theorem tw963 : (Jvm.Cond.methodLink "BitCongruencesModel" (187 : Nat) yX7_add) ∈ TB := tw_of 963 (by decide +kernel) rfl
theorem tw965 : (Jvm.Cond.instanceMethod yX7_add) ∈ TB := tw_of 965 (by decide +kernel) rfl
set_option maxRecDepth 100000 in
theorem tw966 : (Jvm.Cond.code yX7_add prog_9_method_34_code (15 : Nat) (Option.none : Option Jvm.ClassFile.FieldType)) ∈ TB := tw_of 966 rfl rfl
theorem tw967 : (Jvm.Cond.methodLink "BitCongruencesModel" (213 : Nat) yX7_isOver) ∈ TB := tw_of 967 (by decide +kernel) rfl
theorem tw968 : (Jvm.Cond.static yX7_isOver) ∈ TB := tw_of 968 (by decide +kernel) rfl
set_option maxRecDepth 100000 in
theorem tw969 : (Jvm.Cond.code yX7_isOver prog_9_method_35_code (6 : Nat) (Option.some Jvm.ClassFile.FieldType.boolean)) ∈ TB := tw_of 969 rfl rfl
theorem tw970 : (Jvm.Cond.methodLink "BitCongruencesModel" (203 : Nat) yX7_turn) ∈ TB := tw_of 970 (by decide +kernel) rfl
theorem tw972 : (Jvm.Cond.instanceMethod yX7_turn) ∈ TB := tw_of 972 (by decide +kernel) rfl
set_option maxRecDepth 100000 in
theorem tw973 : (Jvm.Cond.code yX7_turn prog_9_method_31_code (3 : Nat) (Option.none : Option Jvm.ClassFile.FieldType)) ∈ TB := tw_of 973 rfl rfl
theorem tw974 : (Jvm.Cond.methodLink "BitCongruencesModel" (216 : Nat) yX7_ripple) ∈ TB := tw_of 974 (by decide +kernel) rfl
theorem tw976 : (Jvm.Cond.instanceMethod yX7_ripple) ∈ TB := tw_of 976 (by decide +kernel) rfl
set_option maxRecDepth 100000 in
theorem tw977 : (Jvm.Cond.code yX7_ripple prog_9_method_32_code (15 : Nat) (Option.none : Option Jvm.ClassFile.FieldType)) ∈ TB := tw_of 977 rfl rfl
theorem tw978 : (Jvm.Cond.methodLink "BitCongruencesModel" (209 : Nat) yX7_bit) ∈ TB := tw_of 978 (by decide +kernel) rfl
theorem tw980 : (Jvm.Cond.instanceMethod yX7_bit) ∈ TB := tw_of 980 (by decide +kernel) rfl
set_option maxRecDepth 100000 in
theorem tw981 : (Jvm.Cond.code yX7_bit prog_9_method_33_code (3 : Nat) (Option.some Jvm.ClassFile.FieldType.int)) ∈ TB := tw_of 981 rfl rfl
theorem tw982 : (Jvm.Cond.methodLink "BitCongruencesModel" (191 : Nat) yX7_multiply) ∈ TB := tw_of 982 (by decide +kernel) rfl
theorem tw984 : (Jvm.Cond.instanceMethod yX7_multiply) ∈ TB := tw_of 984 (by decide +kernel) rfl
set_option maxRecDepth 100000 in
theorem tw985 : (Jvm.Cond.code yX7_multiply prog_9_method_36_code (13 : Nat) (Option.none : Option Jvm.ClassFile.FieldType)) ∈ TB := tw_of 985 rfl rfl
theorem tw986 : (Jvm.Cond.methodLink "BitCongruencesModel" (220 : Nat) yX7_oddProduct) ∈ TB := tw_of 986 (by decide +kernel) rfl
theorem tw988 : (Jvm.Cond.instanceMethod yX7_oddProduct) ∈ TB := tw_of 988 (by decide +kernel) rfl
set_option maxRecDepth 100000 in
theorem tw989 : (Jvm.Cond.code yX7_oddProduct prog_9_method_37_code (7 : Nat) (Option.some Jvm.ClassFile.FieldType.long)) ∈ TB := tw_of 989 rfl rfl
theorem tw990 : (Jvm.Cond.methodLink "BitCongruencesModel" (194 : Nat) yX7_bitwise) ∈ TB := tw_of 990 (by decide +kernel) rfl
theorem tw992 : (Jvm.Cond.instanceMethod yX7_bitwise) ∈ TB := tw_of 992 (by decide +kernel) rfl
set_option maxRecDepth 100000 in
theorem tw993 : (Jvm.Cond.code yX7_bitwise prog_9_method_38_code (14 : Nat) (Option.none : Option Jvm.ClassFile.FieldType)) ∈ TB := tw_of 993 rfl rfl
theorem tw994 : (Jvm.Cond.methodLink "BitCongruencesModel" (197 : Nat) yX7_shift) ∈ TB := tw_of 994 (by decide +kernel) rfl
theorem tw996 : (Jvm.Cond.instanceMethod yX7_shift) ∈ TB := tw_of 996 (by decide +kernel) rfl
set_option maxRecDepth 100000 in
theorem tw997 : (Jvm.Cond.code yX7_shift prog_9_method_39_code (4 : Nat) (Option.none : Option Jvm.ClassFile.FieldType)) ∈ TB := tw_of 997 rfl rfl
theorem tw999 : (Jvm.Cond.methodLink "BitCongruencesModel" (226 : Nat) yX7_move) ∈ TB := tw_of 999 (by decide +kernel) rfl
theorem tw1001 : (Jvm.Cond.instanceMethod yX7_move) ∈ TB := tw_of 1001 (by decide +kernel) rfl
set_option maxRecDepth 100000 in
theorem tw1002 : (Jvm.Cond.code yX7_move prog_9_method_40_code (10 : Nat) (Option.none : Option Jvm.ClassFile.FieldType)) ∈ TB := tw_of 1002 rfl rfl
theorem tw1004 : (Jvm.Cond.methodLink "BitCongruencesModel" (200 : Nat) yX7_divide) ∈ TB := tw_of 1004 (by decide +kernel) rfl
theorem tw1006 : (Jvm.Cond.instanceMethod yX7_divide) ∈ TB := tw_of 1006 (by decide +kernel) rfl
set_option maxRecDepth 100000 in
theorem tw1007 : (Jvm.Cond.code yX7_divide prog_9_method_41_code (4 : Nat) (Option.none : Option Jvm.ClassFile.FieldType)) ∈ TB := tw_of 1007 rfl rfl
theorem tw1008 : (Jvm.Cond.methodLink "BitCongruencesModel" (206 : Nat) yX7_narrow) ∈ TB := tw_of 1008 (by decide +kernel) rfl
theorem tw1010 : (Jvm.Cond.instanceMethod yX7_narrow) ∈ TB := tw_of 1010 (by decide +kernel) rfl
set_option maxRecDepth 100000 in
theorem tw1011 : (Jvm.Cond.code yX7_narrow prog_9_method_42_code (9 : Nat) (Option.none : Option Jvm.ClassFile.FieldType)) ∈ TB := tw_of 1011 rfl rfl
theorem tw1012 : (Jvm.Cond.methodLink "BitCongruencesLaw" (38 : Nat) yX7_told) ∈ TB := tw_of 1012 (by decide +kernel) rfl
theorem tw1013 : (Jvm.Cond.instanceMethod yX7_told) ∈ TB := tw_of 1013 (by decide +kernel) rfl
theorem tw1014 : (Jvm.Cond.selects "BitCongruencesModel" yX7_told yX7_told) ∈ TB := tw_of 1014 (by decide +kernel) rfl
set_option maxRecDepth 100000 in
theorem tw1015 : (Jvm.Cond.code yX7_told prog_9_method_48_code (3 : Nat) (Option.some Jvm.ClassFile.FieldType.long)) ∈ TB := tw_of 1015 rfl rfl
theorem tw1017 : (Jvm.Cond.methodLink "BitCongruencesLaw" (43 : Nat) yX7_isOf) ∈ TB := tw_of 1017 (by decide +kernel) rfl
theorem tw1018 : (Jvm.Cond.instanceMethod yX7_isOf) ∈ TB := tw_of 1018 (by decide +kernel) rfl
theorem tw1019 : (Jvm.Cond.selects "BitCongruencesModel" yX7_isOf yX7_isOf) ∈ TB := tw_of 1019 (by decide +kernel) rfl
set_option maxRecDepth 100000 in
theorem tw1020 : (Jvm.Cond.code yX7_isOf prog_9_method_49_code (4 : Nat) (Option.some Jvm.ClassFile.FieldType.boolean)) ∈ TB := tw_of 1020 rfl rfl
theorem tw1021 : (Jvm.Cond.methodLink "BitCongruencesModel" (251 : Nat) yX7_isIn) ∈ TB := tw_of 1021 (by decide +kernel) rfl
theorem tw1023 : (Jvm.Cond.instanceMethod yX7_isIn) ∈ TB := tw_of 1023 (by decide +kernel) rfl
set_option maxRecDepth 100000 in
theorem tw1024 : (Jvm.Cond.code yX7_isIn prog_9_method_12_code (4 : Nat) (Option.some Jvm.ClassFile.FieldType.boolean)) ∈ TB := tw_of 1024 rfl rfl
theorem tw1025 : (Jvm.Cond.methodLink "BitCongruencesLaw" (48 : Nat) yX7_method) ∈ TB := tw_of 1025 (by decide +kernel) rfl
theorem tw1026 : (Jvm.Cond.instanceMethod yX7_method) ∈ TB := tw_of 1026 (by decide +kernel) rfl
theorem tw1027 : (Jvm.Cond.selects "BitCongruencesModel" yX7_method yX7_method) ∈ TB := tw_of 1027 (by decide +kernel) rfl
set_option maxRecDepth 100000 in
theorem tw1028 : (Jvm.Cond.code yX7_method prog_9_method_50_code (1 : Nat) (Option.some Jvm.ClassFile.FieldType.int)) ∈ TB := tw_of 1028 rfl rfl
theorem tw1029 : (Jvm.Cond.methodLink "BitCongruencesLaw" (52 : Nat) yX7_op) ∈ TB := tw_of 1029 (by decide +kernel) rfl
theorem tw1030 : (Jvm.Cond.instanceMethod yX7_op) ∈ TB := tw_of 1030 (by decide +kernel) rfl
theorem tw1031 : (Jvm.Cond.selects "BitCongruencesModel" yX7_op yX7_op) ∈ TB := tw_of 1031 (by decide +kernel) rfl
set_option maxRecDepth 100000 in
theorem tw1032 : (Jvm.Cond.code yX7_op prog_9_method_54_code (6 : Nat) (Option.some Jvm.ClassFile.FieldType.int)) ∈ TB := tw_of 1032 rfl rfl
theorem tw1033 : (Jvm.Cond.methodLink "BitCongruencesModel" (267 : Nat) yX7_isMethod) ∈ TB := tw_of 1033 (by decide +kernel) rfl
theorem tw1035 : (Jvm.Cond.instanceMethod yX7_isMethod) ∈ TB := tw_of 1035 (by decide +kernel) rfl
set_option maxRecDepth 100000 in
theorem tw1036 : (Jvm.Cond.code yX7_isMethod prog_9_method_51_code (2 : Nat) (Option.some Jvm.ClassFile.FieldType.boolean)) ∈ TB := tw_of 1036 rfl rfl
theorem tw1038 : (Jvm.Cond.methodLink "BitCongruencesModel" (272 : Nat) yX7_isLine) ∈ TB := tw_of 1038 (by decide +kernel) rfl
theorem tw1039 : (Jvm.Cond.static yX7_isLine) ∈ TB := tw_of 1039 (by decide +kernel) rfl
set_option maxRecDepth 100000 in
theorem tw1040 : (Jvm.Cond.code yX7_isLine prog_9_method_53_code (4 : Nat) (Option.some Jvm.ClassFile.FieldType.boolean)) ∈ TB := tw_of 1040 rfl rfl
theorem tw1043 : (Jvm.Cond.methodLink "BitCongruencesModel" (264 : Nat) yX7_isPlace) ∈ TB := tw_of 1043 (by decide +kernel) rfl
theorem tw1044 : (Jvm.Cond.static yX7_isPlace) ∈ TB := tw_of 1044 (by decide +kernel) rfl
set_option maxRecDepth 100000 in
theorem tw1045 : (Jvm.Cond.code yX7_isPlace prog_9_method_52_code (1 : Nat) (Option.some Jvm.ClassFile.FieldType.boolean)) ∈ TB := tw_of 1045 rfl rfl
theorem tw1047 : (Jvm.Cond.methodLink "BitCongruencesLaw" (57 : Nat) yX7_table) ∈ TB := tw_of 1047 (by decide +kernel) rfl
theorem tw1048 : (Jvm.Cond.instanceMethod yX7_table) ∈ TB := tw_of 1048 (by decide +kernel) rfl
theorem tw1049 : (Jvm.Cond.selects "BitCongruencesModel" yX7_table yX7_table) ∈ TB := tw_of 1049 (by decide +kernel) rfl
set_option maxRecDepth 100000 in
theorem tw1050 : (Jvm.Cond.code yX7_table prog_9_method_55_code (5 : Nat) (Option.some Jvm.ClassFile.FieldType.int)) ∈ TB := tw_of 1050 rfl rfl
theorem tw1051 : (Jvm.Cond.methodLink "BitCongruencesLaw" (62 : Nat) yX7_given) ∈ TB := tw_of 1051 (by decide +kernel) rfl
theorem tw1052 : (Jvm.Cond.instanceMethod yX7_given) ∈ TB := tw_of 1052 (by decide +kernel) rfl
theorem tw1053 : (Jvm.Cond.selects "BitCongruencesModel" yX7_given yX7_given) ∈ TB := tw_of 1053 (by decide +kernel) rfl
set_option maxRecDepth 100000 in
theorem tw1054 : (Jvm.Cond.code yX7_given prog_9_method_56_code (4 : Nat) (Option.some Jvm.ClassFile.FieldType.int)) ∈ TB := tw_of 1054 rfl rfl
theorem tw1055 : (Jvm.Cond.methodLink "BitCongruencesLaw" (67 : Nat) yX7_find) ∈ TB := tw_of 1055 (by decide +kernel) rfl
theorem tw1056 : (Jvm.Cond.instanceMethod yX7_find) ∈ TB := tw_of 1056 (by decide +kernel) rfl
theorem tw1057 : (Jvm.Cond.selects "BitCongruencesModel" yX7_find yX7_find) ∈ TB := tw_of 1057 (by decide +kernel) rfl
set_option maxRecDepth 100000 in
theorem tw1058 : (Jvm.Cond.code yX7_find prog_9_method_58_code (6 : Nat) (Option.some Jvm.ClassFile.FieldType.int)) ∈ TB := tw_of 1058 rfl rfl
theorem tw1059 : (Jvm.Cond.methodLink "BitCongruencesModel" (276 : Nat) yX7_cell) ∈ TB := tw_of 1059 (by decide +kernel) rfl
theorem tw1061 : (Jvm.Cond.instanceMethod yX7_cell) ∈ TB := tw_of 1061 (by decide +kernel) rfl
set_option maxRecDepth 100000 in
theorem tw1062 : (Jvm.Cond.code yX7_cell prog_9_method_57_code (4 : Nat) (Option.some Jvm.ClassFile.FieldType.int)) ∈ TB := tw_of 1062 rfl rfl
theorem tw1063 : (Jvm.Cond.methodLink "BitCongruencesModel" (280 : Nat) yX7_some) ∈ TB := tw_of 1063 (by decide +kernel) rfl
theorem tw1065 : (Jvm.Cond.instanceMethod yX7_some) ∈ TB := tw_of 1065 (by decide +kernel) rfl
set_option maxRecDepth 100000 in
theorem tw1066 : (Jvm.Cond.code yX7_some prog_9_method_59_code (4 : Nat) (Option.some Jvm.ClassFile.FieldType.boolean)) ∈ TB := tw_of 1066 rfl rfl
theorem tw1067 : (Jvm.Cond.methodLink "BitCongruencesModel" (283 : Nat) yX7_work) ∈ TB := tw_of 1067 (by decide +kernel) rfl
theorem tw1069 : (Jvm.Cond.instanceMethod yX7_work) ∈ TB := tw_of 1069 (by decide +kernel) rfl
set_option maxRecDepth 100000 in
theorem tw1070 : (Jvm.Cond.code yX7_work prog_9_method_61_code (7 : Nat) (Option.none : Option Jvm.ClassFile.FieldType)) ∈ TB := tw_of 1070 rfl rfl
theorem tw1071 : (Jvm.Cond.methodLink "BitCongruencesModel" (286 : Nat) yX7_ready) ∈ TB := tw_of 1071 (by decide +kernel) rfl
theorem tw1073 : (Jvm.Cond.instanceMethod yX7_ready) ∈ TB := tw_of 1073 (by decide +kernel) rfl
set_option maxRecDepth 100000 in
theorem tw1074 : (Jvm.Cond.code yX7_ready prog_9_method_60_code (2 : Nat) (Option.none : Option Jvm.ClassFile.FieldType)) ∈ TB := tw_of 1074 rfl rfl
theorem tw1075 : (Jvm.Cond.methodLink "BitCongruencesModel" (289 : Nat) yX7_asked) ∈ TB := tw_of 1075 (by decide +kernel) rfl
theorem tw1077 : (Jvm.Cond.instanceMethod yX7_asked) ∈ TB := tw_of 1077 (by decide +kernel) rfl
set_option maxRecDepth 100000 in
theorem tw1078 : (Jvm.Cond.code yX7_asked prog_9_method_63_code (8 : Nat) (Option.none : Option Jvm.ClassFile.FieldType)) ∈ TB := tw_of 1078 rfl rfl
theorem tw1079 : (Jvm.Cond.methodLink "BitCongruencesModel" (299 : Nat) yX7_apart) ∈ TB := tw_of 1079 (by decide +kernel) rfl
theorem tw1081 : (Jvm.Cond.instanceMethod yX7_apart) ∈ TB := tw_of 1081 (by decide +kernel) rfl
set_option maxRecDepth 100000 in
theorem tw1082 : (Jvm.Cond.code yX7_apart prog_9_method_64_code (6 : Nat) (Option.none : Option Jvm.ClassFile.FieldType)) ∈ TB := tw_of 1082 rfl rfl
theorem tw1083 : (Jvm.Cond.methodLink "BitCongruencesModel" (302 : Nat) yX7_atMost) ∈ TB := tw_of 1083 (by decide +kernel) rfl
theorem tw1085 : (Jvm.Cond.instanceMethod yX7_atMost) ∈ TB := tw_of 1085 (by decide +kernel) rfl
set_option maxRecDepth 100000 in
theorem tw1086 : (Jvm.Cond.code yX7_atMost prog_9_method_65_code (6 : Nat) (Option.none : Option Jvm.ClassFile.FieldType)) ∈ TB := tw_of 1086 rfl rfl
theorem tw1087 : (Jvm.Cond.methodLink "BitCongruencesModel" (306 : Nat) yX7_atLeast) ∈ TB := tw_of 1087 (by decide +kernel) rfl
theorem tw1089 : (Jvm.Cond.instanceMethod yX7_atLeast) ∈ TB := tw_of 1089 (by decide +kernel) rfl
set_option maxRecDepth 100000 in
theorem tw1090 : (Jvm.Cond.code yX7_atLeast prog_9_method_66_code (6 : Nat) (Option.none : Option Jvm.ClassFile.FieldType)) ∈ TB := tw_of 1090 rfl rfl
theorem tw1091 : (Jvm.Cond.methodLink "BitCongruencesModel" (293 : Nat) yX7_goTo) ∈ TB := tw_of 1091 (by decide +kernel) rfl
theorem tw1093 : (Jvm.Cond.instanceMethod yX7_goTo) ∈ TB := tw_of 1093 (by decide +kernel) rfl
set_option maxRecDepth 100000 in
theorem tw1094 : (Jvm.Cond.code yX7_goTo prog_9_method_67_code (7 : Nat) (Option.none : Option Jvm.ClassFile.FieldType)) ∈ TB := tw_of 1094 rfl rfl
theorem tw1095 : (Jvm.Cond.methodLink "BitCongruencesModel" (309 : Nat) yX7_widen) ∈ TB := tw_of 1095 (by decide +kernel) rfl
theorem tw1097 : (Jvm.Cond.instanceMethod yX7_widen) ∈ TB := tw_of 1097 (by decide +kernel) rfl
set_option maxRecDepth 100000 in
theorem tw1098 : (Jvm.Cond.code yX7_widen prog_9_method_68_code (8 : Nat) (Option.none : Option Jvm.ClassFile.FieldType)) ∈ TB := tw_of 1098 rfl rfl
theorem tw1099 : (Jvm.Cond.methodLink "BitCongruencesModel" (312 : Nat) yX7_alike) ∈ TB := tw_of 1099 (by decide +kernel) rfl
theorem tw1101 : (Jvm.Cond.instanceMethod yX7_alike) ∈ TB := tw_of 1101 (by decide +kernel) rfl
set_option maxRecDepth 100000 in
theorem tw1102 : (Jvm.Cond.code yX7_alike prog_9_method_11_code (3 : Nat) (Option.some Jvm.ClassFile.FieldType.boolean)) ∈ TB := tw_of 1102 rfl rfl
theorem tw1103 : (Jvm.Cond.methodLink "BitCongruencesModel" (296 : Nat) yX7_look) ∈ TB := tw_of 1103 (by decide +kernel) rfl
theorem tw1105 : (Jvm.Cond.instanceMethod yX7_look) ∈ TB := tw_of 1105 (by decide +kernel) rfl
set_option maxRecDepth 100000 in
theorem tw1106 : (Jvm.Cond.code yX7_look prog_9_method_62_code (4 : Nat) (Option.none : Option Jvm.ClassFile.FieldType)) ∈ TB := tw_of 1106 rfl rfl
theorem tw1107 : (Jvm.Cond.methodLink "BitCongruencesLaw" (71 : Nat) yX7_found) ∈ TB := tw_of 1107 (by decide +kernel) rfl
theorem tw1108 : (Jvm.Cond.instanceMethod yX7_found) ∈ TB := tw_of 1108 (by decide +kernel) rfl
theorem tw1109 : (Jvm.Cond.selects "BitCongruencesModel" yX7_found yX7_found) ∈ TB := tw_of 1109 (by decide +kernel) rfl
set_option maxRecDepth 100000 in
theorem tw1110 : (Jvm.Cond.code yX7_found prog_9_method_69_code (5 : Nat) (Option.some Jvm.ClassFile.FieldType.int)) ∈ TB := tw_of 1110 rfl rfl
theorem tw1111 : (Jvm.Cond.methodLink "BitCongruencesLaw" (76 : Nat) yX7_sum) ∈ TB := tw_of 1111 (by decide +kernel) rfl
theorem tw1112 : (Jvm.Cond.instanceMethod yX7_sum) ∈ TB := tw_of 1112 (by decide +kernel) rfl
theorem tw1113 : (Jvm.Cond.selects "BitCongruencesModel" yX7_sum yX7_sum) ∈ TB := tw_of 1113 (by decide +kernel) rfl
set_option maxRecDepth 100000 in
theorem tw1114 : (Jvm.Cond.code yX7_sum prog_9_method_70_code (5 : Nat) (Option.some Jvm.ClassFile.FieldType.int)) ∈ TB := tw_of 1114 rfl rfl
theorem tw1115 : (Jvm.Cond.methodLink "BitCongruencesModel" (316 : Nat) yX7_gives) ∈ TB := tw_of 1115 (by decide +kernel) rfl
theorem tw1117 : (Jvm.Cond.instanceMethod yX7_gives) ∈ TB := tw_of 1117 (by decide +kernel) rfl
set_option maxRecDepth 100000 in
theorem tw1118 : (Jvm.Cond.code yX7_gives prog_9_method_71_code (5 : Nat) (Option.some Jvm.ClassFile.FieldType.int)) ∈ TB := tw_of 1118 rfl rfl
theorem tw1119 : (Jvm.Cond.methodLink "BitCongruencesModel" (319 : Nat) yX7_numbers) ∈ TB := tw_of 1119 (by decide +kernel) rfl
theorem tw1121 : (Jvm.Cond.instanceMethod yX7_numbers) ∈ TB := tw_of 1121 (by decide +kernel) rfl
set_option maxRecDepth 100000 in
theorem tw1122 : (Jvm.Cond.code yX7_numbers prog_9_method_72_code (5 : Nat) (Option.some Jvm.ClassFile.FieldType.int)) ∈ TB := tw_of 1122 rfl rfl
theorem tw1123 : (Jvm.Cond.methodLink "BitCongruencesLaw" (81 : Nat) yX7_put_) ∈ TB := tw_of 1123 (by decide +kernel) rfl
theorem tw1124 : (Jvm.Cond.instanceMethod yX7_put_) ∈ TB := tw_of 1124 (by decide +kernel) rfl
theorem tw1125 : (Jvm.Cond.selects "BitCongruencesModel" yX7_put_ yX7_put_) ∈ TB := tw_of 1125 (by decide +kernel) rfl
set_option maxRecDepth 100000 in
theorem tw1126 : (Jvm.Cond.code yX7_put_ prog_9_method_73_code (6 : Nat) (Option.some Jvm.ClassFile.FieldType.long)) ∈ TB := tw_of 1126 rfl rfl
theorem tw1127 : (Jvm.Cond.methodLink "BitCongruencesLaw" (85 : Nat) yX7_walk) ∈ TB := tw_of 1127 (by decide +kernel) rfl
theorem tw1128 : (Jvm.Cond.instanceMethod yX7_walk) ∈ TB := tw_of 1128 (by decide +kernel) rfl
theorem tw1129 : (Jvm.Cond.selects "BitCongruencesModel" yX7_walk yX7_walk) ∈ TB := tw_of 1129 (by decide +kernel) rfl
set_option maxRecDepth 100000 in
theorem tw1130 : (Jvm.Cond.code yX7_walk prog_9_method_74_code (5 : Nat) (Option.some Jvm.ClassFile.FieldType.int)) ∈ TB := tw_of 1130 rfl rfl
theorem tw1132 : (Jvm.Cond.methodLink "BitCongruencesModel" (330 : Nat) yX7_check) ∈ TB := tw_of 1132 (by decide +kernel) rfl
theorem tw1134 : (Jvm.Cond.instanceMethod yX7_check) ∈ TB := tw_of 1134 (by decide +kernel) rfl
set_option maxRecDepth 100000 in
theorem tw1135 : (Jvm.Cond.code yX7_check prog_9_method_75_code (3 : Nat) (Option.none : Option Jvm.ClassFile.FieldType)) ∈ TB := tw_of 1135 rfl rfl
theorem tw1136 : (Jvm.Cond.methodLink "BitCongruencesModel" (333 : Nat) yX7_line) ∈ TB := tw_of 1136 (by decide +kernel) rfl
theorem tw1138 : (Jvm.Cond.instanceMethod yX7_line) ∈ TB := tw_of 1138 (by decide +kernel) rfl
set_option maxRecDepth 100000 in
theorem tw1139 : (Jvm.Cond.code yX7_line prog_9_method_76_code (7 : Nat) (Option.some Jvm.ClassFile.FieldType.boolean)) ∈ TB := tw_of 1139 rfl rfl
theorem tw1140 : (Jvm.Cond.methodLink "BitCongruencesLaw" (90 : Nat) yX7_now) ∈ TB := tw_of 1140 (by decide +kernel) rfl
theorem tw1141 : (Jvm.Cond.instanceMethod yX7_now) ∈ TB := tw_of 1141 (by decide +kernel) rfl
theorem tw1142 : (Jvm.Cond.selects "BitCongruencesModel" yX7_now yX7_now) ∈ TB := tw_of 1142 (by decide +kernel) rfl
set_option maxRecDepth 100000 in
theorem tw1143 : (Jvm.Cond.code yX7_now prog_9_method_77_code (2 : Nat) (Option.some Jvm.ClassFile.FieldType.long)) ∈ TB := tw_of 1143 rfl rfl
theorem tw1144 : (Jvm.Cond.methodLink "BitCongruencesLaw" (94 : Nat) yX7_ran) ∈ TB := tw_of 1144 (by decide +kernel) rfl
theorem tw1145 : (Jvm.Cond.instanceMethod yX7_ran) ∈ TB := tw_of 1145 (by decide +kernel) rfl
theorem tw1146 : (Jvm.Cond.selects "BitCongruencesModel" yX7_ran yX7_ran) ∈ TB := tw_of 1146 (by decide +kernel) rfl
set_option maxRecDepth 100000 in
theorem tw1147 : (Jvm.Cond.code yX7_ran prog_9_method_78_code (2 : Nat) (Option.some Jvm.ClassFile.FieldType.int)) ∈ TB := tw_of 1147 rfl rfl
end
section
/-! THE MACHINE OVER LABELS: a judgement V (the walk stands at pc with these locals, this stack, this memory), and one rule a kind of instruction; straight stretches run as one list (sxs) -/
theorem Rep.upd {G : Ctx} {M M' : Mem} {H H' : Heap} {a : Nat} (h : Rep G M H) (ha : 0 < a) (hz : H'.size = H.size) (ho : ∀ q, q ≠ ad G a → H'[q]? = H[q]?) (hk : mK M' = mK M)
    (hr : ∀ b, b ≠ a → ∀ j, mB M' b j = mB M b j ∧ mI M' b j = mI M b j ∧ mL M' b j = mL M b j) (hc : cAt G M' H' a) (hBz : Bz M') : Rep G M' H' := by
  refine ⟨by rw [hz, hk]; exact h.1, fun b hb hbk => ?_, hBz⟩
  by_cases e : b = a
  · rw [e]; exact hc
  · rw [hk] at hbk
    have hq : H'[ad G b]? = H[ad G b]? := ho _ (fun q => e (ad_inj hb ha q))
    obtain ⟨h1, h2⟩ := h.2.1 b hb hbk
    refine ⟨fun c r hs hv => ?_, fun hs => ?_⟩
    · refine ((h1 c r hs hv).kept hq).to (fun j _ => ?_)
      obtain ⟨r1, r2, r3⟩ := hr b e j
      simp only [fvl, r1, r2, r3]
    · rw [hq, h2 hs]
      congr 2
      funext j
      obtain ⟨r1, r2, r3⟩ := hr b e j
      simp only [avl, r1, r2, r3]
theorem u2_ne {α : Type} {f : Nat → Nat → α} {a k b j : Nat} {v : α} (h : b ≠ a) : u2 f a k v b j = f b j := by simp [u2, h]
theorem u2_nk {α : Type} {f : Nat → Nat → α} {a k b j : Nat} {v : α} (h : j ≠ k) : u2 f a k v b j = f b j := by simp [u2, h]
theorem u2_self {α : Type} {f : Nat → Nat → α} {a k : Nat} {v : α} : u2 f a k v a k = v := by simp [u2]
theorem mI_uI_ne {M : Mem} {a k b j : Nat} {v : Int32} (h : b ≠ a) : mI (uI M a k v) b j = mI M b j := u2_ne h
theorem mI_uI_nk {M : Mem} {a k b j : Nat} {v : Int32} (h : j ≠ k) : mI (uI M a k v) b j = mI M b j := u2_nk h
theorem mI_uI {M : Mem} {a k : Nat} {v : Int32} : mI (uI M a k v) a k = v := u2_self
theorem mL_uL_ne {M : Mem} {a k b j : Nat} {v : Int64} (h : b ≠ a) : mL (uL M a k v) b j = mL M b j := u2_ne h
theorem mL_uL_nk {M : Mem} {a k b j : Nat} {v : Int64} (h : j ≠ k) : mL (uL M a k v) b j = mL M b j := u2_nk h
theorem mL_uL {M : Mem} {a k : Nat} {v : Int64} : mL (uL M a k v) a k = v := u2_self
theorem mB_uB_ne {M : Mem} {a k b j : Nat} (h : b ≠ a) : mB (uB M a k) b j = mB M b j := u2_ne h
theorem mB_uB_nk {M : Mem} {a k b j : Nat} (h : j ≠ k) : mB (uB M a k) b j = mB M b j := u2_nk h
theorem mB_uB {M : Mem} {a k : Nat} : mB (uB M a k) a k = true := u2_self
theorem mI_uL {M : Mem} {a k b j : Nat} {v : Int64} : mI (uL M a k v) b j = mI M b j := rfl
theorem mB_uL {M : Mem} {a k b j : Nat} {v : Int64} : mB (uL M a k v) b j = mB M b j := rfl
theorem mL_uI {M : Mem} {a k b j : Nat} {v : Int32} : mL (uI M a k v) b j = mL M b j := rfl
theorem mB_uI {M : Mem} {a k b j : Nat} {v : Int32} : mB (uI M a k v) b j = mB M b j := rfl
theorem mI_uB {M : Mem} {a k b j : Nat} : mI (uB M a k) b j = mI M b j := rfl
theorem mL_uB {M : Mem} {a k b j : Nat} : mL (uB M a k) b j = mL M b j := rfl
theorem mK_uI {M : Mem} {a k : Nat} {v : Int32} : mK (uI M a k v) = mK M := rfl
theorem mK_uL {M : Mem} {a k : Nat} {v : Int64} : mK (uL M a k v) = mK M := rfl
theorem mK_uB {M : Mem} {a k : Nat} : mK (uB M a k) = mK M := rfl
/-- an object's cell behind a write of its field k: M' is M but for (a, k) -/
theorem cAt.put {G : Ctx} {M M' : Mem} {H' : Heap} {a c k : Nat} {r : vw_C} {cell : Cell} (hs : (SH a).1 = c + 1) (hv : vwCl[c]? = some r)
    (hap : ∀ x y, x < r.2.2 → y < r.2.2 → x ≠ y → (G.2.2.1.2 c) x ≠ (G.2.2.1.2 c) y) (hk : k < r.2.2)
    (q2 : cell.cls = G.2.2.1.1 c) (q3 : cell.vm = .none) (q4 : ∀ j, j < r.2.2 → cell.slots[(G.2.2.1.2 c) j]? = some (cv G (fvl M c a j)))
    (e1 : H'[ad G a]? = some (cell.setSlot ((G.2.2.1.2 c) k) (cv G (fvl M' c a k)))) (hn : ∀ j, j ≠ k → fvl M' c a j = fvl M c a j) : cAt G M' H' a := by
  refine ⟨fun c' r' hs' hv' => ?_, fun h20 => ?_⟩
  · have ec : c' = c := by omega
    subst ec
    cases hv.symm.trans hv'
    refine t_OB.to (V := updV (fun j => cv G (fvl M c' a j)) k (cv G (fvl M' c' a k))) ⟨_, e1, q2, q3, t_set q4 hap hk _⟩ (fun j _ => ?_)
    by_cases e : j = k
    · subst e; simp [updV]
    · simp [updV, e, hn j e]
  · have h8 : c < 8 := (List.getElem?_eq_some_iff.mp hv).1
    omega
abbrev Xt : Type := Program × Launch × Env × Room × State × MethodId × Array Value × List Frame × Method × Code
def Xs (X : Xt) : State := X.2.2.2.2.1
def Xm (X : Xt) : MethodId := X.2.2.2.2.2.1
def Wx (X : Xt) (H : Heap) (locs : List Loc) (cells slots : Nat) (Q : State → Prop) (g : JFrame) : Prop :=
  W X.1 X.2.1 X.2.2.1 X.2.2.2.1 X.2.2.2.2.1 X.2.2.2.2.2.1 X.2.2.2.2.2.2.1 X.2.2.2.2.2.2.2.1 X.2.2.2.2.2.2.2.2.1 X.2.2.2.2.2.2.2.2.2 H locs cells slots Q g
/-- what stays the same during a method's walk -/
def Fx (G : Ctx) (X : Xt) (own : String) (cc : ByteArray) (nL : Nat) (ret : Option FieldType) : Prop :=
  X.1.tables.exec = Jvm.exec ∧ X.2.2.2.2.2.2.2.2.2.code = cc ∧ X.2.2.2.2.2.2.2.2.2.maxLocals = nL ∧ X.2.2.2.2.1.vm.findClass own = some X.2.2.2.2.2.1.cls ∧ (∀ w ∈ TB, w.before X.2.2.2.2.2.2.1 X.2.2.2.2.1 = true) ∧ KS G X.2.2.2.2.1 ∧ X.2.2.2.2.2.2.2.2.1.sig.returnType = ret ∧ X.2.2.2.2.2.2.2.2.1.locks = false ∧ G.1 ≤ X.2.2.2.2.1.heap.size
/-- the walk stands at pc, with these locals, this stack, this memory -/
def V (G : Ctx) (X : Xt) (nL cells slots : Nat) (Q : State → Prop) (pc : Nat) (lv : List (Nat × Value)) (st : List Value) (M : Mem) : Prop :=
  ∀ (H : Heap) (locs : List Loc) (ls : Array Slot), lv_has ls nL (lv.map fun q => (q.1, cv G q.2)) → Rep G M H → va_S (fun q => G.1 ≤ q) X.2.2.2.2.1.heap H locs →
    Wx X H locs cells slots Q (F0 X.2.2.2.2.2.1 pc ls (st.map (cv G)))
def lk : List (Nat × Value) → Nat → Option Value
  | [], _ => none
  | q :: t, i => if q.1 = i then some q.2 else lk t i
theorem lk_mem : ∀ {l : List (Nat × Value)} {i : Nat} {v : Value}, lk l i = some v → (i, v) ∈ l
  | [], _, _, h => by cases h
  | q :: t, i, v, h => by
    unfold lk at h
    split at h
    · rename_i e
      cases h
      rw [← e]
      exact List.mem_cons_self
    · exact List.mem_cons_of_mem _ (lk_mem h)
def s1 (lv : List (Nat × Value)) (i : Nat) (v : Value) : List (Nat × Value) := (i, v) :: lv.filter (fun q => !(q.1 == i) && !(q.1 + 1 == i && q.2.category == 2))
def s2 (lv : List (Nat × Value)) (i : Nat) (v : Value) : List (Nat × Value) := (i, v) :: lv.filter (fun q => !(q.1 == i) && (!(q.1 == i + 1) && !(q.1 + 1 == i && q.2.category == 2)))
theorem s1_map (G : Ctx) (lv : List (Nat × Value)) (i : Nat) (v : Value) : (i, cv G v) :: (lv.map fun q => (q.1, cv G q.2)).filter (fun q => !(q.1 == i) && !(q.1 + 1 == i && q.2.category == 2)) = (s1 lv i v).map fun q => (q.1, cv G q.2) := by
  simp only [s1, List.map_cons, List.filter_map, Function.comp_def, cv_cat]
theorem s2_map (G : Ctx) (lv : List (Nat × Value)) (i : Nat) (v : Value) : (i, cv G v) :: (lv.map fun q => (q.1, cv G q.2)).filter (fun q => !(q.1 == i) && (!(q.1 == i + 1) && !(q.1 + 1 == i && q.2.category == 2))) = (s2 lv i v).map fun q => (q.1, cv G q.2) := by
  simp only [s2, List.map_cons, List.filter_map, Function.comp_def, cv_cat]
theorem lk_at {G : Ctx} {ls : Array Slot} {nL : Nat} {lv : List (Nat × Value)} {i : Nat} {v : Value} (h : lv_has ls nL (lv.map fun q => (q.1, cv G q.2))) (hk : lk lv i = some v) : ls[i]? = some (.val (cv G v)) :=
  h.2.2 (i, cv G v) (List.mem_map.mpr ⟨(i, v), lk_mem hk, rfl⟩)
/-- an object of class c -/
def isO (M : Mem) (a c : Nat) : Prop := (SH a).1 = c + 1 ∧ 0 < a ∧ a ≤ mK M
/-- an array of this kind, with this place in it -/
def isA (M : Mem) (a kd : Nat) (i : Int32) : Prop := (SH a).1 = kd ∧ 0 < a ∧ a ≤ mK M ∧ vp_in i (SH a).2
def ilen (i : Instr) : Nat := match i with
  | .bipush _ => 2
  | .sipush _ => 3
  | .ldc2_w _ => 3
  | .iload _ => 2
  | .lload _ => 2
  | .aload _ => 2
  | .istore _ => 2
  | .lstore _ => 2
  | .astore _ => 2
  | .iinc _ _ => 3
  | .getfield _ => 3
  | .putfield _ => 3
  | .goto _ => 3
  | _ => 1
def npc (i : Instr) (pc : Nat) : Nat := match i with
  | .goto off => ((pc : Int) + off).toNat
  | i => pc + ilen i
/-- the long and int operations that Lean has no single word for -/
def jshl (x : Int64) (y : Int32) : Int64 := x <<< (y.toInt64 &&& 63)
def jshr (x : Int64) (y : Int32) : Int64 := x >>> (y.toInt64 &&& 63)
def jushr (x : Int64) (y : Int32) : Int64 := (x.toUInt64 >>> (y.toInt64.toUInt64 &&& Int64.toUInt64 63)).toInt64
def jrem (x y : Int64) : Int64 := x - x / y * y
def irem (x y : Int32) : Int32 := x - x / y * y
def ishl (x y : Int32) : Int32 := x <<< (y &&& 31)
def ix (i : Int32) : Nat := i.toNatClampNeg
def sx1 (fl : Nat → Option (Nat × Nat)) (cj : Nat → Option Int64) (nL pc : Nat) (i : Instr) (lv : List (Nat × Value)) (st : List Value) (M : Mem) : Option (List (Nat × Value) × List Value × Mem × Prop) :=
  match i with
  | .aconst_null => some (lv, .null :: st, M, True)
  | .iconst n => some (lv, .int (Int32.ofInt n) :: st, M, True)
  | .bipush n => some (lv, .int (Int8.ofInt n).toInt32 :: st, M, True)
  | .sipush n => some (lv, .int (Int16.ofInt n).toInt32 :: st, M, True)
  | .lconst n => some (lv, .long (Int64.ofNat (n : Nat)) :: st, M, True)
  | .ldc2_w x => match cj x with
    | some v => some (lv, .long v :: st, M, True)
    | none => none
  | .iload_n k => match lk lv (k : Nat) with
    | some (.int x) => some (lv, .int x :: st, M, True)
    | _ => none
  | .iload k => match lk lv k with
    | some (.int x) => some (lv, .int x :: st, M, True)
    | _ => none
  | .lload_n k => match lk lv (k : Nat) with
    | some (.long x) => some (lv, .long x :: st, M, True)
    | _ => none
  | .lload k => match lk lv k with
    | some (.long x) => some (lv, .long x :: st, M, True)
    | _ => none
  | .aload_n k => match lk lv (k : Nat) with
    | some (.ref x) => some (lv, .ref x :: st, M, True)
    | some .null => some (lv, .null :: st, M, True)
    | _ => none
  | .aload k => match lk lv k with
    | some (.ref x) => some (lv, .ref x :: st, M, True)
    | some .null => some (lv, .null :: st, M, True)
    | _ => none
  | .istore_n k => match st with
    | .int x :: r => some (s1 lv (k : Nat) (.int x), r, M, (k : Nat) < nL)
    | _ => none
  | .istore k => match st with
    | .int x :: r => some (s1 lv k (.int x), r, M, k < nL)
    | _ => none
  | .lstore_n k => match st with
    | .long x :: r => some (s2 lv (k : Nat) (.long x), r, M, (k : Nat) + 1 < nL)
    | _ => none
  | .lstore k => match st with
    | .long x :: r => some (s2 lv k (.long x), r, M, k + 1 < nL)
    | _ => none
  | .astore_n k => match st with
    | .ref x :: r => some (s1 lv (k : Nat) (.ref x), r, M, (k : Nat) < nL)
    | .null :: r => some (s1 lv (k : Nat) .null, r, M, (k : Nat) < nL)
    | _ => none
  | .astore k => match st with
    | .ref x :: r => some (s1 lv k (.ref x), r, M, k < nL)
    | _ => none
  | .iinc k n => match lk lv k with
    | some (.int x) => some (s1 lv k (.int (x + Int32.ofInt n)), st, M, k < nL)
    | _ => none
  | .iadd => match st with
    | .int y :: .int x :: r => some (lv, .int (x + y) :: r, M, True)
    | _ => none
  | .isub => match st with
    | .int y :: .int x :: r => some (lv, .int (x - y) :: r, M, True)
    | _ => none
  | .imul => match st with
    | .int y :: .int x :: r => some (lv, .int (x * y) :: r, M, True)
    | _ => none
  | .idiv => match st with
    | .int y :: .int x :: r => some (lv, .int (x / y) :: r, M, ¬ y = 0)
    | _ => none
  | .irem => match st with
    | .int y :: .int x :: r => some (lv, .int (irem x y) :: r, M, ¬ y = 0)
    | _ => none
  | .iand => match st with
    | .int y :: .int x :: r => some (lv, .int (x &&& y) :: r, M, True)
    | _ => none
  | .ishl => match st with
    | .int y :: .int x :: r => some (lv, .int (ishl x y) :: r, M, True)
    | _ => none
  | .ladd => match st with
    | .long y :: .long x :: r => some (lv, .long (x + y) :: r, M, True)
    | _ => none
  | .lsub => match st with
    | .long y :: .long x :: r => some (lv, .long (x - y) :: r, M, True)
    | _ => none
  | .lmul => match st with
    | .long y :: .long x :: r => some (lv, .long (x * y) :: r, M, True)
    | _ => none
  | .ldiv => match st with
    | .long y :: .long x :: r => some (lv, .long (x / y) :: r, M, ¬ y = 0)
    | _ => none
  | .lrem => match st with
    | .long y :: .long x :: r => some (lv, .long (jrem x y) :: r, M, ¬ y = 0)
    | _ => none
  | .land => match st with
    | .long y :: .long x :: r => some (lv, .long (x &&& y) :: r, M, True)
    | _ => none
  | .lor => match st with
    | .long y :: .long x :: r => some (lv, .long (x ||| y) :: r, M, True)
    | _ => none
  | .lxor => match st with
    | .long y :: .long x :: r => some (lv, .long (x ^^^ y) :: r, M, True)
    | _ => none
  | .lshl => match st with
    | .int y :: .long x :: r => some (lv, .long (jshl x y) :: r, M, True)
    | _ => none
  | .lshr => match st with
    | .int y :: .long x :: r => some (lv, .long (jshr x y) :: r, M, True)
    | _ => none
  | .lushr => match st with
    | .int y :: .long x :: r => some (lv, .long (jushr x y) :: r, M, True)
    | _ => none
  | .lneg => match st with
    | .long x :: r => some (lv, .long (-x) :: r, M, True)
    | _ => none
  | .i2l => match st with
    | .int x :: r => some (lv, .long x.toInt64 :: r, M, True)
    | _ => none
  | .l2i => match st with
    | .long x :: r => some (lv, .int x.toInt32 :: r, M, True)
    | _ => none
  | .i2b => match st with
    | .int x :: r => some (lv, .int x.toInt8.toInt32 :: r, M, True)
    | _ => none
  | .i2s => match st with
    | .int x :: r => some (lv, .int x.toInt16.toInt32 :: r, M, True)
    | _ => none
  | .lcmp => match st with
    | .long y :: .long x :: r => some (lv, .int (lg_cmp x y) :: r, M, True)
    | _ => none
  | .dup => match st with
    | .ref x :: r => some (lv, .ref x :: .ref x :: r, M, True)
    | .int x :: r => some (lv, .int x :: .int x :: r, M, True)
    | _ => none
  | .dup2 => match st with
    | .long x :: r => some (lv, .long x :: .long x :: r, M, True)
    | .int x :: .ref y :: r => some (lv, .int x :: .ref y :: .int x :: .ref y :: r, M, True)
    | _ => none
  | .goto off => some (lv, st, M, 0 ≤ (pc : Int) + off)
  | .getfield x => match fl x with
    | some (c, k) => match st with
      | .ref a :: r => match (ft c k).1 with
        | 1 => some (lv, .long (mL M a k) :: r, M, isO M a c)
        | 2 => some (lv, .ref (a + (ft c k).2) :: r, M, isO M a c ∧ mB M a k = true)
        | _ => some (lv, .int (mI M a k) :: r, M, isO M a c)
      | _ => none
    | none => none
  | .putfield x => match fl x with
    | some (c, k) => match (ft c k).1 with
      | 0 => match st with
        | .int v :: .ref a :: r => some (lv, r, uI M a k v, isO M a c)
        | _ => none
      | 1 => match st with
        | .long v :: .ref a :: r => some (lv, r, uL M a k v, isO M a c)
        | _ => none
      | 3 => match st with
        | .int v :: .ref a :: r => some (lv, r, uI M a k v, isO M a c ∧ (v = 0 ∨ v = 1))
        | _ => none
      | _ => none
    | none => none
  | .iaload => match st with
    | .int i :: .ref a :: r => some (lv, .int (mI M a (ix i)) :: r, M, isA M a 20 i)
    | _ => none
  | .baload => match st with
    | .int i :: .ref a :: r => some (lv, .int (mI M a (ix i)) :: r, M, isA M a 21 i)
    | _ => none
  | .laload => match st with
    | .int i :: .ref a :: r => some (lv, .long (mL M a (ix i)) :: r, M, isA M a 22 i)
    | _ => none
  | .iastore => match st with
    | .int v :: .int i :: .ref a :: r => some (lv, r, uI M a (ix i) v, isA M a 20 i)
    | _ => none
  | .bastore => match st with
    | .int v :: .int i :: .ref a :: r => some (lv, r, uI M a (ix i) v, isA M a 21 i ∧ (v = 0 ∨ v = 1))
    | _ => none
  | .lastore => match st with
    | .long v :: .int i :: .ref a :: r => some (lv, r, uL M a (ix i) v, isA M a 22 i)
    | _ => none
  | _ => none
/-- what the constant pool of a class says, by index: fields and long constants -/
def FlOK (own : String) (fl : Nat → Option (Nat × Nat)) : Prop := ∀ x c k, fl x = some (c, k) → ∃ r : vw_C, vwCl[c]? = some r ∧ k < r.2.2 ∧ Cond.fieldLink own x (r.2.1 k).1 (r.2.1 k).2.1 (r.2.1 k).2.2.1 ∈ TB ∧ ((ft c k).1 ≠ 2 → (r.2.1 k).2.2.2 = false)
def CjOK (own : String) (cj : Nat → Option Int64) : Prop := ∀ x v, cj x = some v → Cond.constantLong own x v ∈ TB
end
section
section SX
variable {G : Ctx} {X : Xt} {own : String} {cc : ByteArray} {nL : Nat} {ret : Option FieldType} {cells slots : Nat} {Q : State → Prop} {pc : Nat} {lv : List (Nat × Value)} {st : List Value} {M : Mem}
theorem va_ap {G : Ctx} {s : State} {args : Array Value} {c : Nat} {r : vw_C} (hts : ∀ w ∈ TB, w.before args s = true) (hK : KS G s) (hv : vwCl[c]? = some r) : ∀ x y, x < r.2.2 → y < r.2.2 → x ≠ y → (G.2.2.1.2 c) x ≠ (G.2.2.1.2 c) y := by
  obtain ⟨C, T, N⟩ := r
  obtain ⟨h1, h2, h3⟩ := clOK hv
  exact va_apart (own := "") (D := G.2.2.1) (cl := vwCl) (tys := []) hts h1 (tyc c) h2 h3 hK.1 hv
theorem w_get {p : Program} {l : Launch} {e : Env} {R : Room} {s : State} {m : MethodId} {args : Array Value} {below : List Frame} {meth : Method} {c0 : Code} {H : Heap} {locs : List Loc} {ls : Array Slot} {rest : List Value} {a c k x : Nat} {r : vw_C}
    (hx : p.tables.exec = Jvm.exec) (hb : c0.code = cc) (hts : ∀ w ∈ TB, w.before args s = true) (hK : KS G s) (hown : s.vm.findClass own = some m.cls) (hR : Rep G M H) (ho : isO M a c) (hv : vwCl[c]? = some r) (hk : k < r.2.2)
    (hl : Cond.fieldLink own x (r.2.1 k).1 (r.2.1 k).2.1 (r.2.1 k).2.2.1 ∈ TB) (hd : decode cc pc = .ok (.getfield x, 3))
    (kk : W p l e R s m args below meth c0 H locs cells slots Q (F0 m (pc + 3) ls (cv G (fvl M c a k) :: rest))) : W p l e R s m args below meth c0 H locs cells slots Q (F0 m pc ls (.ref (ad G a) :: rest)) := by
  obtain ⟨C, T, N⟩ := r
  obtain ⟨cell, q1, q2, q3, q4⟩ := (hR.2.1 a ho.2.1 ho.2.2).1 c _ ho.1 hv
  obtain ⟨h1, h2, h3⟩ := clOK hv
  obtain ⟨hS, hfc, kC, hkC, hkind⟩ := hK.1.1 c _ hv
  obtain ⟨cf, kf, fi, f, hi, hsl⟩ := hS k hk
  refine W.getf hx hb hown (hts _ hl) hi (u_facts hfc hkC (u_lays hts h1 hk) hi).1 q1 (by rw [q3]; exact fun h => by cases h) (v := cv G (fvl M c a k)) ?_ rfl rfl hd kk
  rw [hsl]
  exact q4 k hk
theorem fvl_1 {M : Mem} {c a k : Nat} (h : (ft c k).1 = 1) : fvl M c a k = .long (mL M a k) := by simp only [fvl, h]
theorem fvl_2 {M : Mem} {c a k : Nat} (h : (ft c k).1 = 2) (hb : mB M a k = true) : fvl M c a k = .ref (a + (ft c k).2) := by simp only [fvl, h, hb, if_true]
theorem fvl_0 {M : Mem} {c a k : Nat} (h1 : (ft c k).1 ≠ 1) (h2 : (ft c k).1 ≠ 2) : fvl M c a k = .int (mI M a k) := by
  unfold fvl
  split
  · exact absurd (by assumption) h1
  · exact absurd (by assumption) h2
  · rfl
theorem fvl_ne {M M' : Mem} {c a j : Nat} (h : mB M' a j = mB M a j ∧ mI M' a j = mI M a j ∧ mL M' a j = mL M a j) : fvl M' c a j = fvl M c a j := by
  obtain ⟨r1, r2, r3⟩ := h
  simp only [fvl, r1, r2, r3]
/-- a write of a field that isn't a reference -/
theorem w_put {p : Program} {l : Launch} {e : Env} {R : Room} {s : State} {m : MethodId} {args : Array Value} {below : List Frame} {meth : Method} {c0 : Code} {H : Heap} {locs : List Loc} {ls : Array Slot} {rest : List Value} {a c k x : Nat} {r : vw_C} {M' : Mem} {v : Value}
    (hx : p.tables.exec = Jvm.exec) (hb : c0.code = cc) (hts : ∀ w ∈ TB, w.before args s = true) (hK : KS G s) (hown : s.vm.findClass own = some m.cls) (hR : Rep G M H) (hS0 : va_S (fun q => G.1 ≤ q) s.heap H locs) (ho : isO M a c) (hv : vwCl[c]? = some r) (hk : k < r.2.2)
    (hl : Cond.fieldLink own x (r.2.1 k).1 (r.2.1 k).2.1 (r.2.1 k).2.2.1 ∈ TB) (hfin : (r.2.1 k).2.2.2 = false) (hn : narrow (tyc c k) v = v) (hfit : fits (tyc c k) v = true) (hd : decode cc pc = .ok (.putfield x, 3))
    (hM : mK M' = mK M ∧ (∀ b j, (b ≠ a ∨ j ≠ k) → mB M' b j = mB M b j ∧ mI M' b j = mI M b j ∧ mL M' b j = mL M b j) ∧ cv G (fvl M' c a k) = v) (hBz : Bz M')
    (kk : ∀ (H1 : Heap) (locs1 : List Loc), Rep G M' H1 → va_S (fun q => G.1 ≤ q) s.heap H1 locs1 → W p l e R s m args below meth c0 H1 locs1 cells slots Q (F0 m (pc + 3) ls rest)) : W p l e R s m args below meth c0 H locs cells slots Q (F0 m pc ls (v :: .ref (ad G a) :: rest)) := by
  have hap := va_ap hts hK hv
  obtain ⟨cell, q1, q2, q3, q4⟩ := (hR.2.1 a ho.2.1 ho.2.2).1 c _ ho.1 hv
  obtain ⟨h1, h2, h3⟩ := clOK hv
  obtain ⟨hS, hfc, kC, hkC, hkind⟩ := hK.1.1 c _ hv
  obtain ⟨cf, kf, fi, f, hi, hsl⟩ := hS k hk
  have hlay := hts _ (h1 _ (u_in_lay hk))
  unfold u_lay at hlay
  rw [if_neg (by rw [hfin]; decide)] at hlay
  have hst := (u_facts hfc hkC (u_lays hts h1 hk) hi).1
  have h6 := u_store hfc hkC hkind hlay hi (h2 k hk) hn hfit
  refine W.putK hx hb (f := f) ⟨hown, hts _ hl, ⟨_, _, _, hi⟩, hst⟩ (by rw [q2]; exact h6) q1 q3 (by rw [hsl]; exact k2_hasslot (q4 k hk)) rfl rfl hd fun H' e1 e2 e3 => ?_
  rw [hsl] at e1 ⊢
  have hc : cAt G M' H' a := cAt.put ho.1 hv hap hk q2 q3 q4 (by rw [hM.2.2]; exact e1) (fun j hj => fvl_ne (hM.2.1 a j (Or.inr hj)))
  exact kk H' _ (hR.upd ho.2.1 e2 e3 hM.1 (fun b hb j => hM.2.1 b j (Or.inl hb)) hc hBz) (hS0.put e2 e3 (by show G.1 ≤ ad G a; rw [ad_pos ho.2.1]; omega))
theorem arr_at {H : Heap} {a kd : Nat} {i : Int32} (hR : Rep G M H) (h : isA M a kd i) (h20 : 20 ≤ kd) : H[ad G a]? = some (arrV (G.2.2.2 kd) (SH a).2 (fun j => cv G (avl M kd a j))) := by
  obtain ⟨h1, h2, h3, h4⟩ := h
  have := (hR.2.1 a h2 h3).2 (by omega)
  rw [h1] at this
  exact this
/-- a write of a place of an array -/
theorem rep_ast {H H' : Heap} {a kd j : Nat} {v : Value} {M' : Mem} (hR : Rep G M H) (hs : (SH a).1 = kd) (h0 : 0 < a) (h20 : 20 ≤ kd)
    (e1 : H'[ad G a]? = some ((arrV (G.2.2.2 kd) (SH a).2 (fun j => cv G (avl M kd a j))).setSlot j v)) (e2 : H'.size = H.size) (e3 : ∀ q, q ≠ ad G a → H'[q]? = H[q]?)
    (hM : mK M' = mK M ∧ (∀ b i, (b ≠ a ∨ i ≠ j) → mB M' b i = mB M b i ∧ mI M' b i = mI M b i ∧ mL M' b i = mL M b i) ∧ cv G (avl M' kd a j) = v) (hBz : Bz M') : Rep G M' H' := by
  refine hR.upd h0 e2 e3 hM.1 (fun b hb i => hM.2.1 b i (Or.inl hb)) ⟨fun c r hc hv => ?_, fun _ => ?_⟩ hBz
  · have : c < 8 := (List.getElem?_eq_some_iff.mp hv).1
    omega
  · rw [e1, hs, arrV_store]
    congr 2
    funext i
    by_cases e : i = j
    · subst e; simp [updV, hM.2.2]
    · obtain ⟨r1, r2, r3⟩ := hM.2.1 a i (Or.inr e)
      simp only [updV, e, if_false, avl, r1, r2, r3]
theorem A_ad {a : Nat} (h : 0 < a) : G.1 ≤ ad G a := by rw [ad_pos h]; omega
theorem nar_b {v : Int32} (h : v = 0 ∨ v = 1) : narrow .boolean (.int v) = .int v := by rcases h with rfl | rfl <;> rfl
theorem tag0 {ty : FieldType} (h : tagOK 0 ty = true) : ty = .int := by cases ty <;> first | rfl | (simp [tagOK] at h)
theorem tag1 {ty : FieldType} (h : tagOK 1 ty = true) : ty = .long := by cases ty <;> first | rfl | (simp [tagOK] at h)
theorem tag3 {ty : FieldType} (h : tagOK 3 ty = true) : ty = .boolean := by cases ty <;> first | rfl | (simp [tagOK] at h)
theorem uI_M {M : Mem} {a k : Nat} {v : Int32} : mK (uI M a k v) = mK M ∧ (∀ b j, (b ≠ a ∨ j ≠ k) → mB (uI M a k v) b j = mB M b j ∧ mI (uI M a k v) b j = mI M b j ∧ mL (uI M a k v) b j = mL M b j) :=
  ⟨rfl, fun b j h => ⟨rfl, h.elim mI_uI_ne mI_uI_nk, rfl⟩⟩
theorem uL_M {M : Mem} {a k : Nat} {v : Int64} : mK (uL M a k v) = mK M ∧ (∀ b j, (b ≠ a ∨ j ≠ k) → mB (uL M a k v) b j = mB M b j ∧ mI (uL M a k v) b j = mI M b j ∧ mL (uL M a k v) b j = mL M b j) :=
  ⟨rfl, fun b j h => ⟨rfl, rfl, h.elim mL_uL_ne mL_uL_nk⟩⟩
theorem uB_M {M : Mem} {a k : Nat} : mK (uB M a k) = mK M ∧ (∀ b j, (b ≠ a ∨ j ≠ k) → mB (uB M a k) b j = mB M b j ∧ mI (uB M a k) b j = mI M b j ∧ mL (uB M a k) b j = mL M b j) :=
  ⟨rfl, fun b j h => ⟨h.elim mB_uB_ne mB_uB_nk, rfl, rfl⟩⟩
theorem Bz.pL {M : Mem} {a k : Nat} {v : Int64} (h : Bz M) : Bz (uL M a k v) := h
theorem Bz.pB {M : Mem} {a k : Nat} (h : Bz M) : Bz (uB M a k) := h
theorem Bz.pI {M : Mem} {a k : Nat} {v : Int32} (h : Bz M) (hv : bl a k = true → v = 0 ∨ v = 1) : Bz (uI M a k v) := by
  intro b j hb
  by_cases e : b = a ∧ j = k
  · obtain ⟨rfl, rfl⟩ := e
    rw [mI_uI]
    exact hv hb
  · have h9 : mI (uI M a k v) b j = mI M b j := by
      by_cases e1 : b = a
      · exact mI_uI_nk (fun q => e ⟨e1, q⟩)
      · exact mI_uI_ne e1
    rw [h9]
    exact h b j hb
theorem bl_n {a c k : Nat} (hs : (SH a).1 = c + 1) (hc : c < 8) (ht : (ft c k).1 ≠ 3) : ¬ bl a k = true := by
  unfold bl
  rw [hs]
  simp only [Nat.add_sub_cancel, Bool.or_eq_true, decide_eq_true_eq]
  rintro (h | h)
  · omega
  · exact ht h
theorem bl_20 {a k : Nat} (hs : (SH a).1 = 20) : ¬ bl a k = true := by
  unfold bl
  rw [hs]
  simp [ft, FTt]
end SX
end
section
theorem vin_lt {i : Int32} {n : Nat} (h : vp_in i n) : i.toNatClampNeg < n := Nat.not_le.mp fun q => h (Or.inr q)
set_option maxHeartbeats 4000000 in
theorem sx1_ok {G : Ctx} {X : Xt} {own : String} {cc : ByteArray} {nL : Nat} {ret : Option FieldType} {cells slots : Nat} {Q : State → Prop} {pc : Nat} {lv lv' : List (Nat × Value)} {st st' : List Value} {M M' : Mem} {C : Prop} {fl : Nat → Option (Nat × Nat)} {cj : Nat → Option Int64} {i : Instr}
    (F : Fx G X own cc nL ret) (hfl : FlOK own fl) (hcj : CjOK own cj) (hd : decode cc pc = .ok (i, ilen i)) (h : sx1 fl cj nL pc i lv st M = some (lv', st', M', C)) (hC : C) (k : V G X nL cells slots Q (npc i pc) lv' st' M') : V G X nL cells slots Q pc lv st M := by
  intro H locs ls hl hR hS
  obtain ⟨p, l, e, R, s, m, args, below, meth, c0⟩ := X
  obtain ⟨hx, hb, hml, hown, hts, hK, hret, hlocks, hZ⟩ := F
  unfold sx1 at h
  split at h
  · cases h
    exact lv_null hx hb hd (k H locs ls hl hR hS)
  · cases h
    exact lv_iconst hx hb hd rfl (k H locs ls hl hR hS)
  · cases h
    exact lv_bipush hx hb hd rfl (k H locs ls hl hR hS)
  · cases h
    exact lv_sipush hx hb hd rfl (k H locs ls hl hR hS)
  · cases h
    exact lv_lconst hx hb hd rfl (k H locs ls hl hR hS)
  · split at h
    · rename_i e
      cases h
      exact lv_ldc2 hx hb hown (hts _ (hcj _ _ e)) hd (k H locs ls hl hR hS)
    · cases h
  · split at h
    · rename_i e
      cases h
      exact lv_iload_n hx hb hd rfl (lk_at hl e) (k H locs ls hl hR hS)
    · cases h
  · split at h
    · rename_i e
      cases h
      exact lv_iload hx hb hd (lk_at hl e) (k H locs ls hl hR hS)
    · cases h
  · split at h
    · rename_i e
      cases h
      exact lv_lload_n hx hb hd rfl (lk_at hl e) (k H locs ls hl hR hS)
    · cases h
  · split at h
    · rename_i e
      cases h
      exact lv_lload hx hb hd (lk_at hl e) (k H locs ls hl hR hS)
    · cases h
  · split at h
    · rename_i e
      cases h
      exact lv_aload_n hx hb hd rfl (lk_at hl e) (k H locs ls hl hR hS)
    · rename_i e
      cases h
      exact lv_aload_nN hx hb hd rfl (lk_at hl e) (k H locs ls hl hR hS)
    · cases h
  · split at h
    · rename_i e
      cases h
      exact lv_aload hx hb hd (lk_at hl e) (k H locs ls hl hR hS)
    · rename_i e
      cases h
      exact lv_aloadN hx hb hd (lk_at hl e) (k H locs ls hl hR hS)
    · cases h
  · split at h
    · cases h
      exact lv_istore_n hx hb hd rfl hl hC (s1_map G lv _ (.int _)) (fun ls' hl' => k H locs ls' hl' hR hS)
    · cases h
  · split at h
    · cases h
      exact lv_istore hx hb hd hl hC (s1_map G lv _ (.int _)) (fun ls' hl' => k H locs ls' hl' hR hS)
    · cases h
  · split at h
    · cases h
      exact lv_lstore_n hx hb hd rfl hl hC (s2_map G lv _ (.long _)) (fun ls' hl' => k H locs ls' hl' hR hS)
    · cases h
  · split at h
    · cases h
      exact lv_lstore hx hb hd hl hC (s2_map G lv _ (.long _)) (fun ls' hl' => k H locs ls' hl' hR hS)
    · cases h
  · split at h
    · cases h
      exact lv_astore_n hx hb hd rfl hl hC (s1_map G lv _ (.ref _)) (fun ls' hl' => k H locs ls' hl' hR hS)
    · cases h
      exact lv_astore_nN hx hb hd rfl hl hC (s1_map G lv _ .null) (fun ls' hl' => k H locs ls' hl' hR hS)
    · cases h
  · split at h
    · cases h
      exact lv_astore hx hb hd hl hC (s1_map G lv _ (.ref _)) (fun ls' hl' => k H locs ls' hl' hR hS)
    · cases h
  · split at h
    · rename_i e
      cases h
      obtain ⟨j, hj⟩ := List.getElem?_of_mem (List.mem_map.mpr ⟨_, lk_mem e, rfl⟩ : _ ∈ lv.map fun q => (q.1, cv G q.2))
      exact lv_iinc hx hb hd hl hj rfl hC (s1_map G lv _ (.int _)) (fun ls' hl' => k H locs ls' hl' hR hS)
    · cases h
  · split at h
    · cases h
      exact lv_iadd hx hb hd (k H locs ls hl hR hS)
    · cases h
  · split at h
    · cases h
      exact lv_isub hx hb hd (k H locs ls hl hR hS)
    · cases h
  · split at h
    · cases h
      exact lv_imul hx hb hd (k H locs ls hl hR hS)
    · cases h
  · split at h
    · cases h
      exact lv_idiv hx hb hd hC (k H locs ls hl hR hS)
    · cases h
  · split at h
    · cases h
      exact lv_irem hx hb hd hC (k H locs ls hl hR hS)
    · cases h
  · split at h
    · cases h
      exact lv_iand hx hb hd (k H locs ls hl hR hS)
    · cases h
  · split at h
    · cases h
      exact lv_ishl hx hb hd (k H locs ls hl hR hS)
    · cases h
  · split at h
    · cases h
      exact lv_ladd hx hb hd (k H locs ls hl hR hS)
    · cases h
  · split at h
    · cases h
      exact lv_lsub hx hb hd (k H locs ls hl hR hS)
    · cases h
  · split at h
    · cases h
      exact lv_lmul hx hb hd (k H locs ls hl hR hS)
    · cases h
  · split at h
    · cases h
      exact lv_ldiv hx hb hd hC (k H locs ls hl hR hS)
    · cases h
  · split at h
    · cases h
      exact lv_lrem hx hb hd hC (k H locs ls hl hR hS)
    · cases h
  · split at h
    · cases h
      exact lv_land hx hb hd (k H locs ls hl hR hS)
    · cases h
  · split at h
    · cases h
      exact lv_lor hx hb hd (k H locs ls hl hR hS)
    · cases h
  · split at h
    · cases h
      exact lv_lxor hx hb hd (k H locs ls hl hR hS)
    · cases h
  · split at h
    · cases h
      exact lv_lshl hx hb hd rfl (k H locs ls hl hR hS)
    · cases h
  · split at h
    · cases h
      exact lv_lshr hx hb hd rfl (k H locs ls hl hR hS)
    · cases h
  · split at h
    · cases h
      exact lv_lushr hx hb hd rfl (k H locs ls hl hR hS)
    · cases h
  · split at h
    · cases h
      exact lv_lneg hx hb hd (k H locs ls hl hR hS)
    · cases h
  · split at h
    · cases h
      exact lv_i2l hx hb hd rfl (k H locs ls hl hR hS)
    · cases h
  · split at h
    · cases h
      exact lv_l2i hx hb hd rfl (k H locs ls hl hR hS)
    · cases h
  · split at h
    · cases h
      exact lv_i2b hx hb hd rfl (k H locs ls hl hR hS)
    · cases h
  · split at h
    · cases h
      exact lv_i2s hx hb hd rfl (k H locs ls hl hR hS)
    · cases h
  · split at h
    · cases h
      exact W.lcmp hx hb hd (k H locs ls hl hR hS)
    · cases h
  · split at h
    · cases h
      exact lv_dup hx hb hd rfl (k H locs ls hl hR hS)
    · cases h
      exact lv_dup hx hb hd rfl (k H locs ls hl hR hS)
    · cases h
  · split at h
    · cases h
      exact lv_dup2_2 hx hb hd rfl (k H locs ls hl hR hS)
    · cases h
      exact lv_dup2_11 hx hb hd rfl rfl (k H locs ls hl hR hS)
    · cases h
  · cases h
    exact lv_goto hx hb hd (by simp only [npc]; rw [Int.toNat_of_nonneg hC]) (k H locs ls hl hR hS)
  · split at h
    · rename_i c j e
      obtain ⟨r, hv, hk, hlk, -⟩ := hfl _ _ _ e
      split at h
      · split at h
        · rename_i et
          cases h
          refine w_get hx hb hts hK hown hR hC hv hk hlk hd ?_
          rw [fvl_1 et]
          exact k H locs ls hl hR hS
        · rename_i et
          cases h
          refine w_get hx hb hts hK hown hR hC.1 hv hk hlk hd ?_
          rw [fvl_2 et hC.2]
          exact k H locs ls hl hR hS
        · rename_i e1 e2
          cases h
          refine w_get hx hb hts hK hown hR hC hv hk hlk hd ?_
          rw [fvl_0 (fun q => e1 q) (fun q => e2 q)]
          exact k H locs ls hl hR hS
      · cases h
    · cases h
  · split at h
    · rename_i c j e
      obtain ⟨r, hv, hk, hlk, hfin⟩ := hfl _ _ _ e
      have htag := tag_of hv hk
      split at h
      · rename_i et
        rw [et] at htag hfin
        split at h
        · cases h
          refine w_put (M' := uI M _ j _) hx hb hts hK hown hR hS hC hv hk hlk (hfin (by decide)) (by rw [tag0 htag]; rfl) (by rw [tag0 htag]; rfl) hd ⟨uI_M.1, uI_M.2, by rw [fvl_0 (by rw [et]; decide) (by rw [et]; decide), mI_uI]⟩ (hR.2.2.pI (fun q => absurd q (bl_n hC.1 (List.getElem?_eq_some_iff.mp hv).1 (by rw [et]; decide)))) (fun H1 locs1 hR1 hS1 => k H1 locs1 ls hl hR1 hS1)
        · cases h
      · rename_i et
        rw [et] at htag hfin
        split at h
        · cases h
          refine w_put (M' := uL M _ j _) hx hb hts hK hown hR hS hC hv hk hlk (hfin (by decide)) (by rw [tag1 htag]; rfl) (by rw [tag1 htag]; rfl) hd ⟨uL_M.1, uL_M.2, by rw [fvl_1 et, mL_uL]⟩ hR.2.2.pL (fun H1 locs1 hR1 hS1 => k H1 locs1 ls hl hR1 hS1)
        · cases h
      · rename_i et
        rw [et] at htag hfin
        split at h
        · cases h
          refine w_put (M' := uI M _ j _) hx hb hts hK hown hR hS hC.1 hv hk hlk (hfin (by decide)) (by rw [tag3 htag]; exact nar_b hC.2) (by rw [tag3 htag]; rcases hC.2 with e | e <;> rw [e] <;> rfl) hd ⟨uI_M.1, uI_M.2, by rw [fvl_0 (by rw [et]; decide) (by rw [et]; decide), mI_uI]⟩ (hR.2.2.pI (fun _ => hC.2)) (fun H1 locs1 hR1 hS1 => k H1 locs1 ls hl hR1 hS1)
        · cases h
      · cases h
    · cases h
  · split at h
    · cases h
      have hlt := vin_lt hC.2.2.2
      exact W.iald hx hb (arr_at hR hC (by decide)) ((hK.2.1 20 (by decide) (by decide)).1 _ _) (fun q => by cases q) (by show ¬ (_ < 0 ∨ (arrV _ _ _).slots.size ≤ _); rw [arrV_size]; exact hC.2.2.2) (by show (arrV _ _ _).slots[_]? = _; rw [arrV_read _ _ hlt]; rfl) rfl rfl hd (k H locs ls hl hR hS)
    · cases h
  · split at h
    · cases h
      have hlt := vin_lt hC.2.2.2
      exact W.zald hx hb (arr_at hR hC (by decide)) ((hK.2.1 21 (by decide) (by decide)).1 _ _) (fun q => by cases q) (by show ¬ (_ < 0 ∨ (arrV _ _ _).slots.size ≤ _); rw [arrV_size]; exact hC.2.2.2) (by show (arrV _ _ _).slots[_]? = _; rw [arrV_read _ _ hlt]; rfl) rfl rfl hd (k H locs ls hl hR hS)
    · cases h
  · split at h
    · cases h
      have hlt := vin_lt hC.2.2.2
      exact W.lald hx hb (arr_at hR hC (by decide)) ((hK.2.1 22 (by decide) (by decide)).1 _ _) (fun q => by cases q) (by show ¬ (_ < 0 ∨ (arrV _ _ _).slots.size ≤ _); rw [arrV_size]; exact hC.2.2.2) (by show (arrV _ _ _).slots[_]? = _; rw [arrV_read _ _ hlt]; rfl) rfl rfl hd (k H locs ls hl hR hS)
    · cases h
  · split at h
    · cases h
      have hlt := vin_lt hC.2.2.2
      refine W.iast hx hb (arr_at hR hC (by decide)) ((hK.2.1 20 (by decide) (by decide)).1 _ _) (fun q => by cases q) (by show ¬ (_ < 0 ∨ (arrV _ _ _).slots.size ≤ _); rw [arrV_size]; exact hC.2.2.2) rfl rfl hd (fun H' e1 e2 e3 => ?_)
      exact k H' _ ls hl (rep_ast (M' := uI M _ _ _) hR hC.1 hC.2.1 (by decide) e1 e2 e3 ⟨uI_M.1, uI_M.2, by simp only [avl]; rw [if_pos (by decide)]; show cv G (.int (mI (uI M _ (ix _) _) _ (ix _))) = _; rw [mI_uI]; rfl⟩ (hR.2.2.pI (fun q => absurd q (bl_20 hC.1)))) (hS.put e2 e3 (A_ad hC.2.1))
    · cases h
  · split at h
    · cases h
      have hlt := vin_lt hC.1.2.2.2
      refine W.zast hx hb (arr_at hR hC.1 (by decide)) ((hK.2.1 21 (by decide) (by decide)).1 _ _) (fun q => by cases q) (by show ¬ (_ < 0 ∨ (arrV _ _ _).slots.size ≤ _); rw [arrV_size]; exact hC.1.2.2.2) rfl rfl hd (fun H' e1 e2 e3 => ?_)
      rw [nar_b hC.2] at e1
      exact k H' _ ls hl (rep_ast (M' := uI M _ _ _) hR hC.1.1 hC.1.2.1 (by decide) e1 e2 e3 ⟨uI_M.1, uI_M.2, by simp only [avl]; rw [if_pos (by decide)]; show cv G (.int (mI (uI M _ (ix _) _) _ (ix _))) = _; rw [mI_uI]; rfl⟩ (hR.2.2.pI (fun _ => hC.2))) (hS.put e2 e3 (A_ad hC.1.2.1))
    · cases h
  · split at h
    · cases h
      have hlt := vin_lt hC.2.2.2
      refine W.last hx hb (arr_at hR hC (by decide)) ((hK.2.1 22 (by decide) (by decide)).1 _ _) (fun q => by cases q) (by show ¬ (_ < 0 ∨ (arrV _ _ _).slots.size ≤ _); rw [arrV_size]; exact hC.2.2.2) rfl rfl hd (fun H' e1 e2 e3 => ?_)
      exact k H' _ ls hl (rep_ast (M' := uL M _ _ _) hR hC.1 hC.2.1 (by decide) e1 e2 e3 ⟨uL_M.1, uL_M.2, by simp only [avl]; rw [if_neg (by decide), if_pos (by trivial)]; show cv G (.long (mL (uL M _ (ix _) _) _ (ix _))) = _; rw [mL_uL]; rfl⟩ hR.2.2.pL) (hS.put e2 e3 (A_ad hC.2.1))
    · cases h
  · cases h
def sxs (fl : Nat → Option (Nat × Nat)) (cj : Nat → Option Int64) (nL : Nat) : List Instr → Nat → List (Nat × Value) → List Value → Mem → Option (Nat × List (Nat × Value) × List Value × Mem × Prop)
  | [], pc, lv, st, M => some (pc, lv, st, M, True)
  | i :: is, pc, lv, st, M => match sx1 fl cj nL pc i lv st M with
    | some (lv', st', M', C) => match sxs fl cj nL is (npc i pc) lv' st' M' with
      | some (pc2, lv2, st2, M2, C2) => some (pc2, lv2, st2, M2, C ∧ C2)
      | none => none
    | none => none
def decs (cc : ByteArray) : List Instr → Nat → Bool
  | [], _ => true
  | i :: is, pc => decide (decode cc pc = .ok (i, ilen i)) && decs cc is (npc i pc)
/-- a straight stretch as one step -/
theorem V.seg {G : Ctx} {X : Xt} {own : String} {cc : ByteArray} {nL : Nat} {ret : Option FieldType} {cells slots : Nat} {Q : State → Prop} {M2 : Mem} {fl : Nat → Option (Nat × Nat)} {cj : Nat → Option Int64} {pc2 : Nat} {lv2 : List (Nat × Value)} {st2 : List Value}
    (F : Fx G X own cc nL ret) (hfl : FlOK own fl) (hcj : CjOK own cj) : ∀ (is : List Instr) {pc : Nat} {lv : List (Nat × Value)} {st : List Value} {M : Mem} {C : Prop}, decs cc is pc = true → sxs fl cj nL is pc lv st M = some (pc2, lv2, st2, M2, C) → C → V G X nL cells slots Q pc2 lv2 st2 M2 → V G X nL cells slots Q pc lv st M
  | [], pc, lv, st, M, C, _, h, _, k => by
    simp only [sxs] at h
    cases h
    exact k
  | i :: is, pc, lv, st, M, C, hd, h, hC, k => by
    simp only [decs, Bool.and_eq_true, decide_eq_true_eq] at hd
    simp only [sxs] at h
    split at h
    · rename_i lv1 st1 M1 C1 e1
      split at h
      · rename_i pc3 lv3 st3 M3 C3 e3
        cases h
        exact sx1_ok F hfl hcj hd.1 e1 hC.1 (V.seg F hfl hcj is hd.2 e3 hC.2 k)
      · cases h
    · cases h
end
section
section BR
variable {G : Ctx} {X : Xt} {own : String} {cc : ByteArray} {nL : Nat} {ret : Option FieldType} {cells slots : Nat} {Q : State → Prop} {pc tgt : Nat} {lv : List (Nat × Value)} {st : List Value} {M : Mem} {off : Int}
theorem V.if_eq (F : Fx G X own cc nL ret) {x : Int32} (hd : decode cc pc = .ok (.ifCond .eq off, 3)) (ht : (pc : Int) + off = (tgt : Int)) (kt : x = 0 → V G X nL cells slots Q tgt lv st M) (kf : ¬ (x = 0) → V G X nL cells slots Q (pc + 3) lv st M) : V G X nL cells slots Q pc lv (.int x :: st) M := by
  intro H locs ls hl hR hS
  obtain ⟨p, l, e, R, s, m, args, below, meth, c0⟩ := X
  obtain ⟨hx, hb, -⟩ := F
  exact lv_if_eq hx hb hd ht (fun q => kt q H locs ls hl hR hS) (fun q => kf q H locs ls hl hR hS)
theorem V.ic_eq (F : Fx G X own cc nL ret) {x y : Int32} (hd : decode cc pc = .ok (.if_icmp .eq off, 3)) (ht : (pc : Int) + off = (tgt : Int)) (kt : x = y → V G X nL cells slots Q tgt lv st M) (kf : ¬ (x = y) → V G X nL cells slots Q (pc + 3) lv st M) : V G X nL cells slots Q pc lv (.int y :: .int x :: st) M := by
  intro H locs ls hl hR hS
  obtain ⟨p, l, e, R, s, m, args, below, meth, c0⟩ := X
  obtain ⟨hx, hb, -⟩ := F
  exact lv_icmp_eq hx hb hd ht (fun q => kt q H locs ls hl hR hS) (fun q => kf q H locs ls hl hR hS)
theorem V.if_ne (F : Fx G X own cc nL ret) {x : Int32} (hd : decode cc pc = .ok (.ifCond .ne off, 3)) (ht : (pc : Int) + off = (tgt : Int)) (kt : ¬ x = 0 → V G X nL cells slots Q tgt lv st M) (kf : x = 0 → V G X nL cells slots Q (pc + 3) lv st M) : V G X nL cells slots Q pc lv (.int x :: st) M := by
  intro H locs ls hl hR hS
  obtain ⟨p, l, e, R, s, m, args, below, meth, c0⟩ := X
  obtain ⟨hx, hb, -⟩ := F
  exact lv_if_ne hx hb hd ht (fun q => kt q H locs ls hl hR hS) (fun q => kf q H locs ls hl hR hS)
theorem V.ic_ne (F : Fx G X own cc nL ret) {x y : Int32} (hd : decode cc pc = .ok (.if_icmp .ne off, 3)) (ht : (pc : Int) + off = (tgt : Int)) (kt : ¬ x = y → V G X nL cells slots Q tgt lv st M) (kf : x = y → V G X nL cells slots Q (pc + 3) lv st M) : V G X nL cells slots Q pc lv (.int y :: .int x :: st) M := by
  intro H locs ls hl hR hS
  obtain ⟨p, l, e, R, s, m, args, below, meth, c0⟩ := X
  obtain ⟨hx, hb, -⟩ := F
  exact lv_icmp_ne hx hb hd ht (fun q => kt q H locs ls hl hR hS) (fun q => kf q H locs ls hl hR hS)
theorem V.if_lt (F : Fx G X own cc nL ret) {x : Int32} (hd : decode cc pc = .ok (.ifCond .lt off, 3)) (ht : (pc : Int) + off = (tgt : Int)) (kt : x < 0 → V G X nL cells slots Q tgt lv st M) (kf : ¬ (x < 0) → V G X nL cells slots Q (pc + 3) lv st M) : V G X nL cells slots Q pc lv (.int x :: st) M := by
  intro H locs ls hl hR hS
  obtain ⟨p, l, e, R, s, m, args, below, meth, c0⟩ := X
  obtain ⟨hx, hb, -⟩ := F
  exact lv_if_lt hx hb hd ht (fun q => kt q H locs ls hl hR hS) (fun q => kf q H locs ls hl hR hS)
theorem V.ic_lt (F : Fx G X own cc nL ret) {x y : Int32} (hd : decode cc pc = .ok (.if_icmp .lt off, 3)) (ht : (pc : Int) + off = (tgt : Int)) (kt : x < y → V G X nL cells slots Q tgt lv st M) (kf : ¬ (x < y) → V G X nL cells slots Q (pc + 3) lv st M) : V G X nL cells slots Q pc lv (.int y :: .int x :: st) M := by
  intro H locs ls hl hR hS
  obtain ⟨p, l, e, R, s, m, args, below, meth, c0⟩ := X
  obtain ⟨hx, hb, -⟩ := F
  exact lv_icmp_lt hx hb hd ht (fun q => kt q H locs ls hl hR hS) (fun q => kf q H locs ls hl hR hS)
theorem V.if_ge (F : Fx G X own cc nL ret) {x : Int32} (hd : decode cc pc = .ok (.ifCond .ge off, 3)) (ht : (pc : Int) + off = (tgt : Int)) (kt : 0 ≤ x → V G X nL cells slots Q tgt lv st M) (kf : ¬ (0 ≤ x) → V G X nL cells slots Q (pc + 3) lv st M) : V G X nL cells slots Q pc lv (.int x :: st) M := by
  intro H locs ls hl hR hS
  obtain ⟨p, l, e, R, s, m, args, below, meth, c0⟩ := X
  obtain ⟨hx, hb, -⟩ := F
  exact lv_if_ge hx hb hd ht (fun q => kt q H locs ls hl hR hS) (fun q => kf q H locs ls hl hR hS)
theorem V.ic_ge (F : Fx G X own cc nL ret) {x y : Int32} (hd : decode cc pc = .ok (.if_icmp .ge off, 3)) (ht : (pc : Int) + off = (tgt : Int)) (kt : y ≤ x → V G X nL cells slots Q tgt lv st M) (kf : ¬ (y ≤ x) → V G X nL cells slots Q (pc + 3) lv st M) : V G X nL cells slots Q pc lv (.int y :: .int x :: st) M := by
  intro H locs ls hl hR hS
  obtain ⟨p, l, e, R, s, m, args, below, meth, c0⟩ := X
  obtain ⟨hx, hb, -⟩ := F
  exact lv_icmp_ge hx hb hd ht (fun q => kt q H locs ls hl hR hS) (fun q => kf q H locs ls hl hR hS)
theorem V.if_gt (F : Fx G X own cc nL ret) {x : Int32} (hd : decode cc pc = .ok (.ifCond .gt off, 3)) (ht : (pc : Int) + off = (tgt : Int)) (kt : 0 < x → V G X nL cells slots Q tgt lv st M) (kf : ¬ (0 < x) → V G X nL cells slots Q (pc + 3) lv st M) : V G X nL cells slots Q pc lv (.int x :: st) M := by
  intro H locs ls hl hR hS
  obtain ⟨p, l, e, R, s, m, args, below, meth, c0⟩ := X
  obtain ⟨hx, hb, -⟩ := F
  exact lv_if_gt hx hb hd ht (fun q => kt q H locs ls hl hR hS) (fun q => kf q H locs ls hl hR hS)
theorem V.ic_gt (F : Fx G X own cc nL ret) {x y : Int32} (hd : decode cc pc = .ok (.if_icmp .gt off, 3)) (ht : (pc : Int) + off = (tgt : Int)) (kt : y < x → V G X nL cells slots Q tgt lv st M) (kf : ¬ (y < x) → V G X nL cells slots Q (pc + 3) lv st M) : V G X nL cells slots Q pc lv (.int y :: .int x :: st) M := by
  intro H locs ls hl hR hS
  obtain ⟨p, l, e, R, s, m, args, below, meth, c0⟩ := X
  obtain ⟨hx, hb, -⟩ := F
  exact lv_icmp_gt hx hb hd ht (fun q => kt q H locs ls hl hR hS) (fun q => kf q H locs ls hl hR hS)
theorem V.if_le (F : Fx G X own cc nL ret) {x : Int32} (hd : decode cc pc = .ok (.ifCond .le off, 3)) (ht : (pc : Int) + off = (tgt : Int)) (kt : x ≤ 0 → V G X nL cells slots Q tgt lv st M) (kf : ¬ (x ≤ 0) → V G X nL cells slots Q (pc + 3) lv st M) : V G X nL cells slots Q pc lv (.int x :: st) M := by
  intro H locs ls hl hR hS
  obtain ⟨p, l, e, R, s, m, args, below, meth, c0⟩ := X
  obtain ⟨hx, hb, -⟩ := F
  exact lv_if_le hx hb hd ht (fun q => kt q H locs ls hl hR hS) (fun q => kf q H locs ls hl hR hS)
theorem V.ic_le (F : Fx G X own cc nL ret) {x y : Int32} (hd : decode cc pc = .ok (.if_icmp .le off, 3)) (ht : (pc : Int) + off = (tgt : Int)) (kt : x ≤ y → V G X nL cells slots Q tgt lv st M) (kf : ¬ (x ≤ y) → V G X nL cells slots Q (pc + 3) lv st M) : V G X nL cells slots Q pc lv (.int y :: .int x :: st) M := by
  intro H locs ls hl hR hS
  obtain ⟨p, l, e, R, s, m, args, below, meth, c0⟩ := X
  obtain ⟨hx, hb, -⟩ := F
  exact lv_icmp_le hx hb hd ht (fun q => kt q H locs ls hl hR hS) (fun q => kf q H locs ls hl hR hS)
theorem V.lc_eq (F : Fx G X own cc nL ret) {x y : Int64} (hd : decode cc pc = .ok (.ifCond .eq off, 3)) (ht : (pc : Int) + off = (tgt : Int)) (kt : x = y → V G X nL cells slots Q tgt lv st M) (kf : ¬ (x = y) → V G X nL cells slots Q (pc + 3) lv st M) : V G X nL cells slots Q pc lv (.int (lg_cmp x y) :: st) M :=
  V.if_eq F hd ht (fun q => kt ((lg_cmp_eq x y).mp q)) (fun q => kf (fun z => q ((lg_cmp_eq x y).mpr z)))
theorem V.lc_ne (F : Fx G X own cc nL ret) {x y : Int64} (hd : decode cc pc = .ok (.ifCond .ne off, 3)) (ht : (pc : Int) + off = (tgt : Int)) (kt : ¬ x = y → V G X nL cells slots Q tgt lv st M) (kf : x = y → V G X nL cells slots Q (pc + 3) lv st M) : V G X nL cells slots Q pc lv (.int (lg_cmp x y) :: st) M :=
  V.if_ne F hd ht (fun q => kt ((not_congr (lg_cmp_eq x y)).mp q)) (fun q => kf ((lg_cmp_eq x y).mp q))
theorem V.lc_lt (F : Fx G X own cc nL ret) {x y : Int64} (hd : decode cc pc = .ok (.ifCond .lt off, 3)) (ht : (pc : Int) + off = (tgt : Int)) (kt : x < y → V G X nL cells slots Q tgt lv st M) (kf : ¬ (x < y) → V G X nL cells slots Q (pc + 3) lv st M) : V G X nL cells slots Q pc lv (.int (lg_cmp x y) :: st) M :=
  V.if_lt F hd ht (fun q => kt ((lg_cmp_lt x y).mp q)) (fun q => kf (fun z => q ((lg_cmp_lt x y).mpr z)))
theorem V.lc_ge (F : Fx G X own cc nL ret) {x y : Int64} (hd : decode cc pc = .ok (.ifCond .ge off, 3)) (ht : (pc : Int) + off = (tgt : Int)) (kt : y ≤ x → V G X nL cells slots Q tgt lv st M) (kf : ¬ (y ≤ x) → V G X nL cells slots Q (pc + 3) lv st M) : V G X nL cells slots Q pc lv (.int (lg_cmp x y) :: st) M :=
  V.if_ge F hd ht (fun q => kt ((lg_cmp_ge x y).mp q)) (fun q => kf (fun z => q ((lg_cmp_ge x y).mpr z)))
theorem V.lc_gt (F : Fx G X own cc nL ret) {x y : Int64} (hd : decode cc pc = .ok (.ifCond .gt off, 3)) (ht : (pc : Int) + off = (tgt : Int)) (kt : y < x → V G X nL cells slots Q tgt lv st M) (kf : ¬ (y < x) → V G X nL cells slots Q (pc + 3) lv st M) : V G X nL cells slots Q pc lv (.int (lg_cmp x y) :: st) M :=
  V.if_gt F hd ht (fun q => kt ((lg_cmp_gt x y).mp q)) (fun q => kf (fun z => q ((lg_cmp_gt x y).mpr z)))
theorem V.lc_le (F : Fx G X own cc nL ret) {x y : Int64} (hd : decode cc pc = .ok (.ifCond .le off, 3)) (ht : (pc : Int) + off = (tgt : Int)) (kt : x ≤ y → V G X nL cells slots Q tgt lv st M) (kf : ¬ (x ≤ y) → V G X nL cells slots Q (pc + 3) lv st M) : V G X nL cells slots Q pc lv (.int (lg_cmp x y) :: st) M :=
  V.if_le F hd ht (fun q => kt ((lg_cmp_le x y).mp q)) (fun q => kf (fun z => q ((lg_cmp_le x y).mpr z)))
theorem V.nul_r (F : Fx G X own cc nL ret) {x : Nat} (hd : decode cc pc = .ok (.ifnull off, 3)) (k : V G X nL cells slots Q (pc + 3) lv st M) : V G X nL cells slots Q pc lv (.ref x :: st) M := by
  intro H locs ls hl hR hS
  obtain ⟨p, l, e, R, s, m, args, below, meth, c0⟩ := X
  obtain ⟨hx, hb, -⟩ := F
  exact lv_ifnull hx hb hd (k H locs ls hl hR hS)
theorem V.nul_n (F : Fx G X own cc nL ret) (hd : decode cc pc = .ok (.ifnull off, 3)) (ht : (pc : Int) + off = (tgt : Int)) (k : V G X nL cells slots Q tgt lv st M) : V G X nL cells slots Q pc lv (.null :: st) M := by
  intro H locs ls hl hR hS
  obtain ⟨p, l, e, R, s, m, args, below, meth, c0⟩ := X
  obtain ⟨hx, hb, -⟩ := F
  exact lv_ifnullN hx hb hd ht (k H locs ls hl hR hS)
theorem V.nonnul_r (F : Fx G X own cc nL ret) {x : Nat} (hd : decode cc pc = .ok (.ifnonnull off, 3)) (ht : (pc : Int) + off = (tgt : Int)) (k : V G X nL cells slots Q tgt lv st M) : V G X nL cells slots Q pc lv (.ref x :: st) M := by
  intro H locs ls hl hR hS
  obtain ⟨p, l, e, R, s, m, args, below, meth, c0⟩ := X
  obtain ⟨hx, hb, -⟩ := F
  exact lv_ifnonnull hx hb hd ht (k H locs ls hl hR hS)
theorem V.nonnul_n (F : Fx G X own cc nL ret) (hd : decode cc pc = .ok (.ifnonnull off, 3)) (k : V G X nL cells slots Q (pc + 3) lv st M) : V G X nL cells slots Q pc lv (.null :: st) M := by
  intro H locs ls hl hR hS
  obtain ⟨p, l, e, R, s, m, args, below, meth, c0⟩ := X
  obtain ⟨hx, hb, -⟩ := F
  exact lv_ifnonnullN hx hb hd (k H locs ls hl hR hS)
theorem V.sw_in (F : Fx G X own cc nL ret) {dflt lo hi : Int} {offs : Array Int} {len : Nat} {x : Int32} (hd : decode cc pc = .ok (.tableswitch dflt lo hi offs, len)) (h1 : ¬ x.toInt < lo) (h2 : ¬ hi < x.toInt) (ho : offs[(x.toInt - lo).toNat]? = some off) (ht : (pc : Int) + off = (tgt : Int)) (k : V G X nL cells slots Q tgt lv st M) : V G X nL cells slots Q pc lv (.int x :: st) M := by
  intro H locs ls hl hR hS
  obtain ⟨p, l, e, R, s, m, args, below, meth, c0⟩ := X
  obtain ⟨hx, hb, -⟩ := F
  exact lv_tableIn hx hb hd h1 h2 ho ht (k H locs ls hl hR hS)
theorem V.sw_out (F : Fx G X own cc nL ret) {dflt lo hi : Int} {offs : Array Int} {len : Nat} {x : Int32} (hd : decode cc pc = .ok (.tableswitch dflt lo hi offs, len)) (h : x.toInt < lo ∨ hi < x.toInt) (ht : (pc : Int) + dflt = (tgt : Int)) (k : V G X nL cells slots Q tgt lv st M) : V G X nL cells slots Q pc lv (.int x :: st) M := by
  intro H locs ls hl hR hS
  obtain ⟨p, l, e, R, s, m, args, below, meth, c0⟩ := X
  obtain ⟨hx, hb, -⟩ := F
  exact lv_tableOut hx hb hd h ht (k H locs ls hl hR hS)
/-- a place of an array of references that is set -/
theorem V.aald (F : Fx G X own cc nL ret) {a kd : Nat} {i : Int32} (hd : decode cc pc = .ok (.aaload, 1)) (h : isA M a kd i) (h23 : 23 ≤ kd ∧ kd ≤ 28) (hb1 : mB M a i.toNatClampNeg = true) (k : V G X nL cells slots Q (pc + 1) lv (.ref (el kd a i.toNatClampNeg) :: st) M) : V G X nL cells slots Q pc lv (.int i :: .ref a :: st) M := by
  intro H locs ls hl hR hS
  obtain ⟨p, l, e, R, s, m, args, below, meth, c0⟩ := X
  obtain ⟨hx, hb, hml, hown, hts, hK, -⟩ := F
  have hlt := vin_lt h.2.2.2
  refine W.aald (v := .ref (ad G (el kd a i.toNatClampNeg))) (ty := aty kd) hx hb (arr_at hR h (by omega)) ((hK.2.1 kd (by omega) (by omega)).1 _ _) ?_ (fun q => by cases q) (by show ¬ (_ < 0 ∨ (arrV _ _ _).slots.size ≤ _); rw [arrV_size]; exact h.2.2.2) ?_ rfl rfl hd (k H locs ls hl hR hS)
  · obtain ⟨h1, h2⟩ := h23
    rcases (show kd = 23 ∨ kd = 24 ∨ kd = 25 ∨ kd = 26 ∨ kd = 27 ∨ kd = 28 by omega) with rfl | rfl | rfl | rfl | rfl | rfl <;> rfl
  · show (arrV _ _ _).slots[_]? = _
    rw [arrV_read _ _ hlt]
    simp only [avl]
    rw [if_neg (by omega), if_neg (by omega), if_pos hb1]
    rfl
end BR
/-- a method: its name, code, locals, what it answers -/
abbrev Mth : Type := MethodName × ByteArray × Nat × Option FieldType
def rmd (d mc ms : Nat) : Room := { frames := d, cells := mc, slots := ms, locals := 50 * d }
def wsOf (k : Mth) : List Cond := .code k.1 k.2.1 k.2.2.1 k.2.2.2 :: TB
def PcG (G : Ctx) (as : List Value) (M : Mem) : Array Value → State → Prop := fun v U => v = (as.map (cv G)).toArray ∧ Rep G M U.heap ∧ KS G U
def QcG (G : Ctx) (post : Option Value → Mem → Prop) : Array Value → State → Outcome → State → Prop := fun _ st oc t => ∃ (r : Option Value) (M' : Mem), oc = .returned (r.map (cv G)) ∧ post r M' ∧ Rep G M' t.heap ∧ va_F (fun q => G.1 ≤ q) st t
/-- THE CONTRACT of a method at a memory: with room for D frames (or more), mc cells and ms slots it returns, and 'post' holds of its answer and the memory behind it -/
def CT (G : Ctx) (l : Launch) (D : Nat) (k : Mth) (as : List Value) (M : Mem) (mc ms : Nat) (post : Option Value → Mem → Prop) : Prop :=
  ∀ d, D ≤ d → Met l k.1 (wsOf k) (rmd d mc ms) (PcG G as M) (QcG G post) mc ms (fun q => G.1 ≤ q)
/-- where a walk of a method ends -/
def Qx (G : Ctx) (X : Xt) (mc ms : Nat) (post : Option Value → Mem → Prop) : State → Prop := MQ X.2.2.2.2.2.2.2.1 (QcG G post) X.2.2.2.2.2.2.1 X.2.2.2.2.1 mc ms (fun q => G.1 ≤ q)
section RT
variable {G : Ctx} {X : Xt} {own : String} {cc : ByteArray} {nL : Nat} {cells slots mc ms : Nat} {pc : Nat} {lv : List (Nat × Value)} {M : Mem} {post : Option Value → Mem → Prop}
theorem V.widen {Q : State → Prop} {st : List Value} (h1 : cells ≤ mc) (h2 : slots ≤ ms) (k : V G X nL mc ms Q pc lv st M) : V G X nL cells slots Q pc lv st M := fun H locs ls hl hR hS => W.widen h1 h2 (k H locs ls hl hR hS)
theorem V.iret (F : Fx G X own cc nL (some .int)) {v : Int32} (hd : decode cc pc = .ok (.ireturn, 1)) (hp : post (some (.int v)) M) : V G X nL mc ms (Qx G X mc ms post) pc lv [(.int v)] M := by
  intro H locs ls hl hR hS
  obtain ⟨p, l, e, R, s, m, args, below, meth, c0⟩ := X
  obtain ⟨hx, hb, hml, hown, hts, hK, hr, hlocks, hZ⟩ := F
  exact W.iret hx hb hr (fun t ht hW => ⟨(some (.int v)), M, rfl, hp, by rw [ht]; exact hR, hS.F ht⟩) hS.2.2 hd hlocks
theorem V.zret (F : Fx G X own cc nL (some .boolean)) {v : Int32} (h01 : v = 0 ∨ v = 1) (hd : decode cc pc = .ok (.ireturn, 1)) (hp : post (some (.int v)) M) : V G X nL mc ms (Qx G X mc ms post) pc lv [(.int v)] M := by
  intro H locs ls hl hR hS
  obtain ⟨p, l, e, R, s, m, args, below, meth, c0⟩ := X
  obtain ⟨hx, hb, hml, hown, hts, hK, hr, hlocks, hZ⟩ := F
  exact W.zret hx hb hr (nar_b h01) (fun t ht hW => ⟨(some (.int v)), M, rfl, hp, by rw [ht]; exact hR, hS.F ht⟩) hS.2.2 hd hlocks
theorem V.lret (F : Fx G X own cc nL (some .long)) {v : Int64} (hd : decode cc pc = .ok (.lreturn, 1)) (hp : post (some (.long v)) M) : V G X nL mc ms (Qx G X mc ms post) pc lv [(.long v)] M := by
  intro H locs ls hl hR hS
  obtain ⟨p, l, e, R, s, m, args, below, meth, c0⟩ := X
  obtain ⟨hx, hb, hml, hown, hts, hK, hr, hlocks, hZ⟩ := F
  exact W.lret hx hb hr (fun t ht hW => ⟨(some (.long v)), M, rfl, hp, by rw [ht]; exact hR, hS.F ht⟩) hS.2.2 hd hlocks
theorem V.vret (F : Fx G X own cc nL none) (hd : decode cc pc = .ok (.return_, 1)) (hp : post none M) : V G X nL mc ms (Qx G X mc ms post) pc lv [] M := by
  intro H locs ls hl hR hS
  obtain ⟨p, l, e, R, s, m, args, below, meth, c0⟩ := X
  obtain ⟨hx, hb, hml, hown, hts, hK, hr, hlocks, hZ⟩ := F
  exact W.vret hx hb hr (fun t ht hW => ⟨none, M, rfl, hp, by rw [ht]; exact hR, hS.F ht⟩) hS.2.2 hd hlocks
theorem V.aret {C : String} (F : Fx G X own cc nL (some (.object C))) {v : Nat} (hd : decode cc pc = .ok (.areturn, 1)) (hp : post (some (.ref v)) M) : V G X nL mc ms (Qx G X mc ms post) pc lv [(.ref v)] M := by
  intro H locs ls hl hR hS
  obtain ⟨p, l, e, R, s, m, args, below, meth, c0⟩ := X
  obtain ⟨hx, hb, hml, hown, hts, hK, hr, hlocks, hZ⟩ := F
  exact W.aret hx hb hr (Or.inl ⟨_, rfl⟩) (Or.inr ⟨_, rfl⟩) (fun t ht hW => ⟨(some (.ref v)), M, rfl, hp, by rw [ht]; exact hR, hS.F ht⟩) hS.2.2 hd hlocks
theorem V.nret {C : String} (F : Fx G X own cc nL (some (.object C))) (hd : decode cc pc = .ok (.areturn, 1)) (hp : post (some .null) M) : V G X nL mc ms (Qx G X mc ms post) pc lv [.null] M := by
  intro H locs ls hl hR hS
  obtain ⟨p, l, e, R, s, m, args, below, meth, c0⟩ := X
  obtain ⟨hx, hb, hml, hown, hts, hK, hr, hlocks, hZ⟩ := F
  exact W.aret hx hb hr (Or.inl ⟨_, rfl⟩) (Or.inl rfl) (fun t ht hW => ⟨(some .null), M, rfl, hp, by rw [ht]; exact hR, hS.F ht⟩) hS.2.2 hd hlocks
/-- a contract out of a walk from the method's entry -/
theorem CT.of {l : Launch} {D : Nat} {k : Mth} {as : List Value} (hy : plainName k.1.cls = true) (hlen : (lg_sl as).length ≤ k.2.2.1)
    (w : ∀ (X : Xt) (d : Nat), D ≤ d → X.2.1 = l → X.2.2.2.1 = rmd d mc ms → X.2.2.2.2.2.2.2.2.1.name = k.1.name → Fx G X k.1.cls k.2.1 k.2.2.1 k.2.2.2 → V G X k.2.2.1 0 0 (Qx G X mc ms post) 0 (lv_args 0 as) [] M) : CT G l D k as M mc ms post := by
  intro d hd
  refine Met.ofW (cc := k.2.1) (maxL := k.2.2.1) (ret := k.2.2.2) hy rfl ?_
  intro p e s m args below meth c s₁ B hml hv
  obtain ⟨rfl, hR, hK⟩ := hv
  have hts := atoms_spec (ws := wsOf k) B.pre
  have hF : Fx G (p, l, e, rmd d mc ms, s, m, (as.map (cv G)).toArray, below, meth, c) k.1.cls k.2.1 k.2.2.1 k.2.2.2 := ⟨B.exec, B.bytes, hml, findClass_of_methodNamed B.named, fun w hw => hts w (List.mem_cons_of_mem _ hw), hK, B.returns, B.notSynchronized, by show G.1 ≤ s.heap.size; rw [hR.1]; omega⟩
  have hw := w (p, l, e, rmd d mc ms, s, m, (as.map (cv G)).toArray, below, meth, c) d hd rfl rfl (name_of_methodNamed B.named B.method).1 hF
  have hcat : ∀ vs : List Value, (lg_sl (vs.map (cv G))).length = (lg_sl vs).length := by
    intro vs
    induction vs with
    | nil => rfl
    | cons v t ih =>
      simp only [lg_sl, List.map_cons, List.flatMap_cons, List.length_append] at ih ⊢
      rw [ih, cv_cat]
      split <;> rfl
  have hl := lv_entry (as.map (cv G)) (n := k.2.2.1) (by rw [hcat]; exact hlen)
  rw [lg_entry_eq]
  have hargs : ∀ (vs : List Value) (n : Nat), lv_args n (vs.map (cv G)) = (lv_args n vs).map fun q => (q.1, cv G q.2) := by
    intro vs
    induction vs with
    | nil => intro n; rfl
    | cons v t ih =>
      intro n
      simp only [List.map_cons, lv_args, ih, cv_cat]
  rw [hargs] at hl
  exact hw s.heap [] _ hl hR va_S.rf
end RT
end
section
theorem KS.warm {G : Ctx} {s U : State} (hW : s.WarmedH U.vm) (h : KS G s) : KS G U := by
  obtain ⟨h1, h2, h3, h4, h5, h6⟩ := h
  refine ⟨va_K.moved hW.alike h1, fun kd a b => ⟨arrOfT_moved hW.alike (h2 kd a b).1, (h2 kd a b).2.moved hW.alike⟩, fun w hw => ?_, va_AO.moved hW.alike h4, va_AO.moved hW.alike h5, over_moved hW.alike h6⟩
  have hq := (List.mem_filter.mp hw).2
  have h0 := h3 w hw
  cases w <;> first | exact va_Nw.warmM hW h0 | (simp [isNest] at hq)
theorem TB_pay {s U : State} {args a' : Array Value} (hts : ∀ w ∈ TB, w.before args s = true) (hW : s.WarmedH U.vm) {w : Cond} (hw : w ∈ TB) : w.before a' U = true := word_at hW (good_of_word (TB_good hw).2) (hts w hw)
def RmOK (R : Room) (D mL : Nat) : Prop := D + 1 ≤ R.frames ∧ 22 + mL + 50 * D ≤ R.locals
theorem rm_ok {R : Room} {d D D' mc ms mL : Nat} (h : R = rmd d mc ms) (hd : D ≤ d) (hD : D' + 1 ≤ D) (hL : mL ≤ 28) : RmOK R D' mL := by
  subst h
  exact ⟨by show D' + 1 ≤ d; omega, by show 22 + mL + 50 * D' ≤ 50 * d; omega⟩
theorem PcG_blind {G : Ctx} {as : List Value} {M : Mem} : FrameBlind (PcG G as M) := fun _ U _ _ h => ⟨h.1, h.2.1, KS.warm (s := U) (State.WarmedH.refl U) h.2.2⟩
theorem back_G {G : Ctx} {p : Program} {l : Launch} {e : Env} {R : Room} {s : State} {args : Array Value} {below : List Frame} {k : Mth} {as : List Value} {M : Mem} {D mc ms : Nat} {post : Option Value → Mem → Prop}
    (hts : ∀ w ∈ TB, w.before args s = true) (C : CT G l D k as M mc ms post) (hRm : RmOK R D k.2.2.1) (hc : Cond.code k.1 k.2.1 k.2.2.1 k.2.2.2 ∈ TB) (hi : Cond.initialized k.1.cls ∈ TB) :
    Back l R p e below s args k.1 3 11 (PreOf R mc ms (PcG G as M)) (PostOf (QcG G post) mc ms (fun q => G.1 ≤ q)) := by
  refine back_of (bytes := k.2.1) (maxL := k.2.2.1) (ret := k.2.2.2) (C D (Nat.le_refl D)) PcG_blind rfl rfl hRm.1 (by show 11 + (k.2.2.1 + 11) + 50 * D ≤ R.locals; have := hRm.2; omega) (fun w hw a' U hW => ?_) List.mem_cons_self (fun a' U hW => TB_pay hts hW hi)
  rcases List.mem_cons.mp hw with rfl | h
  · exact TB_pay hts hW hc
  · exact TB_pay hts hW h
/-- behind any call -/
theorem V.after {G : Ctx} {p : Program} {l : Launch} {e : Env} {R : Room} {s : State} {m : MethodId} {args : Array Value} {below : List Frame} {meth : Method} {c0 : Code} {nL cells slots mc ms : Nat} {Q : State → Prop} {pc : Nat} {lv : List (Nat × Value)} {rest st : List Value} {post : Option Value → Mem → Prop} {H : Heap} {locs : List Loc} {ls : Array Slot} {T : State}
    (hl : lv_has ls nL (lv.map fun q => (q.1, cv G q.2))) (hS : va_S (fun q => G.1 ≤ q) s.heap H locs) (hT : T.heap = H)
    (h : ∃ (v : Option Value) (vm₁ : Vm) (B : Pt) (as : Array Value), s.WarmedH vm₁ ∧ Stand p l e R s m args below meth c0 B.U B.locs B.cells B.slots ∧ PostOf (QcG G post) mc ms (fun q => G.1 ≤ q) ⟨T.setVm vm₁, locs, cells, slots⟩ as v B ∧
      ∀ target, Steps p.tables e below (B.U.setTop { (F0 m pc ls st) with pc := (F0 m pc ls st).pc + 3, stack := v.toList ++ rest.map (cv G) }) target → Steps p.tables e below (T.setTop (F0 m pc ls st)) target)
    (kk : ∀ (r : Option Value) (M' : Mem), post r M' → V G (p, l, e, R, s, m, args, below, meth, c0) nL (cells + mc) (slots + ms) Q (pc + 3) lv (r.toList ++ rest) M') : ∃ t, Steps p.tables e below (T.setTop (F0 m pc ls st)) t ∧ Q t := by
  obtain ⟨v, vm₁, ⟨U', l2, c2, s2⟩, as, hW₁, X', ⟨g', mk, t, L, e1, e2, ⟨r, M', hv, hp, hR', hz, hk⟩, h1, hL, h2, h3⟩, st'⟩ := h
  dsimp only [Pt.U, Pt.locs, Pt.cells, Pt.slots] at X' e1 e2 h1 h2 h3 st'
  subst h1; subst h2; subst h3
  cases hv
  have hz : T.heap.size ≤ t.heap.size := hz
  have hk : ∀ q : Nat, q < T.heap.size → ¬ G.1 ≤ q → t.heap[q]? = T.heap[q]? := hk
  rw [hT] at hz hk
  have hS1 : va_S (fun q => G.1 ≤ q) s.heap U'.heap (locs ++ L) := ⟨Nat.le_trans hS.1 (by rw [e1]; exact hz), fun q q1 q2 => by rw [e1, hk q (Nat.lt_of_lt_of_le q1 hS.1) q2]; exact hS.2.1 q q1 q2, fun q hq => by
      rcases List.mem_append.mp hq with h | h
      · exact hS.2.2 q h
      · exact hL q h⟩
  obtain ⟨t2, a1, b1⟩ := kk r M' hp U'.heap (locs ++ L) ls hl (by rw [e1]; exact hR') hS1 U' rfl X'
  refine ⟨t2, st' t2 ?_, b1⟩
  have e9 : (r.map (cv G)).toList ++ rest.map (cv G) = (r.toList ++ rest).map (cv G) := by cases r <;> rfl
  rw [e9]
  exact a1
def notMH (k : Mth) : Prop := k.1.cls ≠ "java/lang/invoke/MethodHandle" ∧ k.1.cls ≠ "java/lang/invoke/VarHandle"
def parN (k : Mth) (n : Nat) : Prop := (parseMethodDescriptor k.1.desc).map (fun d => d.parameters.length) = some n
def baseOK (k : Mth) (n : Nat) : Prop := Cond.code k.1 k.2.1 k.2.2.1 k.2.2.2 ∈ TB ∧ Cond.initialized k.1.cls ∈ TB ∧ notMH k ∧ parN k n
def lkS (own : String) (x : Nat) (k : Mth) : Prop := Cond.methodLink own x k.1 ∈ TB ∧ Cond.static k.1 ∈ TB
def lkSN (own : String) (x : Nat) (k : Mth) : Prop := (∃ host, Cond.methodLinkNest own x k.1 host ∈ nestWs) ∧ Cond.static k.1 ∈ TB
def lkV (own : String) (x : Nat) (k : Mth) : Prop := Cond.methodLink own x k.1 ∈ TB ∧ Cond.instanceMethod k.1 ∈ TB ∧ Cond.selects k.1.cls k.1 k.1 ∈ TB
def lkVN (own : String) (x : Nat) (k : Mth) : Prop := (∃ host, Cond.methodLinkNest own x k.1 host ∈ nestWs) ∧ Cond.instanceMethod k.1 ∈ TB ∧ Cond.selects k.1.cls k.1 k.1 ∈ TB
def lkI (own : String) (x : Nat) (k : Mth) : Prop := Cond.methodLink own x k.1 ∈ TB ∧ Cond.instanceMethod k.1 ∈ TB ∧ k.1.name = "<init>" ∧ k.2.2.2 = none
def lkIN (own : String) (x : Nat) (k : Mth) : Prop := (∃ host, Cond.methodLinkNest own x k.1 host ∈ nestWs) ∧ Cond.instanceMethod k.1 ∈ TB ∧ k.1.name = "<init>" ∧ k.2.2.2 = none
theorem par_of {k : Mth} {n : Nat} (h : parN k n) : ∀ sig, parseMethodDescriptor k.1.desc = some sig → n = sig.parameters.length := fun sig q => by
  unfold parN at h
  rw [q] at h
  exact (Option.some.inj h).symm
section CL
variable {G : Ctx} {X : Xt} {own : String} {cc : ByteArray} {nL : Nat} {ret : Option FieldType} {cells slots mc ms : Nat} {Q : State → Prop} {pc x D : Nat} {lv : List (Nat × Value)} {as rest : List Value} {M : Mem} {post : Option Value → Mem → Prop} {k : Mth}
theorem V.callS (F : Fx G X own cc nL ret) (hd : decode cc pc = .ok (.invokestatic x, 3)) (hk : lkS own x k) (hB : baseOK k as.length) (C : CT G X.2.1 D k as M mc ms post) (hRm : RmOK X.2.2.2.1 D k.2.2.1) (hcs : cells + mc ≤ X.2.2.2.1.cells ∧ slots + ms ≤ X.2.2.2.1.slots) (hw : (rest.map fun v => v.category).sum ≤ 11)
    (kk : ∀ (r : Option Value) (M' : Mem), post r M' → V G X nL (cells + mc) (slots + ms) Q (pc + 3) lv (r.toList ++ rest) M') : V G X nL cells slots Q pc lv (as.reverse ++ rest) M := by
  obtain ⟨p, l, e, R, s, m, args, below, meth, c0⟩ := X
  obtain ⟨hx, hb, hml, hown, hts, hK, hr, hlocks, hZ⟩ := F
  obtain ⟨hc, hi, hmh, hpar⟩ := hB
  intro H locs ls hl hR hS T hT XX
  have hBk := back_G (p := p) (e := e) (below := below) hts C hRm hc hi
  obtain ⟨hlk, hk2⟩ := hk
  have hlk0 := hts _ hlk
  obtain ⟨v, vm₁, B, g1, g2, g3, g4⟩ := callS XX hx (bytes := k.2.1) (maxL := k.2.2.1) (ret := k.2.2.2) hown hlk0 (hts _ hk2) (hts _ hi) (hts _ hc) hmh hBk (g := F0 m pc ls ((as.reverse ++ rest).map (cv G))) rfl (hl.1.trans hml.symm) (argsL := as.map (cv G)) (rest := rest.map (cv G)) (fun sig h => by rw [List.length_map]; exact par_of hpar sig h) (by show List.map (cv G) _ = _; rw [List.map_append, List.map_reverse]) (by show 2 * 0 + _ ≤ 11; rw [List.map_map]; simp only [Function.comp_def, cv_cat]; omega) (by rw [hb]; exact hd) (fun vm₁ hW₁ => ⟨hcs.1, hcs.2, rfl, by show Rep G M T.heap; rw [hT]; exact hR, KS.warm (U := T.setVm vm₁) hW₁ hK⟩)
  exact V.after hl hS hT ⟨v, vm₁, B, _, g1, g2, g3, g4⟩ kk
theorem V.callSN (F : Fx G X own cc nL ret) (hd : decode cc pc = .ok (.invokestatic x, 3)) (hk : lkSN own x k) (hB : baseOK k as.length) (C : CT G X.2.1 D k as M mc ms post) (hRm : RmOK X.2.2.2.1 D k.2.2.1) (hcs : cells + mc ≤ X.2.2.2.1.cells ∧ slots + ms ≤ X.2.2.2.1.slots) (hw : (rest.map fun v => v.category).sum ≤ 11)
    (kk : ∀ (r : Option Value) (M' : Mem), post r M' → V G X nL (cells + mc) (slots + ms) Q (pc + 3) lv (r.toList ++ rest) M') : V G X nL cells slots Q pc lv (as.reverse ++ rest) M := by
  obtain ⟨p, l, e, R, s, m, args, below, meth, c0⟩ := X
  obtain ⟨hx, hb, hml, hown, hts, hK, hr, hlocks, hZ⟩ := F
  obtain ⟨hc, hi, hmh, hpar⟩ := hB
  intro H locs ls hl hR hS T hT XX
  have hBk := back_G (p := p) (e := e) (below := below) hts C hRm hc hi
  obtain ⟨⟨host, hlk⟩, hk2⟩ := hk
  have hlk0 := va_Nw.use (A := args) rfl (hK.2.2.1 _ hlk)
  obtain ⟨v, vm₁, B, g1, g2, g3, g4⟩ := va_callSN XX hx (bytes := k.2.1) (maxL := k.2.2.1) (ret := k.2.2.2) hown hlk0 (hts _ hk2) (hts _ hi) (hts _ hc) hmh hBk (g := F0 m pc ls ((as.reverse ++ rest).map (cv G))) rfl (hl.1.trans hml.symm) (argsL := as.map (cv G)) (rest := rest.map (cv G)) (fun sig h => by rw [List.length_map]; exact par_of hpar sig h) (by show List.map (cv G) _ = _; rw [List.map_append, List.map_reverse]) (by show 2 * 0 + _ ≤ 11; rw [List.map_map]; simp only [Function.comp_def, cv_cat]; omega) (by rw [hb]; exact hd) (fun vm₁ hW₁ => ⟨hcs.1, hcs.2, rfl, by show Rep G M T.heap; rw [hT]; exact hR, KS.warm (U := T.setVm vm₁) hW₁ hK⟩)
  exact V.after hl hS hT ⟨v, vm₁, B, _, g1, g2, g3, g4⟩ kk
theorem V.callV {b : Nat} (F : Fx G X own cc nL ret) (hd : decode cc pc = .ok (.invokevirtual x, 3)) (hk : lkV own x k) (hB : baseOK k as.length) (hrecv : ∃ c r, isO M b c ∧ vwCl[c]? = some r ∧ r.1 = k.1.cls) (C : CT G X.2.1 D k (.ref b :: as) M mc ms post) (hRm : RmOK X.2.2.2.1 D k.2.2.1) (hcs : cells + mc ≤ X.2.2.2.1.cells ∧ slots + ms ≤ X.2.2.2.1.slots) (hw : (rest.map fun v => v.category).sum ≤ 11)
    (kk : ∀ (r : Option Value) (M' : Mem), post r M' → V G X nL (cells + mc) (slots + ms) Q (pc + 3) lv (r.toList ++ rest) M') : V G X nL cells slots Q pc lv (as.reverse ++ .ref b :: rest) M := by
  obtain ⟨p, l, e, R, s, m, args, below, meth, c0⟩ := X
  obtain ⟨hx, hb, hml, hown, hts, hK, hr, hlocks, hZ⟩ := F
  obtain ⟨hc, hi, hmh, hpar⟩ := hB
  intro H locs ls hl hR hS T hT XX
  have hBk := back_G (p := p) (e := e) (below := below) hts C hRm hc hi
  obtain ⟨hlk, hk2⟩ := hk
  have hlk0 := hts _ hlk
  obtain ⟨hin, hsel⟩ := hk2
  obtain ⟨cN, rC, ho, hv, hcn⟩ := hrecv
  obtain ⟨cell, q1, q2, q3, -⟩ := (hR.2.1 b ho.2.1 ho.2.2).1 cN _ ho.1 hv
  have hfc := (hK.1.1 cN _ hv).2.1
  obtain ⟨v, vm₁, B, g1, g2, g3, g4⟩ := callV XX hx (C := k.1.cls) (bytes := k.2.1) (maxL := k.2.2.1) (ret := k.2.2.2) hown hlk0 (hts _ hin) (hts _ hsel) (hts _ hc) hmh hBk (b := ad G b) (cellB := cell) (by rw [hT]; exact q1) (by rw [q3]; rfl) (by rw [q2, ← hcn]; exact hfc) (g := F0 m pc ls ((as.reverse ++ .ref b :: rest).map (cv G))) rfl (hl.1.trans hml.symm) (argsL := as.map (cv G)) (rest := rest.map (cv G)) (fun sig h => by rw [List.length_map]; exact par_of hpar sig h) (by show List.map (cv G) _ = _; rw [List.map_append, List.map_reverse]; rfl) (by show 2 * 0 + _ ≤ 11; rw [List.map_map]; simp only [Function.comp_def, cv_cat]; omega) (by rw [hb]; exact hd) (fun vm₁ hW₁ => ⟨hcs.1, hcs.2, rfl, by show Rep G M T.heap; rw [hT]; exact hR, KS.warm (U := T.setVm vm₁) hW₁ hK⟩)
  exact V.after hl hS hT ⟨v, vm₁, B, _, g1, g2, g3, g4⟩ kk
theorem V.callVN {b : Nat} (F : Fx G X own cc nL ret) (hd : decode cc pc = .ok (.invokevirtual x, 3)) (hk : lkVN own x k) (hB : baseOK k as.length) (hrecv : ∃ c r, isO M b c ∧ vwCl[c]? = some r ∧ r.1 = k.1.cls) (C : CT G X.2.1 D k (.ref b :: as) M mc ms post) (hRm : RmOK X.2.2.2.1 D k.2.2.1) (hcs : cells + mc ≤ X.2.2.2.1.cells ∧ slots + ms ≤ X.2.2.2.1.slots) (hw : (rest.map fun v => v.category).sum ≤ 11)
    (kk : ∀ (r : Option Value) (M' : Mem), post r M' → V G X nL (cells + mc) (slots + ms) Q (pc + 3) lv (r.toList ++ rest) M') : V G X nL cells slots Q pc lv (as.reverse ++ .ref b :: rest) M := by
  obtain ⟨p, l, e, R, s, m, args, below, meth, c0⟩ := X
  obtain ⟨hx, hb, hml, hown, hts, hK, hr, hlocks, hZ⟩ := F
  obtain ⟨hc, hi, hmh, hpar⟩ := hB
  intro H locs ls hl hR hS T hT XX
  have hBk := back_G (p := p) (e := e) (below := below) hts C hRm hc hi
  obtain ⟨⟨host, hlk⟩, hk2⟩ := hk
  have hlk0 := va_Nw.use (A := args) rfl (hK.2.2.1 _ hlk)
  obtain ⟨hin, hsel⟩ := hk2
  obtain ⟨cN, rC, ho, hv, hcn⟩ := hrecv
  obtain ⟨cell, q1, q2, q3, -⟩ := (hR.2.1 b ho.2.1 ho.2.2).1 cN _ ho.1 hv
  have hfc := (hK.1.1 cN _ hv).2.1
  obtain ⟨v, vm₁, B, g1, g2, g3, g4⟩ := va_callVN XX hx (C := k.1.cls) (bytes := k.2.1) (maxL := k.2.2.1) (ret := k.2.2.2) hown hlk0 (hts _ hin) (hts _ hsel) (hts _ hc) hmh hBk (b := ad G b) (cellB := cell) (by rw [hT]; exact q1) (by rw [q3]; rfl) (by rw [q2, ← hcn]; exact hfc) (g := F0 m pc ls ((as.reverse ++ .ref b :: rest).map (cv G))) rfl (hl.1.trans hml.symm) (argsL := as.map (cv G)) (rest := rest.map (cv G)) (fun sig h => by rw [List.length_map]; exact par_of hpar sig h) (by show List.map (cv G) _ = _; rw [List.map_append, List.map_reverse]; rfl) (by show 2 * 0 + _ ≤ 11; rw [List.map_map]; simp only [Function.comp_def, cv_cat]; omega) (by rw [hb]; exact hd) (fun vm₁ hW₁ => ⟨hcs.1, hcs.2, rfl, by show Rep G M T.heap; rw [hT]; exact hR, KS.warm (U := T.setVm vm₁) hW₁ hK⟩)
  exact V.after hl hS hT ⟨v, vm₁, B, _, g1, g2, g3, g4⟩ kk
theorem V.callI {b : Nat} (F : Fx G X own cc nL ret) (hd : decode cc pc = .ok (.invokespecial x, 3)) (hk : lkI own x k) (hB : baseOK k as.length) (C : CT G X.2.1 D k (.ref b :: as) M mc ms post) (hRm : RmOK X.2.2.2.1 D k.2.2.1) (hcs : cells + mc ≤ X.2.2.2.1.cells ∧ slots + ms ≤ X.2.2.2.1.slots) (hw : (rest.map fun v => v.category).sum ≤ 11)
    (kk : ∀ (r : Option Value) (M' : Mem), post r M' → V G X nL (cells + mc) (slots + ms) Q (pc + 3) lv (r.toList ++ rest) M') : V G X nL cells slots Q pc lv (as.reverse ++ .ref b :: rest) M := by
  obtain ⟨p, l, e, R, s, m, args, below, meth, c0⟩ := X
  obtain ⟨hx, hb, hml, hown, hts, hK, hr, hlocks, hZ⟩ := F
  obtain ⟨hc, hi, hmh, hpar⟩ := hB
  intro H locs ls hl hR hS T hT XX
  have hBk := back_G (p := p) (e := e) (below := below) hts C hRm hc hi
  obtain ⟨hlk, hk2⟩ := hk
  have hlk0 := hts _ hlk
  obtain ⟨hin, hnm, hrt⟩ := hk2
  have hc0 := hts _ hc
  rw [hrt] at hc0
  obtain ⟨v, vm₁, B, g1, g2, g3, g4⟩ := callI XX hx (bytes := k.2.1) (maxL := k.2.2.1) hown hnm hlk0 (hts _ hin) hc0 hmh hBk (g := F0 m pc ls ((as.reverse ++ .ref b :: rest).map (cv G))) rfl (hl.1.trans hml.symm) (a := ad G b) (argsL := as.map (cv G)) (rest := rest.map (cv G)) (fun sig h => by rw [List.length_map]; exact par_of hpar sig h) (by show List.map (cv G) _ = _; rw [List.map_append, List.map_reverse]; rfl) (by show 2 * 0 + _ ≤ 11; rw [List.map_map]; simp only [Function.comp_def, cv_cat]; omega) (by rw [hb]; exact hd) (fun vm₁ hW₁ => ⟨hcs.1, hcs.2, rfl, by show Rep G M T.heap; rw [hT]; exact hR, KS.warm (U := T.setVm vm₁) hW₁ hK⟩)
  exact V.after hl hS hT ⟨v, vm₁, B, _, g1, g2, g3, g4⟩ kk
theorem V.callIN {b : Nat} (F : Fx G X own cc nL ret) (hd : decode cc pc = .ok (.invokespecial x, 3)) (hk : lkIN own x k) (hB : baseOK k as.length) (C : CT G X.2.1 D k (.ref b :: as) M mc ms post) (hRm : RmOK X.2.2.2.1 D k.2.2.1) (hcs : cells + mc ≤ X.2.2.2.1.cells ∧ slots + ms ≤ X.2.2.2.1.slots) (hw : (rest.map fun v => v.category).sum ≤ 11)
    (kk : ∀ (r : Option Value) (M' : Mem), post r M' → V G X nL (cells + mc) (slots + ms) Q (pc + 3) lv (r.toList ++ rest) M') : V G X nL cells slots Q pc lv (as.reverse ++ .ref b :: rest) M := by
  obtain ⟨p, l, e, R, s, m, args, below, meth, c0⟩ := X
  obtain ⟨hx, hb, hml, hown, hts, hK, hr, hlocks, hZ⟩ := F
  obtain ⟨hc, hi, hmh, hpar⟩ := hB
  intro H locs ls hl hR hS T hT XX
  have hBk := back_G (p := p) (e := e) (below := below) hts C hRm hc hi
  obtain ⟨⟨host, hlk⟩, hk2⟩ := hk
  have hlk0 := va_Nw.use (A := args) rfl (hK.2.2.1 _ hlk)
  obtain ⟨hin, hnm, hrt⟩ := hk2
  have hc0 := hts _ hc
  rw [hrt] at hc0
  obtain ⟨v, vm₁, B, g1, g2, g3, g4⟩ := va_callIN XX hx (bytes := k.2.1) (maxL := k.2.2.1) hown hnm hlk0 (hts _ hin) hc0 hmh hBk (g := F0 m pc ls ((as.reverse ++ .ref b :: rest).map (cv G))) rfl (hl.1.trans hml.symm) (a := ad G b) (argsL := as.map (cv G)) (rest := rest.map (cv G)) (fun sig h => by rw [List.length_map]; exact par_of hpar sig h) (by show List.map (cv G) _ = _; rw [List.map_append, List.map_reverse]; rfl) (by show 2 * 0 + _ ≤ 11; rw [List.map_map]; simp only [Function.comp_def, cv_cat]; omega) (by rw [hb]; exact hd) (fun vm₁ hW₁ => ⟨hcs.1, hcs.2, rfl, by show Rep G M T.heap; rw [hT]; exact hR, KS.warm (U := T.setVm vm₁) hW₁ hK⟩)
  exact V.after hl hS hT ⟨v, vm₁, B, _, g1, g2, g3, g4⟩ kk
end CL
end
section
/-! what is made: objects, arrays; references that are set -/
theorem mN_ne {M : Mem} {b j : Nat} (h : b ≠ mK M + 1) : mB (mN M) b j = mB M b j ∧ mI (mN M) b j = mI M b j ∧ mL (mN M) b j = mL M b j := by
  have h' : b ≠ M.1 + 1 := h
  simp [mB, mI, mL, mN, h']
theorem mN_new {M : Mem} {j : Nat} : mB (mN M) (mK M + 1) j = false ∧ mI (mN M) (mK M + 1) j = 0 ∧ mL (mN M) (mK M + 1) j = 0 := by
  simp [mB, mI, mL, mN, mK]
/-- one cell more -/
theorem Rep.more {G : Ctx} {M : Mem} {H H' : Heap} (h : Rep G M H) (hz : H'.size = H.size + 1) (ho : ∀ q, q < H.size → H'[q]? = H[q]?) (hc : cAt G (mN M) H' (mK M + 1)) : Rep G (mN M) H' := by
  refine ⟨by rw [hz, h.1]; rfl, fun b hb hbk => ?_, fun b j hb => ?_⟩
  rotate_left
  · by_cases e : b = mK M + 1
    · rw [e, mN_new.2.1]; exact Or.inl rfl
    · rw [(mN_ne e).2.1]; exact h.2.2 b j hb
  have hbk : b ≤ mK M + 1 := hbk
  by_cases e : b = mK M + 1
  · rw [e]; exact hc
  · obtain ⟨h1, h2⟩ := h.2.1 b hb (by omega)
    have hq : H'[ad G b]? = H[ad G b]? := ho _ (by rw [ad_pos hb, h.1]; omega)
    refine ⟨fun c r hs hv => ?_, fun hs => ?_⟩
    · refine ((h1 c r hs hv).kept hq).to (fun j _ => ?_)
      obtain ⟨r1, r2, r3⟩ := mN_ne (M := M) (j := j) e
      simp only [fvl, r1, r2, r3]
    · rw [hq, h2 hs]
      congr 2
      funext j
      obtain ⟨r1, r2, r3⟩ := mN_ne (M := M) (j := j) e
      simp only [avl, r1, r2, r3]
theorem fvl_new {G : Ctx} {M : Mem} {c k : Nat} {r : vw_C} (hv : vwCl[c]? = some r) (hk : k < r.2.2) : defaultValue (tyc c k) = cv G (fvl (mN M) c (mK M + 1) k) := by
  have ht := tag_of hv hk
  obtain ⟨r1, r2, r3⟩ := mN_new (M := M) (j := k)
  unfold fvl
  rw [r1, r2, r3]
  generalize tyc c k = ty at ht ⊢
  generalize hq : (ft c k).1 = t at ht ⊢
  match t, ht with
  | 0, ht => rw [tag0 ht]; rfl
  | 1, ht => rw [tag1 ht]; rfl
  | 2, ht => cases ty <;> first | rfl | (simp [tagOK] at ht)
  | 3, ht => rw [tag3 ht]; rfl
  | t + 4, ht => cases ty <;> simp [tagOK] at ht
section AL
variable {G : Ctx} {X : Xt} {own : String} {cc : ByteArray} {nL : Nat} {ret : Option FieldType} {cells slots : Nat} {Q : State → Prop} {pc x : Nat} {lv : List (Nat × Value)} {st : List Value} {M : Mem}
theorem V.new (F : Fx G X own cc nL ret) {c : Nat} {r : vw_C} (hd : decode cc pc = .ok (.new x, 3)) (hv : vwCl[c]? = some r) (hs : (SH (mK M + 1)).1 = c + 1) (hl1 : Cond.classLink own x r.1 ∈ TB) (hl2 : Cond.instantiable r.1 r.2.2 ∈ TB) (hl3 : Cond.initialized r.1 ∈ TB) (hc1 : cells + 1 ≤ X.2.2.2.1.cells) (hc2 : slots + r.2.2 ≤ X.2.2.2.1.slots)
    (k : V G X nL (cells + 1) (slots + r.2.2) Q (pc + 3) lv (.ref (mK M + 1) :: st) (mN M)) : V G X nL cells slots Q pc lv st M := by
  intro H locs ls hl hR hS
  obtain ⟨p, l, e, R, s, m, args, below, meth, c0⟩ := X
  obtain ⟨hx, hb, hml, hown, hts, hK, hr, hlocks, hZ⟩ := F
  obtain ⟨h1, h2, h3⟩ := clOK hv
  have hKn := hK.1.1 c _ hv
  refine W.newcK hx hb hown (hts _ hl1) (hts _ hl2) (hts _ hl3) rfl hd hc1 hc2 hKn.2.1 rfl fun H1 kC hkC e1 z1 o1 => ?_
  have had : ad G (mK M + 1) = H.size := by rw [hR.1]; rfl
  have hc : cAt G (mN M) H1 (mK M + 1) := by
    refine ⟨fun c' r' hs' hv' => ?_, fun h20 => ?_⟩
    · have ec : c' = c := by omega
      subst ec
      cases hv.symm.trans hv'
      rw [had]
      exact t_OB.to (u_born (tyc c') hts h1 hKn hkC e1 h2) (fun j hj => fvl_new hv hj)
    · have h8 : c < 8 := (List.getElem?_eq_some_iff.mp hv).1
      omega
  have hw := k H1 locs ls hl (hR.more z1 (fun q h => o1 q h) hc) ⟨Nat.le_trans hS.1 (by omega), fun q h1 h2 => (o1 q (Nat.lt_of_lt_of_le h1 hS.1)).trans (hS.2.1 q h1 h2), hS.2.2⟩
  rw [← had]
  exact hw
theorem avl_new {M : Mem} {kd j : Nat} : avl (mN M) kd (mK M + 1) j = if kd < 22 then .int 0 else if kd = 22 then .long 0 else .null := by
  obtain ⟨r1, r2, r3⟩ := mN_new (M := M) (j := j)
  unfold avl
  rw [r1, r2, r3]
  rfl
theorem cAt_arr {H1 : Heap} {kd n : Nat} {dv : Value} (h20 : 20 ≤ kd) (hs : SH (mK M + 1) = (kd, n)) (e1 : H1[ad G (mK M + 1)]? = some (arrV (G.2.2.2 kd) n (fun _ => dv))) (hdv : cv G (if kd < 22 then .int 0 else if kd = 22 then .long 0 else .null) = dv) : cAt G (mN M) H1 (mK M + 1) := by
  refine ⟨fun c' r' hs' hv' => ?_, fun _ => ?_⟩
  · have h8 : c' < 8 := (List.getElem?_eq_some_iff.mp hv').1
    rw [hs] at hs'
    simp at hs'
    omega
  · rw [e1, hs]
    congr 2
    funext j
    rw [avl_new, hdv]
theorem V.newarr (F : Fx G X own cc nL ret) {kd n : Nat} {at_ : ArrayType} {i : Int32} (hd : decode cc pc = .ok (.newarray at_, 2)) (hs : SH (mK M + 1) = (kd, n)) (hk : (kd = 20 ∧ at_ = .int) ∨ (kd = 21 ∧ at_ = .boolean) ∨ (kd = 22 ∧ at_ = .long)) (hi : ¬ i < 0) (hn : i.toNatClampNeg = n) (hn2 : n ≤ 60000) (hc1 : cells + 1 ≤ X.2.2.2.1.cells) (hc2 : slots + n ≤ X.2.2.2.1.slots) (ha : Cond.arrayClass (newarray.typeOf at_) ∈ TB)
    (k : V G X nL (cells + 1) (slots + n) Q (pc + 2) lv (.ref (mK M + 1) :: st) (mN M)) : V G X nL cells slots Q pc lv (.int i :: st) M := by
  intro H locs ls hl hR hS
  obtain ⟨p, l, e, R, s, m, args, below, meth, c0⟩ := X
  obtain ⟨hx, hb, hml, hown, hts, hK, hr, hlocks, hZ⟩ := F
  have hby : n * componentBytes (newarray.typeOf at_) ≤ 536870912 := by
    have : componentBytes (newarray.typeOf at_) ≤ 8 := by cases at_ <;> decide
    exact Nat.le_trans (Nat.mul_le_mul hn2 this) (by decide)
  refine va_newaK hx hb (hts _ ha) rfl hd rfl hi hn hby hc1 hc2 rfl fun H1 cA e1 z1 o1 hAr hNm => ?_
  have had : ad G (mK M + 1) = H.size := by rw [hR.1]; rfl
  have hkd : 20 ≤ kd ∧ kd ≤ 28 := by rcases hk with ⟨h, -⟩ | ⟨h, -⟩ | ⟨h, -⟩ <;> omega
  have hcA : cA = G.2.2.2 kd := by
    have h9 := (hK.2.1 kd hkd.1 hkd.2).2
    rcases hk with ⟨rfl, rfl⟩ | ⟨rfl, rfl⟩ | ⟨rfl, rfl⟩ <;> exact Option.some.inj (hNm.symm.trans h9)
  have hc : cAt G (mN M) H1 (mK M + 1) := by
    refine cAt_arr hkd.1 hs (dv := defaultValue (newarray.typeOf at_)) (by rw [had, e1, hcA]) ?_
    rcases hk with ⟨rfl, rfl⟩ | ⟨rfl, rfl⟩ | ⟨rfl, rfl⟩ <;> rfl
  have hw := k H1 locs ls hl (hR.more z1 (fun q h => o1 q h) hc) ⟨Nat.le_trans hS.1 (by omega), fun q h1 h2 => (o1 q (Nat.lt_of_lt_of_le h1 hS.1)).trans (hS.2.1 q h1 h2), hS.2.2⟩
  rw [← had]
  exact hw
theorem V.anew (F : Fx G X own cc nL ret) {kd n : Nat} {C : String} {i : Int32} (hd : decode cc pc = .ok (.anewarray x, 3)) (hs : SH (mK M + 1) = (kd, n)) (hk : (23 ≤ kd ∧ kd ≤ 26 ∧ C = RX1) ∨ (kd = 27 ∧ C = RX3)) (hi : ¬ i < 0) (hn : i.toNatClampNeg = n) (hn2 : n ≤ 60000) (hc1 : cells + 1 ≤ X.2.2.2.1.cells) (hc2 : slots + n ≤ X.2.2.2.1.slots) (ha : Cond.classLink own x C ∈ TB)
    (k : V G X nL (cells + 1) (slots + n) Q (pc + 3) lv (.ref (mK M + 1) :: st) (mN M)) : V G X nL cells slots Q pc lv (.int i :: st) M := by
  subst hn
  intro H locs ls hl hR hS
  obtain ⟨p, l, e, R, s, m, args, below, meth, c0⟩ := X
  obtain ⟨hx, hb, hml, hown, hts, hK, hr, hlocks, hZ⟩ := F
  have hover : (Cond.arrayOver (.object C)).before args s = true := by
    rcases hk with ⟨-, -, rfl⟩ | ⟨-, rfl⟩
    · exact va_AO.use hK.2.2.2.1
    · exact va_AO.use hK.2.2.2.2.1
  have hkd : 23 ≤ kd ∧ kd ≤ 28 ∧ aty kd = .object C := by
    rcases hk with ⟨h1, h2, rfl⟩ | ⟨rfl, rfl⟩
    · refine ⟨h1, by omega, ?_⟩
      rcases (show kd = 23 ∨ kd = 24 ∨ kd = 25 ∨ kd = 26 by omega) with rfl | rfl | rfl | rfl <;> rfl
    · exact ⟨by decide, by decide, rfl⟩
  refine W.anew hx hb hown (hts _ ha) hover rfl hd rfl hi (by omega) hc1 hc2 fun cA kA comp f1 f2 f3 f4 => ?_
  generalize hH1 : H.push ({ cls := cA, slots := Array.replicate i.toNatClampNeg .null, vm := .none } : Cell) = H1
  have z1 : H1.size = H.size + 1 := by rw [← hH1, Array.size_push]
  have e1 : H1[H.size]? = some (arrV cA i.toNatClampNeg (fun _ => .null)) := by rw [← hH1, Array.getElem?_push_size, ← arrV_new]
  have o1 : ∀ q, q < H.size → H1[q]? = H[q]? := fun q hq => by rw [← hH1, Array.getElem?_push_lt hq, Array.getElem?_eq_getElem hq]
  have had : ad G (mK M + 1) = H.size := by rw [hR.1]; rfl
  have hcA : cA = G.2.2.2 kd := by
    have h9 := (hK.2.1 kd (by omega) (by omega)).2
    rw [hkd.2.2] at h9
    obtain ⟨-, -, -, -, -, h9⟩ := h9
    exact Option.some.inj (f1.symm.trans h9)
  have hc : cAt G (mN M) H1 (mK M + 1) := cAt_arr (by omega) hs (dv := .null) (by rw [had, e1, hcA]) (by rw [if_neg (by omega), if_neg (by omega)]; rfl)
  have hw := k H1 locs ls hl (hR.more z1 o1 hc) ⟨Nat.le_trans hS.1 (by omega), fun q h1 h2 => (o1 q (Nat.lt_of_lt_of_le h1 hS.1)).trans (hS.2.1 q h1 h2), hS.2.2⟩
  rw [← had]
  exact hw
/-- a final reference field, in a constructor -/
theorem V.putR (F : Fx G X own cc nL ret) {a c j : Nat} {r : vw_C} (hin : X.2.2.2.2.2.2.2.2.1.name = "<init>") (hd : decode cc pc = .ok (.putfield x, 3)) (hv : vwCl[c]? = some r) (hj : j < r.2.2) (ho : isO M a c) (ht : (ft c j).1 = 2) (hl1 : Cond.fieldLink own x (r.2.1 j).1 (r.2.1 j).2.1 (r.2.1 j).2.2.1 ∈ TB) (hfin : (r.2.1 j).2.2.2 = true) (hdecl : (r.2.1 j).1 = own)
    (k : V G X nL cells slots Q (pc + 3) lv st (uB M a j)) : V G X nL cells slots Q pc lv (.ref (a + (ft c j).2) :: .ref a :: st) M := by
  intro H locs ls hl hR hS
  obtain ⟨p, l, e, R, s, m, args, below, meth, c0⟩ := X
  obtain ⟨hx, hb, hml, hown, hts, hK, hr, hlocks, hZ⟩ := F
  have hap := va_ap hts hK hv
  obtain ⟨cell, q1, q2, q3, q4⟩ := (hR.2.1 a ho.2.1 ho.2.2).1 c _ ho.1 hv
  obtain ⟨h1, h2, h3⟩ := clOK hv
  obtain ⟨hS9, hfc, kC, hkC, hkind⟩ := hK.1.1 c _ hv
  obtain ⟨cf, kf, fi, f, hi, hsl⟩ := hS9 j hj
  have hlay := hts _ (h1 _ (u_in_lay hj))
  unfold u_lay at hlay
  rw [if_pos hfin] at hlay
  have hst := (u_facts hfc hkC (u_lays hts h1 hj) hi).1
  have hcf : m.cls = cf := by
    obtain ⟨_, _, c', _, _, _, -, -, hf', -, -, -, hown2, -⟩ := Cond.laysFinal_spec hlay
    have e1 : c' = cf := by have := hi.symm.trans hf'; simp at this; exact this.1.symm
    rw [hdecl] at hown2
    rw [← e1]; exact Option.some.inj (hown.symm.trans hown2)
  have htag := tag_of hv hj
  rw [ht] at htag
  have hty : ∀ q, narrow (tyc c j) (.ref q) = .ref q ∧ fits (tyc c j) (.ref q) = true := by
    generalize tyc c j = ty at htag
    intro q
    cases ty <;> first | exact ⟨rfl, rfl⟩ | (simp [tagOK] at htag)
  have h6 := u_fits hfc hkC hkind (Or.inr hlay) hi (h2 j hj) (hty (ad G (a + (ft c j).2))).1 (hty _).2
  refine W.putFinK hx hb hown (hts _ hl1) hi hst hcf hin (by rw [q2]; exact h6) q1 q3 (by rw [hsl]; exact k2_hasslot (q4 j hj)) rfl rfl hd fun H' e1 e2 e3 => ?_
  rw [hsl] at e1 ⊢
  have hc : cAt G (uB M a j) H' a := cAt.put ho.1 hv hap hj q2 q3 q4 (by rw [fvl_2 ht mB_uB]; exact e1) (fun i hi => fvl_ne (uB_M.2 a i (Or.inr hi)))
  exact k H' _ ls hl (hR.upd ho.2.1 e2 e3 uB_M.1 (fun b hb i => uB_M.2 b i (Or.inl hb)) hc hR.2.2.pB) (hS.put e2 e3 (A_ad ho.2.1))
/-- a place of an array of references is set -/
theorem V.aast (F : Fx G X own cc nL ret) {a kd c : Nat} {r : vw_C} {i : Int32} (hd : decode cc pc = .ok (.aastore, 1)) (h : isA M a kd i) (hk : 23 ≤ kd ∧ kd ≤ 27) (hv : vwCl[c]? = some r) (hty : aty kd = .object r.1) (ho : isO M (el kd a i.toNatClampNeg) c)
    (k : V G X nL cells slots Q (pc + 1) lv st (uB M a i.toNatClampNeg)) : V G X nL cells slots Q pc lv (.ref (el kd a i.toNatClampNeg) :: .int i :: .ref a :: st) M := by
  intro H locs ls hl hR hS
  obtain ⟨p, l, e, R, s, m, args, below, meth, c0⟩ := X
  obtain ⟨hx, hb, hml, hown, hts, hK, hr, hlocks, hZ⟩ := F
  have hlt := vin_lt h.2.2.2
  have h0 : ¬ i < 0 := fun q => h.2.2.2 (Or.inl q)
  obtain ⟨cellV, g1, g2, g3, -⟩ := (hR.2.1 _ ho.2.1 ho.2.2).1 c _ ho.1 hv
  have hcls := (hK.1.1 c _ hv).2
  have hRA := (hK.2.1 kd (by omega) (by omega)).2
  rw [hty] at hRA
  obtain ⟨kA, comp, k1, k2, k3, -⟩ := hRA
  have hcomp : comp = G.2.2.1.1 c := Option.some.inj (k3.symm.trans hcls.1)
  subst hcomp
  obtain ⟨hf1, kC, hkC, hkind⟩ := id hcls
  refine W.aast (v := ad G (el kd a i.toNatClampNeg)) (t := .object r.1) hx hb (arr_at hR h (by omega)) (fun q => by intro z; cases z) (fun z => by cases z) k1 k2 rfl hkC ⟨h0, by show _ < (arrV _ _ _).slots.size; rw [arrV_size]; exact hlt⟩ g1 (fun q => by rw [g3]; intro z; cases z) (by rw [g2]; exact hkC) (by rw [g2]; exact va_assign hcls) rfl rfl hd (fun H' e1 e2 e3 => ?_)
  exact k H' _ ls hl (rep_ast (M' := uB M _ _) hR h.1 h.2.1 (by omega) e1 e2 e3 ⟨uB_M.1, uB_M.2, by simp only [avl]; rw [if_neg (by omega), if_neg (by omega), if_pos mB_uB]; rfl⟩ hR.2.2.pB) (hS.put e2 e3 (A_ad h.2.1))
theorem oi_code : Cond.code Lib.objectInit ⟨#[0xb1]⟩ 1 none ∈ TB := by decide +kernel
theorem oi_inst : Cond.instanceMethod Lib.objectInit ∈ TB := by decide +kernel
theorem V.objInit (F : Fx G X own cc nL ret) {a : Nat} (hd : decode cc pc = .ok (.invokespecial x, 3)) (hlk : Cond.methodLink own x Lib.objectInit ∈ TB) (hRm : RmOK X.2.2.2.1 0 0) (hw : (st.map fun v => v.category).sum ≤ 8) (k : V G X nL cells slots Q (pc + 3) lv st M) : V G X nL cells slots Q pc lv (.ref a :: st) M := by
  intro H locs ls hl hR hS
  obtain ⟨p, l, e, R, s, m, args, below, meth, c0⟩ := X
  obtain ⟨hx, hb, hml, hown, hts, hK, hr, hlocks, hZ⟩ := F
  refine W.objInit hx hb hown (hts _ hlk) (hts _ oi_inst) (hts _ oi_code) rfl (hl.1.trans hml.symm) rfl hd (by have := hRm.1; omega) ?_ (k H locs ls hl hR hS)
  show 2 * 0 + _ + 12 ≤ R.locals
  rw [List.map_map]
  simp only [Function.comp_def, cv_cat]
  have h9 : 22 + 0 + 50 * 0 ≤ R.locals := hRm.2
  omega
/-- a boolean of an object, of an array -/
theorem V.bool (a k : Nat) (hb : bl a k = true) (kk : (mI M a k = 0 ∨ mI M a k = 1) → V G X nL cells slots Q pc lv st M) : V G X nL cells slots Q pc lv st M := fun H locs ls hl hR hS => kk (hR.2.2 a k hb) H locs ls hl hR hS
theorem bl_o {a c k : Nat} (h : isO M a c) (ht : (ft c k).1 = 3) : bl a k = true := by
  unfold bl
  rw [h.1, Nat.add_sub_cancel, ht]
  simp
theorem bl_a {a k : Nat} {i : Int32} (h : isA M a 21 i) : bl a k = true := by
  unfold bl
  rw [h.1]
  simp
end AL
end
section
def lkp {α : Type} : List (Nat × α) → Nat → Option α
  | [], _ => none
  | q :: t, i => if q.1 = i then some q.2 else lkp t i
theorem lkp_mem {α : Type} : ∀ {l : List (Nat × α)} {i : Nat} {v : α}, lkp l i = some v → (i, v) ∈ l
  | [], _, _, h => by cases h
  | q :: t, i, v, h => by
    unfold lkp at h
    split at h
    · rename_i e
      cases h
      rw [← e]
      exact List.mem_cons_self
    · exact List.mem_cons_of_mem _ (lkp_mem h)
def flC (own : String) (q : Nat × Nat × Nat) (p : Nat) : Bool := match vwCl[q.2.1]? with
  | some r => decide (q.2.2 < r.2.2) && decide (lw_tbl[p]? = some (Cond.fieldLink own q.1 (r.2.1 q.2.2).1 (r.2.1 q.2.2).2.1 (r.2.1 q.2.2).2.2.1)) && (decide ((ft q.2.1 q.2.2).1 = 2) || decide ((r.2.1 q.2.2).2.2.2 = false))
  | none => false
theorem fl_of {own : String} {tab : List (Nat × Nat × Nat)} (ps : List Nat) (hl : tab.length = ps.length) (h : (tab.zip ps).all (fun q => flC own q.1 q.2) = true) : FlOK own (lkp tab) := by
  intro x c k e
  obtain ⟨i, hi⟩ := List.getElem?_of_mem (lkp_mem e)
  have hip : i < ps.length := by rw [← hl]; exact (List.getElem?_eq_some_iff.mp hi).1
  have hm : ((x, c, k), ps[i]) ∈ tab.zip ps := List.mem_of_getElem? (i := i) (by rw [List.getElem?_zip_eq_some]; exact ⟨hi, List.getElem?_eq_getElem hip⟩)
  have h1 := List.all_eq_true.mp h _ hm
  unfold flC at h1
  split at h1
  · rename_i r hr
    simp only [Bool.and_eq_true, Bool.or_eq_true, decide_eq_true_eq] at h1
    exact ⟨r, hr, h1.1.1, TB_in (List.mem_of_getElem? h1.1.2) rfl, fun q => h1.2.resolve_left q⟩
  · cases h1
theorem cj_of {own : String} {tab : List (Nat × Int64)} (ps : List Nat) (hl : tab.length = ps.length) (h : (tab.zip ps).all (fun q => decide (lw_tbl[q.2]? = some (Cond.constantLong own q.1.1 q.1.2))) = true) : CjOK own (lkp tab) := by
  intro x v e
  obtain ⟨i, hi⟩ := List.getElem?_of_mem (lkp_mem e)
  have hip : i < ps.length := by rw [← hl]; exact (List.getElem?_eq_some_iff.mp hi).1
  have hm : ((x, v), ps[i]) ∈ tab.zip ps := List.mem_of_getElem? (i := i) (by rw [List.getElem?_zip_eq_some]; exact ⟨hi, List.getElem?_eq_getElem hip⟩)
  have h1 := List.all_eq_true.mp h _ hm
  exact TB_in (List.mem_of_getElem? (decide_eq_true_eq.mp h1)) rfl
def flX0 : List (Nat × Nat × Nat) := [(12, 0, 0), (18, 0, 1), (37, 1, 3), (51, 1, 1), (54, 1, 0), (115, 1, 4), (126, 1, 2), (172, 1, 5), (178, 1, 6)]
def cjX0 : List (Nat × Int64) := [(25, 63), (27, -4658895280553007687), (29, -1), (31, 255), (33, 65535), (35, 4294967295), (187, 2147483647)]
theorem floX0 : FlOK RX0 (lkp flX0) := fl_of [175, 176, 138, 131, 126, 143, 135, 147, 150] rfl (by decide +kernel)
theorem cjoX0 : CjOK RX0 (lkp cjX0) := cj_of [390, 391, 392, 393, 394, 395, 448] rfl (by decide +kernel)
def flX1 : List (Nat × Nat × Nat) := [(11, 1, 1), (19, 1, 2), (22, 1, 5), (29, 1, 0), (35, 1, 3), (38, 1, 4), (41, 1, 6)]
def cjX1 : List (Nat × Int64) := [(9, -9223372036854775808), (17, 9223372036854775807), (33, -1)]
theorem floX1 : FlOK RX1 (lkp flX1) := fl_of [129, 133, 145, 125, 139, 142, 149] rfl (by decide +kernel)
theorem cjoX1 : CjOK RX1 (lkp cjX1) := cj_of [123, 124, 170] rfl (by decide +kernel)
def flX2 : List (Nat × Nat × Nat) := [(12, 2, 0), (20, 2, 1), (25, 2, 2), (29, 2, 3), (33, 2, 4), (37, 2, 5), (40, 3, 8), (46, 3, 6), (49, 3, 4), (68, 3, 7), (72, 3, 3), (75, 3, 5), (84, 3, 0), (87, 3, 2), (90, 3, 1), (112, 5, 1), (121, 5, 0), (146, 1, 1), (154, 1, 2), (160, 1, 4), (163, 1, 3), (192, 1, 0)]
def cjX2 : List (Nat × Int64) := [(172, -9223372036854775808), (174, 9223372036854775807)]
theorem floX2 : FlOK RX2 (lkp flX2) := fl_of [192, 193, 194, 195, 196, 197, 538, 531, 524, 535, 521, 528, 512, 518, 515, 102, 100, 132, 136, 144, 140, 128] rfl (by decide +kernel)
theorem cjoX2 : CjOK RX2 (lkp cjX2) := cj_of [611, 612] rfl (by decide +kernel)
def flX3 : List (Nat × Nat × Nat) := [(9, 3, 0), (15, 3, 1), (18, 3, 2), (21, 3, 3), (27, 3, 4), (31, 3, 5), (34, 3, 6), (38, 3, 7), (42, 3, 8)]
def cjX3 : List (Nat × Int64) := []
theorem floX3 : FlOK RX3 (lkp flX3) := fl_of [510, 513, 516, 519, 523, 526, 530, 534, 537] rfl (by decide +kernel)
theorem cjoX3 : CjOK RX3 (lkp cjX3) := cj_of [] rfl (by decide +kernel)
def flX4 : List (Nat × Nat × Nat) := [(9, 4, 0), (15, 4, 1), (19, 4, 2), (22, 4, 3), (25, 3, 3), (44, 3, 6), (48, 3, 5), (58, 3, 0), (62, 3, 1), (65, 3, 2), (82, 5, 0)]
def cjX4 : List (Nat × Int64) := []
theorem floX4 : FlOK RX4 (lkp flX4) := fl_of [218, 220, 222, 224, 520, 532, 527, 511, 514, 517, 99] rfl (by decide +kernel)
theorem cjoX4 : CjOK RX4 (lkp cjX4) := cj_of [] rfl (by decide +kernel)
def flX5 : List (Nat × Nat × Nat) := [(11, 5, 0), (16, 5, 1)]
def cjX5 : List (Nat × Int64) := []
theorem floX5 : FlOK RX5 (lkp flX5) := fl_of [98, 101] rfl (by decide +kernel)
theorem cjoX5 : CjOK RX5 (lkp cjX5) := cj_of [] rfl (by decide +kernel)
def flX6 : List (Nat × Nat × Nat) := [(11, 6, 0), (17, 6, 1), (21, 6, 2), (28, 6, 3), (35, 6, 4), (42, 6, 5), (49, 6, 6), (53, 6, 7), (58, 6, 8), (62, 6, 9), (72, 1, 1), (76, 1, 2), (86, 1, 3), (89, 1, 4), (95, 1, 5), (102, 1, 6), (120, 1, 0), (137, 3, 3), (144, 5, 1), (152, 3, 7), (159, 3, 4), (177, 3, 6), (181, 3, 5), (197, 3, 8), (207, 4, 0), (210, 4, 1), (213, 4, 2), (216, 4, 3)]
def cjX6 : List (Nat × Int64) := [(223, 2147483647), (225, -9223372036854775808), (227, -1)]
theorem floX6 : FlOK RX6 (lkp flX6) := fl_of [236, 237, 238, 239, 240, 241, 242, 243, 244, 245, 130, 134, 137, 141, 146, 148, 127, 522, 103, 536, 525, 533, 529, 539, 219, 221, 223, 225] rfl (by decide +kernel)
theorem cjoX6 : CjOK RX6 (lkp cjX6) := cj_of [367, 290, 291] rfl (by decide +kernel)
def flX7 : List (Nat × Nat × Nat) := [(9, 7, 0), (13, 7, 1), (17, 7, 2), (20, 7, 3), (23, 7, 4), (26, 7, 5), (29, 7, 6), (32, 7, 10), (36, 7, 11), (39, 7, 12), (42, 7, 13), (45, 7, 14), (48, 7, 15), (51, 7, 16), (54, 7, 17), (57, 7, 18), (60, 7, 19), (63, 7, 20), (66, 7, 21), (69, 7, 22), (72, 7, 23), (75, 7, 26), (97, 7, 7), (180, 7, 8), (255, 7, 9), (324, 7, 24), (327, 7, 25)]
def cjX7 : List (Nat × Int64) := [(83, -9223372036854775808), (85, 9223372036854775807), (87, -1), (125, 2147483647), (168, -4658895280553007687), (174, 255), (176, 65535), (178, 4294967295), (224, 63), (233, 2), (235, 15), (243, 21), (249, 6), (258, 7), (260, 32), (262, 3), (270, 27), (322, 1000)]
theorem floX7 : FlOK RX7 (lkp flX7) := fl_of [759, 760, 761, 762, 763, 764, 765, 769, 770, 771, 772, 773, 774, 775, 776, 777, 778, 779, 780, 781, 782, 785, 766, 767, 768, 783, 784] rfl (by decide +kernel)
theorem cjoX7 : CjOK RX7 (lkp cjX7) := cj_of [757, 758, 872, 948, 956, 960, 961, 962, 998, 1003, 848, 918, 1016, 1046, 1041, 1042, 1037, 1131] rfl (by decide +kernel)
def flJ13 : List (Nat × Nat × Nat) := []
def cjJ13 : List (Nat × Int64) := [(314, 6148914691236517205), (316, 3689348814741910323), (318, 1085102592571150095)]
theorem floJ13 : FlOK RJ13 (lkp flJ13) := fl_of [] rfl (by decide +kernel)
theorem cjoJ13 : CjOK RJ13 (lkp cjJ13) := cj_of [403, 404, 405] rfl (by decide +kernel)
def flJ9 : List (Nat × Nat × Nat) := []
def cjJ9 : List (Nat × Int64) := []
theorem floJ9 : FlOK RJ9 (lkp flJ9) := fl_of [] rfl (by decide +kernel)
theorem cjoJ9 : CjOK RJ9 (lkp cjJ9) := cj_of [] rfl (by decide +kernel)
def flL : List (Nat × Nat × Nat) := []
def cjL : List (Nat × Int64) := [(13, 4294967295)]
theorem floL : FlOK RL (lkp flL) := fl_of [] rfl (by decide +kernel)
theorem cjoL : CjOK RL (lkp cjL) := cj_of [1148] rfl (by decide +kernel)
abbrev mJ13_bitCount_95d88 : Mth := (yJ13_bitCount_95d88, cJ13_bitCount_95d88, 2, (some .int))
abbrev mJ9_abs_067f4 : Mth := (yJ9_abs_067f4, cJ9_abs_067f4, 2, (some .long))
abbrev mJ9_max_f86c9 : Mth := (yJ9_max_f86c9, cJ9_max_f86c9, 4, (some .long))
abbrev mJ9_min_7cf53 : Mth := (yJ9_min_7cf53, cJ9_min_7cf53, 2, (some .int))
abbrev mJ9_min_f86c9 : Mth := (yJ9_min_f86c9, cJ9_min_f86c9, 4, (some .long))
abbrev mX0_bitwise : Mth := (yX0_bitwise, cX0_bitwise, 12, none)
abbrev mX0_constant : Mth := (yX0_constant, cX0_constant, 6, none)
abbrev mX0_givesUp : Mth := (yX0_givesUp, cX0_givesUp, 3, (some .boolean))
abbrev mX0_init : Mth := (yX0_init, cX0_init, 1, none)
abbrev mX0_minus : Mth := (yX0_minus, cX0_minus, 7, none)
abbrev mX0_move : Mth := (yX0_move, cX0_move, 4, none)
abbrev mX0_moveLeft : Mth := (yX0_moveLeft, cX0_moveLeft, 12, none)
abbrev mX0_moveRightZeros : Mth := (yX0_moveRightZeros, cX0_moveRightZeros, 4, none)
abbrev mX0_multipliedModulus : Mth := (yX0_multipliedModulus, cX0_multipliedModulus, 6, (some .long))
abbrev mX0_narrowed : Mth := (yX0_narrowed, cX0_narrowed, 10, none)
abbrev mX0_number : Mth := (yX0_number, cX0_number, 5, (some .long))
abbrev mX0_plus : Mth := (yX0_plus, cX0_plus, 7, none)
abbrev mX0_productBits : Mth := (yX0_productBits, cX0_productBits, 10, none)
abbrev mX0_productModulus : Mth := (yX0_productModulus, cX0_productModulus, 4, (some .long))
abbrev mX0_quotient : Mth := (yX0_quotient, cX0_quotient, 4, none)
abbrev mX0_remainder : Mth := (yX0_remainder, cX0_remainder, 8, none)
abbrev mX0_shifted : Mth := (yX0_shifted, cX0_shifted, 10, none)
abbrev mX0_stops : Mth := (yX0_stops, cX0_stops, 3, (some .boolean))
abbrev mX0_times : Mth := (yX0_times, cX0_times, 15, none)
abbrev mX0_turned : Mth := (yX0_turned, cX0_turned, 2, none)
abbrev mX0_work : Mth := (yX0_work, cX0_work, 5, none)
abbrev mX1_become : Mth := (yX1_become, cX1_become, 13, none)
abbrev mX1_becomeBitSum : Mth := (yX1_becomeBitSum, cX1_becomeBitSum, 21, none)
abbrev mX1_becomeJoin : Mth := (yX1_becomeJoin, cX1_becomeJoin, 7, none)
abbrev mX1_becomeMeet : Mth := (yX1_becomeMeet, cX1_becomeMeet, 4, none)
abbrev mX1_copy : Mth := (yX1_copy, cX1_copy, 2, none)
abbrev mX1_countedModulus : Mth := (yX1_countedModulus, cX1_countedModulus, 1, (some .long))
abbrev mX1_countedRest : Mth := (yX1_countedRest, cX1_countedRest, 1, (some .long))
abbrev mX1_fitBits : Mth := (yX1_fitBits, cX1_fitBits, 5, (some .boolean))
abbrev mX1_fitRest : Mth := (yX1_fitRest, cX1_fitRest, 5, (some .boolean))
abbrev mX1_holds : Mth := (yX1_holds, cX1_holds, 3, (some .boolean))
abbrev mX1_init : Mth := (yX1_init, cX1_init, 1, none)
abbrev mX1_isConstant : Mth := (yX1_isConstant, cX1_isConstant, 1, (some .boolean))
abbrev mX1_isLike : Mth := (yX1_isLike, cX1_isLike, 2, (some .boolean))
abbrev mX1_joinModulus : Mth := (yX1_joinModulus, cX1_joinModulus, 6, (some .long))
abbrev mX1_learnBits : Mth := (yX1_learnBits, cX1_learnBits, 5, (some .boolean))
abbrev mX1_limit : Mth := (yX1_limit, cX1_limit, 9, none)
abbrev mX1_makeAll : Mth := (yX1_makeAll, cX1_makeAll, 1, none)
abbrev mX1_makeConstant : Mth := (yX1_makeConstant, cX1_makeConstant, 3, none)
abbrev mX1_makeNone : Mth := (yX1_makeNone, cX1_makeNone, 1, none)
abbrev mX1_sharpen : Mth := (yX1_sharpen, cX1_sharpen, 8, none)
abbrev mX2_begin : Mth := (yX2_begin, cX2_begin, 3, none)
abbrev mX2_branch : Mth := (yX2_branch, cX2_branch, 11, none)
abbrev mX2_end : Mth := (yX2_end, cX2_end, 2, none)
abbrev mX2_fetch : Mth := (yX2_fetch, cX2_fetch, 4, none)
abbrev mX2_init : Mth := (yX2_init, cX2_init, 2, none)
abbrev mX2_keepAbove : Mth := (yX2_keepAbove, cX2_keepAbove, 3, none)
abbrev mX2_keepApart : Mth := (yX2_keepApart, cX2_keepApart, 3, none)
abbrev mX2_keepBelow : Mth := (yX2_keepBelow, cX2_keepBelow, 3, none)
abbrev mX2_keepFrom : Mth := (yX2_keepFrom, cX2_keepFrom, 4, none)
abbrev mX2_keepUpTo : Mth := (yX2_keepUpTo, cX2_keepUpTo, 4, none)
abbrev mX2_learnBit : Mth := (yX2_learnBit, cX2_learnBit, 6, none)
abbrev mX2_lookUp : Mth := (yX2_lookUp, cX2_lookUp, 6, none)
abbrev mX2_merge : Mth := (yX2_merge, cX2_merge, 6, (some .boolean))
abbrev mX2_reachAll : Mth := (yX2_reachAll, cX2_reachAll, 2, none)
abbrev mX2_send : Mth := (yX2_send, cX2_send, 7, none)
abbrev mX2_someComeToNone : Mth := (yX2_someComeToNone, cX2_someComeToNone, 2, (some .boolean))
abbrev mX2_someWait : Mth := (yX2_someWait, cX2_someWait, 2, (some .boolean))
abbrev mX2_workLine : Mth := (yX2_workLine, cX2_workLine, 10, none)
abbrev mX3_addLine : Mth := (yX3_addLine, cX3_addLine, 4, none)
abbrev mX3_allows : Mth := (yX3_allows, cX3_allows, 3, (some .boolean))
abbrev mX3_constants : Mth := (yX3_constants, cX3_constants, 3, (some .int))
abbrev mX3_givenUpLines : Mth := (yX3_givenUpLines, cX3_givenUpLines, 5, (some .int))
abbrev mX3_init : Mth := (yX3_init, cX3_init, 2, none)
abbrev mX3_reachedLines : Mth := (yX3_reachedLines, cX3_reachedLines, 3, (some .int))
abbrev mX4_begin : Mth := (yX4_begin, cX4_begin, 8, (some .int))
abbrev mX4_compute : Mth := (yX4_compute, cX4_compute, 6, (some .boolean))
abbrev mX4_init : Mth := (yX4_init, cX4_init, 1, none)
abbrev mX4_look : Mth := (yX4_look, cX4_look, 4, none)
abbrev mX4_lookUp : Mth := (yX4_lookUp, cX4_lookUp, 6, (some .boolean))
abbrev mX4_step : Mth := (yX4_step, cX4_step, 6, (some .int))
abbrev mX5_addNumber : Mth := (yX5_addNumber, cX5_addNumber, 4, none)
abbrev mX5_has : Mth := (yX5_has, cX5_has, 4, (some .boolean))
abbrev mX5_init : Mth := (yX5_init, cX5_init, 1, none)
abbrev mX6_act : Mth := (yX6_act, cX6_act, 8, (some .int))
abbrev mX6_bits : Mth := (yX6_bits, cX6_bits, 7, (some .int))
abbrev mX6_commonDivisor : Mth := (yX6_commonDivisor, cX6_commonDivisor, 11, (some .long))
abbrev mX6_differenceWraps : Mth := (yX6_differenceWraps, cX6_differenceWraps, 4, (some .boolean))
abbrev mX6_fact : Mth := (yX6_fact, cX6_fact, 7, (some .int))
abbrev mX6_factAt : Mth := (yX6_factAt, cX6_factAt, 2, (some (.object "BitCongruences$Fact")))
abbrev mX6_find : Mth := (yX6_find, cX6_find, 5, (some .int))
abbrev mX6_found : Mth := (yX6_found, cX6_found, 7, (some .int))
abbrev mX6_given : Mth := (yX6_given, cX6_given, 6, (some .int))
abbrev mX6_init : Mth := (yX6_init, cX6_init, 2, none)
abbrev mX6_isLine : Mth := (yX6_isLine, cX6_isLine, 3, (some .boolean))
abbrev mX6_isOf : Mth := (yX6_isOf, cX6_isOf, 5, (some .boolean))
abbrev mX6_isPlace : Mth := (yX6_isPlace, cX6_isPlace, 1, (some .boolean))
abbrev mX6_leastWithBits : Mth := (yX6_leastWithBits, cX6_leastWithBits, 18, (some .long))
abbrev mX6_meetBesides : Mth := (yX6_meetBesides, cX6_meetBesides, 2, (some .int))
abbrev mX6_method : Mth := (yX6_method, cX6_method, 1, (some .int))
abbrev mX6_now : Mth := (yX6_now, cX6_now, 2, (some .long))
abbrev mX6_oddPart : Mth := (yX6_oddPart, cX6_oddPart, 4, (some .long))
abbrev mX6_oneUnlessNone : Mth := (yX6_oneUnlessNone, cX6_oneUnlessNone, 1, (some .int))
abbrev mX6_op : Mth := (yX6_op, cX6_op, 6, (some .int))
abbrev mX6_productWraps : Mth := (yX6_productWraps, cX6_productWraps, 4, (some .boolean))
abbrev mX6_put : Mth := (yX6_put, cX6_put, 6, (some .long))
abbrev mX6_ran : Mth := (yX6_ran, cX6_ran, 2, (some .int))
abbrev mX6_rest : Mth := (yX6_rest, cX6_rest, 6, (some .int))
abbrev mX6_restBy : Mth := (yX6_restBy, cX6_restBy, 6, (some .long))
abbrev mX6_routineAt : Mth := (yX6_routineAt, cX6_routineAt, 2, (some (.object "BitCongruences$Routine")))
abbrev mX6_sum : Mth := (yX6_sum, cX6_sum, 4, (some .int))
abbrev mX6_sumWraps : Mth := (yX6_sumWraps, cX6_sumWraps, 4, (some .boolean))
abbrev mX6_table : Mth := (yX6_table, cX6_table, 5, (some .int))
abbrev mX6_told : Mth := (yX6_told, cX6_told, 4, (some .long))
abbrev mX6_walk : Mth := (yX6_walk, cX6_walk, 4, (some .int))
abbrev mX6_withoutTwos : Mth := (yX6_withoutTwos, cX6_withoutTwos, 5, (some .long))
abbrev mX7_act : Mth := (yX7_act, cX7_act, 5, (some .int))
abbrev mX7_add : Mth := (yX7_add, cX7_add, 15, none)
abbrev mX7_alike : Mth := (yX7_alike, cX7_alike, 3, (some .boolean))
abbrev mX7_all : Mth := (yX7_all, cX7_all, 2, none)
abbrev mX7_alone : Mth := (yX7_alone, cX7_alone, 3, (some .long))
abbrev mX7_apart : Mth := (yX7_apart, cX7_apart, 6, none)
abbrev mX7_asked : Mth := (yX7_asked, cX7_asked, 8, none)
abbrev mX7_atLeast : Mth := (yX7_atLeast, cX7_atLeast, 6, none)
abbrev mX7_atMost : Mth := (yX7_atMost, cX7_atMost, 6, none)
abbrev mX7_bit : Mth := (yX7_bit, cX7_bit, 3, (some .int))
abbrev mX7_bits : Mth := (yX7_bits, cX7_bits, 6, (some .int))
abbrev mX7_bitwise : Mth := (yX7_bitwise, cX7_bitwise, 14, none)
abbrev mX7_byBits : Mth := (yX7_byBits, cX7_byBits, 3, (some .boolean))
abbrev mX7_byEnds : Mth := (yX7_byEnds, cX7_byEnds, 5, (some .boolean))
abbrev mX7_byOf : Mth := (yX7_byOf, cX7_byOf, 2, (some .long))
abbrev mX7_byRest : Mth := (yX7_byRest, cX7_byRest, 8, (some .boolean))
abbrev mX7_cell : Mth := (yX7_cell, cX7_cell, 4, (some .int))
abbrev mX7_check : Mth := (yX7_check, cX7_check, 3, none)
abbrev mX7_common : Mth := (yX7_common, cX7_common, 10, (some .long))
abbrev mX7_copy : Mth := (yX7_copy, cX7_copy, 3, none)
abbrev mX7_divide : Mth := (yX7_divide, cX7_divide, 4, none)
abbrev mX7_does : Mth := (yX7_does, cX7_does, 6, none)
abbrev mX7_down : Mth := (yX7_down, cX7_down, 7, (some .long))
abbrev mX7_fact : Mth := (yX7_fact, cX7_fact, 6, (some .int))
abbrev mX7_find : Mth := (yX7_find, cX7_find, 6, (some .int))
abbrev mX7_found : Mth := (yX7_found, cX7_found, 5, (some .int))
abbrev mX7_given : Mth := (yX7_given, cX7_given, 4, (some .int))
abbrev mX7_gives : Mth := (yX7_gives, cX7_gives, 5, (some .int))
abbrev mX7_goTo : Mth := (yX7_goTo, cX7_goTo, 7, none)
abbrev mX7_in : Mth := (yX7_in, cX7_in, 6, (some .boolean))
abbrev mX7_init : Mth := (yX7_init, cX7_init, 2, none)
abbrev mX7_isFact : Mth := (yX7_isFact, cX7_isFact, 1, (some .boolean))
abbrev mX7_isIn : Mth := (yX7_isIn, cX7_isIn, 4, (some .boolean))
abbrev mX7_isLine : Mth := (yX7_isLine, cX7_isLine, 4, (some .boolean))
abbrev mX7_isMethod : Mth := (yX7_isMethod, cX7_isMethod, 2, (some .boolean))
abbrev mX7_isNumber : Mth := (yX7_isNumber, cX7_isNumber, 2, (some .boolean))
abbrev mX7_isOf : Mth := (yX7_isOf, cX7_isOf, 4, (some .boolean))
abbrev mX7_isOver : Mth := (yX7_isOver, cX7_isOver, 6, (some .boolean))
abbrev mX7_isPlace : Mth := (yX7_isPlace, cX7_isPlace, 1, (some .boolean))
abbrev mX7_join : Mth := (yX7_join, cX7_join, 20, none)
abbrev mX7_left : Mth := (yX7_left, cX7_left, 8, (some .long))
abbrev mX7_less : Mth := (yX7_less, cX7_less, 4, (some .long))
abbrev mX7_line : Mth := (yX7_line, cX7_line, 7, (some .boolean))
abbrev mX7_look : Mth := (yX7_look, cX7_look, 4, none)
abbrev mX7_meet : Mth := (yX7_meet, cX7_meet, 18, none)
abbrev mX7_method : Mth := (yX7_method, cX7_method, 1, (some .int))
abbrev mX7_more : Mth := (yX7_more, cX7_more, 4, (some .long))
abbrev mX7_move : Mth := (yX7_move, cX7_move, 10, none)
abbrev mX7_multiply : Mth := (yX7_multiply, cX7_multiply, 13, none)
abbrev mX7_narrow : Mth := (yX7_narrow, cX7_narrow, 9, none)
abbrev mX7_nothing : Mth := (yX7_nothing, cX7_nothing, 2, none)
abbrev mX7_now : Mth := (yX7_now, cX7_now, 2, (some .long))
abbrev mX7_number : Mth := (yX7_number, cX7_number, 4, none)
abbrev mX7_numbers : Mth := (yX7_numbers, cX7_numbers, 5, (some .int))
abbrev mX7_odd : Mth := (yX7_odd, cX7_odd, 4, (some .long))
abbrev mX7_oddProduct : Mth := (yX7_oddProduct, cX7_oddProduct, 7, (some .long))
abbrev mX7_op : Mth := (yX7_op, cX7_op, 6, (some .int))
abbrev mX7_put : Mth := (yX7_put, cX7_put, 10, none)
abbrev mX7_put_ : Mth := (yX7_put_, cX7_put_, 6, (some .long))
abbrev mX7_ran : Mth := (yX7_ran, cX7_ran, 2, (some .int))
abbrev mX7_ready : Mth := (yX7_ready, cX7_ready, 2, none)
abbrev mX7_reckon : Mth := (yX7_reckon, cX7_reckon, 5, (some .long))
abbrev mX7_rem : Mth := (yX7_rem, cX7_rem, 6, (some .long))
abbrev mX7_rest : Mth := (yX7_rest, cX7_rest, 5, (some .int))
abbrev mX7_restOf : Mth := (yX7_restOf, cX7_restOf, 2, (some .long))
abbrev mX7_ripple : Mth := (yX7_ripple, cX7_ripple, 15, none)
abbrev mX7_setRest : Mth := (yX7_setRest, cX7_setRest, 6, none)
abbrev mX7_sharpen : Mth := (yX7_sharpen, cX7_sharpen, 11, none)
abbrev mX7_shift : Mth := (yX7_shift, cX7_shift, 4, none)
abbrev mX7_some : Mth := (yX7_some, cX7_some, 4, (some .boolean))
abbrev mX7_sum : Mth := (yX7_sum, cX7_sum, 5, (some .int))
abbrev mX7_table : Mth := (yX7_table, cX7_table, 5, (some .int))
abbrev mX7_told : Mth := (yX7_told, cX7_told, 3, (some .long))
abbrev mX7_turn : Mth := (yX7_turn, cX7_turn, 3, none)
abbrev mX7_up : Mth := (yX7_up, cX7_up, 16, (some .long))
abbrev mX7_walk : Mth := (yX7_walk, cX7_walk, 5, (some .int))
abbrev mX7_widen : Mth := (yX7_widen, cX7_widen, 8, none)
abbrev mX7_work : Mth := (yX7_work, cX7_work, 7, none)
theorem bJ13_bitCount_95d88 : baseOK mJ13_bitCount_95d88 1 := ⟨tw402, tw76, ⟨by decide +kernel, by decide +kernel⟩, by unfold parN; decide +kernel⟩
theorem bJ9_abs_067f4 : baseOK mJ9_abs_067f4 1 := ⟨tw374, tw75, ⟨by decide +kernel, by decide +kernel⟩, by unfold parN; decide +kernel⟩
theorem bJ9_max_f86c9 : baseOK mJ9_max_f86c9 2 := ⟨tw325, tw75, ⟨by decide +kernel, by decide +kernel⟩, by unfold parN; decide +kernel⟩
theorem bJ9_min_7cf53 : baseOK mJ9_min_7cf53 2 := ⟨tw738, tw75, ⟨by decide +kernel, by decide +kernel⟩, by unfold parN; decide +kernel⟩
theorem bJ9_min_f86c9 : baseOK mJ9_min_f86c9 2 := ⟨tw328, tw75, ⟨by decide +kernel, by decide +kernel⟩, by unfold parN; decide +kernel⟩
theorem bX0_bitwise : baseOK mX0_bitwise 4 := ⟨tw453, tw70, ⟨by decide +kernel, by decide +kernel⟩, by unfold parN; decide +kernel⟩
theorem bX0_constant : baseOK mX0_constant 4 := ⟨tw383, tw70, ⟨by decide +kernel, by decide +kernel⟩, by unfold parN; decide +kernel⟩
theorem bX0_givesUp : baseOK mX0_givesUp 3 := ⟨tw399, tw70, ⟨by decide +kernel, by decide +kernel⟩, by unfold parN; decide +kernel⟩
theorem bX0_init : baseOK mX0_init 0 := ⟨tw115, tw70, ⟨by decide +kernel, by decide +kernel⟩, by unfold parN; decide +kernel⟩
theorem bX0_minus : baseOK mX0_minus 3 := ⟨tw427, tw70, ⟨by decide +kernel, by decide +kernel⟩, by unfold parN; decide +kernel⟩
theorem bX0_move : baseOK mX0_move 3 := ⟨tw461, tw70, ⟨by decide +kernel, by decide +kernel⟩, by unfold parN; decide +kernel⟩
theorem bX0_moveLeft : baseOK mX0_moveLeft 2 := ⟨tw466, tw70, ⟨by decide +kernel, by decide +kernel⟩, by unfold parN; decide +kernel⟩
theorem bX0_moveRightZeros : baseOK mX0_moveRightZeros 2 := ⟨tw471, tw70, ⟨by decide +kernel, by decide +kernel⟩, by unfold parN; decide +kernel⟩
theorem bX0_multipliedModulus : baseOK mX0_multipliedModulus 2 := ⟨tw445, tw70, ⟨by decide +kernel, by decide +kernel⟩, by unfold parN; decide +kernel⟩
theorem bX0_narrowed : baseOK mX0_narrowed 3 := ⟨tw485, tw70, ⟨by decide +kernel, by decide +kernel⟩, by unfold parN; decide +kernel⟩
theorem bX0_number : baseOK mX0_number 3 := ⟨tw389, tw70, ⟨by decide +kernel, by decide +kernel⟩, by unfold parN; decide +kernel⟩
theorem bX0_plus : baseOK mX0_plus 3 := ⟨tw408, tw70, ⟨by decide +kernel, by decide +kernel⟩, by unfold parN; decide +kernel⟩
theorem bX0_productBits : baseOK mX0_productBits 3 := ⟨tw436, tw70, ⟨by decide +kernel, by decide +kernel⟩, by unfold parN; decide +kernel⟩
theorem bX0_productModulus : baseOK mX0_productModulus 2 := ⟨tw442, tw70, ⟨by decide +kernel, by decide +kernel⟩, by unfold parN; decide +kernel⟩
theorem bX0_quotient : baseOK mX0_quotient 3 := ⟨tw476, tw70, ⟨by decide +kernel, by decide +kernel⟩, by unfold parN; decide +kernel⟩
theorem bX0_remainder : baseOK mX0_remainder 3 := ⟨tw479, tw70, ⟨by decide +kernel, by decide +kernel⟩, by unfold parN; decide +kernel⟩
theorem bX0_shifted : baseOK mX0_shifted 4 := ⟨tw457, tw70, ⟨by decide +kernel, by decide +kernel⟩, by unfold parN; decide +kernel⟩
theorem bX0_stops : baseOK mX0_stops 2 := ⟨tw386, tw70, ⟨by decide +kernel, by decide +kernel⟩, by unfold parN; decide +kernel⟩
theorem bX0_times : baseOK mX0_times 3 := ⟨tw433, tw70, ⟨by decide +kernel, by decide +kernel⟩, by unfold parN; decide +kernel⟩
theorem bX0_turned : baseOK mX0_turned 2 := ⟨tw482, tw70, ⟨by decide +kernel, by decide +kernel⟩, by unfold parN; decide +kernel⟩
theorem bX0_work : baseOK mX0_work 4 := ⟨tw378, tw70, ⟨by decide +kernel, by decide +kernel⟩, by unfold parN; decide +kernel⟩
theorem bX1_become : baseOK mX1_become 6 := ⟨tw174, tw71, ⟨by decide +kernel, by decide +kernel⟩, by unfold parN; decide +kernel⟩
theorem bX1_becomeBitSum : baseOK mX1_becomeBitSum 5 := ⟨tw412, tw71, ⟨by decide +kernel, by decide +kernel⟩, by unfold parN; decide +kernel⟩
theorem bX1_becomeJoin : baseOK mX1_becomeJoin 2 := ⟨tw342, tw71, ⟨by decide +kernel, by decide +kernel⟩, by unfold parN; decide +kernel⟩
theorem bX1_becomeMeet : baseOK mX1_becomeMeet 2 := ⟨tw322, tw71, ⟨by decide +kernel, by decide +kernel⟩, by unfold parN; decide +kernel⟩
theorem bX1_copy : baseOK mX1_copy 1 := ⟨tw346, tw71, ⟨by decide +kernel, by decide +kernel⟩, by unfold parN; decide +kernel⟩
theorem bX1_countedModulus : baseOK mX1_countedModulus 0 := ⟨tw357, tw71, ⟨by decide +kernel, by decide +kernel⟩, by unfold parN; decide +kernel⟩
theorem bX1_countedRest : baseOK mX1_countedRest 0 := ⟨tw371, tw71, ⟨by decide +kernel, by decide +kernel⟩, by unfold parN; decide +kernel⟩
theorem bX1_fitBits : baseOK mX1_fitBits 0 := ⟨tw286, tw71, ⟨by decide +kernel, by decide +kernel⟩, by unfold parN; decide +kernel⟩
theorem bX1_fitRest : baseOK mX1_fitRest 0 := ⟨tw295, tw71, ⟨by decide +kernel, by decide +kernel⟩, by unfold parN; decide +kernel⟩
theorem bX1_holds : baseOK mX1_holds 1 := ⟨tw498, tw71, ⟨by decide +kernel, by decide +kernel⟩, by unfold parN; decide +kernel⟩
theorem bX1_init : baseOK mX1_init 0 := ⟨tw121, tw71, ⟨by decide +kernel, by decide +kernel⟩, by unfold parN; decide +kernel⟩
theorem bX1_isConstant : baseOK mX1_isConstant 0 := ⟨tw350, tw71, ⟨by decide +kernel, by decide +kernel⟩, by unfold parN; decide +kernel⟩
theorem bX1_isLike : baseOK mX1_isLike 1 := ⟨tw617, tw71, ⟨by decide +kernel, by decide +kernel⟩, by unfold parN; decide +kernel⟩
theorem bX1_joinModulus : baseOK mX1_joinModulus 2 := ⟨tw353, tw71, ⟨by decide +kernel, by decide +kernel⟩, by unfold parN; decide +kernel⟩
theorem bX1_learnBits : baseOK mX1_learnBits 0 := ⟨tw302, tw71, ⟨by decide +kernel, by decide +kernel⟩, by unfold parN; decide +kernel⟩
theorem bX1_limit : baseOK mX1_limit 4 := ⟨tw424, tw71, ⟨by decide +kernel, by decide +kernel⟩, by unfold parN; decide +kernel⟩
theorem bX1_makeAll : baseOK mX1_makeAll 0 := ⟨tw278, tw71, ⟨by decide +kernel, by decide +kernel⟩, by unfold parN; decide +kernel⟩
theorem bX1_makeConstant : baseOK mX1_makeConstant 1 := ⟨tw169, tw71, ⟨by decide +kernel, by decide +kernel⟩, by unfold parN; decide +kernel⟩
theorem bX1_makeNone : baseOK mX1_makeNone 0 := ⟨tw306, tw71, ⟨by decide +kernel, by decide +kernel⟩, by unfold parN; decide +kernel⟩
theorem bX1_sharpen : baseOK mX1_sharpen 0 := ⟨tw282, tw71, ⟨by decide +kernel, by decide +kernel⟩, by unfold parN; decide +kernel⟩
theorem bX2_begin : baseOK mX2_begin 1 := ⟨tw596, tw72, ⟨by decide +kernel, by decide +kernel⟩, by unfold parN; decide +kernel⟩
theorem bX2_branch : baseOK mX2_branch 3 := ⟨tw640, tw72, ⟨by decide +kernel, by decide +kernel⟩, by unfold parN; decide +kernel⟩
theorem bX2_end : baseOK mX2_end 1 := ⟨tw667, tw72, ⟨by decide +kernel, by decide +kernel⟩, by unfold parN; decide +kernel⟩
theorem bX2_fetch : baseOK mX2_fetch 2 := ⟨tw629, tw72, ⟨by decide +kernel, by decide +kernel⟩, by unfold parN; decide +kernel⟩
theorem bX2_init : baseOK mX2_init 0 := ⟨tw186, tw72, ⟨by decide +kernel, by decide +kernel⟩, by unfold parN; decide +kernel⟩
theorem bX2_keepAbove : baseOK mX2_keepAbove 3 := ⟨tw658, tw72, ⟨by decide +kernel, by decide +kernel⟩, by unfold parN; decide +kernel⟩
theorem bX2_keepApart : baseOK mX2_keepApart 3 := ⟨tw647, tw72, ⟨by decide +kernel, by decide +kernel⟩, by unfold parN; decide +kernel⟩
theorem bX2_keepBelow : baseOK mX2_keepBelow 3 := ⟨tw651, tw72, ⟨by decide +kernel, by decide +kernel⟩, by unfold parN; decide +kernel⟩
theorem bX2_keepFrom : baseOK mX2_keepFrom 3 := ⟨tw661, tw72, ⟨by decide +kernel, by decide +kernel⟩, by unfold parN; decide +kernel⟩
theorem bX2_keepUpTo : baseOK mX2_keepUpTo 3 := ⟨tw654, tw72, ⟨by decide +kernel, by decide +kernel⟩, by unfold parN; decide +kernel⟩
theorem bX2_learnBit : baseOK mX2_learnBit 3 := ⟨tw643, tw72, ⟨by decide +kernel, by decide +kernel⟩, by unfold parN; decide +kernel⟩
theorem bX2_lookUp : baseOK mX2_lookUp 4 := ⟨tw634, tw72, ⟨by decide +kernel, by decide +kernel⟩, by unfold parN; decide +kernel⟩
theorem bX2_merge : baseOK mX2_merge 3 := ⟨tw609, tw72, ⟨by decide +kernel, by decide +kernel⟩, by unfold parN; decide +kernel⟩
theorem bX2_reachAll : baseOK mX2_reachAll 1 := ⟨tw671, tw72, ⟨by decide +kernel, by decide +kernel⟩, by unfold parN; decide +kernel⟩
theorem bX2_send : baseOK mX2_send 2 := ⟨tw601, tw72, ⟨by decide +kernel, by decide +kernel⟩, by unfold parN; decide +kernel⟩
theorem bX2_someComeToNone : baseOK mX2_someComeToNone 0 := ⟨tw605, tw72, ⟨by decide +kernel, by decide +kernel⟩, by unfold parN; decide +kernel⟩
theorem bX2_someWait : baseOK mX2_someWait 0 := ⟨tw621, tw72, ⟨by decide +kernel, by decide +kernel⟩, by unfold parN; decide +kernel⟩
theorem bX2_workLine : baseOK mX2_workLine 3 := ⟨tw625, tw72, ⟨by decide +kernel, by decide +kernel⟩, by unfold parN; decide +kernel⟩
theorem bX3_addLine : baseOK mX3_addLine 3 := ⟨tw576, tw77, ⟨by decide +kernel, by decide +kernel⟩, by unfold parN; decide +kernel⟩
theorem bX3_allows : baseOK mX3_allows 1 := ⟨tw707, tw77, ⟨by decide +kernel, by decide +kernel⟩, by unfold parN; decide +kernel⟩
theorem bX3_constants : baseOK mX3_constants 0 := ⟨tw694, tw77, ⟨by decide +kernel, by decide +kernel⟩, by unfold parN; decide +kernel⟩
theorem bX3_givenUpLines : baseOK mX3_givenUpLines 0 := ⟨tw689, tw77, ⟨by decide +kernel, by decide +kernel⟩, by unfold parN; decide +kernel⟩
theorem bX3_init : baseOK mX3_init 0 := ⟨tw506, tw77, ⟨by decide +kernel, by decide +kernel⟩, by unfold parN; decide +kernel⟩
theorem bX3_reachedLines : baseOK mX3_reachedLines 0 := ⟨tw685, tw77, ⟨by decide +kernel, by decide +kernel⟩, by unfold parN; decide +kernel⟩
theorem bX4_begin : baseOK mX4_begin 4 := ⟨tw712, tw73, ⟨by decide +kernel, by decide +kernel⟩, by unfold parN; decide +kernel⟩
theorem bX4_compute : baseOK mX4_compute 3 := ⟨tw733, tw73, ⟨by decide +kernel, by decide +kernel⟩, by unfold parN; decide +kernel⟩
theorem bX4_init : baseOK mX4_init 0 := ⟨tw216, tw73, ⟨by decide +kernel, by decide +kernel⟩, by unfold parN; decide +kernel⟩
theorem bX4_look : baseOK mX4_look 1 := ⟨tw716, tw73, ⟨by decide +kernel, by decide +kernel⟩, by unfold parN; decide +kernel⟩
theorem bX4_lookUp : baseOK mX4_lookUp 3 := ⟨tw725, tw73, ⟨by decide +kernel, by decide +kernel⟩, by unfold parN; decide +kernel⟩
theorem bX4_step : baseOK mX4_step 2 := ⟨tw721, tw73, ⟨by decide +kernel, by decide +kernel⟩, by unfold parN; decide +kernel⟩
theorem bX5_addNumber : baseOK mX5_addNumber 2 := ⟨tw584, tw69, ⟨by decide +kernel, by decide +kernel⟩, by unfold parN; decide +kernel⟩
theorem bX5_has : baseOK mX5_has 2 := ⟨tw729, tw69, ⟨by decide +kernel, by decide +kernel⟩, by unfold parN; decide +kernel⟩
theorem bX5_init : baseOK mX5_init 0 := ⟨tw94, tw69, ⟨by decide +kernel, by decide +kernel⟩, by unfold parN; decide +kernel⟩
theorem bX6_act : baseOK mX6_act 4 := ⟨tw338, tw68, ⟨by decide +kernel, by decide +kernel⟩, by unfold parN; decide +kernel⟩
theorem bX6_bits : baseOK mX6_bits 3 := ⟨tw314, tw68, ⟨by decide +kernel, by decide +kernel⟩, by unfold parN; decide +kernel⟩
theorem bX6_commonDivisor : baseOK mX6_commonDivisor 2 := ⟨tw360, tw68, ⟨by decide +kernel, by decide +kernel⟩, by unfold parN; decide +kernel⟩
theorem bX6_differenceWraps : baseOK mX6_differenceWraps 2 := ⟨tw430, tw68, ⟨by decide +kernel, by decide +kernel⟩, by unfold parN; decide +kernel⟩
theorem bX6_fact : baseOK mX6_fact 3 := ⟨tw270, tw68, ⟨by decide +kernel, by decide +kernel⟩, by unfold parN; decide +kernel⟩
theorem bX6_factAt : baseOK mX6_factAt 1 := ⟨tw274, tw68, ⟨by decide +kernel, by decide +kernel⟩, by unfold parN; decide +kernel⟩
theorem bX6_find : baseOK mX6_find 1 := ⟨tw592, tw68, ⟨by decide +kernel, by decide +kernel⟩, by unfold parN; decide +kernel⟩
theorem bX6_found : baseOK mX6_found 4 := ⟨tw676, tw68, ⟨by decide +kernel, by decide +kernel⟩, by unfold parN; decide +kernel⟩
theorem bX6_given : baseOK mX6_given 3 := ⟨tw588, tw68, ⟨by decide +kernel, by decide +kernel⟩, by unfold parN; decide +kernel⟩
theorem bX6_init : baseOK mX6_init 0 := ⟨tw82, tw68, ⟨by decide +kernel, by decide +kernel⟩, by unfold parN; decide +kernel⟩
theorem bX6_isLine : baseOK mX6_isLine 3 := ⟨tw569, tw68, ⟨by decide +kernel, by decide +kernel⟩, by unfold parN; decide +kernel⟩
theorem bX6_isOf : baseOK mX6_isOf 2 := ⟨tw494, tw68, ⟨by decide +kernel, by decide +kernel⟩, by unfold parN; decide +kernel⟩
theorem bX6_isPlace : baseOK mX6_isPlace 1 := ⟨tw572, tw68, ⟨by decide +kernel, by decide +kernel⟩, by unfold parN; decide +kernel⟩
theorem bX6_leastWithBits : baseOK mX6_leastWithBits 3 := ⟨tw289, tw68, ⟨by decide +kernel, by decide +kernel⟩, by unfold parN; decide +kernel⟩
theorem bX6_meetBesides : baseOK mX6_meetBesides 1 := ⟨tw318, tw68, ⟨by decide +kernel, by decide +kernel⟩, by unfold parN; decide +kernel⟩
theorem bX6_method : baseOK mX6_method 0 := ⟨tw502, tw68, ⟨by decide +kernel, by decide +kernel⟩, by unfold parN; decide +kernel⟩
theorem bX6_now : baseOK mX6_now 1 := ⟨tw742, tw68, ⟨by decide +kernel, by decide +kernel⟩, by unfold parN; decide +kernel⟩
theorem bX6_oddPart : baseOK mX6_oddPart 1 := ⟨tw363, tw68, ⟨by decide +kernel, by decide +kernel⟩, by unfold parN; decide +kernel⟩
theorem bX6_oneUnlessNone : baseOK mX6_oneUnlessNone 1 := ⟨tw310, tw68, ⟨by decide +kernel, by decide +kernel⟩, by unfold parN; decide +kernel⟩
theorem bX6_op : baseOK mX6_op 4 := ⟨tw562, tw68, ⟨by decide +kernel, by decide +kernel⟩, by unfold parN; decide +kernel⟩
theorem bX6_productWraps : baseOK mX6_productWraps 2 := ⟨tw439, tw68, ⟨by decide +kernel, by decide +kernel⟩, by unfold parN; decide +kernel⟩
theorem bX6_put : baseOK mX6_put 2 := ⟨tw699, tw68, ⟨by decide +kernel, by decide +kernel⟩, by unfold parN; decide +kernel⟩
theorem bX6_ran : baseOK mX6_ran 1 := ⟨tw746, tw68, ⟨by decide +kernel, by decide +kernel⟩, by unfold parN; decide +kernel⟩
theorem bX6_rest : baseOK mX6_rest 3 := ⟨tw333, tw68, ⟨by decide +kernel, by decide +kernel⟩, by unfold parN; decide +kernel⟩
theorem bX6_restBy : baseOK mX6_restBy 2 := ⟨tw298, tw68, ⟨by decide +kernel, by decide +kernel⟩, by unfold parN; decide +kernel⟩
theorem bX6_routineAt : baseOK mX6_routineAt 1 := ⟨tw566, tw68, ⟨by decide +kernel, by decide +kernel⟩, by unfold parN; decide +kernel⟩
theorem bX6_sum : baseOK mX6_sum 2 := ⟨tw681, tw68, ⟨by decide +kernel, by decide +kernel⟩, by unfold parN; decide +kernel⟩
theorem bX6_sumWraps : baseOK mX6_sumWraps 2 := ⟨tw415, tw68, ⟨by decide +kernel, by decide +kernel⟩, by unfold parN; decide +kernel⟩
theorem bX6_table : baseOK mX6_table 2 := ⟨tw580, tw68, ⟨by decide +kernel, by decide +kernel⟩, by unfold parN; decide +kernel⟩
theorem bX6_told : baseOK mX6_told 2 := ⟨tw490, tw68, ⟨by decide +kernel, by decide +kernel⟩, by unfold parN; decide +kernel⟩
theorem bX6_walk : baseOK mX6_walk 2 := ⟨tw703, tw68, ⟨by decide +kernel, by decide +kernel⟩, by unfold parN; decide +kernel⟩
theorem bX6_withoutTwos : baseOK mX6_withoutTwos 1 := ⟨tw366, tw68, ⟨by decide +kernel, by decide +kernel⟩, by unfold parN; decide +kernel⟩
theorem bX7_act : baseOK mX7_act 4 := ⟨tw917, tw74, ⟨by decide +kernel, by decide +kernel⟩, by unfold parN; decide +kernel⟩
theorem bX7_add : baseOK mX7_add 3 := ⟨tw966, tw74, ⟨by decide +kernel, by decide +kernel⟩, by unfold parN; decide +kernel⟩
theorem bX7_alike : baseOK mX7_alike 2 := ⟨tw1102, tw74, ⟨by decide +kernel, by decide +kernel⟩, by unfold parN; decide +kernel⟩
theorem bX7_all : baseOK mX7_all 1 := ⟨tw756, tw74, ⟨by decide +kernel, by decide +kernel⟩, by unfold parN; decide +kernel⟩
theorem bX7_alone : baseOK mX7_alone 2 := ⟨tw959, tw74, ⟨by decide +kernel, by decide +kernel⟩, by unfold parN; decide +kernel⟩
theorem bX7_apart : baseOK mX7_apart 3 := ⟨tw1082, tw74, ⟨by decide +kernel, by decide +kernel⟩, by unfold parN; decide +kernel⟩
theorem bX7_asked : baseOK mX7_asked 4 := ⟨tw1078, tw74, ⟨by decide +kernel, by decide +kernel⟩, by unfold parN; decide +kernel⟩
theorem bX7_atLeast : baseOK mX7_atLeast 4 := ⟨tw1090, tw74, ⟨by decide +kernel, by decide +kernel⟩, by unfold parN; decide +kernel⟩
theorem bX7_atMost : baseOK mX7_atMost 4 := ⟨tw1086, tw74, ⟨by decide +kernel, by decide +kernel⟩, by unfold parN; decide +kernel⟩
theorem bX7_bit : baseOK mX7_bit 2 := ⟨tw981, tw74, ⟨by decide +kernel, by decide +kernel⟩, by unfold parN; decide +kernel⟩
theorem bX7_bits : baseOK mX7_bits 3 := ⟨tw895, tw74, ⟨by decide +kernel, by decide +kernel⟩, by unfold parN; decide +kernel⟩
theorem bX7_bitwise : baseOK mX7_bitwise 1 := ⟨tw993, tw74, ⟨by decide +kernel, by decide +kernel⟩, by unfold parN; decide +kernel⟩
theorem bX7_byBits : baseOK mX7_byBits 1 := ⟨tw867, tw74, ⟨by decide +kernel, by decide +kernel⟩, by unfold parN; decide +kernel⟩
theorem bX7_byEnds : baseOK mX7_byEnds 1 := ⟨tw887, tw74, ⟨by decide +kernel, by decide +kernel⟩, by unfold parN; decide +kernel⟩
theorem bX7_byOf : baseOK mX7_byOf 1 := ⟨tw938, tw74, ⟨by decide +kernel, by decide +kernel⟩, by unfold parN; decide +kernel⟩
theorem bX7_byRest : baseOK mX7_byRest 1 := ⟨tw880, tw74, ⟨by decide +kernel, by decide +kernel⟩, by unfold parN; decide +kernel⟩
theorem bX7_cell : baseOK mX7_cell 3 := ⟨tw1062, tw74, ⟨by decide +kernel, by decide +kernel⟩, by unfold parN; decide +kernel⟩
theorem bX7_check : baseOK mX7_check 1 := ⟨tw1135, tw74, ⟨by decide +kernel, by decide +kernel⟩, by unfold parN; decide +kernel⟩
theorem bX7_common : baseOK mX7_common 2 := ⟨tw941, tw74, ⟨by decide +kernel, by decide +kernel⟩, by unfold parN; decide +kernel⟩
theorem bX7_copy : baseOK mX7_copy 2 := ⟨tw926, tw74, ⟨by decide +kernel, by decide +kernel⟩, by unfold parN; decide +kernel⟩
theorem bX7_divide : baseOK mX7_divide 1 := ⟨tw1007, tw74, ⟨by decide +kernel, by decide +kernel⟩, by unfold parN; decide +kernel⟩
theorem bX7_does : baseOK mX7_does 4 := ⟨tw952, tw74, ⟨by decide +kernel, by decide +kernel⟩, by unfold parN; decide +kernel⟩
theorem bX7_down : baseOK mX7_down 3 := ⟨tw876, tw74, ⟨by decide +kernel, by decide +kernel⟩, by unfold parN; decide +kernel⟩
theorem bX7_fact : baseOK mX7_fact 3 := ⟨tw844, tw74, ⟨by decide +kernel, by decide +kernel⟩, by unfold parN; decide +kernel⟩
theorem bX7_find : baseOK mX7_find 1 := ⟨tw1058, tw74, ⟨by decide +kernel, by decide +kernel⟩, by unfold parN; decide +kernel⟩
theorem bX7_found : baseOK mX7_found 4 := ⟨tw1110, tw74, ⟨by decide +kernel, by decide +kernel⟩, by unfold parN; decide +kernel⟩
theorem bX7_given : baseOK mX7_given 3 := ⟨tw1054, tw74, ⟨by decide +kernel, by decide +kernel⟩, by unfold parN; decide +kernel⟩
theorem bX7_gives : baseOK mX7_gives 2 := ⟨tw1118, tw74, ⟨by decide +kernel, by decide +kernel⟩, by unfold parN; decide +kernel⟩
theorem bX7_goTo : baseOK mX7_goTo 2 := ⟨tw1094, tw74, ⟨by decide +kernel, by decide +kernel⟩, by unfold parN; decide +kernel⟩
theorem bX7_in : baseOK mX7_in 3 := ⟨tw851, tw74, ⟨by decide +kernel, by decide +kernel⟩, by unfold parN; decide +kernel⟩
theorem bX7_init : baseOK mX7_init 0 := ⟨tw751, tw74, ⟨by decide +kernel, by decide +kernel⟩, by unfold parN; decide +kernel⟩
theorem bX7_isFact : baseOK mX7_isFact 1 := ⟨tw847, tw74, ⟨by decide +kernel, by decide +kernel⟩, by unfold parN; decide +kernel⟩
theorem bX7_isIn : baseOK mX7_isIn 2 := ⟨tw1024, tw74, ⟨by decide +kernel, by decide +kernel⟩, by unfold parN; decide +kernel⟩
theorem bX7_isLine : baseOK mX7_isLine 3 := ⟨tw1040, tw74, ⟨by decide +kernel, by decide +kernel⟩, by unfold parN; decide +kernel⟩
theorem bX7_isMethod : baseOK mX7_isMethod 1 := ⟨tw1036, tw74, ⟨by decide +kernel, by decide +kernel⟩, by unfold parN; decide +kernel⟩
theorem bX7_isNumber : baseOK mX7_isNumber 1 := ⟨tw930, tw74, ⟨by decide +kernel, by decide +kernel⟩, by unfold parN; decide +kernel⟩
theorem bX7_isOf : baseOK mX7_isOf 2 := ⟨tw1020, tw74, ⟨by decide +kernel, by decide +kernel⟩, by unfold parN; decide +kernel⟩
theorem bX7_isOver : baseOK mX7_isOver 3 := ⟨tw969, tw74, ⟨by decide +kernel, by decide +kernel⟩, by unfold parN; decide +kernel⟩
theorem bX7_isPlace : baseOK mX7_isPlace 1 := ⟨tw1045, tw74, ⟨by decide +kernel, by decide +kernel⟩, by unfold parN; decide +kernel⟩
theorem bX7_join : baseOK mX7_join 3 := ⟨tw922, tw74, ⟨by decide +kernel, by decide +kernel⟩, by unfold parN; decide +kernel⟩
theorem bX7_left : baseOK mX7_left 2 := ⟨tw944, tw74, ⟨by decide +kernel, by decide +kernel⟩, by unfold parN; decide +kernel⟩
theorem bX7_less : baseOK mX7_less 2 := ⟨tw905, tw74, ⟨by decide +kernel, by decide +kernel⟩, by unfold parN; decide +kernel⟩
theorem bX7_line : baseOK mX7_line 1 := ⟨tw1139, tw74, ⟨by decide +kernel, by decide +kernel⟩, by unfold parN; decide +kernel⟩
theorem bX7_look : baseOK mX7_look 2 := ⟨tw1106, tw74, ⟨by decide +kernel, by decide +kernel⟩, by unfold parN; decide +kernel⟩
theorem bX7_meet : baseOK mX7_meet 3 := ⟨tw899, tw74, ⟨by decide +kernel, by decide +kernel⟩, by unfold parN; decide +kernel⟩
theorem bX7_method : baseOK mX7_method 0 := ⟨tw1028, tw74, ⟨by decide +kernel, by decide +kernel⟩, by unfold parN; decide +kernel⟩
theorem bX7_more : baseOK mX7_more 2 := ⟨tw902, tw74, ⟨by decide +kernel, by decide +kernel⟩, by unfold parN; decide +kernel⟩
theorem bX7_move : baseOK mX7_move 2 := ⟨tw1002, tw74, ⟨by decide +kernel, by decide +kernel⟩, by unfold parN; decide +kernel⟩
theorem bX7_multiply : baseOK mX7_multiply 0 := ⟨tw985, tw74, ⟨by decide +kernel, by decide +kernel⟩, by unfold parN; decide +kernel⟩
theorem bX7_narrow : baseOK mX7_narrow 1 := ⟨tw1011, tw74, ⟨by decide +kernel, by decide +kernel⟩, by unfold parN; decide +kernel⟩
theorem bX7_nothing : baseOK mX7_nothing 1 := ⟨tw859, tw74, ⟨by decide +kernel, by decide +kernel⟩, by unfold parN; decide +kernel⟩
theorem bX7_now : baseOK mX7_now 1 := ⟨tw1143, tw74, ⟨by decide +kernel, by decide +kernel⟩, by unfold parN; decide +kernel⟩
theorem bX7_number : baseOK mX7_number 2 := ⟨tw891, tw74, ⟨by decide +kernel, by decide +kernel⟩, by unfold parN; decide +kernel⟩
theorem bX7_numbers : baseOK mX7_numbers 2 := ⟨tw1122, tw74, ⟨by decide +kernel, by decide +kernel⟩, by unfold parN; decide +kernel⟩
theorem bX7_odd : baseOK mX7_odd 1 := ⟨tw947, tw74, ⟨by decide +kernel, by decide +kernel⟩, by unfold parN; decide +kernel⟩
theorem bX7_oddProduct : baseOK mX7_oddProduct 0 := ⟨tw989, tw74, ⟨by decide +kernel, by decide +kernel⟩, by unfold parN; decide +kernel⟩
theorem bX7_op : baseOK mX7_op 4 := ⟨tw1032, tw74, ⟨by decide +kernel, by decide +kernel⟩, by unfold parN; decide +kernel⟩
theorem bX7_put : baseOK mX7_put 5 := ⟨tw855, tw74, ⟨by decide +kernel, by decide +kernel⟩, by unfold parN; decide +kernel⟩
theorem bX7_put_ : baseOK mX7_put_ 2 := ⟨tw1126, tw74, ⟨by decide +kernel, by decide +kernel⟩, by unfold parN; decide +kernel⟩
theorem bX7_ran : baseOK mX7_ran 1 := ⟨tw1147, tw74, ⟨by decide +kernel, by decide +kernel⟩, by unfold parN; decide +kernel⟩
theorem bX7_ready : baseOK mX7_ready 0 := ⟨tw1074, tw74, ⟨by decide +kernel, by decide +kernel⟩, by unfold parN; decide +kernel⟩
theorem bX7_reckon : baseOK mX7_reckon 3 := ⟨tw955, tw74, ⟨by decide +kernel, by decide +kernel⟩, by unfold parN; decide +kernel⟩
theorem bX7_rem : baseOK mX7_rem 2 := ⟨tw883, tw74, ⟨by decide +kernel, by decide +kernel⟩, by unfold parN; decide +kernel⟩
theorem bX7_rest : baseOK mX7_rest 3 := ⟨tw913, tw74, ⟨by decide +kernel, by decide +kernel⟩, by unfold parN; decide +kernel⟩
theorem bX7_restOf : baseOK mX7_restOf 1 := ⟨tw934, tw74, ⟨by decide +kernel, by decide +kernel⟩, by unfold parN; decide +kernel⟩
theorem bX7_ripple : baseOK mX7_ripple 4 := ⟨tw977, tw74, ⟨by decide +kernel, by decide +kernel⟩, by unfold parN; decide +kernel⟩
theorem bX7_setRest : baseOK mX7_setRest 3 := ⟨tw909, tw74, ⟨by decide +kernel, by decide +kernel⟩, by unfold parN; decide +kernel⟩
theorem bX7_sharpen : baseOK mX7_sharpen 1 := ⟨tw863, tw74, ⟨by decide +kernel, by decide +kernel⟩, by unfold parN; decide +kernel⟩
theorem bX7_shift : baseOK mX7_shift 1 := ⟨tw997, tw74, ⟨by decide +kernel, by decide +kernel⟩, by unfold parN; decide +kernel⟩
theorem bX7_some : baseOK mX7_some 1 := ⟨tw1066, tw74, ⟨by decide +kernel, by decide +kernel⟩, by unfold parN; decide +kernel⟩
theorem bX7_sum : baseOK mX7_sum 2 := ⟨tw1114, tw74, ⟨by decide +kernel, by decide +kernel⟩, by unfold parN; decide +kernel⟩
theorem bX7_table : baseOK mX7_table 2 := ⟨tw1050, tw74, ⟨by decide +kernel, by decide +kernel⟩, by unfold parN; decide +kernel⟩
theorem bX7_told : baseOK mX7_told 2 := ⟨tw1015, tw74, ⟨by decide +kernel, by decide +kernel⟩, by unfold parN; decide +kernel⟩
theorem bX7_turn : baseOK mX7_turn 2 := ⟨tw973, tw74, ⟨by decide +kernel, by decide +kernel⟩, by unfold parN; decide +kernel⟩
theorem bX7_up : baseOK mX7_up 3 := ⟨tw871, tw74, ⟨by decide +kernel, by decide +kernel⟩, by unfold parN; decide +kernel⟩
theorem bX7_walk : baseOK mX7_walk 2 := ⟨tw1130, tw74, ⟨by decide +kernel, by decide +kernel⟩, by unfold parN; decide +kernel⟩
theorem bX7_widen : baseOK mX7_widen 3 := ⟨tw1098, tw74, ⟨by decide +kernel, by decide +kernel⟩, by unfold parN; decide +kernel⟩
theorem bX7_work : baseOK mX7_work 2 := ⟨tw1070, tw74, ⟨by decide +kernel, by decide +kernel⟩, by unfold parN; decide +kernel⟩
theorem lX6_27 : lkIN RX6 27 mX5_init := ⟨⟨"BitCongruences", tn92⟩, tw93, rfl, rfl⟩
theorem lX6_34 : lkI RX6 34 mX0_init := ⟨tw113, tw114, rfl, rfl⟩
theorem lX6_41 : lkI RX6 41 mX2_init := ⟨tw184, tw185, rfl, rfl⟩
theorem lX6_48 : lkIN RX6 48 mX4_init := ⟨⟨"BitCongruences", tn214⟩, tw215, rfl, rfl⟩
theorem lX6_57 : lkI RX6 57 mX1_init := ⟨tw235, tw120, rfl, rfl⟩
theorem lX6_65 : lkV RX6 65 mX6_factAt := ⟨tw271, tw273, tw0⟩
theorem lX6_69 : lkV RX6 69 mX1_makeAll := ⟨tw275, tw276, tw277⟩
theorem lX6_79 : lkV RX6 79 mX1_sharpen := ⟨tw279, tw280, tw281⟩
theorem lX6_82 : lkS RX6 82 mX6_oneUnlessNone := ⟨tw308, tw309⟩
theorem lX6_92 : lkV RX6 92 mX6_meetBesides := ⟨tw315, tw317, tw4⟩
theorem lX6_98 : lkS RX6 98 mX6_restBy := ⟨tw334, tw297⟩
theorem lX6_105 : lkV RX6 105 mX1_becomeJoin := ⟨tw339, tw340, tw341⟩
theorem lX6_109 : lkV RX6 109 mX1_becomeMeet := ⟨tw319, tw320, tw321⟩
theorem lX6_112 : lkV RX6 112 mX0_work := ⟨tw375, tw376, tw377⟩
theorem lX6_116 : lkV RX6 116 mX1_copy := ⟨tw486, tw344, tw345⟩
theorem lX6_124 : lkV RX6 124 mX1_holds := ⟨tw495, tw496, tw497⟩
theorem lX6_128 : lkI RX6 128 mX3_init := ⟨tw504, tw505, rfl, rfl⟩
theorem lX6_129 : lkV RX6 129 mX6_routineAt := ⟨tw563, tw565, tw9⟩
theorem lX6_133 : lkS RX6 133 mX6_isLine := ⟨tw567, tw568⟩
theorem lX6_140 : lkV RX6 140 mX3_addLine := ⟨tw573, tw574, tw575⟩
theorem lX6_148 : lkV RX6 148 mX5_addNumber := ⟨tw581, tw582, tw583⟩
theorem lX6_155 : lkS RX6 155 mX6_isPlace := ⟨tw570, tw571⟩
theorem lX6_162 : lkV RX6 162 mX2_begin := ⟨tw593, tw594, tw595⟩
theorem lX6_166 : lkV RX6 166 mX2_someWait := ⟨tw618, tw619, tw620⟩
theorem lX6_170 : lkV RX6 170 mX2_workLine := ⟨tw622, tw623, tw624⟩
theorem lX6_174 : lkV RX6 174 mX2_end := ⟨tw664, tw665, tw666⟩
theorem lX6_184 : lkV RX6 184 mX1_makeNone := ⟨tw677, tw304, tw305⟩
theorem lX6_187 : lkV RX6 187 mX3_reachedLines := ⟨tw682, tw683, tw684⟩
theorem lX6_191 : lkV RX6 191 mX3_givenUpLines := ⟨tw686, tw687, tw688⟩
theorem lX6_194 : lkV RX6 194 mX3_constants := ⟨tw691, tw692, tw693⟩
theorem lX6_200 : lkV RX6 200 mX3_allows := ⟨tw704, tw705, tw706⟩
theorem lX6_204 : lkV RX6 204 mX4_begin := ⟨tw709, tw710, tw711⟩
theorem lX6_219 : lkS RX6 219 mX6_withoutTwos := ⟨tw364, tw365⟩
theorem lX0_11 : lkI RX0 11 mX1_init := ⟨tw119, tw120, rfl, rfl⟩
theorem lX0_21 : lkV RX0 21 mX1_makeConstant := ⟨tw166, tw167, tw168⟩
theorem lX0_41 : lkS RX0 41 mJ13_bitCount_95d88 := ⟨tw400, tw401⟩
theorem lX0_47 : lkV RX0 47 mX1_isConstant := ⟨tw380, tw348, tw349⟩
theorem lX0_58 : lkV RX0 58 mX1_makeNone := ⟨tw379, tw304, tw305⟩
theorem lX0_61 : lkS RX0 61 mX0_constant := ⟨tw381, tw382⟩
theorem lX0_65 : lkV RX0 65 mX1_makeAll := ⟨tw396, tw276, tw277⟩
theorem lX0_68 : lkS RX0 68 mX0_givesUp := ⟨tw397, tw398⟩
theorem lX0_72 : lkS RX0 72 mX0_plus := ⟨tw406, tw407⟩
theorem lX0_76 : lkS RX0 76 mX0_minus := ⟨tw425, tw426⟩
theorem lX0_79 : lkS RX0 79 mX0_times := ⟨tw431, tw432⟩
theorem lX0_82 : lkS RX0 82 mX0_bitwise := ⟨tw451, tw452⟩
theorem lX0_86 : lkV RX0 86 mX0_shifted := ⟨tw454, tw456, tw5⟩
theorem lX0_89 : lkS RX0 89 mX0_quotient := ⟨tw474, tw475⟩
theorem lX0_93 : lkS RX0 93 mX0_remainder := ⟨tw477, tw478⟩
theorem lX0_96 : lkS RX0 96 mX0_turned := ⟨tw480, tw481⟩
theorem lX0_100 : lkS RX0 100 mX0_narrowed := ⟨tw483, tw484⟩
theorem lX0_104 : lkV RX0 104 mX1_sharpen := ⟨tw472, tw280, tw281⟩
theorem lX0_107 : lkS RX0 107 mX0_stops := ⟨tw384, tw385⟩
theorem lX0_111 : lkS RX0 111 mX0_number := ⟨tw387, tw388⟩
theorem lX0_118 : lkV RX0 118 mX1_becomeBitSum := ⟨tw409, tw410, tw411⟩
theorem lX0_122 : lkSN RX0 122 mX6_sumWraps := ⟨⟨"BitCongruences", tn413⟩, tw414⟩
theorem lX0_129 : lkV RX0 129 mX1_countedModulus := ⟨tw416, tw355, tw356⟩
theorem lX0_133 : lkSN RX0 133 mX6_commonDivisor := ⟨⟨"BitCongruences", tn417⟩, tw359⟩
theorem lX0_137 : lkSN RX0 137 mX6_oddPart := ⟨⟨"BitCongruences", tn418⟩, tw362⟩
theorem lX0_141 : lkV RX0 141 mX1_countedRest := ⟨tw419, tw369, tw370⟩
theorem lX0_144 : lkSN RX0 144 mX6_restBy := ⟨⟨"BitCongruences", tn420⟩, tw297⟩
theorem lX0_147 : lkV RX0 147 mX1_limit := ⟨tw421, tw422, tw423⟩
theorem lX0_151 : lkSN RX0 151 mX6_differenceWraps := ⟨⟨"BitCongruences", tn428⟩, tw429⟩
theorem lX0_154 : lkS RX0 154 mX0_productBits := ⟨tw434, tw435⟩
theorem lX0_157 : lkSN RX0 157 mX6_productWraps := ⟨⟨"BitCongruences", tn437⟩, tw438⟩
theorem lX0_160 : lkS RX0 160 mX0_productModulus := ⟨tw440, tw441⟩
theorem lX0_164 : lkS RX0 164 mJ9_min_f86c9 := ⟨tw449, tw327⟩
theorem lX0_169 : lkS RX0 169 mJ9_max_f86c9 := ⟨tw450, tw324⟩
theorem lX0_175 : lkS RX0 175 mX0_multipliedModulus := ⟨tw443, tw444⟩
theorem lX0_181 : lkS RX0 181 mJ9_abs_067f4 := ⟨tw446, tw373⟩
theorem lX0_184 : lkSN RX0 184 mX6_withoutTwos := ⟨⟨"BitCongruences", tn447⟩, tw365⟩
theorem lX0_189 : lkV RX0 189 mX0_move := ⟨tw458, tw460, tw6⟩
theorem lX0_193 : lkV RX0 193 mX1_becomeJoin := ⟨tw473, tw340, tw341⟩
theorem lX0_196 : lkV RX0 196 mX1_copy := ⟨tw462, tw344, tw345⟩
theorem lX0_200 : lkV RX0 200 mX0_moveLeft := ⟨tw463, tw465, tw7⟩
theorem lX0_204 : lkV RX0 204 mX1_become := ⟨tw467, tw172, tw173⟩
theorem lX0_208 : lkV RX0 208 mX0_moveRightZeros := ⟨tw468, tw470, tw8⟩
theorem lX1_25 : lkV RX1 25 mX1_become := ⟨tw171, tw172, tw173⟩
theorem lX1_44 : lkSN RX1 44 mX6_restBy := ⟨⟨"BitCongruences", tn296⟩, tw297⟩
theorem lX1_48 : lkV RX1 48 mX1_isConstant := ⟨tw347, tw348, tw349⟩
theorem lX1_52 : lkV RX1 52 mX1_fitBits := ⟨tw283, tw285, tw1⟩
theorem lX1_55 : lkV RX1 55 mX1_fitRest := ⟨tw292, tw294, tw2⟩
theorem lX1_58 : lkV RX1 58 mX1_learnBits := ⟨tw299, tw301, tw3⟩
theorem lX1_61 : lkV RX1 61 mX1_makeNone := ⟨tw303, tw304, tw305⟩
theorem lX1_64 : lkV RX1 64 mX1_makeConstant := ⟨tw307, tw167, tw168⟩
theorem lX1_68 : lkSN RX1 68 mX6_leastWithBits := ⟨⟨"BitCongruences", tn287⟩, tw288⟩
theorem lX1_72 : lkV RX1 72 mX1_copy := ⟨tw343, tw344, tw345⟩
theorem lX1_76 : lkS RX1 76 mX1_joinModulus := ⟨tw351, tw352⟩
theorem lX1_80 : lkS RX1 80 mJ9_min_f86c9 := ⟨tw326, tw327⟩
theorem lX1_85 : lkS RX1 85 mJ9_max_f86c9 := ⟨tw323, tw324⟩
theorem lX1_88 : lkV RX1 88 mX1_countedRest := ⟨tw368, tw369, tw370⟩
theorem lX1_92 : lkV RX1 92 mX1_sharpen := ⟨tw329, tw280, tw281⟩
theorem lX1_95 : lkV RX1 95 mX1_countedModulus := ⟨tw354, tw355, tw356⟩
theorem lX1_98 : lkSN RX1 98 mX6_commonDivisor := ⟨⟨"BitCongruences", tn358⟩, tw359⟩
theorem lX1_101 : lkSN RX1 101 mX6_oddPart := ⟨⟨"BitCongruences", tn361⟩, tw362⟩
theorem lX1_105 : lkS RX1 105 mJ9_abs_067f4 := ⟨tw372, tw373⟩
theorem lX2_11 : lkI RX2 11 mX0_init := ⟨tw189, tw114, rfl, rfl⟩
theorem lX2_24 : lkI RX2 24 mX1_init := ⟨tw191, tw120, rfl, rfl⟩
theorem lX2_52 : lkV RX2 52 mX1_copy := ⟨tw597, tw344, tw345⟩
theorem lX2_56 : lkV RX2 56 mX2_send := ⟨tw598, tw600, tw10⟩
theorem lX2_60 : lkV RX2 60 mX2_someWait := ⟨tw668, tw619, tw620⟩
theorem lX2_64 : lkS RX2 64 mX2_reachAll := ⟨tw669, tw670⟩
theorem lX2_78 : lkV RX2 78 mX1_makeAll := ⟨tw672, tw276, tw277⟩
theorem lX2_81 : lkV RX2 81 mX2_fetch := ⟨tw626, tw628, tw13⟩
theorem lX2_93 : lkV RX2 93 mX1_makeConstant := ⟨tw630, tw167, tw168⟩
theorem lX2_97 : lkV RX2 97 mX2_lookUp := ⟨tw631, tw633, tw14⟩
theorem lX2_101 : lkV RX2 101 mX2_branch := ⟨tw637, tw639, tw15⟩
theorem lX2_105 : lkV RX2 105 mX0_work := ⟨tw663, tw376, tw377⟩
theorem lX2_109 : lkV RX2 109 mX1_makeNone := ⟨tw635, tw304, tw305⟩
theorem lX2_117 : lkV RX2 117 mX1_holds := ⟨tw636, tw496, tw497⟩
theorem lX2_125 : lkV RX2 125 mX1_becomeJoin := ⟨tw610, tw340, tw341⟩
theorem lX2_129 : lkS RX2 129 mX2_learnBit := ⟨tw641, tw642⟩
theorem lX2_133 : lkV RX2 133 mX1_becomeMeet := ⟨tw644, tw320, tw321⟩
theorem lX2_136 : lkS RX2 136 mX2_keepApart := ⟨tw645, tw646⟩
theorem lX2_140 : lkS RX2 140 mX2_keepBelow := ⟨tw649, tw650⟩
theorem lX2_143 : lkS RX2 143 mX2_keepAbove := ⟨tw656, tw657⟩
theorem lX2_150 : lkS RX2 150 mX2_keepFrom := ⟨tw659, tw660⟩
theorem lX2_157 : lkS RX2 157 mX2_keepUpTo := ⟨tw652, tw653⟩
theorem lX2_166 : lkV RX2 166 mX1_sharpen := ⟨tw613, tw280, tw281⟩
theorem lX2_169 : lkV RX2 169 mX1_isConstant := ⟨tw648, tw348, tw349⟩
theorem lX2_176 : lkS RX2 176 mJ9_max_f86c9 := ⟨tw662, tw324⟩
theorem lX2_182 : lkS RX2 182 mJ9_min_f86c9 := ⟨tw655, tw327⟩
theorem lX2_185 : lkV RX2 185 mX2_someComeToNone := ⟨tw602, tw604, tw11⟩
theorem lX2_188 : lkV RX2 188 mX2_merge := ⟨tw606, tw608, tw12⟩
theorem lX2_195 : lkV RX2 195 mX1_isLike := ⟨tw614, tw615, tw616⟩
theorem lX3_45 : lkI RX3 45 mX1_init := ⟨tw509, tw120, rfl, rfl⟩
theorem lX3_46 : lkV RX3 46 mX1_holds := ⟨tw708, tw496, tw497⟩
theorem lX3_50 : lkS RX3 50 mX0_givesUp := ⟨tw690, tw398⟩
theorem lX3_56 : lkV RX3 56 mX1_isConstant := ⟨tw695, tw348, tw349⟩
theorem lX4_30 : lkV RX4 30 mX4_look := ⟨tw713, tw715, tw16⟩
theorem lX4_34 : lkV RX4 34 mX4_step := ⟨tw718, tw720, tw17⟩
theorem lX4_38 : lkS RX4 38 mJ9_min_7cf53 := ⟨tw736, tw737⟩
theorem lX4_52 : lkV RX4 52 mX1_holds := ⟨tw717, tw496, tw497⟩
theorem lX4_68 : lkV RX4 68 mX4_lookUp := ⟨tw722, tw724, tw18⟩
theorem lX4_72 : lkV RX4 72 mX4_compute := ⟨tw730, tw732, tw19⟩
theorem lX4_76 : lkV RX4 76 mX5_has := ⟨tw726, tw727, tw728⟩
theorem lX4_85 : lkS RX4 85 mX0_stops := ⟨tw734, tw385⟩
theorem lX4_90 : lkS RX4 90 mX0_number := ⟨tw735, tw388⟩
theorem lL_9 : lkI RL 9 mX6_init := ⟨tw80, tw81, rfl, rfl⟩
theorem lL_12 : lkI RL 12 mX7_init := ⟨tw749, tw750, rfl, rfl⟩
theorem lL_15 : lkV RL 15 mX6_fact := ⟨tw267, tw268, tw269⟩
theorem lL_19 : lkV RL 19 mX7_fact := ⟨tw841, tw842, tw843⟩
theorem lL_20 : lkV RL 20 mX6_bits := ⟨tw311, tw312, tw313⟩
theorem lL_23 : lkV RL 23 mX7_bits := ⟨tw892, tw893, tw894⟩
theorem lL_24 : lkV RL 24 mX6_rest := ⟨tw330, tw331, tw332⟩
theorem lL_28 : lkV RL 28 mX7_rest := ⟨tw910, tw911, tw912⟩
theorem lL_29 : lkV RL 29 mX6_act := ⟨tw335, tw336, tw337⟩
theorem lL_33 : lkV RL 33 mX7_act := ⟨tw914, tw915, tw916⟩
theorem lL_34 : lkV RL 34 mX6_told := ⟨tw487, tw488, tw489⟩
theorem lL_38 : lkV RL 38 mX7_told := ⟨tw1012, tw1013, tw1014⟩
theorem lL_39 : lkV RL 39 mX6_isOf := ⟨tw491, tw492, tw493⟩
theorem lL_43 : lkV RL 43 mX7_isOf := ⟨tw1017, tw1018, tw1019⟩
theorem lL_44 : lkV RL 44 mX6_method := ⟨tw499, tw500, tw501⟩
theorem lL_48 : lkV RL 48 mX7_method := ⟨tw1025, tw1026, tw1027⟩
theorem lL_49 : lkV RL 49 mX6_op := ⟨tw559, tw560, tw561⟩
theorem lL_52 : lkV RL 52 mX7_op := ⟨tw1029, tw1030, tw1031⟩
theorem lL_53 : lkV RL 53 mX6_table := ⟨tw577, tw578, tw579⟩
theorem lL_57 : lkV RL 57 mX7_table := ⟨tw1047, tw1048, tw1049⟩
theorem lL_58 : lkV RL 58 mX6_given := ⟨tw585, tw586, tw587⟩
theorem lL_62 : lkV RL 62 mX7_given := ⟨tw1051, tw1052, tw1053⟩
theorem lL_63 : lkV RL 63 mX6_find := ⟨tw589, tw590, tw591⟩
theorem lL_67 : lkV RL 67 mX7_find := ⟨tw1055, tw1056, tw1057⟩
theorem lL_68 : lkV RL 68 mX6_found := ⟨tw673, tw674, tw675⟩
theorem lL_71 : lkV RL 71 mX7_found := ⟨tw1107, tw1108, tw1109⟩
theorem lL_72 : lkV RL 72 mX6_sum := ⟨tw678, tw679, tw680⟩
theorem lL_76 : lkV RL 76 mX7_sum := ⟨tw1111, tw1112, tw1113⟩
theorem lL_77 : lkV RL 77 mX6_put := ⟨tw696, tw697, tw698⟩
theorem lL_81 : lkV RL 81 mX7_put_ := ⟨tw1123, tw1124, tw1125⟩
theorem lL_82 : lkV RL 82 mX6_walk := ⟨tw700, tw701, tw702⟩
theorem lL_85 : lkV RL 85 mX7_walk := ⟨tw1127, tw1128, tw1129⟩
theorem lL_86 : lkV RL 86 mX6_now := ⟨tw739, tw740, tw741⟩
theorem lL_90 : lkV RL 90 mX7_now := ⟨tw1140, tw1141, tw1142⟩
theorem lL_91 : lkV RL 91 mX6_ran := ⟨tw743, tw744, tw745⟩
theorem lL_94 : lkV RL 94 mX7_ran := ⟨tw1144, tw1145, tw1146⟩
theorem lX7_79 : lkV RX7 79 mX7_all := ⟨tw753, tw755, tw20⟩
theorem lX7_89 : lkS RX7 89 mX7_in := ⟨tw849, tw850⟩
theorem lX7_93 : lkS RX7 93 mX7_rem := ⟨tw881, tw882⟩
theorem lX7_101 : lkV RX7 101 mX7_up := ⟨tw868, tw870, tw25⟩
theorem lX7_105 : lkV RX7 105 mX7_byBits := ⟨tw864, tw866, tw24⟩
theorem lX7_109 : lkV RX7 109 mX7_byRest := ⟨tw877, tw879, tw27⟩
theorem lX7_112 : lkV RX7 112 mX7_byEnds := ⟨tw884, tw886, tw28⟩
theorem lX7_115 : lkV RX7 115 mX7_nothing := ⟨tw856, tw858, tw22⟩
theorem lX7_118 : lkV RX7 118 mX7_number := ⟨tw888, tw890, tw29⟩
theorem lX7_122 : lkV RX7 122 mX7_down := ⟨tw873, tw875, tw26⟩
theorem lX7_127 : lkS RX7 127 mX7_left := ⟨tw942, tw943⟩
theorem lX7_130 : lkV RX7 130 mX7_isNumber := ⟨tw927, tw929, tw34⟩
theorem lX7_133 : lkV RX7 133 mX7_copy := ⟨tw923, tw925, tw33⟩
theorem lX7_137 : lkV RX7 137 mX7_restOf := ⟨tw931, tw933, tw35⟩
theorem lX7_141 : lkV RX7 141 mX7_byOf := ⟨tw935, tw937, tw36⟩
theorem lX7_144 : lkS RX7 144 mX7_common := ⟨tw939, tw940⟩
theorem lX7_147 : lkS RX7 147 mX7_odd := ⟨tw945, tw946⟩
theorem lX7_151 : lkS RX7 151 mX7_less := ⟨tw903, tw904⟩
theorem lX7_154 : lkS RX7 154 mX7_more := ⟨tw900, tw901⟩
theorem lX7_157 : lkV RX7 157 mX7_put := ⟨tw852, tw854, tw21⟩
theorem lX7_161 : lkV RX7 161 mX7_setRest := ⟨tw906, tw908, tw31⟩
theorem lX7_165 : lkV RX7 165 mX7_sharpen := ⟨tw860, tw862, tw23⟩
theorem lX7_170 : lkS RX7 170 mX7_alone := ⟨tw957, tw958⟩
theorem lX7_183 : lkS RX7 183 mX7_reckon := ⟨tw953, tw954⟩
theorem lX7_187 : lkV RX7 187 mX7_add := ⟨tw963, tw965, tw38⟩
theorem lX7_191 : lkV RX7 191 mX7_multiply := ⟨tw982, tw984, tw42⟩
theorem lX7_194 : lkV RX7 194 mX7_bitwise := ⟨tw990, tw992, tw44⟩
theorem lX7_197 : lkV RX7 197 mX7_shift := ⟨tw994, tw996, tw45⟩
theorem lX7_200 : lkV RX7 200 mX7_divide := ⟨tw1004, tw1006, tw47⟩
theorem lX7_203 : lkV RX7 203 mX7_turn := ⟨tw970, tw972, tw39⟩
theorem lX7_206 : lkV RX7 206 mX7_narrow := ⟨tw1008, tw1010, tw48⟩
theorem lX7_209 : lkV RX7 209 mX7_bit := ⟨tw978, tw980, tw41⟩
theorem lX7_213 : lkS RX7 213 mX7_isOver := ⟨tw967, tw968⟩
theorem lX7_216 : lkV RX7 216 mX7_ripple := ⟨tw974, tw976, tw40⟩
theorem lX7_220 : lkV RX7 220 mX7_oddProduct := ⟨tw986, tw988, tw43⟩
theorem lX7_226 : lkV RX7 226 mX7_move := ⟨tw999, tw1001, tw46⟩
theorem lX7_229 : lkV RX7 229 mX7_join := ⟨tw919, tw921, tw32⟩
theorem lX7_237 : lkS RX7 237 mX7_isFact := ⟨tw845, tw846⟩
theorem lX7_240 : lkV RX7 240 mX7_meet := ⟨tw896, tw898, tw30⟩
theorem lX7_245 : lkV RX7 245 mX7_does := ⟨tw949, tw951, tw37⟩
theorem lX7_251 : lkV RX7 251 mX7_isIn := ⟨tw1021, tw1023, tw49⟩
theorem lX7_264 : lkS RX7 264 mX7_isPlace := ⟨tw1043, tw1044⟩
theorem lX7_267 : lkV RX7 267 mX7_isMethod := ⟨tw1033, tw1035, tw50⟩
theorem lX7_272 : lkS RX7 272 mX7_isLine := ⟨tw1038, tw1039⟩
theorem lX7_276 : lkV RX7 276 mX7_cell := ⟨tw1059, tw1061, tw51⟩
theorem lX7_280 : lkV RX7 280 mX7_some := ⟨tw1063, tw1065, tw52⟩
theorem lX7_283 : lkV RX7 283 mX7_work := ⟨tw1067, tw1069, tw53⟩
theorem lX7_286 : lkV RX7 286 mX7_ready := ⟨tw1071, tw1073, tw54⟩
theorem lX7_289 : lkV RX7 289 mX7_asked := ⟨tw1075, tw1077, tw55⟩
theorem lX7_293 : lkV RX7 293 mX7_goTo := ⟨tw1091, tw1093, tw59⟩
theorem lX7_296 : lkV RX7 296 mX7_look := ⟨tw1103, tw1105, tw62⟩
theorem lX7_299 : lkV RX7 299 mX7_apart := ⟨tw1079, tw1081, tw56⟩
theorem lX7_302 : lkV RX7 302 mX7_atMost := ⟨tw1083, tw1085, tw57⟩
theorem lX7_306 : lkV RX7 306 mX7_atLeast := ⟨tw1087, tw1089, tw58⟩
theorem lX7_309 : lkV RX7 309 mX7_widen := ⟨tw1095, tw1097, tw60⟩
theorem lX7_312 : lkV RX7 312 mX7_alike := ⟨tw1099, tw1101, tw61⟩
theorem lX7_316 : lkV RX7 316 mX7_gives := ⟨tw1115, tw1117, tw63⟩
theorem lX7_319 : lkV RX7 319 mX7_numbers := ⟨tw1119, tw1121, tw64⟩
theorem lX7_330 : lkV RX7 330 mX7_check := ⟨tw1132, tw1134, tw65⟩
theorem lX7_333 : lkV RX7 333 mX7_line := ⟨tw1136, tw1138, tw66⟩
end
section
theorem V.pick {G : Ctx} {X : Xt} {nL cells slots : Nat} {Q : State → Prop} {pc : Nat} {lv lv' : List (Nat × Value)} {st : List Value} {M : Mem} (ks : List Nat) (h : ks.filterMap (fun i => lv[i]?) = lv') (k : V G X nL cells slots Q pc lv' st M) : V G X nL cells slots Q pc lv st M := by
  intro H locs ls hl hR hS
  refine k H locs ls ⟨hl.1, hl.2.1, fun q hq => ?_⟩ hR hS
  obtain ⟨q', hq', rfl⟩ := List.mem_map.mp hq
  subst h
  obtain ⟨i, -, hi⟩ := List.mem_filterMap.mp hq'
  exact hl.2.2 _ (List.mem_map.mpr ⟨q', List.mem_of_getElem? hi, rfl⟩)
/-- nothing was made, no reference set -/
def Sm (M N : Mem) : Prop := N.1 = M.1 ∧ N.2.1 = M.2.1
theorem Sm.rf {M : Mem} : Sm M M := ⟨rfl, rfl⟩
theorem Sm.tr {M N O : Mem} (h : Sm M N) (h2 : Sm N O) : Sm M O := ⟨h2.1.trans h.1, h2.2.trans h.2⟩
theorem isO.sm {M N : Mem} {a c : Nat} (h : isO M a c) (s : Sm M N) : isO N a c := ⟨h.1, h.2.1, by show a ≤ N.1; rw [s.1]; exact h.2.2⟩
def jmax (a b : Int64) : Int64 := if b < a then a else b
def jmin (a b : Int64) : Int64 := if b < a then b else a
def jabs (a : Int64) : Int64 := if 0 < a then a else -a
def imin (a b : Int32) : Int32 := if b < a then b else a
theorem V.mmaxL {G : Ctx} {X : Xt} {own : String} {cc : ByteArray} {nL : Nat} {ret : Option FieldType} {cells slots : Nat} {Q : State → Prop} {pc x : Nat} {lv : List (Nat × Value)} {st : List Value} {M : Mem} {a b : Int64} (F : Fx G X own cc nL ret) (hd : decode cc pc = .ok (.invokestatic x, 3)) (hk : lkS own x mJ9_max_f86c9) (hRm : RmOK X.2.2.2.1 0 4) (hcs : cells ≤ X.2.2.2.1.cells ∧ slots ≤ X.2.2.2.1.slots) (hw : (st.map fun v => v.category).sum ≤ 11)
    (k : V G X nL cells slots Q (pc + 3) lv (.long (jmax a b) :: st) M) : V G X nL cells slots Q pc lv (.long b :: .long a :: st) M := by
  intro H locs ls hl hR hS
  obtain ⟨p, l, e, R, s, m, args, below, meth, c0⟩ := X
  obtain ⟨hx, hb, hml, hown, hts, hK, hr, hlocks, hZ⟩ := F
  have h9 : 22 + 4 + 50 * 0 ≤ R.locals := hRm.2
  have hq : ((st.map (cv G)).map fun v => v.category).sum ≤ 11 := by rw [List.map_map]; simp only [Function.comp_def, cv_cat]; exact hw
  exact va_mmax_long hx hb (hml.trans hl.1.symm) hown (hts (.methodLink own x Lib.MathLoose.max_long.x) hk.1) (hts (.static Lib.MathLoose.max_long.x) hk.2) (hts (.initialized "java/lang/Math") bJ9_max_f86c9.2.1) (hts (.code Lib.MathLoose.max_long.x Lib.MathLoose.max_long.code 4 (some .long)) bJ9_max_f86c9.1) (by have := hRm.1; omega) (by show _ ≤ R.locals; omega) hcs.1 hcs.2 hd (k H locs ls hl hR hS)
theorem V.mminL {G : Ctx} {X : Xt} {own : String} {cc : ByteArray} {nL : Nat} {ret : Option FieldType} {cells slots : Nat} {Q : State → Prop} {pc x : Nat} {lv : List (Nat × Value)} {st : List Value} {M : Mem} {a b : Int64} (F : Fx G X own cc nL ret) (hd : decode cc pc = .ok (.invokestatic x, 3)) (hk : lkS own x mJ9_min_f86c9) (hRm : RmOK X.2.2.2.1 0 4) (hcs : cells ≤ X.2.2.2.1.cells ∧ slots ≤ X.2.2.2.1.slots) (hw : (st.map fun v => v.category).sum ≤ 11)
    (k : V G X nL cells slots Q (pc + 3) lv (.long (jmin a b) :: st) M) : V G X nL cells slots Q pc lv (.long b :: .long a :: st) M := by
  intro H locs ls hl hR hS
  obtain ⟨p, l, e, R, s, m, args, below, meth, c0⟩ := X
  obtain ⟨hx, hb, hml, hown, hts, hK, hr, hlocks, hZ⟩ := F
  have h9 : 22 + 4 + 50 * 0 ≤ R.locals := hRm.2
  have hq : ((st.map (cv G)).map fun v => v.category).sum ≤ 11 := by rw [List.map_map]; simp only [Function.comp_def, cv_cat]; exact hw
  exact va_mmin_long hx hb (hml.trans hl.1.symm) hown (hts (.methodLink own x Lib.MathLoose.min_long.x) hk.1) (hts (.static Lib.MathLoose.min_long.x) hk.2) (hts (.initialized "java/lang/Math") bJ9_min_f86c9.2.1) (hts (.code Lib.MathLoose.min_long.x Lib.MathLoose.min_long.code 4 (some .long)) bJ9_min_f86c9.1) (by have := hRm.1; omega) (by show _ ≤ R.locals; omega) hcs.1 hcs.2 hd (k H locs ls hl hR hS)
theorem V.mminI {G : Ctx} {X : Xt} {own : String} {cc : ByteArray} {nL : Nat} {ret : Option FieldType} {cells slots : Nat} {Q : State → Prop} {pc x : Nat} {lv : List (Nat × Value)} {st : List Value} {M : Mem} {a b : Int32} (F : Fx G X own cc nL ret) (hd : decode cc pc = .ok (.invokestatic x, 3)) (hk : lkS own x mJ9_min_7cf53) (hRm : RmOK X.2.2.2.1 0 4) (hcs : cells ≤ X.2.2.2.1.cells ∧ slots ≤ X.2.2.2.1.slots) (hw : (st.map fun v => v.category).sum ≤ 11)
    (k : V G X nL cells slots Q (pc + 3) lv (.int (imin a b) :: st) M) : V G X nL cells slots Q pc lv (.int b :: .int a :: st) M := by
  intro H locs ls hl hR hS
  obtain ⟨p, l, e, R, s, m, args, below, meth, c0⟩ := X
  obtain ⟨hx, hb, hml, hown, hts, hK, hr, hlocks, hZ⟩ := F
  have h9 : 22 + 4 + 50 * 0 ≤ R.locals := hRm.2
  have hq : ((st.map (cv G)).map fun v => v.category).sum ≤ 11 := by rw [List.map_map]; simp only [Function.comp_def, cv_cat]; exact hw
  exact va_mmin hx hb (hml.trans hl.1.symm) hown (hts (.methodLink own x Lib.Math.min.name) hk.1) (hts (.static Lib.Math.min.name) hk.2) (hts (.initialized "java/lang/Math") bJ9_min_7cf53.2.1) (hts (.code Lib.Math.min.name Lib.Math.min.code 2 (some .int)) bJ9_min_7cf53.1) (by have := hRm.1; omega) (by show _ ≤ R.locals; omega) hcs.1 hcs.2 hd (k H locs ls hl hR hS)
theorem V.mabsL {G : Ctx} {X : Xt} {own : String} {cc : ByteArray} {nL : Nat} {ret : Option FieldType} {cells slots : Nat} {Q : State → Prop} {pc x : Nat} {lv : List (Nat × Value)} {st : List Value} {M : Mem} {a : Int64} (F : Fx G X own cc nL ret) (hd : decode cc pc = .ok (.invokestatic x, 3)) (hk : lkS own x mJ9_abs_067f4) (hRm : RmOK X.2.2.2.1 0 4) (hcs : cells ≤ X.2.2.2.1.cells ∧ slots ≤ X.2.2.2.1.slots) (hw : (st.map fun v => v.category).sum ≤ 11)
    (k : V G X nL cells slots Q (pc + 3) lv (.long (jabs a) :: st) M) : V G X nL cells slots Q pc lv (.long a :: st) M := by
  intro H locs ls hl hR hS
  obtain ⟨p, l, e, R, s, m, args, below, meth, c0⟩ := X
  obtain ⟨hx, hb, hml, hown, hts, hK, hr, hlocks, hZ⟩ := F
  have h9 : 22 + 4 + 50 * 0 ≤ R.locals := hRm.2
  have hq : ((st.map (cv G)).map fun v => v.category).sum ≤ 11 := by rw [List.map_map]; simp only [Function.comp_def, cv_cat]; exact hw
  exact va_mabs_long hx hb (hml.trans hl.1.symm) hown (hts (.methodLink own x Lib.MathLoose.abs_long.x) hk.1) (hts (.static Lib.MathLoose.abs_long.x) hk.2) (hts (.initialized "java/lang/Math") bJ9_abs_067f4.2.1) (hts (.code Lib.MathLoose.abs_long.x Lib.MathLoose.abs_long.code 2 (some .long)) bJ9_abs_067f4.1) (by have := hRm.1; omega) (by show _ ≤ R.locals; omega) hcs.1 hcs.2 hd (k H locs ls hl hR hS)
theorem cnt_lt {j n : Nat} {N : Int32} (h : ¬ N ≤ nI j) (hN : N = nI n) (hj : j < 2 ^ 31) (hn : n < 2 ^ 31) : j < n := by
  subst hN
  exact Nat.not_le.mp (fun q => h ((nI_leI hn hj).mpr q))
theorem dn_1 {j : Nat} (h : 0 < j) : nI j - 1 + (-1) = nI (j - 1) - 1 := by
  obtain ⟨i, rfl⟩ : ∃ i, j = i + 1 := ⟨j - 1, by omega⟩
  have e1 : nI (i + 1) - 1 = nI i := nI_pred i
  have e2 : i + 1 - 1 = i := Nat.add_sub_cancel i 1
  rw [e2, e1]
  exact (Int32.sub_eq_add_neg _ _).symm
theorem dn_pos {j : Nat} (h : ¬ nI j - 1 < 0) (hj : j < 2 ^ 31) : 0 < j := by
  rcases Nat.eq_zero_or_pos j with e | e
  · subst e; exact absurd (by decide) h
  · exact e
def swOff (dflt lo hi : Int) (offs : Array Int) (x : Int32) : Int := if x.toInt < lo ∨ hi < x.toInt then dflt else offs.getD (x.toInt - lo).toNat dflt
theorem V.swo {G : Ctx} {X : Xt} {own : String} {cc : ByteArray} {nL : Nat} {ret : Option FieldType} {cells slots : Nat} {Q : State → Prop} {pc tgt : Nat} {lv : List (Nat × Value)} {st : List Value} {M : Mem} {off : Int} {dflt lo hi : Int} {offs : Array Int} {len : Nat} {x : Int32} (F : Fx G X own cc nL ret) (hd : decode cc pc = .ok (.tableswitch dflt lo hi offs, len)) (ho : swOff dflt lo hi offs x = off) (hsz : offs.size = (hi - lo + 1).toNat) (ht : (pc : Int) + off = (tgt : Int)) (k : V G X nL cells slots Q tgt lv st M) : V G X nL cells slots Q pc lv (.int x :: st) M := by
  unfold swOff at ho
  by_cases h : x.toInt < lo ∨ hi < x.toInt
  · rw [if_pos h] at ho
    subst ho
    exact V.sw_out F hd h ht k
  · rw [if_neg h] at ho
    have h1 : ¬ x.toInt < lo := fun q => h (Or.inl q)
    have h2 : ¬ hi < x.toInt := fun q => h (Or.inr q)
    have hlt : (x.toInt - lo).toNat < offs.size := by rw [hsz]; omega
    refine V.sw_in F hd h1 h2 (off := off) ?_ ht k
    rw [← ho, Array.getElem?_eq_getElem hlt, Array.getD_eq_getD_getElem?, Array.getElem?_eq_getElem hlt]
    rfl
theorem sw_dflt {dflt lo hi : Int} {offs : Array Int} {x : Int32} (n : Nat) (hn : (hi - lo + 1).toNat = n) (hs : -2147483648 ≤ lo := by decide) (h : ∀ k : Nat, k < n → x = Int32.ofInt (lo + (k : Int)) → offs.getD k dflt = dflt) : swOff dflt lo hi offs x = dflt := by
  unfold swOff
  by_cases q : x.toInt < lo ∨ hi < x.toInt
  · rw [if_pos q]
  · rw [if_neg q]
    refine h _ (by omega) ?_
    have e : lo + (((x.toInt - lo).toNat : Nat) : Int) = x.toInt := by omega
    rw [e, Int32.ofInt_toInt]
def f_J13_bitCount_95d88_c41  (x41 : Int64) : Int32 := (Int64.toInt32 ((x41 + (jushr x41 16)) + (jushr (x41 + (jushr x41 16)) 32))) &&& 127
def f_J13_bitCount_95d88_c24  (x24 : Int64) : Int32 := f_J13_bitCount_95d88_c41 (((x24 + (jushr x24 4)) &&& 1085102592571150095) + (jushr ((x24 + (jushr x24 4)) &&& 1085102592571150095) 8))
def f_J13_bitCount_95d88 (a : Int64) : Int32 := f_J13_bitCount_95d88_c24 (((a - ((jushr a 1) &&& 6148914691236517205)) &&& 3689348814741910323) + ((jushr (a - ((jushr a 1) &&& 6148914691236517205)) 2) &&& 3689348814741910323))
abbrev p_J13_bitCount_95d88 (M : Mem) (a : Int64) : Option Value → Mem → Prop := fun r N => r = some (.int (f_J13_bitCount_95d88 a)) ∧ N = M
set_option maxRecDepth 100000 in
set_option maxHeartbeats 4000000 in
theorem c_J13_bitCount_95d88 (G : Ctx) (l : Launch) (M : Mem) (a : Int64)  : CT G l 0 mJ13_bitCount_95d88 [.long a] M 0 0 (p_J13_bitCount_95d88 M a) := by
  refine CT.of (by decide) (Nat.le_of_ble_eq_true rfl) ?_
  intro X d hd hl hRm hnm F
  subst hl
  have E : f_J13_bitCount_95d88 a = f_J13_bitCount_95d88 a := rfl
  show V G X 2 0 0 (Qx G X 0 0 (p_J13_bitCount_95d88 M a)) 0 [(0, .long a)] [] M
  refine V.seg F floJ13 cjoJ13 [.lload_n 0, .lload_n 0, .iconst 1, .lushr, .ldc2_w 314, .land, .lsub, .lstore_n 0, .lload_n 0, .ldc2_w 316, .land, .lload_n 0, .iconst 2, .lushr, .ldc2_w 316, .land, .ladd, .lstore_n 0] (by decide +kernel) (pc2 := 24) (lv2 := [(0, .long (((a - ((jushr a 1) &&& 6148914691236517205)) &&& 3689348814741910323) + ((jushr (a - ((jushr a 1) &&& 6148914691236517205)) 2) &&& 3689348814741910323)))]) (st2 := []) (M2 := M) rfl ⟨trivial, trivial, trivial, trivial, trivial, trivial, trivial, (by decide), trivial, trivial, trivial, trivial, trivial, trivial, trivial, trivial, trivial, (by decide), trivial⟩ ?_
  refine (?_ : ∀ (x24 : Int64), f_J13_bitCount_95d88 a = f_J13_bitCount_95d88_c24 x24 → V G X 2 0 0 (Qx G X 0 0 (p_J13_bitCount_95d88 M a)) 24 [(0, .long x24)] [] M) _  E
  intro x24 E
  refine V.seg F floJ13 cjoJ13 [.lload_n 0, .lload_n 0, .iconst 4, .lushr, .ladd, .ldc2_w 318, .land, .lstore_n 0, .lload_n 0, .lload_n 0, .bipush 8, .lushr, .ladd, .lstore_n 0] (by decide +kernel) (pc2 := 41) (lv2 := [(0, .long (((x24 + (jushr x24 4)) &&& 1085102592571150095) + (jushr ((x24 + (jushr x24 4)) &&& 1085102592571150095) 8)))]) (st2 := []) (M2 := M) rfl ⟨trivial, trivial, trivial, trivial, trivial, trivial, trivial, (by decide), trivial, trivial, trivial, trivial, trivial, (by decide), trivial⟩ ?_
  refine (?_ : ∀ (x41 : Int64), f_J13_bitCount_95d88 a = f_J13_bitCount_95d88_c41 x41 → V G X 2 0 0 (Qx G X 0 0 (p_J13_bitCount_95d88 M a)) 41 [(0, .long x41)] [] M) _  E
  intro x41 E
  refine V.seg F floJ13 cjoJ13 [.lload_n 0, .lload_n 0, .bipush 16, .lushr, .ladd, .lstore_n 0, .lload_n 0, .lload_n 0, .bipush 32, .lushr, .ladd, .lstore_n 0, .lload_n 0, .l2i, .bipush 127, .iand] (by decide +kernel) (pc2 := 60) (lv2 := [(0, .long ((x41 + (jushr x41 16)) + (jushr (x41 + (jushr x41 16)) 32)))]) (st2 := [.int ((Int64.toInt32 ((x41 + (jushr x41 16)) + (jushr (x41 + (jushr x41 16)) 32))) &&& 127)]) (M2 := M) rfl ⟨trivial, trivial, trivial, trivial, trivial, (by decide), trivial, trivial, trivial, trivial, trivial, (by decide), trivial, trivial, trivial, trivial, trivial⟩ ?_
  exact V.iret F (by decide +kernel) ⟨congrArg (fun z => some (Value.int z)) E.symm, rfl⟩
theorem ne0_gt1 {m : Int64} (h : 1 < m) : ¬ m = 0 := fun e => absurd h (by rw [e]; decide)
def f_X6_restBy_29  (w0_29 : Int64) : Int64 := w0_29
def f_X6_restBy (v : Int64) (m : Int64) : Int64 := if 1 < m then if 0 ≤ (jrem v m) then f_X6_restBy_29 (jrem v m) else f_X6_restBy_29 ((jrem v m) + m) else 0
abbrev p_X6_restBy (M : Mem) (v : Int64) (m : Int64) : Option Value → Mem → Prop := fun r N => r = some (.long (f_X6_restBy v m)) ∧ N = M
set_option maxRecDepth 100000 in
set_option maxHeartbeats 4000000 in
theorem c_X6_restBy (G : Ctx) (l : Launch) (M : Mem) (v : Int64) (m : Int64)  : CT G l 0 mX6_restBy [.long v, .long m] M 0 0 (p_X6_restBy M v m) := by
  refine CT.of (by decide) (Nat.le_of_ble_eq_true rfl) ?_
  intro X d hd hl hRm hnm F
  subst hl
  have E : f_X6_restBy v m = f_X6_restBy v m := rfl
  show V G X 6 0 0 (Qx G X 0 0 (p_X6_restBy M v m)) 0 [(0, .long v), (2, .long m)] [] M
  refine V.seg F floX6 cjoX6 [.lload_n 2, .lconst 1, .lcmp] (by decide +kernel) (pc2 := 3) (lv2 := [(0, .long v), (2, .long m)]) (st2 := [.int (lg_cmp m 1)]) (M2 := M) rfl ⟨trivial, trivial, trivial, trivial⟩ ?_
  refine V.lc_gt (off := 5) F (by decide +kernel) (tgt := 8) (by decide) (fun h3 => ?_) (fun h3 => ?_)
  · replace E := E.trans (if_pos h3)
    refine V.seg F floX6 cjoX6 [.lload_n 0, .lload_n 2, .lrem, .lstore 4, .lload 4, .lconst 0, .lcmp] (by decide +kernel) (pc2 := 17) (lv2 := [(4, .long (jrem v m)), (0, .long v), (2, .long m)]) (st2 := [.int (lg_cmp (jrem v m) 0)]) (M2 := M) rfl ⟨trivial, trivial, (ne0_gt1 h3), (by decide), trivial, trivial, trivial, trivial⟩ ?_
    have hJ29 : ∀ (w0_29 : Int64), f_X6_restBy v m = f_X6_restBy_29 w0_29 → V G X 6 0 0 (Qx G X 0 0 (p_X6_restBy M v m)) 29 [] [.long w0_29] M := by
      intro w0_29 E
      exact V.lret F (by decide +kernel) ⟨congrArg (fun z => some (Value.long z)) E.symm, rfl⟩
    refine V.lc_ge (off := 10) F (by decide +kernel) (tgt := 27) (by decide) (fun h17 => ?_) (fun h17 => ?_)
    · replace E := E.trans (if_pos h17)
      refine V.seg F floX6 cjoX6 [.lload 4] (by decide +kernel) (pc2 := 29) (lv2 := [(4, .long (jrem v m)), (0, .long v), (2, .long m)]) (st2 := [.long (jrem v m)]) (M2 := M) rfl ⟨trivial, trivial⟩ ?_
      refine V.pick [] rfl ?_
      exact hJ29 (jrem v m)  E
    · replace E := E.trans (if_neg h17)
      refine V.seg F floX6 cjoX6 [.lload 4, .lload_n 2, .ladd, .goto 5] (by decide +kernel) (pc2 := 29) (lv2 := [(4, .long (jrem v m)), (0, .long v), (2, .long m)]) (st2 := [.long ((jrem v m) + m)]) (M2 := M) rfl ⟨trivial, trivial, trivial, (by decide), trivial⟩ ?_
      refine V.pick [] rfl ?_
      exact hJ29 ((jrem v m) + m)  E
  · replace E := E.trans (if_neg h3)
    refine V.seg F floX6 cjoX6 [.lconst 0] (by decide +kernel) (pc2 := 7) (lv2 := [(0, .long v), (2, .long m)]) (st2 := [.long 0]) (M2 := M) rfl ⟨trivial, trivial⟩ ?_
    exact V.lret F (by decide +kernel) ⟨congrArg (fun z => some (Value.long z)) E.symm, rfl⟩
def f_X6_commonDivisor_45 (y4_9 : Int64)  : Int64 := y4_9
def f_X6_commonDivisor_9  : Nat → Int64 → Int64 → Nat → Int64
  | 0, _, _, _ => 0
  | n_ + 1, y4_9, y6_9, j9 => if 200 ≤ (nI j9) then f_X6_commonDivisor_45 y4_9 else if y6_9 = 0 then f_X6_commonDivisor_45 y4_9 else (f_X6_commonDivisor_9 n_) y6_9 (jrem y4_9 y6_9) (j9 + 1)
def f_X6_commonDivisor (a : Int64) (b : Int64) : Int64 := f_X6_commonDivisor_9  201 a b 0
abbrev p_X6_commonDivisor (M : Mem) (a : Int64) (b : Int64) : Option Value → Mem → Prop := fun r N => r = some (.long (f_X6_commonDivisor a b)) ∧ N = M
set_option maxRecDepth 100000 in
set_option maxHeartbeats 4000000 in
theorem c_X6_commonDivisor (G : Ctx) (l : Launch) (M : Mem) (a : Int64) (b : Int64)  : CT G l 0 mX6_commonDivisor [.long a, .long b] M 0 0 (p_X6_commonDivisor M a b) := by
  refine CT.of (by decide) (Nat.le_of_ble_eq_true rfl) ?_
  intro X d hd hl hRm hnm F
  subst hl
  have E : f_X6_commonDivisor a b = f_X6_commonDivisor a b := rfl
  show V G X 11 0 0 (Qx G X 0 0 (p_X6_commonDivisor M a b)) 0 [(0, .long a), (2, .long b)] [] M
  refine V.seg F floX6 cjoX6 [.lload_n 0, .lstore 4, .lload_n 2, .lstore 6, .iconst 0] (by decide +kernel) (pc2 := 7) (lv2 := [(6, .long b), (4, .long a), (0, .long a), (2, .long b)]) (st2 := [.int 0]) (M2 := M) rfl ⟨trivial, (by decide), trivial, (by decide), trivial, trivial⟩ ?_
  refine V.seg F floX6 cjoX6 [.istore 8] (by decide +kernel) (pc2 := 9) (lv2 := [(8, .int 0), (6, .long b), (4, .long a), (0, .long a), (2, .long b)]) (st2 := []) (M2 := M) rfl ⟨(by decide), trivial⟩ ?_
  have hJ9 : ∀ (n_ : Nat) (y4_9 : Int64) (y6_9 : Int64) (j9 : Nat), (j9 ≤ 200) → (200 - j9 < n_) → f_X6_commonDivisor a b = f_X6_commonDivisor_9 n_ y4_9 y6_9 j9 → V G X 11 0 0 (Qx G X 0 0 (p_X6_commonDivisor M a b)) 9 [(4, .long y4_9), (6, .long y6_9), (8, .int (nI j9))] [] M := by
    intro n_
    induction n_ with
    | zero => intro y4_9 y6_9 j9 b9 m9 E; omega
    | succ n_ ih_9 =>
      intro y4_9 y6_9 j9 b9 m9 E
      rw [f_X6_commonDivisor_9] at E
      refine V.seg F floX6 cjoX6 [.iload 8, .sipush 200] (by decide +kernel) (pc2 := 14) (lv2 := [(4, .long y4_9), (6, .long y6_9), (8, .int (nI j9))]) (st2 := [.int 200, .int (nI j9)]) (M2 := M) rfl ⟨trivial, trivial, trivial⟩ ?_
      have hJ45 : f_X6_commonDivisor a b = f_X6_commonDivisor_45 y4_9 → V G X 11 0 0 (Qx G X 0 0 (p_X6_commonDivisor M a b)) 45 [(4, .long y4_9)] [] M := by
        intro E
        refine V.seg F floX6 cjoX6 [.lload 4] (by decide +kernel) (pc2 := 47) (lv2 := [(4, .long y4_9)]) (st2 := [.long y4_9]) (M2 := M) rfl ⟨trivial, trivial⟩ ?_
        exact V.lret F (by decide +kernel) ⟨congrArg (fun z => some (Value.long z)) E.symm, rfl⟩
      refine V.ic_ge (off := 31) F (by decide +kernel) (tgt := 45) (by decide) (fun h14 => ?_) (fun h14 => ?_)
      · replace E := E.trans (if_pos h14)
        refine V.pick [0] rfl ?_
        exact hJ45   E
      · replace E := E.trans (if_neg h14)
        refine V.seg F floX6 cjoX6 [.lload 6, .lconst 0, .lcmp] (by decide +kernel) (pc2 := 21) (lv2 := [(4, .long y4_9), (6, .long y6_9), (8, .int (nI j9))]) (st2 := [.int (lg_cmp y6_9 0)]) (M2 := M) rfl ⟨trivial, trivial, trivial, trivial⟩ ?_
        refine V.lc_eq (off := 24) F (by decide +kernel) (tgt := 45) (by decide) (fun h21 => ?_) (fun h21 => ?_)
        · replace E := E.trans (if_pos h21)
          refine V.pick [0] rfl ?_
          exact hJ45   E
        · replace E := E.trans (if_neg h21)
          refine V.seg F floX6 cjoX6 [.lload 4, .lload 6, .lrem, .lstore 9, .lload 6, .lstore 4, .lload 9, .lstore 6, .iinc 8 1, .goto (-33)] (by decide +kernel) (pc2 := 9) (lv2 := [(8, .int ((nI j9) + 1)), (6, .long (jrem y4_9 y6_9)), (4, .long y6_9), (9, .long (jrem y4_9 y6_9))]) (st2 := []) (M2 := M) rfl ⟨trivial, trivial, h21, (by decide), trivial, (by decide), trivial, (by decide), (by decide), (by decide), trivial⟩ ?_
          refine V.pick [2, 1, 0] rfl ?_
          rw [nI_1]
          exact ih_9 y6_9 (jrem y4_9 y6_9) (j9 + 1) (by have hlt_ := cnt_lt (n := 200) h14 rfl (by omega) (by decide); omega) (by have hlt_ := cnt_lt (n := 200) h14 rfl (by omega) (by decide); omega) E
  refine V.pick [2, 1, 0] rfl ?_
  exact hJ9 _ a b 0 (by omega) (by omega) E
def f_X6_withoutTwos_36 (y2_5 : Int64)  : Int64 := y2_5
def f_X6_withoutTwos_5  : Nat → Int64 → Nat → Int64
  | 0, _, _ => 0
  | n_ + 1, y2_5, j5 => if 64 ≤ (nI j5) then f_X6_withoutTwos_36 y2_5 else if y2_5 = 0 then f_X6_withoutTwos_36 y2_5 else if (y2_5 &&& 1) = 0 then (f_X6_withoutTwos_5 n_) (jushr y2_5 1) (j5 + 1) else f_X6_withoutTwos_36 y2_5
def f_X6_withoutTwos (a : Int64) : Int64 := f_X6_withoutTwos_5  65 a 0
abbrev p_X6_withoutTwos (M : Mem) (a : Int64) : Option Value → Mem → Prop := fun r N => r = some (.long (f_X6_withoutTwos a)) ∧ N = M
set_option maxRecDepth 100000 in
set_option maxHeartbeats 4000000 in
theorem c_X6_withoutTwos (G : Ctx) (l : Launch) (M : Mem) (a : Int64)  : CT G l 0 mX6_withoutTwos [.long a] M 0 0 (p_X6_withoutTwos M a) := by
  refine CT.of (by decide) (Nat.le_of_ble_eq_true rfl) ?_
  intro X d hd hl hRm hnm F
  subst hl
  have E : f_X6_withoutTwos a = f_X6_withoutTwos a := rfl
  show V G X 5 0 0 (Qx G X 0 0 (p_X6_withoutTwos M a)) 0 [(0, .long a)] [] M
  refine V.seg F floX6 cjoX6 [.lload_n 0, .lstore_n 2, .iconst 0] (by decide +kernel) (pc2 := 3) (lv2 := [(2, .long a), (0, .long a)]) (st2 := [.int 0]) (M2 := M) rfl ⟨trivial, (by decide), trivial, trivial⟩ ?_
  refine V.seg F floX6 cjoX6 [.istore 4] (by decide +kernel) (pc2 := 5) (lv2 := [(4, .int 0), (2, .long a), (0, .long a)]) (st2 := []) (M2 := M) rfl ⟨(by decide), trivial⟩ ?_
  have hJ5 : ∀ (n_ : Nat) (y2_5 : Int64) (j5 : Nat), (j5 ≤ 64) → (64 - j5 < n_) → f_X6_withoutTwos a = f_X6_withoutTwos_5 n_ y2_5 j5 → V G X 5 0 0 (Qx G X 0 0 (p_X6_withoutTwos M a)) 5 [(2, .long y2_5), (4, .int (nI j5))] [] M := by
    intro n_
    induction n_ with
    | zero => intro y2_5 j5 b5 m5 E; omega
    | succ n_ ih_5 =>
      intro y2_5 j5 b5 m5 E
      rw [f_X6_withoutTwos_5] at E
      refine V.seg F floX6 cjoX6 [.iload 4, .bipush 64] (by decide +kernel) (pc2 := 9) (lv2 := [(2, .long y2_5), (4, .int (nI j5))]) (st2 := [.int 64, .int (nI j5)]) (M2 := M) rfl ⟨trivial, trivial, trivial⟩ ?_
      have hJ36 : f_X6_withoutTwos a = f_X6_withoutTwos_36 y2_5 → V G X 5 0 0 (Qx G X 0 0 (p_X6_withoutTwos M a)) 36 [(2, .long y2_5)] [] M := by
        intro E
        refine V.seg F floX6 cjoX6 [.lload_n 2] (by decide +kernel) (pc2 := 37) (lv2 := [(2, .long y2_5)]) (st2 := [.long y2_5]) (M2 := M) rfl ⟨trivial, trivial⟩ ?_
        exact V.lret F (by decide +kernel) ⟨congrArg (fun z => some (Value.long z)) E.symm, rfl⟩
      refine V.ic_ge (off := 27) F (by decide +kernel) (tgt := 36) (by decide) (fun h9 => ?_) (fun h9 => ?_)
      · replace E := E.trans (if_pos h9)
        refine V.pick [0] rfl ?_
        exact hJ36   E
      · replace E := E.trans (if_neg h9)
        refine V.seg F floX6 cjoX6 [.lload_n 2, .lconst 0, .lcmp] (by decide +kernel) (pc2 := 15) (lv2 := [(2, .long y2_5), (4, .int (nI j5))]) (st2 := [.int (lg_cmp y2_5 0)]) (M2 := M) rfl ⟨trivial, trivial, trivial, trivial⟩ ?_
        refine V.lc_eq (off := 21) F (by decide +kernel) (tgt := 36) (by decide) (fun h15 => ?_) (fun h15 => ?_)
        · replace E := E.trans (if_pos h15)
          refine V.pick [0] rfl ?_
          exact hJ36   E
        · replace E := E.trans (if_neg h15)
          refine V.seg F floX6 cjoX6 [.lload_n 2, .lconst 1, .land, .lconst 0, .lcmp] (by decide +kernel) (pc2 := 23) (lv2 := [(2, .long y2_5), (4, .int (nI j5))]) (st2 := [.int (lg_cmp (y2_5 &&& 1) 0)]) (M2 := M) rfl ⟨trivial, trivial, trivial, trivial, trivial, trivial⟩ ?_
          refine V.lc_ne (off := 13) F (by decide +kernel) (tgt := 36) (by decide) (fun h23 => ?_) (fun h23 => ?_)
          · replace E := E.trans (if_neg h23)
            refine V.pick [0] rfl ?_
            exact hJ36   E
          · replace E := E.trans (if_pos h23)
            refine V.seg F floX6 cjoX6 [.lload_n 2, .iconst 1, .lushr, .lstore_n 2, .iinc 4 1, .goto (-28)] (by decide +kernel) (pc2 := 5) (lv2 := [(4, .int ((nI j5) + 1)), (2, .long (jushr y2_5 1))]) (st2 := []) (M2 := M) rfl ⟨trivial, trivial, trivial, (by decide), (by decide), (by decide), trivial⟩ ?_
            refine V.pick [1, 0] rfl ?_
            rw [nI_1]
            exact ih_5 (jushr y2_5 1) (j5 + 1) (by have hlt_ := cnt_lt (n := 64) h9 rfl (by omega) (by decide); omega) (by have hlt_ := cnt_lt (n := 64) h9 rfl (by omega) (by decide); omega) E
  refine V.pick [1, 0] rfl ?_
  exact hJ5 _ a 0 (by omega) (by omega) E
def f_X6_oddPart_24  (w0_24 : Int64) : Int64 := w0_24
def f_X6_oddPart_19   : Int64 := f_X6_oddPart_24 1
def f_X6_oddPart (a : Int64) : Int64 := if (f_X6_withoutTwos a) ≤ 0 then f_X6_oddPart_19  else if (f_X6_withoutTwos a) ≤ 2147483647 then f_X6_oddPart_24 (f_X6_withoutTwos a) else f_X6_oddPart_19 
abbrev p_X6_oddPart (M : Mem) (a : Int64) : Option Value → Mem → Prop := fun r N => r = some (.long (f_X6_oddPart a)) ∧ N = M
set_option maxRecDepth 100000 in
set_option maxHeartbeats 4000000 in
theorem c_X6_oddPart (G : Ctx) (l : Launch) (M : Mem) (a : Int64)  : CT G l 1 mX6_oddPart [.long a] M 0 0 (p_X6_oddPart M a) := by
  refine CT.of (by decide) (Nat.le_of_ble_eq_true rfl) ?_
  intro X d hd hl hRm hnm F
  subst hl
  have E : f_X6_oddPart a = f_X6_oddPart a := rfl
  show V G X 4 0 0 (Qx G X 0 0 (p_X6_oddPart M a)) 0 [(0, .long a)] [] M
  refine V.seg F floX6 cjoX6 [.lload_n 0] (by decide +kernel) (pc2 := 1) (lv2 := [(0, .long a)]) (st2 := [.long a]) (M2 := M) rfl ⟨trivial, trivial⟩ ?_
  refine V.callS (as := [.long a]) (rest := []) F (by decide +kernel) lX6_219 bX6_withoutTwos (c_X6_withoutTwos G X.2.1 M a) (rm_ok hRm hd (by decide) (by decide)) ⟨Nat.zero_le _, Nat.zero_le _⟩ (Nat.le_of_ble_eq_true rfl) (fun r_ N_ p_ => ?_)
  obtain ⟨rfl, hN_⟩ := p_
  rw [hN_]
  clear hN_
  refine V.seg F floX6 cjoX6 [.lstore_n 2, .lload_n 2, .lconst 0, .lcmp] (by decide +kernel) (pc2 := 8) (lv2 := [(2, .long (f_X6_withoutTwos a)), (0, .long a)]) (st2 := [.int (lg_cmp (f_X6_withoutTwos a) 0)]) (M2 := M) rfl ⟨(by decide), trivial, trivial, trivial, trivial⟩ ?_
  have hJ24 : ∀ (w0_24 : Int64), f_X6_oddPart a = f_X6_oddPart_24 w0_24 → V G X 4 0 0 (Qx G X 0 0 (p_X6_oddPart M a)) 24 [] [.long w0_24] M := by
    intro w0_24 E
    exact V.lret F (by decide +kernel) ⟨congrArg (fun z => some (Value.long z)) E.symm, rfl⟩
  have hJ19 : f_X6_oddPart a = f_X6_oddPart_19 → V G X 4 0 0 (Qx G X 0 0 (p_X6_oddPart M a)) 19 [] [] M := by
    intro E
    refine V.seg F floX6 cjoX6 [.lconst 1, .goto 4] (by decide +kernel) (pc2 := 24) (lv2 := []) (st2 := [.long 1]) (M2 := M) rfl ⟨trivial, (by decide), trivial⟩ ?_
    refine V.pick [] rfl ?_
    exact hJ24 1  E
  refine V.lc_le (off := 11) F (by decide +kernel) (tgt := 19) (by decide) (fun h8 => ?_) (fun h8 => ?_)
  · replace E := E.trans (if_pos h8)
    refine V.pick [] rfl ?_
    exact hJ19   E
  · replace E := E.trans (if_neg h8)
    refine V.seg F floX6 cjoX6 [.lload_n 2, .ldc2_w 223, .lcmp] (by decide +kernel) (pc2 := 16) (lv2 := [(2, .long (f_X6_withoutTwos a)), (0, .long a)]) (st2 := [.int (lg_cmp (f_X6_withoutTwos a) 2147483647)]) (M2 := M) rfl ⟨trivial, trivial, trivial, trivial⟩ ?_
    refine V.lc_le (off := 7) F (by decide +kernel) (tgt := 23) (by decide) (fun h16 => ?_) (fun h16 => ?_)
    · replace E := E.trans (if_pos h16)
      refine V.seg F floX6 cjoX6 [.lload_n 2] (by decide +kernel) (pc2 := 24) (lv2 := [(2, .long (f_X6_withoutTwos a)), (0, .long a)]) (st2 := [.long (f_X6_withoutTwos a)]) (M2 := M) rfl ⟨trivial, trivial⟩ ?_
      refine V.pick [] rfl ?_
      exact hJ24 (f_X6_withoutTwos a)  E
    · replace E := E.trans (if_neg h16)
      refine V.pick [] rfl ?_
      exact hJ19   E
def f_X6_leastWithBits_150 (a : Int64) (b : Int64) (c : Int64) (y14_150 : Int64) : Int64 := ((((a ^^^ ((-9223372036854775808))) &&& ((y14_150 - 1) ^^^ ((-1)))) ||| y14_150) ||| ((c ^^^ (b &&& ((-9223372036854775808)))) &&& (y14_150 - 1))) ^^^ ((-9223372036854775808))
def f_X6_leastWithBits_c131 (a : Int64) (b : Int64) (c : Int64) (x131 : Int64) : Int64 := if (x131 &&& (-x131)) = 0 then (-9223372036854775808) else f_X6_leastWithBits_150 a b c (x131 &&& (-x131))
def f_X6_leastWithBits_c91 (a : Int64) (b : Int64) (c : Int64) (x91 : Int64) : Int64 := if ((c ^^^ (b &&& ((-9223372036854775808)))) &&& (x91 ^^^ (jushr x91 1))) = 0 then f_X6_leastWithBits_c131 a b c ((((a ^^^ ((-9223372036854775808))) ^^^ ((-1))) &&& (b ^^^ ((-1)))) &&& (x91 ^^^ ((-1)))) else f_X6_leastWithBits_150 a b c (x91 ^^^ (jushr x91 1))
def f_X6_leastWithBits_c71 (a : Int64) (b : Int64) (c : Int64) (x71 : Int64) : Int64 := f_X6_leastWithBits_c91 a b c ((x71 ||| (jushr x71 16)) ||| (jushr (x71 ||| (jushr x71 16)) 32))
def f_X6_leastWithBits_c52 (a : Int64) (b : Int64) (c : Int64) (x52 : Int64) : Int64 := f_X6_leastWithBits_c71 a b c ((x52 ||| (jushr x52 4)) ||| (jushr (x52 ||| (jushr x52 4)) 8))
def f_X6_leastWithBits (a : Int64) (b : Int64) (c : Int64) : Int64 := if ((a ^^^ c) &&& b) = 0 then a else f_X6_leastWithBits_c52 a b c ((((a ^^^ c) &&& b) ||| (jushr ((a ^^^ c) &&& b) 1)) ||| (jushr (((a ^^^ c) &&& b) ||| (jushr ((a ^^^ c) &&& b) 1)) 2))
abbrev p_X6_leastWithBits (M : Mem) (a : Int64) (b : Int64) (c : Int64) : Option Value → Mem → Prop := fun r N => r = some (.long (f_X6_leastWithBits a b c)) ∧ N = M
set_option maxRecDepth 100000 in
set_option maxHeartbeats 4000000 in
theorem c_X6_leastWithBits (G : Ctx) (l : Launch) (M : Mem) (a : Int64) (b : Int64) (c : Int64)  : CT G l 0 mX6_leastWithBits [.long a, .long b, .long c] M 0 0 (p_X6_leastWithBits M a b c) := by
  refine CT.of (by decide) (Nat.le_of_ble_eq_true rfl) ?_
  intro X d hd hl hRm hnm F
  subst hl
  have E : f_X6_leastWithBits a b c = f_X6_leastWithBits a b c := rfl
  show V G X 18 0 0 (Qx G X 0 0 (p_X6_leastWithBits M a b c)) 0 [(0, .long a), (2, .long b), (4, .long c)] [] M
  refine V.seg F floX6 cjoX6 [.lload_n 0, .lload 4, .lxor, .lload_n 2, .land, .lstore 6, .lload 6, .lconst 0, .lcmp] (by decide +kernel) (pc2 := 12) (lv2 := [(6, .long ((a ^^^ c) &&& b)), (0, .long a), (2, .long b), (4, .long c)]) (st2 := [.int (lg_cmp ((a ^^^ c) &&& b) 0)]) (M2 := M) rfl ⟨trivial, trivial, trivial, trivial, trivial, (by decide), trivial, trivial, trivial, trivial⟩ ?_
  refine V.lc_ne (off := 5) F (by decide +kernel) (tgt := 17) (by decide) (fun h12 => ?_) (fun h12 => ?_)
  · replace E := E.trans (if_neg h12)
    refine V.seg F floX6 cjoX6 [.lload_n 0, .ldc2_w 225, .lxor, .lstore 8, .lload 4, .lload_n 2, .ldc2_w 225, .land, .lxor, .lstore 10, .lload 6, .lload 6, .iconst 1, .lushr, .lor, .lstore 12, .lload 12, .lload 12, .iconst 2, .lushr, .lor, .lstore 12] (by decide +kernel) (pc2 := 52) (lv2 := [(12, .long ((((a ^^^ c) &&& b) ||| (jushr ((a ^^^ c) &&& b) 1)) ||| (jushr (((a ^^^ c) &&& b) ||| (jushr ((a ^^^ c) &&& b) 1)) 2))), (10, .long (c ^^^ (b &&& ((-9223372036854775808))))), (8, .long (a ^^^ ((-9223372036854775808)))), (6, .long ((a ^^^ c) &&& b)), (0, .long a), (2, .long b), (4, .long c)]) (st2 := []) (M2 := M) rfl ⟨trivial, trivial, trivial, (by decide), trivial, trivial, trivial, trivial, trivial, (by decide), trivial, trivial, trivial, trivial, trivial, (by decide), trivial, trivial, trivial, trivial, trivial, (by decide), trivial⟩ ?_
    refine (?_ : ∀ (x52 : Int64), f_X6_leastWithBits a b c = f_X6_leastWithBits_c52 a b c x52 → V G X 18 0 0 (Qx G X 0 0 (p_X6_leastWithBits M a b c)) 52 [(12, .long x52), (10, .long (c ^^^ (b &&& ((-9223372036854775808))))), (8, .long (a ^^^ ((-9223372036854775808)))), (6, .long ((a ^^^ c) &&& b)), (0, .long a), (2, .long b), (4, .long c)] [] M) _  E
    intro x52 E
    refine V.seg F floX6 cjoX6 [.lload 12, .lload 12, .iconst 4, .lushr, .lor, .lstore 12, .lload 12, .lload 12, .bipush 8, .lushr, .lor, .lstore 12] (by decide +kernel) (pc2 := 71) (lv2 := [(12, .long ((x52 ||| (jushr x52 4)) ||| (jushr (x52 ||| (jushr x52 4)) 8))), (10, .long (c ^^^ (b &&& ((-9223372036854775808))))), (8, .long (a ^^^ ((-9223372036854775808)))), (6, .long ((a ^^^ c) &&& b)), (0, .long a), (2, .long b), (4, .long c)]) (st2 := []) (M2 := M) rfl ⟨trivial, trivial, trivial, trivial, trivial, (by decide), trivial, trivial, trivial, trivial, trivial, (by decide), trivial⟩ ?_
    refine (?_ : ∀ (x71 : Int64), f_X6_leastWithBits a b c = f_X6_leastWithBits_c71 a b c x71 → V G X 18 0 0 (Qx G X 0 0 (p_X6_leastWithBits M a b c)) 71 [(12, .long x71), (10, .long (c ^^^ (b &&& ((-9223372036854775808))))), (8, .long (a ^^^ ((-9223372036854775808)))), (6, .long ((a ^^^ c) &&& b)), (0, .long a), (2, .long b), (4, .long c)] [] M) _  E
    intro x71 E
    refine V.seg F floX6 cjoX6 [.lload 12, .lload 12, .bipush 16, .lushr, .lor, .lstore 12, .lload 12, .lload 12, .bipush 32, .lushr, .lor, .lstore 12] (by decide +kernel) (pc2 := 91) (lv2 := [(12, .long ((x71 ||| (jushr x71 16)) ||| (jushr (x71 ||| (jushr x71 16)) 32))), (10, .long (c ^^^ (b &&& ((-9223372036854775808))))), (8, .long (a ^^^ ((-9223372036854775808)))), (6, .long ((a ^^^ c) &&& b)), (0, .long a), (2, .long b), (4, .long c)]) (st2 := []) (M2 := M) rfl ⟨trivial, trivial, trivial, trivial, trivial, (by decide), trivial, trivial, trivial, trivial, trivial, (by decide), trivial⟩ ?_
    refine (?_ : ∀ (x91 : Int64), f_X6_leastWithBits a b c = f_X6_leastWithBits_c91 a b c x91 → V G X 18 0 0 (Qx G X 0 0 (p_X6_leastWithBits M a b c)) 91 [(12, .long x91), (10, .long (c ^^^ (b &&& ((-9223372036854775808))))), (8, .long (a ^^^ ((-9223372036854775808)))), (6, .long ((a ^^^ c) &&& b)), (0, .long a), (2, .long b), (4, .long c)] [] M) _  E
    intro x91 E
    refine V.seg F floX6 cjoX6 [.lload 12, .lload 12, .iconst 1, .lushr, .lxor, .lstore 14, .lload 10, .lload 14, .land, .lconst 0, .lcmp] (by decide +kernel) (pc2 := 107) (lv2 := [(14, .long (x91 ^^^ (jushr x91 1))), (12, .long x91), (10, .long (c ^^^ (b &&& ((-9223372036854775808))))), (8, .long (a ^^^ ((-9223372036854775808)))), (6, .long ((a ^^^ c) &&& b)), (0, .long a), (2, .long b), (4, .long c)]) (st2 := [.int (lg_cmp ((c ^^^ (b &&& ((-9223372036854775808)))) &&& (x91 ^^^ (jushr x91 1))) 0)]) (M2 := M) rfl ⟨trivial, trivial, trivial, trivial, trivial, (by decide), trivial, trivial, trivial, trivial, trivial, trivial⟩ ?_
    have hJ150 : ∀ (y14_150 : Int64), f_X6_leastWithBits a b c = f_X6_leastWithBits_150 a b c y14_150 → V G X 18 0 0 (Qx G X 0 0 (p_X6_leastWithBits M a b c)) 150 [(8, .long (a ^^^ ((-9223372036854775808)))), (10, .long (c ^^^ (b &&& ((-9223372036854775808))))), (14, .long y14_150)] [] M := by
      intro y14_150 E
      refine V.seg F floX6 cjoX6 [.lload 14, .lconst 1, .lsub, .lstore 16, .lload 8, .lload 16, .ldc2_w 227, .lxor, .land, .lload 14, .lor, .lload 10, .lload 16, .land, .lor, .ldc2_w 225, .lxor] (by decide +kernel) (pc2 := 178) (lv2 := [(16, .long (y14_150 - 1)), (8, .long (a ^^^ ((-9223372036854775808)))), (10, .long (c ^^^ (b &&& ((-9223372036854775808))))), (14, .long y14_150)]) (st2 := [.long (((((a ^^^ ((-9223372036854775808))) &&& ((y14_150 - 1) ^^^ ((-1)))) ||| y14_150) ||| ((c ^^^ (b &&& ((-9223372036854775808)))) &&& (y14_150 - 1))) ^^^ ((-9223372036854775808)))]) (M2 := M) rfl ⟨trivial, trivial, trivial, (by decide), trivial, trivial, trivial, trivial, trivial, trivial, trivial, trivial, trivial, trivial, trivial, trivial, trivial, trivial⟩ ?_
      exact V.lret F (by decide +kernel) ⟨congrArg (fun z => some (Value.long z)) E.symm, rfl⟩
    refine V.lc_ne (off := 43) F (by decide +kernel) (tgt := 150) (by decide) (fun h107 => ?_) (fun h107 => ?_)
    · replace E := E.trans (if_neg h107)
      refine V.pick [3, 2, 0] rfl ?_
      exact hJ150 (x91 ^^^ (jushr x91 1))  E
    · replace E := E.trans (if_pos h107)
      refine V.seg F floX6 cjoX6 [.lload 8, .ldc2_w 227, .lxor, .lload_n 2, .ldc2_w 227, .lxor, .land, .lload 12, .ldc2_w 227, .lxor, .land, .lstore 16] (by decide +kernel) (pc2 := 131) (lv2 := [(16, .long ((((a ^^^ ((-9223372036854775808))) ^^^ ((-1))) &&& (b ^^^ ((-1)))) &&& (x91 ^^^ ((-1))))), (14, .long (x91 ^^^ (jushr x91 1))), (12, .long x91), (10, .long (c ^^^ (b &&& ((-9223372036854775808))))), (8, .long (a ^^^ ((-9223372036854775808)))), (6, .long ((a ^^^ c) &&& b)), (0, .long a), (2, .long b), (4, .long c)]) (st2 := []) (M2 := M) rfl ⟨trivial, trivial, trivial, trivial, trivial, trivial, trivial, trivial, trivial, trivial, trivial, (by decide), trivial⟩ ?_
      refine (?_ : ∀ (x131 : Int64), f_X6_leastWithBits a b c = f_X6_leastWithBits_c131 a b c x131 → V G X 18 0 0 (Qx G X 0 0 (p_X6_leastWithBits M a b c)) 131 [(16, .long x131), (14, .long (x91 ^^^ (jushr x91 1))), (12, .long x91), (10, .long (c ^^^ (b &&& ((-9223372036854775808))))), (8, .long (a ^^^ ((-9223372036854775808)))), (6, .long ((a ^^^ c) &&& b)), (0, .long a), (2, .long b), (4, .long c)] [] M) _  E
      intro x131 E
      refine V.seg F floX6 cjoX6 [.lload 16, .lload 16, .lneg, .land, .lstore 14, .lload 14, .lconst 0, .lcmp] (by decide +kernel) (pc2 := 143) (lv2 := [(14, .long (x131 &&& (-x131))), (16, .long x131), (12, .long x91), (10, .long (c ^^^ (b &&& ((-9223372036854775808))))), (8, .long (a ^^^ ((-9223372036854775808)))), (6, .long ((a ^^^ c) &&& b)), (0, .long a), (2, .long b), (4, .long c)]) (st2 := [.int (lg_cmp (x131 &&& (-x131)) 0)]) (M2 := M) rfl ⟨trivial, trivial, trivial, trivial, (by decide), trivial, trivial, trivial, trivial⟩ ?_
      refine V.lc_ne (off := 7) F (by decide +kernel) (tgt := 150) (by decide) (fun h143 => ?_) (fun h143 => ?_)
      · replace E := E.trans (if_neg h143)
        refine V.pick [4, 3, 0] rfl ?_
        exact hJ150 (x131 &&& (-x131))  E
      · replace E := E.trans (if_pos h143)
        refine V.seg F floX6 cjoX6 [.ldc2_w 225] (by decide +kernel) (pc2 := 149) (lv2 := [(14, .long (x131 &&& (-x131))), (16, .long x131), (12, .long x91), (10, .long (c ^^^ (b &&& ((-9223372036854775808))))), (8, .long (a ^^^ ((-9223372036854775808)))), (6, .long ((a ^^^ c) &&& b)), (0, .long a), (2, .long b), (4, .long c)]) (st2 := [.long ((-9223372036854775808))]) (M2 := M) rfl ⟨trivial, trivial⟩ ?_
        exact V.lret F (by decide +kernel) ⟨congrArg (fun z => some (Value.long z)) E.symm, rfl⟩
  · replace E := E.trans (if_pos h12)
    refine V.seg F floX6 cjoX6 [.lload_n 0] (by decide +kernel) (pc2 := 16) (lv2 := [(6, .long ((a ^^^ c) &&& b)), (0, .long a), (2, .long b), (4, .long c)]) (st2 := [.long a]) (M2 := M) rfl ⟨trivial, trivial⟩ ?_
    exact V.lret F (by decide +kernel) ⟨congrArg (fun z => some (Value.long z)) E.symm, rfl⟩
def f_X6_productWraps_12   : Int32 := 0
def f_X6_productWraps_45  (w0_45 : Int32) : Int32 := w0_45
def f_X6_productWraps_40   : Int32 := f_X6_productWraps_45 1
def f_X6_productWraps_30 (a : Int64) (b : Int64)  : Int32 := if ((a * b) / b) = a then f_X6_productWraps_45 0 else f_X6_productWraps_40 
def f_X6_productWraps (a : Int64) (b : Int64) : Int32 := if a = 0 then f_X6_productWraps_12  else if b = 0 then f_X6_productWraps_12  else if a = ((-9223372036854775808)) then if b = ((-1)) then f_X6_productWraps_40  else f_X6_productWraps_30 a b else f_X6_productWraps_30 a b
abbrev p_X6_productWraps (M : Mem) (a : Int64) (b : Int64) : Option Value → Mem → Prop := fun r N => r = some (.int (f_X6_productWraps a b)) ∧ N = M ∧ ((f_X6_productWraps a b) = 0 ∨ (f_X6_productWraps a b) = 1)
set_option maxRecDepth 100000 in
set_option maxHeartbeats 4000000 in
theorem c_X6_productWraps (G : Ctx) (l : Launch) (M : Mem) (a : Int64) (b : Int64)  : CT G l 0 mX6_productWraps [.long a, .long b] M 0 0 (p_X6_productWraps M a b) := by
  refine CT.of (by decide) (Nat.le_of_ble_eq_true rfl) ?_
  intro X d hd hl hRm hnm F
  subst hl
  have E : f_X6_productWraps a b = f_X6_productWraps a b := rfl
  show V G X 4 0 0 (Qx G X 0 0 (p_X6_productWraps M a b)) 0 [(0, .long a), (2, .long b)] [] M
  refine V.seg F floX6 cjoX6 [.lload_n 0, .lconst 0, .lcmp] (by decide +kernel) (pc2 := 3) (lv2 := [(0, .long a), (2, .long b)]) (st2 := [.int (lg_cmp a 0)]) (M2 := M) rfl ⟨trivial, trivial, trivial, trivial⟩ ?_
  have hJ12 : f_X6_productWraps a b = f_X6_productWraps_12 → V G X 4 0 0 (Qx G X 0 0 (p_X6_productWraps M a b)) 12 [] [] M := by
    intro E
    refine V.seg F floX6 cjoX6 [.iconst 0] (by decide +kernel) (pc2 := 13) (lv2 := []) (st2 := [.int 0]) (M2 := M) rfl ⟨trivial, trivial⟩ ?_
    exact V.zret F (Or.inl rfl) (by decide +kernel) ⟨congrArg (fun z => some (Value.int z)) E.symm, rfl, by rw [E]; exact Or.inl rfl⟩
  refine V.lc_eq (off := 9) F (by decide +kernel) (tgt := 12) (by decide) (fun h3 => ?_) (fun h3 => ?_)
  · replace E := E.trans (if_pos h3)
    refine V.pick [] rfl ?_
    exact hJ12   E
  · replace E := E.trans (if_neg h3)
    refine V.seg F floX6 cjoX6 [.lload_n 2, .lconst 0, .lcmp] (by decide +kernel) (pc2 := 9) (lv2 := [(0, .long a), (2, .long b)]) (st2 := [.int (lg_cmp b 0)]) (M2 := M) rfl ⟨trivial, trivial, trivial, trivial⟩ ?_
    refine V.lc_ne (off := 5) F (by decide +kernel) (tgt := 14) (by decide) (fun h9 => ?_) (fun h9 => ?_)
    · replace E := E.trans (if_neg h9)
      refine V.seg F floX6 cjoX6 [.lload_n 0, .ldc2_w 225, .lcmp] (by decide +kernel) (pc2 := 19) (lv2 := [(0, .long a), (2, .long b)]) (st2 := [.int (lg_cmp a ((-9223372036854775808)))]) (M2 := M) rfl ⟨trivial, trivial, trivial, trivial⟩ ?_
      have hJ45 : ∀ (w0_45 : Int32), (w0_45 = 0 ∨ w0_45 = 1) → f_X6_productWraps a b = f_X6_productWraps_45 w0_45 → V G X 4 0 0 (Qx G X 0 0 (p_X6_productWraps M a b)) 45 [] [.int w0_45] M := by
        intro w0_45 zw0_45 E
        exact V.zret F (zw0_45) (by decide +kernel) ⟨congrArg (fun z => some (Value.int z)) E.symm, rfl, by rw [E]; exact zw0_45⟩
      have hJ40 : f_X6_productWraps a b = f_X6_productWraps_40 → V G X 4 0 0 (Qx G X 0 0 (p_X6_productWraps M a b)) 40 [] [] M := by
        intro E
        refine V.seg F floX6 cjoX6 [.iconst 1, .goto 4] (by decide +kernel) (pc2 := 45) (lv2 := []) (st2 := [.int 1]) (M2 := M) rfl ⟨trivial, (by decide), trivial⟩ ?_
        refine V.pick [] rfl ?_
        exact hJ45 1 (Or.inr rfl) E
      have hJ30 : f_X6_productWraps a b = f_X6_productWraps_30 a b → V G X 4 0 0 (Qx G X 0 0 (p_X6_productWraps M a b)) 30 [(0, .long a), (2, .long b)] [] M := by
        intro E
        refine V.seg F floX6 cjoX6 [.lload_n 0, .lload_n 2, .lmul, .lload_n 2, .ldiv, .lload_n 0, .lcmp] (by decide +kernel) (pc2 := 37) (lv2 := [(0, .long a), (2, .long b)]) (st2 := [.int (lg_cmp ((a * b) / b) a)]) (M2 := M) rfl ⟨trivial, trivial, trivial, trivial, (by assumption), trivial, trivial, trivial⟩ ?_
        refine V.lc_eq (off := 7) F (by decide +kernel) (tgt := 44) (by decide) (fun h37 => ?_) (fun h37 => ?_)
        · replace E := E.trans (if_pos h37)
          refine V.seg F floX6 cjoX6 [.iconst 0] (by decide +kernel) (pc2 := 45) (lv2 := [(0, .long a), (2, .long b)]) (st2 := [.int 0]) (M2 := M) rfl ⟨trivial, trivial⟩ ?_
          refine V.pick [] rfl ?_
          exact hJ45 0 (Or.inl rfl) E
        · replace E := E.trans (if_neg h37)
          refine V.pick [] rfl ?_
          exact hJ40   E
      refine V.lc_ne (off := 11) F (by decide +kernel) (tgt := 30) (by decide) (fun h19 => ?_) (fun h19 => ?_)
      · replace E := E.trans (if_neg h19)
        refine V.pick [0, 1] rfl ?_
        exact hJ30   E
      · replace E := E.trans (if_pos h19)
        refine V.seg F floX6 cjoX6 [.lload_n 2, .ldc2_w 227, .lcmp] (by decide +kernel) (pc2 := 27) (lv2 := [(0, .long a), (2, .long b)]) (st2 := [.int (lg_cmp b ((-1)))]) (M2 := M) rfl ⟨trivial, trivial, trivial, trivial⟩ ?_
        refine V.lc_eq (off := 13) F (by decide +kernel) (tgt := 40) (by decide) (fun h27 => ?_) (fun h27 => ?_)
        · replace E := E.trans (if_pos h27)
          refine V.pick [] rfl ?_
          exact hJ40   E
        · replace E := E.trans (if_neg h27)
          refine V.pick [0, 1] rfl ?_
          exact hJ30   E
    · replace E := E.trans (if_pos h9)
      refine V.pick [] rfl ?_
      exact hJ12   E
def f_X6_sumWraps_21  (w0_21 : Int32) : Int32 := w0_21
def f_X6_sumWraps (a : Int64) (b : Int64) : Int32 := if 0 ≤ ((a ^^^ (a + b)) &&& (b ^^^ (a + b))) then f_X6_sumWraps_21 0 else f_X6_sumWraps_21 1
abbrev p_X6_sumWraps (M : Mem) (a : Int64) (b : Int64) : Option Value → Mem → Prop := fun r N => r = some (.int (f_X6_sumWraps a b)) ∧ N = M ∧ ((f_X6_sumWraps a b) = 0 ∨ (f_X6_sumWraps a b) = 1)
set_option maxRecDepth 100000 in
set_option maxHeartbeats 4000000 in
theorem c_X6_sumWraps (G : Ctx) (l : Launch) (M : Mem) (a : Int64) (b : Int64)  : CT G l 0 mX6_sumWraps [.long a, .long b] M 0 0 (p_X6_sumWraps M a b) := by
  refine CT.of (by decide) (Nat.le_of_ble_eq_true rfl) ?_
  intro X d hd hl hRm hnm F
  subst hl
  have E : f_X6_sumWraps a b = f_X6_sumWraps a b := rfl
  show V G X 4 0 0 (Qx G X 0 0 (p_X6_sumWraps M a b)) 0 [(0, .long a), (2, .long b)] [] M
  refine V.seg F floX6 cjoX6 [.lload_n 0, .lload_n 0, .lload_n 2, .ladd, .lxor, .lload_n 2, .lload_n 0, .lload_n 2, .ladd, .lxor, .land, .lconst 0, .lcmp] (by decide +kernel) (pc2 := 13) (lv2 := [(0, .long a), (2, .long b)]) (st2 := [.int (lg_cmp ((a ^^^ (a + b)) &&& (b ^^^ (a + b))) 0)]) (M2 := M) rfl ⟨trivial, trivial, trivial, trivial, trivial, trivial, trivial, trivial, trivial, trivial, trivial, trivial, trivial, trivial⟩ ?_
  have hJ21 : ∀ (w0_21 : Int32), (w0_21 = 0 ∨ w0_21 = 1) → f_X6_sumWraps a b = f_X6_sumWraps_21 w0_21 → V G X 4 0 0 (Qx G X 0 0 (p_X6_sumWraps M a b)) 21 [] [.int w0_21] M := by
    intro w0_21 zw0_21 E
    exact V.zret F (zw0_21) (by decide +kernel) ⟨congrArg (fun z => some (Value.int z)) E.symm, rfl, by rw [E]; exact zw0_21⟩
  refine V.lc_ge (off := 7) F (by decide +kernel) (tgt := 20) (by decide) (fun h13 => ?_) (fun h13 => ?_)
  · replace E := E.trans (if_pos h13)
    refine V.seg F floX6 cjoX6 [.iconst 0] (by decide +kernel) (pc2 := 21) (lv2 := [(0, .long a), (2, .long b)]) (st2 := [.int 0]) (M2 := M) rfl ⟨trivial, trivial⟩ ?_
    refine V.pick [] rfl ?_
    exact hJ21 0 (Or.inl rfl) E
  · replace E := E.trans (if_neg h13)
    refine V.seg F floX6 cjoX6 [.iconst 1, .goto 4] (by decide +kernel) (pc2 := 21) (lv2 := [(0, .long a), (2, .long b)]) (st2 := [.int 1]) (M2 := M) rfl ⟨trivial, (by decide), trivial⟩ ?_
    refine V.pick [] rfl ?_
    exact hJ21 1 (Or.inr rfl) E
def f_X6_differenceWraps_19  (w0_19 : Int32) : Int32 := w0_19
def f_X6_differenceWraps (a : Int64) (b : Int64) : Int32 := if 0 ≤ ((a ^^^ b) &&& (a ^^^ (a - b))) then f_X6_differenceWraps_19 0 else f_X6_differenceWraps_19 1
abbrev p_X6_differenceWraps (M : Mem) (a : Int64) (b : Int64) : Option Value → Mem → Prop := fun r N => r = some (.int (f_X6_differenceWraps a b)) ∧ N = M ∧ ((f_X6_differenceWraps a b) = 0 ∨ (f_X6_differenceWraps a b) = 1)
set_option maxRecDepth 100000 in
set_option maxHeartbeats 4000000 in
theorem c_X6_differenceWraps (G : Ctx) (l : Launch) (M : Mem) (a : Int64) (b : Int64)  : CT G l 0 mX6_differenceWraps [.long a, .long b] M 0 0 (p_X6_differenceWraps M a b) := by
  refine CT.of (by decide) (Nat.le_of_ble_eq_true rfl) ?_
  intro X d hd hl hRm hnm F
  subst hl
  have E : f_X6_differenceWraps a b = f_X6_differenceWraps a b := rfl
  show V G X 4 0 0 (Qx G X 0 0 (p_X6_differenceWraps M a b)) 0 [(0, .long a), (2, .long b)] [] M
  refine V.seg F floX6 cjoX6 [.lload_n 0, .lload_n 2, .lxor, .lload_n 0, .lload_n 0, .lload_n 2, .lsub, .lxor, .land, .lconst 0, .lcmp] (by decide +kernel) (pc2 := 11) (lv2 := [(0, .long a), (2, .long b)]) (st2 := [.int (lg_cmp ((a ^^^ b) &&& (a ^^^ (a - b))) 0)]) (M2 := M) rfl ⟨trivial, trivial, trivial, trivial, trivial, trivial, trivial, trivial, trivial, trivial, trivial, trivial⟩ ?_
  have hJ19 : ∀ (w0_19 : Int32), (w0_19 = 0 ∨ w0_19 = 1) → f_X6_differenceWraps a b = f_X6_differenceWraps_19 w0_19 → V G X 4 0 0 (Qx G X 0 0 (p_X6_differenceWraps M a b)) 19 [] [.int w0_19] M := by
    intro w0_19 zw0_19 E
    exact V.zret F (zw0_19) (by decide +kernel) ⟨congrArg (fun z => some (Value.int z)) E.symm, rfl, by rw [E]; exact zw0_19⟩
  refine V.lc_ge (off := 7) F (by decide +kernel) (tgt := 18) (by decide) (fun h11 => ?_) (fun h11 => ?_)
  · replace E := E.trans (if_pos h11)
    refine V.seg F floX6 cjoX6 [.iconst 0] (by decide +kernel) (pc2 := 19) (lv2 := [(0, .long a), (2, .long b)]) (st2 := [.int 0]) (M2 := M) rfl ⟨trivial, trivial⟩ ?_
    refine V.pick [] rfl ?_
    exact hJ19 0 (Or.inl rfl) E
  · replace E := E.trans (if_neg h11)
    refine V.seg F floX6 cjoX6 [.iconst 1, .goto 4] (by decide +kernel) (pc2 := 19) (lv2 := [(0, .long a), (2, .long b)]) (st2 := [.int 1]) (M2 := M) rfl ⟨trivial, (by decide), trivial⟩ ?_
    refine V.pick [] rfl ?_
    exact hJ19 1 (Or.inr rfl) E
end
section
def f_X1_become (M : Mem) (a0 : Nat) (pl : Int64) (ph : Int64) (k : Int64) (v : Int64) (m : Int64) (pr : Int64) : Mem := uL (uL (uL (uL (uL (uL (uI M a0 0 0) a0 1 pl) a0 2 ph) a0 3 k) a0 4 v) a0 5 m) a0 6 pr
abbrev p_X1_become (M : Mem) (a0 : Nat) (pl : Int64) (ph : Int64) (k : Int64) (v : Int64) (m : Int64) (pr : Int64) : Option Value → Mem → Prop := fun r N => r = none ∧ N = f_X1_become M a0 pl ph k v m pr ∧ Sm M N
set_option maxRecDepth 100000 in
set_option maxHeartbeats 4000000 in
theorem c_X1_become (G : Ctx) (l : Launch) (M : Mem) (a0 : Nat) (pl : Int64) (ph : Int64) (k : Int64) (v : Int64) (m : Int64) (pr : Int64) (o_a0 : isO M a0 1) : CT G l 0 mX1_become [.ref a0, .long pl, .long ph, .long k, .long v, .long m, .long pr] M 0 0 (p_X1_become M a0 pl ph k v m pr) := by
  refine CT.of (by decide) (Nat.le_of_ble_eq_true rfl) ?_
  intro X d hd hl hRm hnm F
  subst hl
  have E : f_X1_become M a0 pl ph k v m pr = f_X1_become M a0 pl ph k v m pr := rfl
  show V G X 13 0 0 (Qx G X 0 0 (p_X1_become M a0 pl ph k v m pr)) 0 [(0, .ref a0), (1, .long pl), (3, .long ph), (5, .long k), (7, .long v), (9, .long m), (11, .long pr)] [] M
  refine V.seg F floX1 cjoX1 [.aload_n 0, .iconst 0, .putfield 29, .aload_n 0, .lload_n 1, .putfield 11, .aload_n 0, .lload_n 3, .putfield 19, .aload_n 0, .lload 5, .putfield 35, .aload_n 0, .lload 7, .putfield 38, .aload_n 0, .lload 9, .putfield 22, .aload_n 0, .lload 11, .putfield 41] (by decide +kernel) (pc2 := 39) (lv2 := [(0, .ref a0), (1, .long pl), (3, .long ph), (5, .long k), (7, .long v), (9, .long m), (11, .long pr)]) (st2 := []) (M2 := uL (uL (uL (uL (uL (uL (uI M a0 0 0) a0 1 pl) a0 2 ph) a0 3 k) a0 4 v) a0 5 m) a0 6 pr) rfl ⟨trivial, trivial, ⟨o_a0, Or.inl rfl⟩, trivial, trivial, o_a0, trivial, trivial, o_a0, trivial, trivial, o_a0, trivial, trivial, o_a0, trivial, trivial, o_a0, trivial, trivial, o_a0, trivial⟩ ?_
  exact V.vret F (by decide +kernel) ⟨rfl, E.symm, Sm.rf⟩
def f_X1_makeAll_c14  (M14 : Mem) : Mem := M14
def f_X1_makeAll (M : Mem) (a0 : Nat) : Mem := f_X1_makeAll_c14 (f_X1_become M a0 ((-9223372036854775808)) 9223372036854775807 0 0 1 0)
abbrev p_X1_makeAll (M : Mem) (a0 : Nat) : Option Value → Mem → Prop := fun r N => r = none ∧ N = f_X1_makeAll M a0 ∧ Sm M N
set_option maxRecDepth 100000 in
set_option maxHeartbeats 4000000 in
theorem c_X1_makeAll (G : Ctx) (l : Launch) (M : Mem) (a0 : Nat) (o_a0 : isO M a0 1) : CT G l 1 mX1_makeAll [.ref a0] M 0 0 (p_X1_makeAll M a0) := by
  refine CT.of (by decide) (Nat.le_of_ble_eq_true rfl) ?_
  intro X d hd hl hRm hnm F
  subst hl
  have E : f_X1_makeAll M a0 = f_X1_makeAll M a0 := rfl
  show V G X 1 0 0 (Qx G X 0 0 (p_X1_makeAll M a0)) 0 [(0, .ref a0)] [] M
  refine V.seg F floX1 cjoX1 [.aload_n 0, .ldc2_w 9, .ldc2_w 17, .lconst 0, .lconst 0, .lconst 1, .lconst 0] (by decide +kernel) (pc2 := 11) (lv2 := [(0, .ref a0)]) (st2 := [.long 0, .long 1, .long 0, .long 0, .long 9223372036854775807, .long ((-9223372036854775808)), .ref a0]) (M2 := M) rfl ⟨trivial, trivial, trivial, trivial, trivial, trivial, trivial, trivial⟩ ?_
  refine V.callV (as := [.long ((-9223372036854775808)), .long 9223372036854775807, .long 0, .long 0, .long 1, .long 0]) (rest := []) F (by decide +kernel) lX1_25 bX1_become ⟨1, _, o_a0, rfl, rfl⟩ (c_X1_become G X.2.1 M a0 ((-9223372036854775808)) 9223372036854775807 0 0 1 0 o_a0) (rm_ok hRm hd (by decide) (by decide)) ⟨Nat.zero_le _, Nat.zero_le _⟩ (Nat.le_of_ble_eq_true rfl) (fun r_ N_ p_ => ?_)
  obtain ⟨rfl, rfl, t11⟩ := p_
  refine (?_ : ∀ (M14 : Mem), (Sm M M14) → f_X1_makeAll M a0 = f_X1_makeAll_c14 M14 → V G X 1 0 0 (Qx G X 0 0 (p_X1_makeAll M a0)) 14 [(0, .ref a0)] [] M14) _ t11 E
  intro M14 s14 E
  exact V.vret F (by decide +kernel) ⟨rfl, E.symm, s14⟩
def f_X1_makeNone_c10 (a0 : Nat) (M10 : Mem) : Mem := uI M10 a0 0 1
def f_X1_makeNone (M : Mem) (a0 : Nat) : Mem := f_X1_makeNone_c10 a0 (f_X1_become M a0 0 0 0 0 0 0)
abbrev p_X1_makeNone (M : Mem) (a0 : Nat) : Option Value → Mem → Prop := fun r N => r = none ∧ N = f_X1_makeNone M a0 ∧ Sm M N
set_option maxRecDepth 100000 in
set_option maxHeartbeats 4000000 in
theorem c_X1_makeNone (G : Ctx) (l : Launch) (M : Mem) (a0 : Nat) (o_a0 : isO M a0 1) : CT G l 1 mX1_makeNone [.ref a0] M 0 0 (p_X1_makeNone M a0) := by
  refine CT.of (by decide) (Nat.le_of_ble_eq_true rfl) ?_
  intro X d hd hl hRm hnm F
  subst hl
  have E : f_X1_makeNone M a0 = f_X1_makeNone M a0 := rfl
  show V G X 1 0 0 (Qx G X 0 0 (p_X1_makeNone M a0)) 0 [(0, .ref a0)] [] M
  refine V.seg F floX1 cjoX1 [.aload_n 0, .lconst 0, .lconst 0, .lconst 0, .lconst 0, .lconst 0, .lconst 0] (by decide +kernel) (pc2 := 7) (lv2 := [(0, .ref a0)]) (st2 := [.long 0, .long 0, .long 0, .long 0, .long 0, .long 0, .ref a0]) (M2 := M) rfl ⟨trivial, trivial, trivial, trivial, trivial, trivial, trivial, trivial⟩ ?_
  refine V.callV (as := [.long 0, .long 0, .long 0, .long 0, .long 0, .long 0]) (rest := []) F (by decide +kernel) lX1_25 bX1_become ⟨1, _, o_a0, rfl, rfl⟩ (c_X1_become G X.2.1 M a0 0 0 0 0 0 0 o_a0) (rm_ok hRm hd (by decide) (by decide)) ⟨Nat.zero_le _, Nat.zero_le _⟩ (Nat.le_of_ble_eq_true rfl) (fun r_ N_ p_ => ?_)
  obtain ⟨rfl, rfl, t7⟩ := p_
  refine (?_ : ∀ (M10 : Mem), (Sm M M10) → f_X1_makeNone M a0 = f_X1_makeNone_c10 a0 M10 → V G X 1 0 0 (Qx G X 0 0 (p_X1_makeNone M a0)) 10 [(0, .ref a0)] [] M10) _ t7 E
  intro M10 s10 E
  refine V.seg F floX1 cjoX1 [.aload_n 0, .iconst 1, .putfield 29] (by decide +kernel) (pc2 := 15) (lv2 := [(0, .ref a0)]) (st2 := []) (M2 := uI M10 a0 0 1) rfl ⟨trivial, trivial, ⟨(o_a0.sm s10), Or.inr rfl⟩, trivial⟩ ?_
  exact V.vret F (by decide +kernel) ⟨rfl, E.symm, s10⟩
def f_X1_makeConstant_c12  (M12 : Mem) : Mem := M12
def f_X1_makeConstant (M : Mem) (a0 : Nat) (v : Int64) : Mem := f_X1_makeConstant_c12 (f_X1_become M a0 v v ((-1)) v 1 0)
abbrev p_X1_makeConstant (M : Mem) (a0 : Nat) (v : Int64) : Option Value → Mem → Prop := fun r N => r = none ∧ N = f_X1_makeConstant M a0 v ∧ Sm M N
set_option maxRecDepth 100000 in
set_option maxHeartbeats 4000000 in
theorem c_X1_makeConstant (G : Ctx) (l : Launch) (M : Mem) (a0 : Nat) (v : Int64) (o_a0 : isO M a0 1) : CT G l 1 mX1_makeConstant [.ref a0, .long v] M 0 0 (p_X1_makeConstant M a0 v) := by
  refine CT.of (by decide) (Nat.le_of_ble_eq_true rfl) ?_
  intro X d hd hl hRm hnm F
  subst hl
  have E : f_X1_makeConstant M a0 v = f_X1_makeConstant M a0 v := rfl
  show V G X 3 0 0 (Qx G X 0 0 (p_X1_makeConstant M a0 v)) 0 [(0, .ref a0), (1, .long v)] [] M
  refine V.seg F floX1 cjoX1 [.aload_n 0, .lload_n 1, .lload_n 1, .ldc2_w 33, .lload_n 1, .lconst 1, .lconst 0] (by decide +kernel) (pc2 := 9) (lv2 := [(0, .ref a0), (1, .long v)]) (st2 := [.long 0, .long 1, .long v, .long ((-1)), .long v, .long v, .ref a0]) (M2 := M) rfl ⟨trivial, trivial, trivial, trivial, trivial, trivial, trivial, trivial⟩ ?_
  refine V.callV (as := [.long v, .long v, .long ((-1)), .long v, .long 1, .long 0]) (rest := []) F (by decide +kernel) lX1_25 bX1_become ⟨1, _, o_a0, rfl, rfl⟩ (c_X1_become G X.2.1 M a0 v v ((-1)) v 1 0 o_a0) (rm_ok hRm hd (by decide) (by decide)) ⟨Nat.zero_le _, Nat.zero_le _⟩ (Nat.le_of_ble_eq_true rfl) (fun r_ N_ p_ => ?_)
  obtain ⟨rfl, rfl, t9⟩ := p_
  refine (?_ : ∀ (M12 : Mem), (Sm M M12) → f_X1_makeConstant M a0 v = f_X1_makeConstant_c12 M12 → V G X 3 0 0 (Qx G X 0 0 (p_X1_makeConstant M a0 v)) 12 [(0, .ref a0), (1, .long v)] [] M12) _ t9 E
  intro M12 s12 E
  exact V.vret F (by decide +kernel) ⟨rfl, E.symm, s12⟩
def f_X1_copy_c56  (M56 : Mem) : Mem := M56
def f_X1_copy_c32 (a0 : Nat) (b : Nat) (M32 : Mem) : Mem := f_X1_copy_c56 (uL (uL (uL M32 a0 4 (mL M32 b 4)) a0 5 (mL (uL M32 a0 4 (mL M32 b 4)) b 5)) a0 6 (mL (uL (uL M32 a0 4 (mL M32 b 4)) a0 5 (mL (uL M32 a0 4 (mL M32 b 4)) b 5)) b 6))
def f_X1_copy (M : Mem) (a0 : Nat) (b : Nat) : Mem := f_X1_copy_c32 a0 b (uL (uL (uL (uI M a0 0 (mI M b 0)) a0 1 (mL (uI M a0 0 (mI M b 0)) b 1)) a0 2 (mL (uL (uI M a0 0 (mI M b 0)) a0 1 (mL (uI M a0 0 (mI M b 0)) b 1)) b 2)) a0 3 (mL (uL (uL (uI M a0 0 (mI M b 0)) a0 1 (mL (uI M a0 0 (mI M b 0)) b 1)) a0 2 (mL (uL (uI M a0 0 (mI M b 0)) a0 1 (mL (uI M a0 0 (mI M b 0)) b 1)) b 2)) b 3))
abbrev p_X1_copy (M : Mem) (a0 : Nat) (b : Nat) : Option Value → Mem → Prop := fun r N => r = none ∧ N = f_X1_copy M a0 b ∧ Sm M N
set_option maxRecDepth 100000 in
set_option maxHeartbeats 4000000 in
theorem c_X1_copy (G : Ctx) (l : Launch) (M : Mem) (a0 : Nat) (b : Nat) (o_a0 : isO M a0 1) (o_b : isO M b 1) : CT G l 0 mX1_copy [.ref a0, .ref b] M 0 0 (p_X1_copy M a0 b) := by
  refine CT.of (by decide) (Nat.le_of_ble_eq_true rfl) ?_
  intro X d hd hl hRm hnm F
  subst hl
  have E : f_X1_copy M a0 b = f_X1_copy M a0 b := rfl
  show V G X 2 0 0 (Qx G X 0 0 (p_X1_copy M a0 b)) 0 [(0, .ref a0), (1, .ref b)] [] M
  refine V.bool b 0 (bl_o o_b rfl) (fun bz5 => ?_)
  refine V.seg F floX1 cjoX1 [.aload_n 0, .aload_n 1, .getfield 29, .putfield 29, .aload_n 0, .aload_n 1, .getfield 11, .putfield 11, .aload_n 0, .aload_n 1, .getfield 19, .putfield 19, .aload_n 0, .aload_n 1, .getfield 35, .putfield 35] (by decide +kernel) (pc2 := 32) (lv2 := [(0, .ref a0), (1, .ref b)]) (st2 := []) (M2 := uL (uL (uL (uI M a0 0 (mI M b 0)) a0 1 (mL (uI M a0 0 (mI M b 0)) b 1)) a0 2 (mL (uL (uI M a0 0 (mI M b 0)) a0 1 (mL (uI M a0 0 (mI M b 0)) b 1)) b 2)) a0 3 (mL (uL (uL (uI M a0 0 (mI M b 0)) a0 1 (mL (uI M a0 0 (mI M b 0)) b 1)) a0 2 (mL (uL (uI M a0 0 (mI M b 0)) a0 1 (mL (uI M a0 0 (mI M b 0)) b 1)) b 2)) b 3)) rfl ⟨trivial, trivial, o_b, ⟨o_a0, bz5⟩, trivial, trivial, o_b, o_a0, trivial, trivial, o_b, o_a0, trivial, trivial, o_b, o_a0, trivial⟩ ?_
  refine (?_ : ∀ (M32 : Mem), (Sm M M32) → f_X1_copy M a0 b = f_X1_copy_c32 a0 b M32 → V G X 2 0 0 (Qx G X 0 0 (p_X1_copy M a0 b)) 32 [(0, .ref a0), (1, .ref b)] [] M32) _ Sm.rf E
  intro M32 s32 E
  refine V.seg F floX1 cjoX1 [.aload_n 0, .aload_n 1, .getfield 38, .putfield 38, .aload_n 0, .aload_n 1, .getfield 22, .putfield 22, .aload_n 0, .aload_n 1, .getfield 41, .putfield 41] (by decide +kernel) (pc2 := 56) (lv2 := [(0, .ref a0), (1, .ref b)]) (st2 := []) (M2 := uL (uL (uL M32 a0 4 (mL M32 b 4)) a0 5 (mL (uL M32 a0 4 (mL M32 b 4)) b 5)) a0 6 (mL (uL (uL M32 a0 4 (mL M32 b 4)) a0 5 (mL (uL M32 a0 4 (mL M32 b 4)) b 5)) b 6)) rfl ⟨trivial, trivial, (o_b.sm s32), (o_a0.sm s32), trivial, trivial, (o_b.sm s32), (o_a0.sm s32), trivial, trivial, (o_b.sm s32), (o_a0.sm s32), trivial⟩ ?_
  refine (?_ : ∀ (M56 : Mem), (Sm M M56) → f_X1_copy M a0 b = f_X1_copy_c56 M56 → V G X 2 0 0 (Qx G X 0 0 (p_X1_copy M a0 b)) 56 [(0, .ref a0), (1, .ref b)] [] M56) _ s32 E
  intro M56 s56 E
  exact V.vret F (by decide +kernel) ⟨rfl, E.symm, s56⟩
def f_X1_isConstant_24  (w0_24 : Int32) : Int32 := w0_24
def f_X1_isConstant_23   : Int32 := f_X1_isConstant_24 0
def f_X1_isConstant (M : Mem) (a0 : Nat) : Int32 := if (mI M a0 0) = 0 then if (mL M a0 1) = (mL M a0 2) then f_X1_isConstant_24 1 else f_X1_isConstant_23  else f_X1_isConstant_23 
abbrev p_X1_isConstant (M : Mem) (a0 : Nat) : Option Value → Mem → Prop := fun r N => r = some (.int (f_X1_isConstant M a0)) ∧ N = M ∧ ((f_X1_isConstant M a0) = 0 ∨ (f_X1_isConstant M a0) = 1)
set_option maxRecDepth 100000 in
set_option maxHeartbeats 4000000 in
theorem c_X1_isConstant (G : Ctx) (l : Launch) (M : Mem) (a0 : Nat) (o_a0 : isO M a0 1) : CT G l 0 mX1_isConstant [.ref a0] M 0 0 (p_X1_isConstant M a0) := by
  refine CT.of (by decide) (Nat.le_of_ble_eq_true rfl) ?_
  intro X d hd hl hRm hnm F
  subst hl
  have E : f_X1_isConstant M a0 = f_X1_isConstant M a0 := rfl
  show V G X 1 0 0 (Qx G X 0 0 (p_X1_isConstant M a0)) 0 [(0, .ref a0)] [] M
  refine V.seg F floX1 cjoX1 [.aload_n 0, .getfield 29] (by decide +kernel) (pc2 := 4) (lv2 := [(0, .ref a0)]) (st2 := [.int (mI M a0 0)]) (M2 := M) rfl ⟨trivial, o_a0, trivial⟩ ?_
  have hJ24 : ∀ (w0_24 : Int32), (w0_24 = 0 ∨ w0_24 = 1) → f_X1_isConstant M a0 = f_X1_isConstant_24 w0_24 → V G X 1 0 0 (Qx G X 0 0 (p_X1_isConstant M a0)) 24 [] [.int w0_24] M := by
    intro w0_24 zw0_24 E
    exact V.zret F (zw0_24) (by decide +kernel) ⟨congrArg (fun z => some (Value.int z)) E.symm, rfl, by rw [E]; exact zw0_24⟩
  have hJ23 : f_X1_isConstant M a0 = f_X1_isConstant_23 → V G X 1 0 0 (Qx G X 0 0 (p_X1_isConstant M a0)) 23 [] [] M := by
    intro E
    refine V.seg F floX1 cjoX1 [.iconst 0] (by decide +kernel) (pc2 := 24) (lv2 := []) (st2 := [.int 0]) (M2 := M) rfl ⟨trivial, trivial⟩ ?_
    refine V.pick [] rfl ?_
    exact hJ24 0 (Or.inl rfl) E
  refine V.if_ne (off := 19) F (by decide +kernel) (tgt := 23) (by decide) (fun h4 => ?_) (fun h4 => ?_)
  · replace E := E.trans (if_neg h4)
    refine V.pick [] rfl ?_
    exact hJ23   E
  · replace E := E.trans (if_pos h4)
    refine V.seg F floX1 cjoX1 [.aload_n 0, .getfield 11, .aload_n 0, .getfield 19, .lcmp] (by decide +kernel) (pc2 := 16) (lv2 := [(0, .ref a0)]) (st2 := [.int (lg_cmp (mL M a0 1) (mL M a0 2))]) (M2 := M) rfl ⟨trivial, o_a0, trivial, o_a0, trivial, trivial⟩ ?_
    refine V.lc_ne (off := 7) F (by decide +kernel) (tgt := 23) (by decide) (fun h16 => ?_) (fun h16 => ?_)
    · replace E := E.trans (if_neg h16)
      refine V.pick [] rfl ?_
      exact hJ23   E
    · replace E := E.trans (if_pos h16)
      refine V.seg F floX1 cjoX1 [.iconst 1, .goto 4] (by decide +kernel) (pc2 := 24) (lv2 := [(0, .ref a0)]) (st2 := [.int 1]) (M2 := M) rfl ⟨trivial, (by decide), trivial⟩ ?_
      refine V.pick [] rfl ?_
      exact hJ24 1 (Or.inr rfl) E
def f_X1_isLike_88  (w0_88 : Int32) : Int32 := w0_88
def f_X1_isLike_87   : Int32 := f_X1_isLike_88 0
def f_X1_isLike (M : Mem) (a0 : Nat) (b : Nat) : Int32 := if (mI M a0 0) = (mI M b 0) then if (mL M a0 1) = (mL M b 1) then if (mL M a0 2) = (mL M b 2) then if (mL M a0 3) = (mL M b 3) then if (mL M a0 4) = (mL M b 4) then if (mL M a0 5) = (mL M b 5) then if (mL M a0 6) = (mL M b 6) then f_X1_isLike_88 1 else f_X1_isLike_87  else f_X1_isLike_87  else f_X1_isLike_87  else f_X1_isLike_87  else f_X1_isLike_87  else f_X1_isLike_87  else f_X1_isLike_87 
abbrev p_X1_isLike (M : Mem) (a0 : Nat) (b : Nat) : Option Value → Mem → Prop := fun r N => r = some (.int (f_X1_isLike M a0 b)) ∧ N = M ∧ ((f_X1_isLike M a0 b) = 0 ∨ (f_X1_isLike M a0 b) = 1)
set_option maxRecDepth 100000 in
set_option maxHeartbeats 4000000 in
theorem c_X1_isLike (G : Ctx) (l : Launch) (M : Mem) (a0 : Nat) (b : Nat) (o_a0 : isO M a0 1) (o_b : isO M b 1) : CT G l 0 mX1_isLike [.ref a0, .ref b] M 0 0 (p_X1_isLike M a0 b) := by
  refine CT.of (by decide) (Nat.le_of_ble_eq_true rfl) ?_
  intro X d hd hl hRm hnm F
  subst hl
  have E : f_X1_isLike M a0 b = f_X1_isLike M a0 b := rfl
  show V G X 2 0 0 (Qx G X 0 0 (p_X1_isLike M a0 b)) 0 [(0, .ref a0), (1, .ref b)] [] M
  refine V.seg F floX1 cjoX1 [.aload_n 0, .getfield 29, .aload_n 1, .getfield 29] (by decide +kernel) (pc2 := 8) (lv2 := [(0, .ref a0), (1, .ref b)]) (st2 := [.int (mI M b 0), .int (mI M a0 0)]) (M2 := M) rfl ⟨trivial, o_a0, trivial, o_b, trivial⟩ ?_
  have hJ88 : ∀ (w0_88 : Int32), (w0_88 = 0 ∨ w0_88 = 1) → f_X1_isLike M a0 b = f_X1_isLike_88 w0_88 → V G X 2 0 0 (Qx G X 0 0 (p_X1_isLike M a0 b)) 88 [] [.int w0_88] M := by
    intro w0_88 zw0_88 E
    exact V.zret F (zw0_88) (by decide +kernel) ⟨congrArg (fun z => some (Value.int z)) E.symm, rfl, by rw [E]; exact zw0_88⟩
  have hJ87 : f_X1_isLike M a0 b = f_X1_isLike_87 → V G X 2 0 0 (Qx G X 0 0 (p_X1_isLike M a0 b)) 87 [] [] M := by
    intro E
    refine V.seg F floX1 cjoX1 [.iconst 0] (by decide +kernel) (pc2 := 88) (lv2 := []) (st2 := [.int 0]) (M2 := M) rfl ⟨trivial, trivial⟩ ?_
    refine V.pick [] rfl ?_
    exact hJ88 0 (Or.inl rfl) E
  refine V.ic_ne (off := 79) F (by decide +kernel) (tgt := 87) (by decide) (fun h8 => ?_) (fun h8 => ?_)
  · replace E := E.trans (if_neg h8)
    refine V.pick [] rfl ?_
    exact hJ87   E
  · replace E := E.trans (if_pos h8)
    refine V.seg F floX1 cjoX1 [.aload_n 0, .getfield 11, .aload_n 1, .getfield 11, .lcmp] (by decide +kernel) (pc2 := 20) (lv2 := [(0, .ref a0), (1, .ref b)]) (st2 := [.int (lg_cmp (mL M a0 1) (mL M b 1))]) (M2 := M) rfl ⟨trivial, o_a0, trivial, o_b, trivial, trivial⟩ ?_
    refine V.lc_ne (off := 67) F (by decide +kernel) (tgt := 87) (by decide) (fun h20 => ?_) (fun h20 => ?_)
    · replace E := E.trans (if_neg h20)
      refine V.pick [] rfl ?_
      exact hJ87   E
    · replace E := E.trans (if_pos h20)
      refine V.seg F floX1 cjoX1 [.aload_n 0, .getfield 19, .aload_n 1, .getfield 19, .lcmp] (by decide +kernel) (pc2 := 32) (lv2 := [(0, .ref a0), (1, .ref b)]) (st2 := [.int (lg_cmp (mL M a0 2) (mL M b 2))]) (M2 := M) rfl ⟨trivial, o_a0, trivial, o_b, trivial, trivial⟩ ?_
      refine V.lc_ne (off := 55) F (by decide +kernel) (tgt := 87) (by decide) (fun h32 => ?_) (fun h32 => ?_)
      · replace E := E.trans (if_neg h32)
        refine V.pick [] rfl ?_
        exact hJ87   E
      · replace E := E.trans (if_pos h32)
        refine V.seg F floX1 cjoX1 [.aload_n 0, .getfield 35, .aload_n 1, .getfield 35, .lcmp] (by decide +kernel) (pc2 := 44) (lv2 := [(0, .ref a0), (1, .ref b)]) (st2 := [.int (lg_cmp (mL M a0 3) (mL M b 3))]) (M2 := M) rfl ⟨trivial, o_a0, trivial, o_b, trivial, trivial⟩ ?_
        refine V.lc_ne (off := 43) F (by decide +kernel) (tgt := 87) (by decide) (fun h44 => ?_) (fun h44 => ?_)
        · replace E := E.trans (if_neg h44)
          refine V.pick [] rfl ?_
          exact hJ87   E
        · replace E := E.trans (if_pos h44)
          refine V.seg F floX1 cjoX1 [.aload_n 0, .getfield 38, .aload_n 1, .getfield 38, .lcmp] (by decide +kernel) (pc2 := 56) (lv2 := [(0, .ref a0), (1, .ref b)]) (st2 := [.int (lg_cmp (mL M a0 4) (mL M b 4))]) (M2 := M) rfl ⟨trivial, o_a0, trivial, o_b, trivial, trivial⟩ ?_
          refine V.lc_ne (off := 31) F (by decide +kernel) (tgt := 87) (by decide) (fun h56 => ?_) (fun h56 => ?_)
          · replace E := E.trans (if_neg h56)
            refine V.pick [] rfl ?_
            exact hJ87   E
          · replace E := E.trans (if_pos h56)
            refine V.seg F floX1 cjoX1 [.aload_n 0, .getfield 22, .aload_n 1, .getfield 22, .lcmp] (by decide +kernel) (pc2 := 68) (lv2 := [(0, .ref a0), (1, .ref b)]) (st2 := [.int (lg_cmp (mL M a0 5) (mL M b 5))]) (M2 := M) rfl ⟨trivial, o_a0, trivial, o_b, trivial, trivial⟩ ?_
            refine V.lc_ne (off := 19) F (by decide +kernel) (tgt := 87) (by decide) (fun h68 => ?_) (fun h68 => ?_)
            · replace E := E.trans (if_neg h68)
              refine V.pick [] rfl ?_
              exact hJ87   E
            · replace E := E.trans (if_pos h68)
              refine V.seg F floX1 cjoX1 [.aload_n 0, .getfield 41, .aload_n 1, .getfield 41, .lcmp] (by decide +kernel) (pc2 := 80) (lv2 := [(0, .ref a0), (1, .ref b)]) (st2 := [.int (lg_cmp (mL M a0 6) (mL M b 6))]) (M2 := M) rfl ⟨trivial, o_a0, trivial, o_b, trivial, trivial⟩ ?_
              refine V.lc_ne (off := 7) F (by decide +kernel) (tgt := 87) (by decide) (fun h80 => ?_) (fun h80 => ?_)
              · replace E := E.trans (if_neg h80)
                refine V.pick [] rfl ?_
                exact hJ87   E
              · replace E := E.trans (if_pos h80)
                refine V.seg F floX1 cjoX1 [.iconst 1, .goto 4] (by decide +kernel) (pc2 := 88) (lv2 := [(0, .ref a0), (1, .ref b)]) (st2 := [.int 1]) (M2 := M) rfl ⟨trivial, (by decide), trivial⟩ ?_
                refine V.pick [] rfl ?_
                exact hJ88 1 (Or.inr rfl) E
def f_X1_holds_62  (w0_62 : Int32) : Int32 := w0_62
def f_X1_holds_61   : Int32 := f_X1_holds_62 0
def f_X1_holds (M : Mem) (a0 : Nat) (v : Int64) : Int32 := if (mI M a0 0) = 0 then if v < (mL M a0 1) then f_X1_holds_61  else if (mL M a0 2) < v then f_X1_holds_61  else if ((v ^^^ (mL M a0 4)) &&& (mL M a0 3)) = 0 then if (f_X6_restBy v (mL M a0 5)) = (mL M a0 6) then f_X1_holds_62 1 else f_X1_holds_61  else f_X1_holds_61  else f_X1_holds_61 
abbrev p_X1_holds (M : Mem) (a0 : Nat) (v : Int64) : Option Value → Mem → Prop := fun r N => r = some (.int (f_X1_holds M a0 v)) ∧ N = M ∧ ((f_X1_holds M a0 v) = 0 ∨ (f_X1_holds M a0 v) = 1)
set_option maxRecDepth 100000 in
set_option maxHeartbeats 4000000 in
theorem c_X1_holds (G : Ctx) (l : Launch) (M : Mem) (a0 : Nat) (v : Int64) (o_a0 : isO M a0 1) : CT G l 1 mX1_holds [.ref a0, .long v] M 0 0 (p_X1_holds M a0 v) := by
  refine CT.of (by decide) (Nat.le_of_ble_eq_true rfl) ?_
  intro X d hd hl hRm hnm F
  subst hl
  have E : f_X1_holds M a0 v = f_X1_holds M a0 v := rfl
  show V G X 3 0 0 (Qx G X 0 0 (p_X1_holds M a0 v)) 0 [(0, .ref a0), (1, .long v)] [] M
  refine V.seg F floX1 cjoX1 [.aload_n 0, .getfield 29] (by decide +kernel) (pc2 := 4) (lv2 := [(0, .ref a0), (1, .long v)]) (st2 := [.int (mI M a0 0)]) (M2 := M) rfl ⟨trivial, o_a0, trivial⟩ ?_
  have hJ62 : ∀ (w0_62 : Int32), (w0_62 = 0 ∨ w0_62 = 1) → f_X1_holds M a0 v = f_X1_holds_62 w0_62 → V G X 3 0 0 (Qx G X 0 0 (p_X1_holds M a0 v)) 62 [] [.int w0_62] M := by
    intro w0_62 zw0_62 E
    exact V.zret F (zw0_62) (by decide +kernel) ⟨congrArg (fun z => some (Value.int z)) E.symm, rfl, by rw [E]; exact zw0_62⟩
  have hJ61 : f_X1_holds M a0 v = f_X1_holds_61 → V G X 3 0 0 (Qx G X 0 0 (p_X1_holds M a0 v)) 61 [] [] M := by
    intro E
    refine V.seg F floX1 cjoX1 [.iconst 0] (by decide +kernel) (pc2 := 62) (lv2 := []) (st2 := [.int 0]) (M2 := M) rfl ⟨trivial, trivial⟩ ?_
    refine V.pick [] rfl ?_
    exact hJ62 0 (Or.inl rfl) E
  refine V.if_ne (off := 57) F (by decide +kernel) (tgt := 61) (by decide) (fun h4 => ?_) (fun h4 => ?_)
  · replace E := E.trans (if_neg h4)
    refine V.pick [] rfl ?_
    exact hJ61   E
  · replace E := E.trans (if_pos h4)
    refine V.seg F floX1 cjoX1 [.lload_n 1, .aload_n 0, .getfield 11, .lcmp] (by decide +kernel) (pc2 := 13) (lv2 := [(0, .ref a0), (1, .long v)]) (st2 := [.int (lg_cmp v (mL M a0 1))]) (M2 := M) rfl ⟨trivial, trivial, o_a0, trivial, trivial⟩ ?_
    refine V.lc_lt (off := 48) F (by decide +kernel) (tgt := 61) (by decide) (fun h13 => ?_) (fun h13 => ?_)
    · replace E := E.trans (if_pos h13)
      refine V.pick [] rfl ?_
      exact hJ61   E
    · replace E := E.trans (if_neg h13)
      refine V.seg F floX1 cjoX1 [.lload_n 1, .aload_n 0, .getfield 19, .lcmp] (by decide +kernel) (pc2 := 22) (lv2 := [(0, .ref a0), (1, .long v)]) (st2 := [.int (lg_cmp v (mL M a0 2))]) (M2 := M) rfl ⟨trivial, trivial, o_a0, trivial, trivial⟩ ?_
      refine V.lc_gt (off := 39) F (by decide +kernel) (tgt := 61) (by decide) (fun h22 => ?_) (fun h22 => ?_)
      · replace E := E.trans (if_pos h22)
        refine V.pick [] rfl ?_
        exact hJ61   E
      · replace E := E.trans (if_neg h22)
        refine V.seg F floX1 cjoX1 [.lload_n 1, .aload_n 0, .getfield 38, .lxor, .aload_n 0, .getfield 35, .land, .lconst 0, .lcmp] (by decide +kernel) (pc2 := 38) (lv2 := [(0, .ref a0), (1, .long v)]) (st2 := [.int (lg_cmp ((v ^^^ (mL M a0 4)) &&& (mL M a0 3)) 0)]) (M2 := M) rfl ⟨trivial, trivial, o_a0, trivial, trivial, o_a0, trivial, trivial, trivial, trivial⟩ ?_
        refine V.lc_ne (off := 23) F (by decide +kernel) (tgt := 61) (by decide) (fun h38 => ?_) (fun h38 => ?_)
        · replace E := E.trans (if_neg h38)
          refine V.pick [] rfl ?_
          exact hJ61   E
        · replace E := E.trans (if_pos h38)
          refine V.seg F floX1 cjoX1 [.lload_n 1, .aload_n 0, .getfield 22] (by decide +kernel) (pc2 := 46) (lv2 := [(0, .ref a0), (1, .long v)]) (st2 := [.long (mL M a0 5), .long v]) (M2 := M) rfl ⟨trivial, trivial, o_a0, trivial⟩ ?_
          refine V.callSN (as := [.long v, .long (mL M a0 5)]) (rest := []) F (by decide +kernel) lX1_44 bX6_restBy (c_X6_restBy G X.2.1 M v (mL M a0 5)) (rm_ok hRm hd (by decide) (by decide)) ⟨Nat.zero_le _, Nat.zero_le _⟩ (Nat.le_of_ble_eq_true rfl) (fun r_ N_ p_ => ?_)
          obtain ⟨rfl, hN_⟩ := p_
          rw [hN_]
          clear hN_
          refine V.seg F floX1 cjoX1 [.aload_n 0, .getfield 41, .lcmp] (by decide +kernel) (pc2 := 54) (lv2 := [(0, .ref a0), (1, .long v)]) (st2 := [.int (lg_cmp (f_X6_restBy v (mL M a0 5)) (mL M a0 6))]) (M2 := M) rfl ⟨trivial, o_a0, trivial, trivial⟩ ?_
          refine V.lc_ne (off := 7) F (by decide +kernel) (tgt := 61) (by decide) (fun h54 => ?_) (fun h54 => ?_)
          · replace E := E.trans (if_neg h54)
            refine V.pick [] rfl ?_
            exact hJ61   E
          · replace E := E.trans (if_pos h54)
            refine V.seg F floX1 cjoX1 [.iconst 1, .goto 4] (by decide +kernel) (pc2 := 62) (lv2 := [(0, .ref a0), (1, .long v)]) (st2 := [.int 1]) (M2 := M) rfl ⟨trivial, (by decide), trivial⟩ ?_
            refine V.pick [] rfl ?_
            exact hJ62 1 (Or.inr rfl) E
def f_X1_countedModulus_15  (w0_15 : Int64) : Int64 := w0_15
def f_X1_countedModulus (M : Mem) (a0 : Nat) : Int64 := if (f_X1_isConstant M a0) = 0 then f_X1_countedModulus_15 (mL M a0 5) else f_X1_countedModulus_15 0
abbrev p_X1_countedModulus (M : Mem) (a0 : Nat) : Option Value → Mem → Prop := fun r N => r = some (.long (f_X1_countedModulus M a0)) ∧ N = M
set_option maxRecDepth 100000 in
set_option maxHeartbeats 4000000 in
theorem c_X1_countedModulus (G : Ctx) (l : Launch) (M : Mem) (a0 : Nat) (o_a0 : isO M a0 1) : CT G l 1 mX1_countedModulus [.ref a0] M 0 0 (p_X1_countedModulus M a0) := by
  refine CT.of (by decide) (Nat.le_of_ble_eq_true rfl) ?_
  intro X d hd hl hRm hnm F
  subst hl
  have E : f_X1_countedModulus M a0 = f_X1_countedModulus M a0 := rfl
  show V G X 1 0 0 (Qx G X 0 0 (p_X1_countedModulus M a0)) 0 [(0, .ref a0)] [] M
  refine V.seg F floX1 cjoX1 [.aload_n 0] (by decide +kernel) (pc2 := 1) (lv2 := [(0, .ref a0)]) (st2 := [.ref a0]) (M2 := M) rfl ⟨trivial, trivial⟩ ?_
  refine V.callV (as := []) (rest := []) F (by decide +kernel) lX1_48 bX1_isConstant ⟨1, _, o_a0, rfl, rfl⟩ (c_X1_isConstant G X.2.1 M a0 o_a0) (rm_ok hRm hd (by decide) (by decide)) ⟨Nat.zero_le _, Nat.zero_le _⟩ (Nat.le_of_ble_eq_true rfl) (fun r_ N_ p_ => ?_)
  obtain ⟨rfl, hN_, z1⟩ := p_
  rw [hN_]
  clear hN_
  have hJ15 : ∀ (w0_15 : Int64), f_X1_countedModulus M a0 = f_X1_countedModulus_15 w0_15 → V G X 1 0 0 (Qx G X 0 0 (p_X1_countedModulus M a0)) 15 [] [.long w0_15] M := by
    intro w0_15 E
    exact V.lret F (by decide +kernel) ⟨congrArg (fun z => some (Value.long z)) E.symm, rfl⟩
  refine V.if_eq (off := 7) F (by decide +kernel) (tgt := 11) (by decide) (fun h4 => ?_) (fun h4 => ?_)
  · replace E := E.trans (if_pos h4)
    refine V.seg F floX1 cjoX1 [.aload_n 0, .getfield 22] (by decide +kernel) (pc2 := 15) (lv2 := [(0, .ref a0)]) (st2 := [.long (mL M a0 5)]) (M2 := M) rfl ⟨trivial, o_a0, trivial⟩ ?_
    refine V.pick [] rfl ?_
    exact hJ15 (mL M a0 5)  E
  · replace E := E.trans (if_neg h4)
    refine V.seg F floX1 cjoX1 [.lconst 0, .goto 7] (by decide +kernel) (pc2 := 15) (lv2 := [(0, .ref a0)]) (st2 := [.long 0]) (M2 := M) rfl ⟨trivial, (by decide), trivial⟩ ?_
    refine V.pick [] rfl ?_
    exact hJ15 0  E
def f_X1_countedRest_18  (w0_18 : Int64) : Int64 := w0_18
def f_X1_countedRest (M : Mem) (a0 : Nat) : Int64 := if (f_X1_isConstant M a0) = 0 then f_X1_countedRest_18 (mL M a0 6) else f_X1_countedRest_18 (mL M a0 1)
abbrev p_X1_countedRest (M : Mem) (a0 : Nat) : Option Value → Mem → Prop := fun r N => r = some (.long (f_X1_countedRest M a0)) ∧ N = M
set_option maxRecDepth 100000 in
set_option maxHeartbeats 4000000 in
theorem c_X1_countedRest (G : Ctx) (l : Launch) (M : Mem) (a0 : Nat) (o_a0 : isO M a0 1) : CT G l 1 mX1_countedRest [.ref a0] M 0 0 (p_X1_countedRest M a0) := by
  refine CT.of (by decide) (Nat.le_of_ble_eq_true rfl) ?_
  intro X d hd hl hRm hnm F
  subst hl
  have E : f_X1_countedRest M a0 = f_X1_countedRest M a0 := rfl
  show V G X 1 0 0 (Qx G X 0 0 (p_X1_countedRest M a0)) 0 [(0, .ref a0)] [] M
  refine V.seg F floX1 cjoX1 [.aload_n 0] (by decide +kernel) (pc2 := 1) (lv2 := [(0, .ref a0)]) (st2 := [.ref a0]) (M2 := M) rfl ⟨trivial, trivial⟩ ?_
  refine V.callV (as := []) (rest := []) F (by decide +kernel) lX1_48 bX1_isConstant ⟨1, _, o_a0, rfl, rfl⟩ (c_X1_isConstant G X.2.1 M a0 o_a0) (rm_ok hRm hd (by decide) (by decide)) ⟨Nat.zero_le _, Nat.zero_le _⟩ (Nat.le_of_ble_eq_true rfl) (fun r_ N_ p_ => ?_)
  obtain ⟨rfl, hN_, z1⟩ := p_
  rw [hN_]
  clear hN_
  have hJ18 : ∀ (w0_18 : Int64), f_X1_countedRest M a0 = f_X1_countedRest_18 w0_18 → V G X 1 0 0 (Qx G X 0 0 (p_X1_countedRest M a0)) 18 [] [.long w0_18] M := by
    intro w0_18 E
    exact V.lret F (by decide +kernel) ⟨congrArg (fun z => some (Value.long z)) E.symm, rfl⟩
  refine V.if_eq (off := 10) F (by decide +kernel) (tgt := 14) (by decide) (fun h4 => ?_) (fun h4 => ?_)
  · replace E := E.trans (if_pos h4)
    refine V.seg F floX1 cjoX1 [.aload_n 0, .getfield 41] (by decide +kernel) (pc2 := 18) (lv2 := [(0, .ref a0)]) (st2 := [.long (mL M a0 6)]) (M2 := M) rfl ⟨trivial, o_a0, trivial⟩ ?_
    refine V.pick [] rfl ?_
    exact hJ18 (mL M a0 6)  E
  · replace E := E.trans (if_neg h4)
    refine V.seg F floX1 cjoX1 [.aload_n 0, .getfield 11, .goto 7] (by decide +kernel) (pc2 := 18) (lv2 := [(0, .ref a0)]) (st2 := [.long (mL M a0 1)]) (M2 := M) rfl ⟨trivial, o_a0, (by decide), trivial⟩ ?_
    refine V.pick [] rfl ?_
    exact hJ18 (mL M a0 1)  E
def f_X1_fitBits_100  (w0_100 : Int32) (M100 : Mem) : Int32 × Mem := (w0_100, M100)
def f_X1_fitBits_99  (M99 : Mem) : Int32 × Mem := f_X1_fitBits_100 0 M99
def f_X1_fitBits_c65 (a0 : Nat) (M : Mem) (M65 : Mem) : Int32 × Mem := if (mL M65 a0 1) < (mL M a0 1) then f_X1_fitBits_99 M65 else if (mL M a0 2) < (mL M65 a0 2) then f_X1_fitBits_99 M65 else if (mL M65 a0 2) < (mL M65 a0 1) then f_X1_fitBits_99 M65 else f_X1_fitBits_100 1 M65
def f_X1_fitBits (M : Mem) (a0 : Nat) : Int32 × Mem := f_X1_fitBits_c65 a0 M (uL (uL M a0 1 (f_X6_leastWithBits (mL M a0 1) (mL M a0 3) (mL M a0 4))) a0 2 ((f_X6_leastWithBits ((mL (uL M a0 1 (f_X6_leastWithBits (mL M a0 1) (mL M a0 3) (mL M a0 4))) a0 2) ^^^ ((-1))) (mL (uL M a0 1 (f_X6_leastWithBits (mL M a0 1) (mL M a0 3) (mL M a0 4))) a0 3) ((mL (uL M a0 1 (f_X6_leastWithBits (mL M a0 1) (mL M a0 3) (mL M a0 4))) a0 3) &&& ((mL (uL M a0 1 (f_X6_leastWithBits (mL M a0 1) (mL M a0 3) (mL M a0 4))) a0 4) ^^^ ((-1))))) ^^^ ((-1))))
abbrev p_X1_fitBits (M : Mem) (a0 : Nat) : Option Value → Mem → Prop := fun r N => r = some (.int (f_X1_fitBits M a0).1) ∧ N = (f_X1_fitBits M a0).2 ∧ Sm M N ∧ ((f_X1_fitBits M a0).1 = 0 ∨ (f_X1_fitBits M a0).1 = 1)
set_option maxRecDepth 100000 in
set_option maxHeartbeats 4000000 in
theorem c_X1_fitBits (G : Ctx) (l : Launch) (M : Mem) (a0 : Nat) (o_a0 : isO M a0 1) : CT G l 1 mX1_fitBits [.ref a0] M 0 0 (p_X1_fitBits M a0) := by
  refine CT.of (by decide) (Nat.le_of_ble_eq_true rfl) ?_
  intro X d hd hl hRm hnm F
  subst hl
  have E : f_X1_fitBits M a0 = f_X1_fitBits M a0 := rfl
  show V G X 5 0 0 (Qx G X 0 0 (p_X1_fitBits M a0)) 0 [(0, .ref a0)] [] M
  refine V.seg F floX1 cjoX1 [.aload_n 0, .getfield 11, .lstore_n 1, .aload_n 0, .getfield 19, .lstore_n 3, .aload_n 0, .aload_n 0, .getfield 11, .aload_n 0, .getfield 35, .aload_n 0, .getfield 38] (by decide +kernel) (pc2 := 23) (lv2 := [(3, .long (mL M a0 2)), (1, .long (mL M a0 1)), (0, .ref a0)]) (st2 := [.long (mL M a0 4), .long (mL M a0 3), .long (mL M a0 1), .ref a0]) (M2 := M) rfl ⟨trivial, o_a0, (by decide), trivial, o_a0, (by decide), trivial, trivial, o_a0, trivial, o_a0, trivial, o_a0, trivial⟩ ?_
  refine V.callSN (as := [.long (mL M a0 1), .long (mL M a0 3), .long (mL M a0 4)]) (rest := [.ref a0]) F (by decide +kernel) lX1_68 bX6_leastWithBits (c_X6_leastWithBits G X.2.1 M (mL M a0 1) (mL M a0 3) (mL M a0 4)) (rm_ok hRm hd (by decide) (by decide)) ⟨Nat.zero_le _, Nat.zero_le _⟩ (Nat.le_of_ble_eq_true rfl) (fun r_ N_ p_ => ?_)
  obtain ⟨rfl, hN_⟩ := p_
  rw [hN_]
  clear hN_
  refine V.seg F floX1 cjoX1 [.putfield 11, .aload_n 0, .aload_n 0, .getfield 19, .ldc2_w 33, .lxor, .aload_n 0, .getfield 35, .aload_n 0, .getfield 35, .aload_n 0, .getfield 38, .ldc2_w 33, .lxor, .land] (by decide +kernel) (pc2 := 55) (lv2 := [(3, .long (mL M a0 2)), (1, .long (mL M a0 1)), (0, .ref a0)]) (st2 := [.long ((mL (uL M a0 1 (f_X6_leastWithBits (mL M a0 1) (mL M a0 3) (mL M a0 4))) a0 3) &&& ((mL (uL M a0 1 (f_X6_leastWithBits (mL M a0 1) (mL M a0 3) (mL M a0 4))) a0 4) ^^^ ((-1)))), .long (mL (uL M a0 1 (f_X6_leastWithBits (mL M a0 1) (mL M a0 3) (mL M a0 4))) a0 3), .long ((mL (uL M a0 1 (f_X6_leastWithBits (mL M a0 1) (mL M a0 3) (mL M a0 4))) a0 2) ^^^ ((-1))), .ref a0]) (M2 := uL M a0 1 (f_X6_leastWithBits (mL M a0 1) (mL M a0 3) (mL M a0 4))) rfl ⟨o_a0, trivial, trivial, o_a0, trivial, trivial, trivial, o_a0, trivial, o_a0, trivial, o_a0, trivial, trivial, trivial, trivial⟩ ?_
  refine V.callSN (as := [.long ((mL (uL M a0 1 (f_X6_leastWithBits (mL M a0 1) (mL M a0 3) (mL M a0 4))) a0 2) ^^^ ((-1))), .long (mL (uL M a0 1 (f_X6_leastWithBits (mL M a0 1) (mL M a0 3) (mL M a0 4))) a0 3), .long ((mL (uL M a0 1 (f_X6_leastWithBits (mL M a0 1) (mL M a0 3) (mL M a0 4))) a0 3) &&& ((mL (uL M a0 1 (f_X6_leastWithBits (mL M a0 1) (mL M a0 3) (mL M a0 4))) a0 4) ^^^ ((-1))))]) (rest := [.ref a0]) F (by decide +kernel) lX1_68 bX6_leastWithBits (c_X6_leastWithBits G X.2.1 (uL M a0 1 (f_X6_leastWithBits (mL M a0 1) (mL M a0 3) (mL M a0 4))) ((mL (uL M a0 1 (f_X6_leastWithBits (mL M a0 1) (mL M a0 3) (mL M a0 4))) a0 2) ^^^ ((-1))) (mL (uL M a0 1 (f_X6_leastWithBits (mL M a0 1) (mL M a0 3) (mL M a0 4))) a0 3) ((mL (uL M a0 1 (f_X6_leastWithBits (mL M a0 1) (mL M a0 3) (mL M a0 4))) a0 3) &&& ((mL (uL M a0 1 (f_X6_leastWithBits (mL M a0 1) (mL M a0 3) (mL M a0 4))) a0 4) ^^^ ((-1))))) (rm_ok hRm hd (by decide) (by decide)) ⟨Nat.zero_le _, Nat.zero_le _⟩ (Nat.le_of_ble_eq_true rfl) (fun r_ N_ p_ => ?_)
  obtain ⟨rfl, hN_⟩ := p_
  rw [hN_]
  clear hN_
  refine V.seg F floX1 cjoX1 [.ldc2_w 33, .lxor, .putfield 19] (by decide +kernel) (pc2 := 65) (lv2 := [(3, .long (mL M a0 2)), (1, .long (mL M a0 1)), (0, .ref a0)]) (st2 := []) (M2 := uL (uL M a0 1 (f_X6_leastWithBits (mL M a0 1) (mL M a0 3) (mL M a0 4))) a0 2 ((f_X6_leastWithBits ((mL (uL M a0 1 (f_X6_leastWithBits (mL M a0 1) (mL M a0 3) (mL M a0 4))) a0 2) ^^^ ((-1))) (mL (uL M a0 1 (f_X6_leastWithBits (mL M a0 1) (mL M a0 3) (mL M a0 4))) a0 3) ((mL (uL M a0 1 (f_X6_leastWithBits (mL M a0 1) (mL M a0 3) (mL M a0 4))) a0 3) &&& ((mL (uL M a0 1 (f_X6_leastWithBits (mL M a0 1) (mL M a0 3) (mL M a0 4))) a0 4) ^^^ ((-1))))) ^^^ ((-1)))) rfl ⟨trivial, trivial, o_a0, trivial⟩ ?_
  refine (?_ : ∀ (M65 : Mem), (Sm M M65) → f_X1_fitBits M a0 = f_X1_fitBits_c65 a0 M M65 → V G X 5 0 0 (Qx G X 0 0 (p_X1_fitBits M a0)) 65 [(3, .long (mL M a0 2)), (1, .long (mL M a0 1)), (0, .ref a0)] [] M65) _ Sm.rf E
  intro M65 s65 E
  refine V.seg F floX1 cjoX1 [.aload_n 0, .getfield 11, .lload_n 1, .lcmp] (by decide +kernel) (pc2 := 71) (lv2 := [(3, .long (mL M a0 2)), (1, .long (mL M a0 1)), (0, .ref a0)]) (st2 := [.int (lg_cmp (mL M65 a0 1) (mL M a0 1))]) (M2 := M65) rfl ⟨trivial, (o_a0.sm s65), trivial, trivial, trivial⟩ ?_
  have hJ100 : ∀ (w0_100 : Int32) (M100 : Mem), (Sm M M100) → (w0_100 = 0 ∨ w0_100 = 1) → f_X1_fitBits M a0 = f_X1_fitBits_100 w0_100 M100 → V G X 5 0 0 (Qx G X 0 0 (p_X1_fitBits M a0)) 100 [] [.int w0_100] M100 := by
    intro w0_100 M100 s100 zw0_100 E
    exact V.zret F (zw0_100) (by decide +kernel) ⟨congrArg (fun z => some (Value.int z.1)) E.symm, congrArg Prod.snd E.symm, s100, by rw [E]; exact zw0_100⟩
  have hJ99 : ∀ (M99 : Mem), (Sm M M99) → f_X1_fitBits M a0 = f_X1_fitBits_99 M99 → V G X 5 0 0 (Qx G X 0 0 (p_X1_fitBits M a0)) 99 [] [] M99 := by
    intro M99 s99 E
    refine V.seg F floX1 cjoX1 [.iconst 0] (by decide +kernel) (pc2 := 100) (lv2 := []) (st2 := [.int 0]) (M2 := M99) rfl ⟨trivial, trivial⟩ ?_
    refine V.pick [] rfl ?_
    exact hJ100 0 M99 s99 (Or.inl rfl) E
  refine V.lc_lt (off := 28) F (by decide +kernel) (tgt := 99) (by decide) (fun h71 => ?_) (fun h71 => ?_)
  · replace E := E.trans (if_pos h71)
    refine V.pick [] rfl ?_
    exact hJ99 M65 s65 E
  · replace E := E.trans (if_neg h71)
    refine V.seg F floX1 cjoX1 [.aload_n 0, .getfield 19, .lload_n 3, .lcmp] (by decide +kernel) (pc2 := 80) (lv2 := [(3, .long (mL M a0 2)), (1, .long (mL M a0 1)), (0, .ref a0)]) (st2 := [.int (lg_cmp (mL M65 a0 2) (mL M a0 2))]) (M2 := M65) rfl ⟨trivial, (o_a0.sm s65), trivial, trivial, trivial⟩ ?_
    refine V.lc_gt (off := 19) F (by decide +kernel) (tgt := 99) (by decide) (fun h80 => ?_) (fun h80 => ?_)
    · replace E := E.trans (if_pos h80)
      refine V.pick [] rfl ?_
      exact hJ99 M65 s65 E
    · replace E := E.trans (if_neg h80)
      refine V.seg F floX1 cjoX1 [.aload_n 0, .getfield 11, .aload_n 0, .getfield 19, .lcmp] (by decide +kernel) (pc2 := 92) (lv2 := [(3, .long (mL M a0 2)), (1, .long (mL M a0 1)), (0, .ref a0)]) (st2 := [.int (lg_cmp (mL M65 a0 1) (mL M65 a0 2))]) (M2 := M65) rfl ⟨trivial, (o_a0.sm s65), trivial, (o_a0.sm s65), trivial, trivial⟩ ?_
      refine V.lc_gt (off := 7) F (by decide +kernel) (tgt := 99) (by decide) (fun h92 => ?_) (fun h92 => ?_)
      · replace E := E.trans (if_pos h92)
        refine V.pick [] rfl ?_
        exact hJ99 M65 s65 E
      · replace E := E.trans (if_neg h92)
        refine V.seg F floX1 cjoX1 [.iconst 1, .goto 4] (by decide +kernel) (pc2 := 100) (lv2 := [(3, .long (mL M a0 2)), (1, .long (mL M a0 1)), (0, .ref a0)]) (st2 := [.int 1]) (M2 := M65) rfl ⟨trivial, (by decide), trivial⟩ ?_
        refine V.pick [] rfl ?_
        exact hJ100 1 M65 s65 (Or.inr rfl) E
def f_X1_fitRest_74  (M74 : Mem) : Int32 × Mem := (0, M74)
def f_X1_fitRest_113  (w0_113 : Int32) (M113 : Mem) : Int32 × Mem := (w0_113, M113)
def f_X1_fitRest_c48 (a0 : Nat) (M : Mem) (x24 : Int64) (x48 : Int64) : Int32 × Mem := if (9223372036854775807 - x24) < (mL M a0 1) then f_X1_fitRest_74 M else if (((-9223372036854775808)) + x48) ≤ (mL M a0 2) then if (mL (uL (uL M a0 1 ((mL M a0 1) + x24)) a0 2 ((mL (uL M a0 1 ((mL M a0 1) + x24)) a0 2) - x48)) a0 2) < (mL (uL (uL M a0 1 ((mL M a0 1) + x24)) a0 2 ((mL (uL M a0 1 ((mL M a0 1) + x24)) a0 2) - x48)) a0 1) then f_X1_fitRest_113 0 (uL (uL M a0 1 ((mL M a0 1) + x24)) a0 2 ((mL (uL M a0 1 ((mL M a0 1) + x24)) a0 2) - x48)) else f_X1_fitRest_113 1 (uL (uL M a0 1 ((mL M a0 1) + x24)) a0 2 ((mL (uL M a0 1 ((mL M a0 1) + x24)) a0 2) - x48)) else f_X1_fitRest_74 M
def f_X1_fitRest_c24 (a0 : Nat) (M : Mem) (x24 : Int64) : Int32 × Mem := f_X1_fitRest_c48 a0 M x24 (f_X6_restBy ((f_X6_restBy (mL M a0 2) (mL M a0 5)) - (mL M a0 6)) (mL M a0 5))
def f_X1_fitRest (M : Mem) (a0 : Nat) : Int32 × Mem := f_X1_fitRest_c24 a0 M (f_X6_restBy ((mL M a0 6) - (f_X6_restBy (mL M a0 1) (mL M a0 5))) (mL M a0 5))
abbrev p_X1_fitRest (M : Mem) (a0 : Nat) : Option Value → Mem → Prop := fun r N => r = some (.int (f_X1_fitRest M a0).1) ∧ N = (f_X1_fitRest M a0).2 ∧ Sm M N ∧ ((f_X1_fitRest M a0).1 = 0 ∨ (f_X1_fitRest M a0).1 = 1)
set_option maxRecDepth 100000 in
set_option maxHeartbeats 4000000 in
theorem c_X1_fitRest (G : Ctx) (l : Launch) (M : Mem) (a0 : Nat) (o_a0 : isO M a0 1) : CT G l 1 mX1_fitRest [.ref a0] M 0 0 (p_X1_fitRest M a0) := by
  refine CT.of (by decide) (Nat.le_of_ble_eq_true rfl) ?_
  intro X d hd hl hRm hnm F
  subst hl
  have E : f_X1_fitRest M a0 = f_X1_fitRest M a0 := rfl
  show V G X 5 0 0 (Qx G X 0 0 (p_X1_fitRest M a0)) 0 [(0, .ref a0)] [] M
  refine V.seg F floX1 cjoX1 [.aload_n 0, .getfield 41, .aload_n 0, .getfield 11, .aload_n 0, .getfield 22] (by decide +kernel) (pc2 := 12) (lv2 := [(0, .ref a0)]) (st2 := [.long (mL M a0 5), .long (mL M a0 1), .long (mL M a0 6)]) (M2 := M) rfl ⟨trivial, o_a0, trivial, o_a0, trivial, o_a0, trivial⟩ ?_
  refine V.callSN (as := [.long (mL M a0 1), .long (mL M a0 5)]) (rest := [.long (mL M a0 6)]) F (by decide +kernel) lX1_44 bX6_restBy (c_X6_restBy G X.2.1 M (mL M a0 1) (mL M a0 5)) (rm_ok hRm hd (by decide) (by decide)) ⟨Nat.zero_le _, Nat.zero_le _⟩ (Nat.le_of_ble_eq_true rfl) (fun r_ N_ p_ => ?_)
  obtain ⟨rfl, hN_⟩ := p_
  rw [hN_]
  clear hN_
  refine V.seg F floX1 cjoX1 [.lsub, .aload_n 0, .getfield 22] (by decide +kernel) (pc2 := 20) (lv2 := [(0, .ref a0)]) (st2 := [.long (mL M a0 5), .long ((mL M a0 6) - (f_X6_restBy (mL M a0 1) (mL M a0 5)))]) (M2 := M) rfl ⟨trivial, trivial, o_a0, trivial⟩ ?_
  refine V.callSN (as := [.long ((mL M a0 6) - (f_X6_restBy (mL M a0 1) (mL M a0 5))), .long (mL M a0 5)]) (rest := []) F (by decide +kernel) lX1_44 bX6_restBy (c_X6_restBy G X.2.1 M ((mL M a0 6) - (f_X6_restBy (mL M a0 1) (mL M a0 5))) (mL M a0 5)) (rm_ok hRm hd (by decide) (by decide)) ⟨Nat.zero_le _, Nat.zero_le _⟩ (Nat.le_of_ble_eq_true rfl) (fun r_ N_ p_ => ?_)
  obtain ⟨rfl, hN_⟩ := p_
  rw [hN_]
  clear hN_
  refine V.seg F floX1 cjoX1 [.lstore_n 1] (by decide +kernel) (pc2 := 24) (lv2 := [(1, .long (f_X6_restBy ((mL M a0 6) - (f_X6_restBy (mL M a0 1) (mL M a0 5))) (mL M a0 5))), (0, .ref a0)]) (st2 := []) (M2 := M) rfl ⟨(by decide), trivial⟩ ?_
  refine (?_ : ∀ (x24 : Int64), f_X1_fitRest M a0 = f_X1_fitRest_c24 a0 M x24 → V G X 5 0 0 (Qx G X 0 0 (p_X1_fitRest M a0)) 24 [(1, .long x24), (0, .ref a0)] [] M) _  E
  intro x24 E
  refine V.seg F floX1 cjoX1 [.aload_n 0, .getfield 19, .aload_n 0, .getfield 22] (by decide +kernel) (pc2 := 32) (lv2 := [(1, .long x24), (0, .ref a0)]) (st2 := [.long (mL M a0 5), .long (mL M a0 2)]) (M2 := M) rfl ⟨trivial, o_a0, trivial, o_a0, trivial⟩ ?_
  refine V.callSN (as := [.long (mL M a0 2), .long (mL M a0 5)]) (rest := []) F (by decide +kernel) lX1_44 bX6_restBy (c_X6_restBy G X.2.1 M (mL M a0 2) (mL M a0 5)) (rm_ok hRm hd (by decide) (by decide)) ⟨Nat.zero_le _, Nat.zero_le _⟩ (Nat.le_of_ble_eq_true rfl) (fun r_ N_ p_ => ?_)
  obtain ⟨rfl, hN_⟩ := p_
  rw [hN_]
  clear hN_
  refine V.seg F floX1 cjoX1 [.aload_n 0, .getfield 41, .lsub, .aload_n 0, .getfield 22] (by decide +kernel) (pc2 := 44) (lv2 := [(1, .long x24), (0, .ref a0)]) (st2 := [.long (mL M a0 5), .long ((f_X6_restBy (mL M a0 2) (mL M a0 5)) - (mL M a0 6))]) (M2 := M) rfl ⟨trivial, o_a0, trivial, trivial, o_a0, trivial⟩ ?_
  refine V.callSN (as := [.long ((f_X6_restBy (mL M a0 2) (mL M a0 5)) - (mL M a0 6)), .long (mL M a0 5)]) (rest := []) F (by decide +kernel) lX1_44 bX6_restBy (c_X6_restBy G X.2.1 M ((f_X6_restBy (mL M a0 2) (mL M a0 5)) - (mL M a0 6)) (mL M a0 5)) (rm_ok hRm hd (by decide) (by decide)) ⟨Nat.zero_le _, Nat.zero_le _⟩ (Nat.le_of_ble_eq_true rfl) (fun r_ N_ p_ => ?_)
  obtain ⟨rfl, hN_⟩ := p_
  rw [hN_]
  clear hN_
  refine V.seg F floX1 cjoX1 [.lstore_n 3] (by decide +kernel) (pc2 := 48) (lv2 := [(3, .long (f_X6_restBy ((f_X6_restBy (mL M a0 2) (mL M a0 5)) - (mL M a0 6)) (mL M a0 5))), (1, .long x24), (0, .ref a0)]) (st2 := []) (M2 := M) rfl ⟨(by decide), trivial⟩ ?_
  refine (?_ : ∀ (x48 : Int64), f_X1_fitRest M a0 = f_X1_fitRest_c48 a0 M x24 x48 → V G X 5 0 0 (Qx G X 0 0 (p_X1_fitRest M a0)) 48 [(3, .long x48), (1, .long x24), (0, .ref a0)] [] M) _  E
  intro x48 E
  refine V.seg F floX1 cjoX1 [.aload_n 0, .getfield 11, .ldc2_w 17, .lload_n 1, .lsub, .lcmp] (by decide +kernel) (pc2 := 58) (lv2 := [(3, .long x48), (1, .long x24), (0, .ref a0)]) (st2 := [.int (lg_cmp (mL M a0 1) (9223372036854775807 - x24))]) (M2 := M) rfl ⟨trivial, o_a0, trivial, trivial, trivial, trivial, trivial⟩ ?_
  have hJ74 : ∀ (M74 : Mem), (Sm M M74) → f_X1_fitRest M a0 = f_X1_fitRest_74 M74 → V G X 5 0 0 (Qx G X 0 0 (p_X1_fitRest M a0)) 74 [] [] M74 := by
    intro M74 s74 E
    refine V.seg F floX1 cjoX1 [.iconst 0] (by decide +kernel) (pc2 := 75) (lv2 := []) (st2 := [.int 0]) (M2 := M74) rfl ⟨trivial, trivial⟩ ?_
    exact V.zret F (Or.inl rfl) (by decide +kernel) ⟨congrArg (fun z => some (Value.int z.1)) E.symm, congrArg Prod.snd E.symm, s74, by rw [E]; exact Or.inl rfl⟩
  refine V.lc_gt (off := 16) F (by decide +kernel) (tgt := 74) (by decide) (fun h58 => ?_) (fun h58 => ?_)
  · replace E := E.trans (if_pos h58)
    refine V.pick [] rfl ?_
    exact hJ74 M Sm.rf E
  · replace E := E.trans (if_neg h58)
    refine V.seg F floX1 cjoX1 [.aload_n 0, .getfield 19, .ldc2_w 9, .lload_n 3, .ladd, .lcmp] (by decide +kernel) (pc2 := 71) (lv2 := [(3, .long x48), (1, .long x24), (0, .ref a0)]) (st2 := [.int (lg_cmp (mL M a0 2) (((-9223372036854775808)) + x48))]) (M2 := M) rfl ⟨trivial, o_a0, trivial, trivial, trivial, trivial, trivial⟩ ?_
    refine V.lc_ge (off := 5) F (by decide +kernel) (tgt := 76) (by decide) (fun h71 => ?_) (fun h71 => ?_)
    · replace E := E.trans (if_pos h71)
      refine V.seg F floX1 cjoX1 [.aload_n 0, .dup, .getfield 11, .lload_n 1, .ladd, .putfield 11, .aload_n 0, .dup, .getfield 19, .lload_n 3, .lsub, .putfield 19, .aload_n 0, .getfield 11, .aload_n 0, .getfield 19, .lcmp] (by decide +kernel) (pc2 := 105) (lv2 := [(3, .long x48), (1, .long x24), (0, .ref a0)]) (st2 := [.int (lg_cmp (mL (uL (uL M a0 1 ((mL M a0 1) + x24)) a0 2 ((mL (uL M a0 1 ((mL M a0 1) + x24)) a0 2) - x48)) a0 1) (mL (uL (uL M a0 1 ((mL M a0 1) + x24)) a0 2 ((mL (uL M a0 1 ((mL M a0 1) + x24)) a0 2) - x48)) a0 2))]) (M2 := uL (uL M a0 1 ((mL M a0 1) + x24)) a0 2 ((mL (uL M a0 1 ((mL M a0 1) + x24)) a0 2) - x48)) rfl ⟨trivial, trivial, o_a0, trivial, trivial, o_a0, trivial, trivial, o_a0, trivial, trivial, o_a0, trivial, o_a0, trivial, o_a0, trivial, trivial⟩ ?_
      have hJ113 : ∀ (w0_113 : Int32) (M113 : Mem), (Sm M M113) → (w0_113 = 0 ∨ w0_113 = 1) → f_X1_fitRest M a0 = f_X1_fitRest_113 w0_113 M113 → V G X 5 0 0 (Qx G X 0 0 (p_X1_fitRest M a0)) 113 [] [.int w0_113] M113 := by
        intro w0_113 M113 s113 zw0_113 E
        exact V.zret F (zw0_113) (by decide +kernel) ⟨congrArg (fun z => some (Value.int z.1)) E.symm, congrArg Prod.snd E.symm, s113, by rw [E]; exact zw0_113⟩
      refine V.lc_gt (off := 7) F (by decide +kernel) (tgt := 112) (by decide) (fun h105 => ?_) (fun h105 => ?_)
      · replace E := E.trans (if_pos h105)
        refine V.seg F floX1 cjoX1 [.iconst 0] (by decide +kernel) (pc2 := 113) (lv2 := [(3, .long x48), (1, .long x24), (0, .ref a0)]) (st2 := [.int 0]) (M2 := uL (uL M a0 1 ((mL M a0 1) + x24)) a0 2 ((mL (uL M a0 1 ((mL M a0 1) + x24)) a0 2) - x48)) rfl ⟨trivial, trivial⟩ ?_
        refine V.pick [] rfl ?_
        exact hJ113 0 (uL (uL M a0 1 ((mL M a0 1) + x24)) a0 2 ((mL (uL M a0 1 ((mL M a0 1) + x24)) a0 2) - x48)) Sm.rf (Or.inl rfl) E
      · replace E := E.trans (if_neg h105)
        refine V.seg F floX1 cjoX1 [.iconst 1, .goto 4] (by decide +kernel) (pc2 := 113) (lv2 := [(3, .long x48), (1, .long x24), (0, .ref a0)]) (st2 := [.int 1]) (M2 := uL (uL M a0 1 ((mL M a0 1) + x24)) a0 2 ((mL (uL M a0 1 ((mL M a0 1) + x24)) a0 2) - x48)) rfl ⟨trivial, (by decide), trivial⟩ ?_
        refine V.pick [] rfl ?_
        exact hJ113 1 (uL (uL M a0 1 ((mL M a0 1) + x24)) a0 2 ((mL (uL M a0 1 ((mL M a0 1) + x24)) a0 2) - x48)) Sm.rf (Or.inr rfl) E
    · replace E := E.trans (if_neg h71)
      refine V.pick [] rfl ?_
      exact hJ74 M Sm.rf E
def f_X1_learnBits_c103  (M103 : Mem) : Int32 × Mem := (1, M103)
def f_X1_learnBits_c42 (a0 : Nat) (M : Mem) (x42 : Int64) : Int32 × Mem := if ((((mL M a0 1) ^^^ (mL M a0 4)) &&& (mL M a0 3)) &&& ((x42 ||| (jushr x42 32)) ^^^ ((-1)))) = 0 then f_X1_learnBits_c103 (uL (uL M a0 3 ((mL M a0 3) ||| ((x42 ||| (jushr x42 32)) ^^^ ((-1))))) a0 4 ((mL (uL M a0 3 ((mL M a0 3) ||| ((x42 ||| (jushr x42 32)) ^^^ ((-1))))) a0 4) ||| ((mL (uL M a0 3 ((mL M a0 3) ||| ((x42 ||| (jushr x42 32)) ^^^ ((-1))))) a0 1) &&& ((x42 ||| (jushr x42 32)) ^^^ ((-1)))))) else (0, M)
def f_X1_learnBits_c28 (a0 : Nat) (M : Mem) (x28 : Int64) : Int32 × Mem := f_X1_learnBits_c42 a0 M ((x28 ||| (jushr x28 8)) ||| (jushr (x28 ||| (jushr x28 8)) 16))
def f_X1_learnBits_c16 (a0 : Nat) (M : Mem) (x16 : Int64) : Int32 × Mem := f_X1_learnBits_c28 a0 M ((x16 ||| (jushr x16 2)) ||| (jushr (x16 ||| (jushr x16 2)) 4))
def f_X1_learnBits (M : Mem) (a0 : Nat) : Int32 × Mem := f_X1_learnBits_c16 a0 M (((mL M a0 1) ^^^ (mL M a0 2)) ||| (jushr ((mL M a0 1) ^^^ (mL M a0 2)) 1))
abbrev p_X1_learnBits (M : Mem) (a0 : Nat) : Option Value → Mem → Prop := fun r N => r = some (.int (f_X1_learnBits M a0).1) ∧ N = (f_X1_learnBits M a0).2 ∧ Sm M N ∧ ((f_X1_learnBits M a0).1 = 0 ∨ (f_X1_learnBits M a0).1 = 1)
set_option maxRecDepth 100000 in
set_option maxHeartbeats 4000000 in
theorem c_X1_learnBits (G : Ctx) (l : Launch) (M : Mem) (a0 : Nat) (o_a0 : isO M a0 1) : CT G l 0 mX1_learnBits [.ref a0] M 0 0 (p_X1_learnBits M a0) := by
  refine CT.of (by decide) (Nat.le_of_ble_eq_true rfl) ?_
  intro X d hd hl hRm hnm F
  subst hl
  have E : f_X1_learnBits M a0 = f_X1_learnBits M a0 := rfl
  show V G X 5 0 0 (Qx G X 0 0 (p_X1_learnBits M a0)) 0 [(0, .ref a0)] [] M
  refine V.seg F floX1 cjoX1 [.aload_n 0, .getfield 11, .aload_n 0, .getfield 19, .lxor, .lstore_n 1, .lload_n 1, .lload_n 1, .iconst 1, .lushr, .lor, .lstore_n 1] (by decide +kernel) (pc2 := 16) (lv2 := [(1, .long (((mL M a0 1) ^^^ (mL M a0 2)) ||| (jushr ((mL M a0 1) ^^^ (mL M a0 2)) 1))), (0, .ref a0)]) (st2 := []) (M2 := M) rfl ⟨trivial, o_a0, trivial, o_a0, trivial, (by decide), trivial, trivial, trivial, trivial, trivial, (by decide), trivial⟩ ?_
  refine (?_ : ∀ (x16 : Int64), f_X1_learnBits M a0 = f_X1_learnBits_c16 a0 M x16 → V G X 5 0 0 (Qx G X 0 0 (p_X1_learnBits M a0)) 16 [(1, .long x16), (0, .ref a0)] [] M) _  E
  intro x16 E
  refine V.seg F floX1 cjoX1 [.lload_n 1, .lload_n 1, .iconst 2, .lushr, .lor, .lstore_n 1, .lload_n 1, .lload_n 1, .iconst 4, .lushr, .lor, .lstore_n 1] (by decide +kernel) (pc2 := 28) (lv2 := [(1, .long ((x16 ||| (jushr x16 2)) ||| (jushr (x16 ||| (jushr x16 2)) 4))), (0, .ref a0)]) (st2 := []) (M2 := M) rfl ⟨trivial, trivial, trivial, trivial, trivial, (by decide), trivial, trivial, trivial, trivial, trivial, (by decide), trivial⟩ ?_
  refine (?_ : ∀ (x28 : Int64), f_X1_learnBits M a0 = f_X1_learnBits_c28 a0 M x28 → V G X 5 0 0 (Qx G X 0 0 (p_X1_learnBits M a0)) 28 [(1, .long x28), (0, .ref a0)] [] M) _  E
  intro x28 E
  refine V.seg F floX1 cjoX1 [.lload_n 1, .lload_n 1, .bipush 8, .lushr, .lor, .lstore_n 1, .lload_n 1, .lload_n 1, .bipush 16, .lushr, .lor, .lstore_n 1] (by decide +kernel) (pc2 := 42) (lv2 := [(1, .long ((x28 ||| (jushr x28 8)) ||| (jushr (x28 ||| (jushr x28 8)) 16))), (0, .ref a0)]) (st2 := []) (M2 := M) rfl ⟨trivial, trivial, trivial, trivial, trivial, (by decide), trivial, trivial, trivial, trivial, trivial, (by decide), trivial⟩ ?_
  refine (?_ : ∀ (x42 : Int64), f_X1_learnBits M a0 = f_X1_learnBits_c42 a0 M x42 → V G X 5 0 0 (Qx G X 0 0 (p_X1_learnBits M a0)) 42 [(1, .long x42), (0, .ref a0)] [] M) _  E
  intro x42 E
  refine V.seg F floX1 cjoX1 [.lload_n 1, .lload_n 1, .bipush 32, .lushr, .lor, .lstore_n 1, .lload_n 1, .ldc2_w 33, .lxor, .lstore_n 3, .aload_n 0, .getfield 11, .aload_n 0, .getfield 38, .lxor, .aload_n 0, .getfield 35, .land, .lload_n 3, .land, .lconst 0, .lcmp] (by decide +kernel) (pc2 := 73) (lv2 := [(3, .long ((x42 ||| (jushr x42 32)) ^^^ ((-1)))), (1, .long (x42 ||| (jushr x42 32))), (0, .ref a0)]) (st2 := [.int (lg_cmp ((((mL M a0 1) ^^^ (mL M a0 4)) &&& (mL M a0 3)) &&& ((x42 ||| (jushr x42 32)) ^^^ ((-1)))) 0)]) (M2 := M) rfl ⟨trivial, trivial, trivial, trivial, trivial, (by decide), trivial, trivial, trivial, (by decide), trivial, o_a0, trivial, o_a0, trivial, trivial, o_a0, trivial, trivial, trivial, trivial, trivial, trivial⟩ ?_
  refine V.lc_eq (off := 5) F (by decide +kernel) (tgt := 78) (by decide) (fun h73 => ?_) (fun h73 => ?_)
  · replace E := E.trans (if_pos h73)
    refine V.seg F floX1 cjoX1 [.aload_n 0, .dup, .getfield 35, .lload_n 3, .lor, .putfield 35, .aload_n 0, .dup, .getfield 38, .aload_n 0, .getfield 11, .lload_n 3, .land, .lor, .putfield 38] (by decide +kernel) (pc2 := 103) (lv2 := [(3, .long ((x42 ||| (jushr x42 32)) ^^^ ((-1)))), (1, .long (x42 ||| (jushr x42 32))), (0, .ref a0)]) (st2 := []) (M2 := uL (uL M a0 3 ((mL M a0 3) ||| ((x42 ||| (jushr x42 32)) ^^^ ((-1))))) a0 4 ((mL (uL M a0 3 ((mL M a0 3) ||| ((x42 ||| (jushr x42 32)) ^^^ ((-1))))) a0 4) ||| ((mL (uL M a0 3 ((mL M a0 3) ||| ((x42 ||| (jushr x42 32)) ^^^ ((-1))))) a0 1) &&& ((x42 ||| (jushr x42 32)) ^^^ ((-1)))))) rfl ⟨trivial, trivial, o_a0, trivial, trivial, o_a0, trivial, trivial, o_a0, trivial, o_a0, trivial, trivial, trivial, o_a0, trivial⟩ ?_
    refine (?_ : ∀ (M103 : Mem), (Sm M M103) → f_X1_learnBits M a0 = f_X1_learnBits_c103 M103 → V G X 5 0 0 (Qx G X 0 0 (p_X1_learnBits M a0)) 103 [(3, .long ((x42 ||| (jushr x42 32)) ^^^ ((-1)))), (1, .long (x42 ||| (jushr x42 32))), (0, .ref a0)] [] M103) _ Sm.rf E
    intro M103 s103 E
    refine V.seg F floX1 cjoX1 [.iconst 1] (by decide +kernel) (pc2 := 104) (lv2 := [(3, .long ((x42 ||| (jushr x42 32)) ^^^ ((-1)))), (1, .long (x42 ||| (jushr x42 32))), (0, .ref a0)]) (st2 := [.int 1]) (M2 := M103) rfl ⟨trivial, trivial⟩ ?_
    exact V.zret F (Or.inr rfl) (by decide +kernel) ⟨congrArg (fun z => some (Value.int z.1)) E.symm, congrArg Prod.snd E.symm, s103, by rw [E]; exact Or.inr rfl⟩
  · replace E := E.trans (if_neg h73)
    refine V.seg F floX1 cjoX1 [.iconst 0] (by decide +kernel) (pc2 := 77) (lv2 := [(3, .long ((x42 ||| (jushr x42 32)) ^^^ ((-1)))), (1, .long (x42 ||| (jushr x42 32))), (0, .ref a0)]) (st2 := [.int 0]) (M2 := M) rfl ⟨trivial, trivial⟩ ?_
    exact V.zret F (Or.inl rfl) (by decide +kernel) ⟨congrArg (fun z => some (Value.int z.1)) E.symm, congrArg Prod.snd E.symm, Sm.rf, by rw [E]; exact Or.inl rfl⟩
def f_X1_sharpen_117  (M117 : Mem) : Mem := M117
def f_X1_sharpen_111 (j2 : Nat) (R2_ : Nat → Mem → Mem) (M111 : Mem) : Mem := R2_ (j2 + 1) M111
def f_X1_sharpen_c57 (j2 : Nat) (R2_ : Nat → Mem → Mem) (M57 : Mem) : Mem := f_X1_sharpen_111 j2 R2_ M57
def f_X1_sharpen_53 (a0 : Nat) (j2 : Nat) (R2_ : Nat → Mem → Mem) (M53 : Mem) : Mem := f_X1_sharpen_c57 j2 R2_ (f_X1_makeNone M53 a0)
def f_X1_sharpen_c80  (M80 : Mem) : Mem := M80
def f_X1_sharpen_c50 (a0 : Nat) (j2 : Nat) (M2 : Mem) (R2_ : Nat → Mem → Mem) (x50 : Int32) (M50 : Mem) : Mem := if x50 = 0 then f_X1_sharpen_53 a0 j2 R2_ M50 else if (mL M50 a0 1) = (mL M50 a0 2) then f_X1_sharpen_c80 (f_X1_makeConstant M50 a0 (mL M50 a0 1)) else if (mL M50 a0 1) = (mL M2 a0 1) then if (mL M50 a0 2) = (mL M2 a0 2) then if (mL M50 a0 3) = (mL M2 a0 3) then M50 else f_X1_sharpen_111 j2 R2_ M50 else f_X1_sharpen_111 j2 R2_ M50 else f_X1_sharpen_111 j2 R2_ M50
def f_X1_sharpen_c43 (a0 : Nat) (j2 : Nat) (M2 : Mem) (R2_ : Nat → Mem → Mem) (x43 : Int32) (M43 : Mem) : Mem := if x43 = 0 then f_X1_sharpen_53 a0 j2 R2_ M43 else f_X1_sharpen_c50 a0 j2 M2 R2_ ((f_X1_learnBits M43 a0).1) ((f_X1_learnBits M43 a0).2)
def f_X1_sharpen_c36 (a0 : Nat) (j2 : Nat) (M2 : Mem) (R2_ : Nat → Mem → Mem) (x36 : Int32) (M36 : Mem) : Mem := if x36 = 0 then f_X1_sharpen_53 a0 j2 R2_ M36 else f_X1_sharpen_c43 a0 j2 M2 R2_ ((f_X1_fitRest M36 a0).1) ((f_X1_fitRest M36 a0).2)
def f_X1_sharpen_2 (a0 : Nat) : Nat → Nat → Mem → Mem
  | 0, _, M2 => M2
  | n_ + 1, j2, M2 => if 6 ≤ (nI j2) then f_X1_sharpen_117 M2 else if (mI M2 a0 0) = 0 then f_X1_sharpen_c36 a0 j2 M2 (f_X1_sharpen_2 a0 n_) ((f_X1_fitBits M2 a0).1) ((f_X1_fitBits M2 a0).2) else f_X1_sharpen_117 M2
def f_X1_sharpen (M : Mem) (a0 : Nat) : Mem := f_X1_sharpen_2 a0 7 0 M
abbrev p_X1_sharpen (M : Mem) (a0 : Nat) : Option Value → Mem → Prop := fun r N => r = none ∧ N = f_X1_sharpen M a0 ∧ Sm M N
set_option maxRecDepth 100000 in
set_option maxHeartbeats 4000000 in
theorem c_X1_sharpen (G : Ctx) (l : Launch) (M : Mem) (a0 : Nat) (o_a0 : isO M a0 1) : CT G l 2 mX1_sharpen [.ref a0] M 0 0 (p_X1_sharpen M a0) := by
  refine CT.of (by decide) (Nat.le_of_ble_eq_true rfl) ?_
  intro X d hd hl hRm hnm F
  subst hl
  have E : f_X1_sharpen M a0 = f_X1_sharpen M a0 := rfl
  show V G X 8 0 0 (Qx G X 0 0 (p_X1_sharpen M a0)) 0 [(0, .ref a0)] [] M
  refine V.seg F floX1 cjoX1 [.iconst 0] (by decide +kernel) (pc2 := 1) (lv2 := [(0, .ref a0)]) (st2 := [.int 0]) (M2 := M) rfl ⟨trivial, trivial⟩ ?_
  refine V.seg F floX1 cjoX1 [.istore_n 1] (by decide +kernel) (pc2 := 2) (lv2 := [(1, .int 0), (0, .ref a0)]) (st2 := []) (M2 := M) rfl ⟨(by decide), trivial⟩ ?_
  have hJ2 : ∀ (n_ : Nat) (j2 : Nat) (M2 : Mem), (Sm M M2) → (j2 ≤ 6) → (6 - j2 < n_) → f_X1_sharpen M a0 = f_X1_sharpen_2 a0 n_ j2 M2 → V G X 8 0 0 (Qx G X 0 0 (p_X1_sharpen M a0)) 2 [(0, .ref a0), (1, .int (nI j2))] [] M2 := by
    intro n_
    induction n_ with
    | zero => intro j2 M2 s2 b2 m2 E; omega
    | succ n_ ih_2 =>
      intro j2 M2 s2 b2 m2 E
      rw [f_X1_sharpen_2] at E
      refine V.seg F floX1 cjoX1 [.iload_n 1, .bipush 6] (by decide +kernel) (pc2 := 5) (lv2 := [(0, .ref a0), (1, .int (nI j2))]) (st2 := [.int 6, .int (nI j2)]) (M2 := M2) rfl ⟨trivial, trivial, trivial⟩ ?_
      have hJ117 : ∀ (M117 : Mem), (Sm M M117) → f_X1_sharpen M a0 = f_X1_sharpen_117 M117 → V G X 8 0 0 (Qx G X 0 0 (p_X1_sharpen M a0)) 117 [] [] M117 := by
        intro M117 s117 E
        exact V.vret F (by decide +kernel) ⟨rfl, E.symm, s117⟩
      refine V.ic_ge (off := 112) F (by decide +kernel) (tgt := 117) (by decide) (fun h5 => ?_) (fun h5 => ?_)
      · replace E := E.trans (if_pos h5)
        refine V.pick [] rfl ?_
        exact hJ117 M2 s2 E
      · replace E := E.trans (if_neg h5)
        refine V.seg F floX1 cjoX1 [.aload_n 0, .getfield 29] (by decide +kernel) (pc2 := 12) (lv2 := [(0, .ref a0), (1, .int (nI j2))]) (st2 := [.int (mI M2 a0 0)]) (M2 := M2) rfl ⟨trivial, (o_a0.sm s2), trivial⟩ ?_
        refine V.if_ne (off := 105) F (by decide +kernel) (tgt := 117) (by decide) (fun h12 => ?_) (fun h12 => ?_)
        · replace E := E.trans (if_neg h12)
          refine V.pick [] rfl ?_
          exact hJ117 M2 s2 E
        · replace E := E.trans (if_pos h12)
          refine V.seg F floX1 cjoX1 [.aload_n 0, .getfield 11, .lstore_n 2, .aload_n 0, .getfield 19, .lstore 4, .aload_n 0, .getfield 35, .lstore 6, .aload_n 0] (by decide +kernel) (pc2 := 33) (lv2 := [(6, .long (mL M2 a0 3)), (4, .long (mL M2 a0 2)), (2, .long (mL M2 a0 1)), (0, .ref a0), (1, .int (nI j2))]) (st2 := [.ref a0]) (M2 := M2) rfl ⟨trivial, (o_a0.sm s2), (by decide), trivial, (o_a0.sm s2), (by decide), trivial, (o_a0.sm s2), (by decide), trivial, trivial⟩ ?_
          refine V.callV (as := []) (rest := []) F (by decide +kernel) lX1_52 bX1_fitBits ⟨1, _, (o_a0.sm s2), rfl, rfl⟩ (c_X1_fitBits G X.2.1 M2 a0 (o_a0.sm s2)) (rm_ok hRm hd (by decide) (by decide)) ⟨Nat.zero_le _, Nat.zero_le _⟩ (Nat.le_of_ble_eq_true rfl) (fun r_ N_ p_ => ?_)
          obtain ⟨rfl, rfl, t33, z33⟩ := p_
          refine (?_ : ∀ (x36 : Int32) (M36 : Mem), (x36 = 0 ∨ x36 = 1) → Sm M M36 → f_X1_sharpen M a0 = f_X1_sharpen_c36 a0 j2 M2 (f_X1_sharpen_2 a0 n_) x36 M36 → V G X 8 0 0 (Qx G X 0 0 (p_X1_sharpen M a0)) 36 [(6, .long (mL M2 a0 3)), (4, .long (mL M2 a0 2)), (2, .long (mL M2 a0 1)), (0, .ref a0), (1, .int (nI j2))] [.int x36] M36) _ _ z33 (Sm.tr s2 t33) E
          intro x36 M36 z36 s36 E
          have hJ111 : ∀ (M111 : Mem), (Sm M M111) → f_X1_sharpen M a0 = f_X1_sharpen_111 j2 (f_X1_sharpen_2 a0 n_) M111 → V G X 8 0 0 (Qx G X 0 0 (p_X1_sharpen M a0)) 111 [(0, .ref a0), (1, .int (nI j2))] [] M111 := by
            intro M111 s111 E
            refine V.seg F floX1 cjoX1 [.iinc 1 1, .goto (-112)] (by decide +kernel) (pc2 := 2) (lv2 := [(1, .int ((nI j2) + 1)), (0, .ref a0)]) (st2 := []) (M2 := M111) rfl ⟨(by decide), (by decide), trivial⟩ ?_
            refine V.pick [1, 0] rfl ?_
            rw [nI_1]
            exact ih_2 (j2 + 1) M111 s111 (by have hlt_ := cnt_lt (n := 6) h5 rfl (by omega) (by decide); omega) (by have hlt_ := cnt_lt (n := 6) h5 rfl (by omega) (by decide); omega) E
          have hJ53 : ∀ (M53 : Mem), (Sm M M53) → f_X1_sharpen M a0 = f_X1_sharpen_53 a0 j2 (f_X1_sharpen_2 a0 n_) M53 → V G X 8 0 0 (Qx G X 0 0 (p_X1_sharpen M a0)) 53 [(0, .ref a0), (1, .int (nI j2))] [] M53 := by
            intro M53 s53 E
            refine V.seg F floX1 cjoX1 [.aload_n 0] (by decide +kernel) (pc2 := 54) (lv2 := [(0, .ref a0), (1, .int (nI j2))]) (st2 := [.ref a0]) (M2 := M53) rfl ⟨trivial, trivial⟩ ?_
            refine V.callV (as := []) (rest := []) F (by decide +kernel) lX1_61 bX1_makeNone ⟨1, _, (o_a0.sm s53), rfl, rfl⟩ (c_X1_makeNone G X.2.1 M53 a0 (o_a0.sm s53)) (rm_ok hRm hd (by decide) (by decide)) ⟨Nat.zero_le _, Nat.zero_le _⟩ (Nat.le_of_ble_eq_true rfl) (fun r_ N_ p_ => ?_)
            obtain ⟨rfl, rfl, t54⟩ := p_
            refine (?_ : ∀ (M57 : Mem), (Sm M M57) → f_X1_sharpen M a0 = f_X1_sharpen_c57 j2 (f_X1_sharpen_2 a0 n_) M57 → V G X 8 0 0 (Qx G X 0 0 (p_X1_sharpen M a0)) 57 [(0, .ref a0), (1, .int (nI j2))] [] M57) _ (Sm.tr s53 t54) E
            intro M57 s57 E
            refine V.seg F floX1 cjoX1 [.goto 54] (by decide +kernel) (pc2 := 111) (lv2 := [(0, .ref a0), (1, .int (nI j2))]) (st2 := []) (M2 := M57) rfl ⟨(by decide), trivial⟩ ?_
            refine V.pick [0, 1] rfl ?_
            exact hJ111 M57 s57 E
          refine V.if_eq (off := 17) F (by decide +kernel) (tgt := 53) (by decide) (fun h36 => ?_) (fun h36 => ?_)
          · replace E := E.trans (if_pos h36)
            refine V.pick [3, 4] rfl ?_
            exact hJ53 M36 s36 E
          · replace E := E.trans (if_neg h36)
            refine V.seg F floX1 cjoX1 [.aload_n 0] (by decide +kernel) (pc2 := 40) (lv2 := [(6, .long (mL M2 a0 3)), (4, .long (mL M2 a0 2)), (2, .long (mL M2 a0 1)), (0, .ref a0), (1, .int (nI j2))]) (st2 := [.ref a0]) (M2 := M36) rfl ⟨trivial, trivial⟩ ?_
            refine V.callV (as := []) (rest := []) F (by decide +kernel) lX1_55 bX1_fitRest ⟨1, _, (o_a0.sm s36), rfl, rfl⟩ (c_X1_fitRest G X.2.1 M36 a0 (o_a0.sm s36)) (rm_ok hRm hd (by decide) (by decide)) ⟨Nat.zero_le _, Nat.zero_le _⟩ (Nat.le_of_ble_eq_true rfl) (fun r_ N_ p_ => ?_)
            obtain ⟨rfl, rfl, t40, z40⟩ := p_
            refine (?_ : ∀ (x43 : Int32) (M43 : Mem), (x43 = 0 ∨ x43 = 1) → Sm M M43 → f_X1_sharpen M a0 = f_X1_sharpen_c43 a0 j2 M2 (f_X1_sharpen_2 a0 n_) x43 M43 → V G X 8 0 0 (Qx G X 0 0 (p_X1_sharpen M a0)) 43 [(6, .long (mL M2 a0 3)), (4, .long (mL M2 a0 2)), (2, .long (mL M2 a0 1)), (0, .ref a0), (1, .int (nI j2))] [.int x43] M43) _ _ z40 (Sm.tr s36 t40) E
            intro x43 M43 z43 s43 E
            refine V.if_eq (off := 10) F (by decide +kernel) (tgt := 53) (by decide) (fun h43 => ?_) (fun h43 => ?_)
            · replace E := E.trans (if_pos h43)
              refine V.pick [3, 4] rfl ?_
              exact hJ53 M43 s43 E
            · replace E := E.trans (if_neg h43)
              refine V.seg F floX1 cjoX1 [.aload_n 0] (by decide +kernel) (pc2 := 47) (lv2 := [(6, .long (mL M2 a0 3)), (4, .long (mL M2 a0 2)), (2, .long (mL M2 a0 1)), (0, .ref a0), (1, .int (nI j2))]) (st2 := [.ref a0]) (M2 := M43) rfl ⟨trivial, trivial⟩ ?_
              refine V.callV (as := []) (rest := []) F (by decide +kernel) lX1_58 bX1_learnBits ⟨1, _, (o_a0.sm s43), rfl, rfl⟩ (c_X1_learnBits G X.2.1 M43 a0 (o_a0.sm s43)) (rm_ok hRm hd (by decide) (by decide)) ⟨Nat.zero_le _, Nat.zero_le _⟩ (Nat.le_of_ble_eq_true rfl) (fun r_ N_ p_ => ?_)
              obtain ⟨rfl, rfl, t47, z47⟩ := p_
              refine (?_ : ∀ (x50 : Int32) (M50 : Mem), (x50 = 0 ∨ x50 = 1) → Sm M M50 → f_X1_sharpen M a0 = f_X1_sharpen_c50 a0 j2 M2 (f_X1_sharpen_2 a0 n_) x50 M50 → V G X 8 0 0 (Qx G X 0 0 (p_X1_sharpen M a0)) 50 [(6, .long (mL M2 a0 3)), (4, .long (mL M2 a0 2)), (2, .long (mL M2 a0 1)), (0, .ref a0), (1, .int (nI j2))] [.int x50] M50) _ _ z47 (Sm.tr s43 t47) E
              intro x50 M50 z50 s50 E
              refine V.if_ne (off := 10) F (by decide +kernel) (tgt := 60) (by decide) (fun h50 => ?_) (fun h50 => ?_)
              · replace E := E.trans (if_neg h50)
                refine V.seg F floX1 cjoX1 [.aload_n 0, .getfield 11, .aload_n 0, .getfield 19, .lcmp] (by decide +kernel) (pc2 := 69) (lv2 := [(6, .long (mL M2 a0 3)), (4, .long (mL M2 a0 2)), (2, .long (mL M2 a0 1)), (0, .ref a0), (1, .int (nI j2))]) (st2 := [.int (lg_cmp (mL M50 a0 1) (mL M50 a0 2))]) (M2 := M50) rfl ⟨trivial, (o_a0.sm s50), trivial, (o_a0.sm s50), trivial, trivial⟩ ?_
                refine V.lc_ne (off := 12) F (by decide +kernel) (tgt := 81) (by decide) (fun h69 => ?_) (fun h69 => ?_)
                · replace E := E.trans (if_neg h69)
                  refine V.seg F floX1 cjoX1 [.aload_n 0, .getfield 11, .lload_n 2, .lcmp] (by decide +kernel) (pc2 := 87) (lv2 := [(6, .long (mL M2 a0 3)), (4, .long (mL M2 a0 2)), (2, .long (mL M2 a0 1)), (0, .ref a0), (1, .int (nI j2))]) (st2 := [.int (lg_cmp (mL M50 a0 1) (mL M2 a0 1))]) (M2 := M50) rfl ⟨trivial, (o_a0.sm s50), trivial, trivial, trivial⟩ ?_
                  refine V.lc_ne (off := 24) F (by decide +kernel) (tgt := 111) (by decide) (fun h87 => ?_) (fun h87 => ?_)
                  · replace E := E.trans (if_neg h87)
                    refine V.pick [3, 4] rfl ?_
                    exact hJ111 M50 s50 E
                  · replace E := E.trans (if_pos h87)
                    refine V.seg F floX1 cjoX1 [.aload_n 0, .getfield 19, .lload 4, .lcmp] (by decide +kernel) (pc2 := 97) (lv2 := [(6, .long (mL M2 a0 3)), (4, .long (mL M2 a0 2)), (2, .long (mL M2 a0 1)), (0, .ref a0), (1, .int (nI j2))]) (st2 := [.int (lg_cmp (mL M50 a0 2) (mL M2 a0 2))]) (M2 := M50) rfl ⟨trivial, (o_a0.sm s50), trivial, trivial, trivial⟩ ?_
                    refine V.lc_ne (off := 14) F (by decide +kernel) (tgt := 111) (by decide) (fun h97 => ?_) (fun h97 => ?_)
                    · replace E := E.trans (if_neg h97)
                      refine V.pick [3, 4] rfl ?_
                      exact hJ111 M50 s50 E
                    · replace E := E.trans (if_pos h97)
                      refine V.seg F floX1 cjoX1 [.aload_n 0, .getfield 35, .lload 6, .lcmp] (by decide +kernel) (pc2 := 107) (lv2 := [(6, .long (mL M2 a0 3)), (4, .long (mL M2 a0 2)), (2, .long (mL M2 a0 1)), (0, .ref a0), (1, .int (nI j2))]) (st2 := [.int (lg_cmp (mL M50 a0 3) (mL M2 a0 3))]) (M2 := M50) rfl ⟨trivial, (o_a0.sm s50), trivial, trivial, trivial⟩ ?_
                      refine V.lc_ne (off := 4) F (by decide +kernel) (tgt := 111) (by decide) (fun h107 => ?_) (fun h107 => ?_)
                      · replace E := E.trans (if_neg h107)
                        refine V.pick [3, 4] rfl ?_
                        exact hJ111 M50 s50 E
                      · replace E := E.trans (if_pos h107)
                        exact V.vret F (by decide +kernel) ⟨rfl, E.symm, s50⟩
                · replace E := E.trans (if_pos h69)
                  refine V.seg F floX1 cjoX1 [.aload_n 0, .aload_n 0, .getfield 11] (by decide +kernel) (pc2 := 77) (lv2 := [(6, .long (mL M2 a0 3)), (4, .long (mL M2 a0 2)), (2, .long (mL M2 a0 1)), (0, .ref a0), (1, .int (nI j2))]) (st2 := [.long (mL M50 a0 1), .ref a0]) (M2 := M50) rfl ⟨trivial, trivial, (o_a0.sm s50), trivial⟩ ?_
                  refine V.callV (as := [.long (mL M50 a0 1)]) (rest := []) F (by decide +kernel) lX1_64 bX1_makeConstant ⟨1, _, (o_a0.sm s50), rfl, rfl⟩ (c_X1_makeConstant G X.2.1 M50 a0 (mL M50 a0 1) (o_a0.sm s50)) (rm_ok hRm hd (by decide) (by decide)) ⟨Nat.zero_le _, Nat.zero_le _⟩ (Nat.le_of_ble_eq_true rfl) (fun r_ N_ p_ => ?_)
                  obtain ⟨rfl, rfl, t77⟩ := p_
                  refine (?_ : ∀ (M80 : Mem), (Sm M M80) → f_X1_sharpen M a0 = f_X1_sharpen_c80 M80 → V G X 8 0 0 (Qx G X 0 0 (p_X1_sharpen M a0)) 80 [(6, .long (mL M2 a0 3)), (4, .long (mL M2 a0 2)), (2, .long (mL M2 a0 1)), (0, .ref a0), (1, .int (nI j2))] [] M80) _ (Sm.tr s50 t77) E
                  intro M80 s80 E
                  exact V.vret F (by decide +kernel) ⟨rfl, E.symm, s80⟩
              · replace E := E.trans (if_pos h50)
                refine V.pick [3, 4] rfl ?_
                exact hJ53 M50 s50 E
  refine V.pick [1, 0] rfl ?_
  exact hJ2 _ 0 M Sm.rf (by omega) (by omega) E
def f_X1_limit (M : Mem) (a0 : Nat) (pl : Int64) (ph : Int64) (m : Int64) (pr : Int64) : Mem := uL (uL (uL (uL M a0 1 pl) a0 2 ph) a0 5 m) a0 6 pr
abbrev p_X1_limit (M : Mem) (a0 : Nat) (pl : Int64) (ph : Int64) (m : Int64) (pr : Int64) : Option Value → Mem → Prop := fun r N => r = none ∧ N = f_X1_limit M a0 pl ph m pr ∧ Sm M N
set_option maxRecDepth 100000 in
set_option maxHeartbeats 4000000 in
theorem c_X1_limit (G : Ctx) (l : Launch) (M : Mem) (a0 : Nat) (pl : Int64) (ph : Int64) (m : Int64) (pr : Int64) (o_a0 : isO M a0 1) : CT G l 0 mX1_limit [.ref a0, .long pl, .long ph, .long m, .long pr] M 0 0 (p_X1_limit M a0 pl ph m pr) := by
  refine CT.of (by decide) (Nat.le_of_ble_eq_true rfl) ?_
  intro X d hd hl hRm hnm F
  subst hl
  have E : f_X1_limit M a0 pl ph m pr = f_X1_limit M a0 pl ph m pr := rfl
  show V G X 9 0 0 (Qx G X 0 0 (p_X1_limit M a0 pl ph m pr)) 0 [(0, .ref a0), (1, .long pl), (3, .long ph), (5, .long m), (7, .long pr)] [] M
  refine V.seg F floX1 cjoX1 [.aload_n 0, .lload_n 1, .putfield 11, .aload_n 0, .lload_n 3, .putfield 19, .aload_n 0, .lload 5, .putfield 22, .aload_n 0, .lload 7, .putfield 41] (by decide +kernel) (pc2 := 22) (lv2 := [(0, .ref a0), (1, .long pl), (3, .long ph), (5, .long m), (7, .long pr)]) (st2 := []) (M2 := uL (uL (uL (uL M a0 1 pl) a0 2 ph) a0 5 m) a0 6 pr) rfl ⟨trivial, trivial, o_a0, trivial, trivial, o_a0, trivial, trivial, o_a0, trivial, trivial, o_a0, trivial⟩ ?_
  exact V.vret F (by decide +kernel) ⟨rfl, E.symm, Sm.rf⟩
def f_X1_becomeBitSum_c83  (M83 : Mem) : Mem := M83
def f_X1_becomeBitSum_c54 (a0 : Nat) (k1 : Int64) (v1 : Int64) (k2 : Int64) (v2 : Int64) (c : Int64) (M : Mem) (x54 : Int64) : Mem := f_X1_becomeBitSum_c83 (uL (uL M a0 3 ((k1 &&& k2) &&& ((((((v1 + v2) + c) ^^^ v1) ^^^ v2) ^^^ x54) ^^^ ((-1))))) a0 4 (((v1 + v2) + c) &&& (mL (uL M a0 3 ((k1 &&& k2) &&& ((((((v1 + v2) + c) ^^^ v1) ^^^ v2) ^^^ x54) ^^^ ((-1))))) a0 3)))
def f_X1_becomeBitSum (M : Mem) (a0 : Nat) (k1 : Int64) (v1 : Int64) (k2 : Int64) (v2 : Int64) (c : Int64) : Mem := f_X1_becomeBitSum_c54 a0 k1 v1 k2 v2 c M (((((v1 ||| (k1 ^^^ ((-1)))) + (v2 ||| (k2 ^^^ ((-1))))) + c) ^^^ (v1 ||| (k1 ^^^ ((-1))))) ^^^ (v2 ||| (k2 ^^^ ((-1)))))
abbrev p_X1_becomeBitSum (M : Mem) (a0 : Nat) (k1 : Int64) (v1 : Int64) (k2 : Int64) (v2 : Int64) (c : Int64) : Option Value → Mem → Prop := fun r N => r = none ∧ N = f_X1_becomeBitSum M a0 k1 v1 k2 v2 c ∧ Sm M N
set_option maxRecDepth 100000 in
set_option maxHeartbeats 4000000 in
theorem c_X1_becomeBitSum (G : Ctx) (l : Launch) (M : Mem) (a0 : Nat) (k1 : Int64) (v1 : Int64) (k2 : Int64) (v2 : Int64) (c : Int64) (o_a0 : isO M a0 1) : CT G l 0 mX1_becomeBitSum [.ref a0, .long k1, .long v1, .long k2, .long v2, .long c] M 0 0 (p_X1_becomeBitSum M a0 k1 v1 k2 v2 c) := by
  refine CT.of (by decide) (Nat.le_of_ble_eq_true rfl) ?_
  intro X d hd hl hRm hnm F
  subst hl
  have E : f_X1_becomeBitSum M a0 k1 v1 k2 v2 c = f_X1_becomeBitSum M a0 k1 v1 k2 v2 c := rfl
  show V G X 21 0 0 (Qx G X 0 0 (p_X1_becomeBitSum M a0 k1 v1 k2 v2 c)) 0 [(0, .ref a0), (1, .long k1), (3, .long v1), (5, .long k2), (7, .long v2), (9, .long c)] [] M
  refine V.seg F floX1 cjoX1 [.lload_n 3, .lload_n 1, .ldc2_w 33, .lxor, .lor, .lstore 11, .lload 7, .lload 5, .ldc2_w 33, .lxor, .lor, .lstore 13, .lload_n 3, .lload 7, .ladd, .lload 9, .ladd, .lstore 15, .lload 15, .lload_n 3, .lxor, .lload 7, .lxor, .lstore 17, .lload 11, .lload 13, .ladd, .lload 9, .ladd, .lload 11, .lxor, .lload 13, .lxor, .lstore 19] (by decide +kernel) (pc2 := 54) (lv2 := [(19, .long (((((v1 ||| (k1 ^^^ ((-1)))) + (v2 ||| (k2 ^^^ ((-1))))) + c) ^^^ (v1 ||| (k1 ^^^ ((-1))))) ^^^ (v2 ||| (k2 ^^^ ((-1)))))), (17, .long ((((v1 + v2) + c) ^^^ v1) ^^^ v2)), (15, .long ((v1 + v2) + c)), (13, .long (v2 ||| (k2 ^^^ ((-1))))), (11, .long (v1 ||| (k1 ^^^ ((-1))))), (0, .ref a0), (1, .long k1), (3, .long v1), (5, .long k2), (7, .long v2), (9, .long c)]) (st2 := []) (M2 := M) rfl ⟨trivial, trivial, trivial, trivial, trivial, (by decide), trivial, trivial, trivial, trivial, trivial, (by decide), trivial, trivial, trivial, trivial, trivial, (by decide), trivial, trivial, trivial, trivial, trivial, (by decide), trivial, trivial, trivial, trivial, trivial, trivial, trivial, trivial, trivial, (by decide), trivial⟩ ?_
  refine (?_ : ∀ (x54 : Int64), f_X1_becomeBitSum M a0 k1 v1 k2 v2 c = f_X1_becomeBitSum_c54 a0 k1 v1 k2 v2 c M x54 → V G X 21 0 0 (Qx G X 0 0 (p_X1_becomeBitSum M a0 k1 v1 k2 v2 c)) 54 [(19, .long x54), (17, .long ((((v1 + v2) + c) ^^^ v1) ^^^ v2)), (15, .long ((v1 + v2) + c)), (13, .long (v2 ||| (k2 ^^^ ((-1))))), (11, .long (v1 ||| (k1 ^^^ ((-1))))), (0, .ref a0), (1, .long k1), (3, .long v1), (5, .long k2), (7, .long v2), (9, .long c)] [] M) _  E
  intro x54 E
  refine V.seg F floX1 cjoX1 [.aload_n 0, .lload_n 1, .lload 5, .land, .lload 17, .lload 19, .lxor, .ldc2_w 33, .lxor, .land, .putfield 35, .aload_n 0, .lload 15, .aload_n 0, .getfield 35, .land, .putfield 38] (by decide +kernel) (pc2 := 83) (lv2 := [(19, .long x54), (17, .long ((((v1 + v2) + c) ^^^ v1) ^^^ v2)), (15, .long ((v1 + v2) + c)), (13, .long (v2 ||| (k2 ^^^ ((-1))))), (11, .long (v1 ||| (k1 ^^^ ((-1))))), (0, .ref a0), (1, .long k1), (3, .long v1), (5, .long k2), (7, .long v2), (9, .long c)]) (st2 := []) (M2 := uL (uL M a0 3 ((k1 &&& k2) &&& ((((((v1 + v2) + c) ^^^ v1) ^^^ v2) ^^^ x54) ^^^ ((-1))))) a0 4 (((v1 + v2) + c) &&& (mL (uL M a0 3 ((k1 &&& k2) &&& ((((((v1 + v2) + c) ^^^ v1) ^^^ v2) ^^^ x54) ^^^ ((-1))))) a0 3))) rfl ⟨trivial, trivial, trivial, trivial, trivial, trivial, trivial, trivial, trivial, trivial, o_a0, trivial, trivial, trivial, o_a0, trivial, o_a0, trivial⟩ ?_
  refine (?_ : ∀ (M83 : Mem), (Sm M M83) → f_X1_becomeBitSum M a0 k1 v1 k2 v2 c = f_X1_becomeBitSum_c83 M83 → V G X 21 0 0 (Qx G X 0 0 (p_X1_becomeBitSum M a0 k1 v1 k2 v2 c)) 83 [(19, .long x54), (17, .long ((((v1 + v2) + c) ^^^ v1) ^^^ v2)), (15, .long ((v1 + v2) + c)), (13, .long (v2 ||| (k2 ^^^ ((-1))))), (11, .long (v1 ||| (k1 ^^^ ((-1))))), (0, .ref a0), (1, .long k1), (3, .long v1), (5, .long k2), (7, .long v2), (9, .long c)] [] M83) _ Sm.rf E
  intro M83 s83 E
  exact V.vret F (by decide +kernel) ⟨rfl, E.symm, s83⟩
def f_X1_joinModulus_c64 (x12 : Int64) (x64 : Int64) : Int64 := f_X6_oddPart (f_X6_commonDivisor x12 (jabs x64))
def f_X1_joinModulus_c12 (a : Nat) (b : Nat) (M : Mem) (x12 : Int64) : Int64 := if x12 = 0 then f_X6_oddPart ((jmax (mL M a 1) (mL M b 1)) - (jmin (mL M a 1) (mL M b 1))) else f_X1_joinModulus_c64 x12 ((f_X6_restBy (f_X1_countedRest M a) x12) - (f_X6_restBy (f_X1_countedRest M b) x12))
def f_X1_joinModulus (M : Mem) (a : Nat) (b : Nat) : Int64 := f_X1_joinModulus_c12 a b M (f_X6_commonDivisor (f_X1_countedModulus M a) (f_X1_countedModulus M b))
abbrev p_X1_joinModulus (M : Mem) (a : Nat) (b : Nat) : Option Value → Mem → Prop := fun r N => r = some (.long (f_X1_joinModulus M a b)) ∧ N = M
set_option maxRecDepth 100000 in
set_option maxHeartbeats 4000000 in
theorem c_X1_joinModulus (G : Ctx) (l : Launch) (M : Mem) (a : Nat) (b : Nat) (o_a : isO M a 1) (o_b : isO M b 1) : CT G l 2 mX1_joinModulus [.ref a, .ref b] M 0 0 (p_X1_joinModulus M a b) := by
  refine CT.of (by decide) (Nat.le_of_ble_eq_true rfl) ?_
  intro X d hd hl hRm hnm F
  subst hl
  have E : f_X1_joinModulus M a b = f_X1_joinModulus M a b := rfl
  show V G X 6 0 0 (Qx G X 0 0 (p_X1_joinModulus M a b)) 0 [(0, .ref a), (1, .ref b)] [] M
  refine V.seg F floX1 cjoX1 [.aload_n 0] (by decide +kernel) (pc2 := 1) (lv2 := [(0, .ref a), (1, .ref b)]) (st2 := [.ref a]) (M2 := M) rfl ⟨trivial, trivial⟩ ?_
  refine V.callV (as := []) (rest := []) F (by decide +kernel) lX1_95 bX1_countedModulus ⟨1, _, o_a, rfl, rfl⟩ (c_X1_countedModulus G X.2.1 M a o_a) (rm_ok hRm hd (by decide) (by decide)) ⟨Nat.zero_le _, Nat.zero_le _⟩ (Nat.le_of_ble_eq_true rfl) (fun r_ N_ p_ => ?_)
  obtain ⟨rfl, hN_⟩ := p_
  rw [hN_]
  clear hN_
  refine V.seg F floX1 cjoX1 [.aload_n 1] (by decide +kernel) (pc2 := 5) (lv2 := [(0, .ref a), (1, .ref b)]) (st2 := [.ref b, .long (f_X1_countedModulus M a)]) (M2 := M) rfl ⟨trivial, trivial⟩ ?_
  refine V.callV (as := []) (rest := [.long (f_X1_countedModulus M a)]) F (by decide +kernel) lX1_95 bX1_countedModulus ⟨1, _, o_b, rfl, rfl⟩ (c_X1_countedModulus G X.2.1 M b o_b) (rm_ok hRm hd (by decide) (by decide)) ⟨Nat.zero_le _, Nat.zero_le _⟩ (Nat.le_of_ble_eq_true rfl) (fun r_ N_ p_ => ?_)
  obtain ⟨rfl, hN_⟩ := p_
  rw [hN_]
  clear hN_
  refine V.callSN (as := [.long (f_X1_countedModulus M a), .long (f_X1_countedModulus M b)]) (rest := []) F (by decide +kernel) lX1_98 bX6_commonDivisor (c_X6_commonDivisor G X.2.1 M (f_X1_countedModulus M a) (f_X1_countedModulus M b)) (rm_ok hRm hd (by decide) (by decide)) ⟨Nat.zero_le _, Nat.zero_le _⟩ (Nat.le_of_ble_eq_true rfl) (fun r_ N_ p_ => ?_)
  obtain ⟨rfl, hN_⟩ := p_
  rw [hN_]
  clear hN_
  refine V.seg F floX1 cjoX1 [.lstore_n 2] (by decide +kernel) (pc2 := 12) (lv2 := [(2, .long (f_X6_commonDivisor (f_X1_countedModulus M a) (f_X1_countedModulus M b))), (0, .ref a), (1, .ref b)]) (st2 := []) (M2 := M) rfl ⟨(by decide), trivial⟩ ?_
  refine (?_ : ∀ (x12 : Int64), f_X1_joinModulus M a b = f_X1_joinModulus_c12 a b M x12 → V G X 6 0 0 (Qx G X 0 0 (p_X1_joinModulus M a b)) 12 [(2, .long x12), (0, .ref a), (1, .ref b)] [] M) _  E
  intro x12 E
  refine V.seg F floX1 cjoX1 [.lload_n 2, .lconst 0, .lcmp] (by decide +kernel) (pc2 := 15) (lv2 := [(2, .long x12), (0, .ref a), (1, .ref b)]) (st2 := [.int (lg_cmp x12 0)]) (M2 := M) rfl ⟨trivial, trivial, trivial, trivial⟩ ?_
  refine V.lc_ne (off := 30) F (by decide +kernel) (tgt := 45) (by decide) (fun h15 => ?_) (fun h15 => ?_)
  · replace E := E.trans (if_neg h15)
    refine V.seg F floX1 cjoX1 [.aload_n 0] (by decide +kernel) (pc2 := 46) (lv2 := [(2, .long x12), (0, .ref a), (1, .ref b)]) (st2 := [.ref a]) (M2 := M) rfl ⟨trivial, trivial⟩ ?_
    refine V.callV (as := []) (rest := []) F (by decide +kernel) lX1_88 bX1_countedRest ⟨1, _, o_a, rfl, rfl⟩ (c_X1_countedRest G X.2.1 M a o_a) (rm_ok hRm hd (by decide) (by decide)) ⟨Nat.zero_le _, Nat.zero_le _⟩ (Nat.le_of_ble_eq_true rfl) (fun r_ N_ p_ => ?_)
    obtain ⟨rfl, hN_⟩ := p_
    rw [hN_]
    clear hN_
    refine V.seg F floX1 cjoX1 [.lload_n 2] (by decide +kernel) (pc2 := 50) (lv2 := [(2, .long x12), (0, .ref a), (1, .ref b)]) (st2 := [.long x12, .long (f_X1_countedRest M a)]) (M2 := M) rfl ⟨trivial, trivial⟩ ?_
    refine V.callSN (as := [.long (f_X1_countedRest M a), .long x12]) (rest := []) F (by decide +kernel) lX1_44 bX6_restBy (c_X6_restBy G X.2.1 M (f_X1_countedRest M a) x12) (rm_ok hRm hd (by decide) (by decide)) ⟨Nat.zero_le _, Nat.zero_le _⟩ (Nat.le_of_ble_eq_true rfl) (fun r_ N_ p_ => ?_)
    obtain ⟨rfl, hN_⟩ := p_
    rw [hN_]
    clear hN_
    refine V.seg F floX1 cjoX1 [.aload_n 1] (by decide +kernel) (pc2 := 54) (lv2 := [(2, .long x12), (0, .ref a), (1, .ref b)]) (st2 := [.ref b, .long (f_X6_restBy (f_X1_countedRest M a) x12)]) (M2 := M) rfl ⟨trivial, trivial⟩ ?_
    refine V.callV (as := []) (rest := [.long (f_X6_restBy (f_X1_countedRest M a) x12)]) F (by decide +kernel) lX1_88 bX1_countedRest ⟨1, _, o_b, rfl, rfl⟩ (c_X1_countedRest G X.2.1 M b o_b) (rm_ok hRm hd (by decide) (by decide)) ⟨Nat.zero_le _, Nat.zero_le _⟩ (Nat.le_of_ble_eq_true rfl) (fun r_ N_ p_ => ?_)
    obtain ⟨rfl, hN_⟩ := p_
    rw [hN_]
    clear hN_
    refine V.seg F floX1 cjoX1 [.lload_n 2] (by decide +kernel) (pc2 := 58) (lv2 := [(2, .long x12), (0, .ref a), (1, .ref b)]) (st2 := [.long x12, .long (f_X1_countedRest M b), .long (f_X6_restBy (f_X1_countedRest M a) x12)]) (M2 := M) rfl ⟨trivial, trivial⟩ ?_
    refine V.callSN (as := [.long (f_X1_countedRest M b), .long x12]) (rest := [.long (f_X6_restBy (f_X1_countedRest M a) x12)]) F (by decide +kernel) lX1_44 bX6_restBy (c_X6_restBy G X.2.1 M (f_X1_countedRest M b) x12) (rm_ok hRm hd (by decide) (by decide)) ⟨Nat.zero_le _, Nat.zero_le _⟩ (Nat.le_of_ble_eq_true rfl) (fun r_ N_ p_ => ?_)
    obtain ⟨rfl, hN_⟩ := p_
    rw [hN_]
    clear hN_
    refine V.seg F floX1 cjoX1 [.lsub, .lstore 4] (by decide +kernel) (pc2 := 64) (lv2 := [(4, .long ((f_X6_restBy (f_X1_countedRest M a) x12) - (f_X6_restBy (f_X1_countedRest M b) x12))), (2, .long x12), (0, .ref a), (1, .ref b)]) (st2 := []) (M2 := M) rfl ⟨trivial, (by decide), trivial⟩ ?_
    refine (?_ : ∀ (x64 : Int64), f_X1_joinModulus M a b = f_X1_joinModulus_c64 x12 x64 → V G X 6 0 0 (Qx G X 0 0 (p_X1_joinModulus M a b)) 64 [(4, .long x64), (2, .long x12), (0, .ref a), (1, .ref b)] [] M) _  E
    intro x64 E
    refine V.seg F floX1 cjoX1 [.lload_n 2, .lload 4] (by decide +kernel) (pc2 := 67) (lv2 := [(4, .long x64), (2, .long x12), (0, .ref a), (1, .ref b)]) (st2 := [.long x64, .long x12]) (M2 := M) rfl ⟨trivial, trivial, trivial⟩ ?_
    refine V.mabsL (st := [.long x12]) F (by decide +kernel) lX1_105 (rm_ok hRm hd (by decide) (by decide)) ⟨Nat.zero_le _, Nat.zero_le _⟩ (Nat.le_of_ble_eq_true rfl) ?_
    refine V.callSN (as := [.long x12, .long (jabs x64)]) (rest := []) F (by decide +kernel) lX1_98 bX6_commonDivisor (c_X6_commonDivisor G X.2.1 M x12 (jabs x64)) (rm_ok hRm hd (by decide) (by decide)) ⟨Nat.zero_le _, Nat.zero_le _⟩ (Nat.le_of_ble_eq_true rfl) (fun r_ N_ p_ => ?_)
    obtain ⟨rfl, hN_⟩ := p_
    rw [hN_]
    clear hN_
    refine V.callSN (as := [.long (f_X6_commonDivisor x12 (jabs x64))]) (rest := []) F (by decide +kernel) lX1_101 bX6_oddPart (c_X6_oddPart G X.2.1 M (f_X6_commonDivisor x12 (jabs x64))) (rm_ok hRm hd (by decide) (by decide)) ⟨Nat.zero_le _, Nat.zero_le _⟩ (Nat.le_of_ble_eq_true rfl) (fun r_ N_ p_ => ?_)
    obtain ⟨rfl, hN_⟩ := p_
    rw [hN_]
    clear hN_
    exact V.lret F (by decide +kernel) ⟨congrArg (fun z => some (Value.long z)) E.symm, rfl⟩
  · replace E := E.trans (if_pos h15)
    refine V.seg F floX1 cjoX1 [.aload_n 0, .getfield 11, .aload_n 1, .getfield 11] (by decide +kernel) (pc2 := 26) (lv2 := [(2, .long x12), (0, .ref a), (1, .ref b)]) (st2 := [.long (mL M b 1), .long (mL M a 1)]) (M2 := M) rfl ⟨trivial, o_a, trivial, o_b, trivial⟩ ?_
    refine V.mmaxL (st := []) F (by decide +kernel) lX1_85 (rm_ok hRm hd (by decide) (by decide)) ⟨Nat.zero_le _, Nat.zero_le _⟩ (Nat.le_of_ble_eq_true rfl) ?_
    refine V.seg F floX1 cjoX1 [.aload_n 0, .getfield 11, .aload_n 1, .getfield 11] (by decide +kernel) (pc2 := 37) (lv2 := [(2, .long x12), (0, .ref a), (1, .ref b)]) (st2 := [.long (mL M b 1), .long (mL M a 1), .long (jmax (mL M a 1) (mL M b 1))]) (M2 := M) rfl ⟨trivial, o_a, trivial, o_b, trivial⟩ ?_
    refine V.mminL (st := [.long (jmax (mL M a 1) (mL M b 1))]) F (by decide +kernel) lX1_80 (rm_ok hRm hd (by decide) (by decide)) ⟨Nat.zero_le _, Nat.zero_le _⟩ (Nat.le_of_ble_eq_true rfl) ?_
    refine V.seg F floX1 cjoX1 [.lsub] (by decide +kernel) (pc2 := 41) (lv2 := [(2, .long x12), (0, .ref a), (1, .ref b)]) (st2 := [.long ((jmax (mL M a 1) (mL M b 1)) - (jmin (mL M a 1) (mL M b 1)))]) (M2 := M) rfl ⟨trivial, trivial⟩ ?_
    refine V.callSN (as := [.long ((jmax (mL M a 1) (mL M b 1)) - (jmin (mL M a 1) (mL M b 1)))]) (rest := []) F (by decide +kernel) lX1_101 bX6_oddPart (c_X6_oddPart G X.2.1 M ((jmax (mL M a 1) (mL M b 1)) - (jmin (mL M a 1) (mL M b 1)))) (rm_ok hRm hd (by decide) (by decide)) ⟨Nat.zero_le _, Nat.zero_le _⟩ (Nat.le_of_ble_eq_true rfl) (fun r_ N_ p_ => ?_)
    obtain ⟨rfl, hN_⟩ := p_
    rw [hN_]
    clear hN_
    exact V.lret F (by decide +kernel) ⟨congrArg (fun z => some (Value.long z)) E.symm, rfl⟩
def f_X1_becomeMeet_c42  (M42 : Mem) : Mem := M42
def f_X1_becomeMeet_38 (a0 : Nat) (M38 : Mem) : Mem := f_X1_becomeMeet_c42 (f_X1_makeNone M38 a0)
def f_X1_becomeMeet_c117  (M117 : Mem) : Mem := M117
def f_X1_becomeMeet_c113 (a0 : Nat) (M113 : Mem) : Mem := f_X1_becomeMeet_c117 (f_X1_sharpen M113 a0)
def f_X1_becomeMeet_60 (a0 : Nat) (a : Nat) (b : Nat) (w0_60 : Nat) (M60 : Mem) : Mem := f_X1_becomeMeet_c113 a0 (f_X1_become M60 a0 (jmax (mL M60 a 1) (mL M60 b 1)) (jmin (mL M60 a 2) (mL M60 b 2)) ((mL M60 a 3) ||| (mL M60 b 3)) ((mL M60 a 4) ||| (mL M60 b 4)) (mL M60 w0_60 5) (mL M60 w0_60 6))
def f_X1_becomeMeet (M : Mem) (a0 : Nat) (a : Nat) (b : Nat) : Mem := if (mI M a 0) = 0 then if (mI M b 0) = 0 then if ((((mL M a 4) ^^^ (mL M b 4)) &&& (mL M a 3)) &&& (mL M b 3)) = 0 then if (mL M b 5) ≤ (mL M a 5) then f_X1_becomeMeet_60 a0 a b a M else f_X1_becomeMeet_60 a0 a b b M else f_X1_becomeMeet_38 a0 M else f_X1_becomeMeet_38 a0 M else f_X1_becomeMeet_38 a0 M
abbrev p_X1_becomeMeet (M : Mem) (a0 : Nat) (a : Nat) (b : Nat) : Option Value → Mem → Prop := fun r N => r = none ∧ N = f_X1_becomeMeet M a0 a b ∧ Sm M N
set_option maxRecDepth 100000 in
set_option maxHeartbeats 4000000 in
theorem c_X1_becomeMeet (G : Ctx) (l : Launch) (M : Mem) (a0 : Nat) (a : Nat) (b : Nat) (o_a0 : isO M a0 1) (o_a : isO M a 1) (o_b : isO M b 1) : CT G l 3 mX1_becomeMeet [.ref a0, .ref a, .ref b] M 0 0 (p_X1_becomeMeet M a0 a b) := by
  refine CT.of (by decide) (Nat.le_of_ble_eq_true rfl) ?_
  intro X d hd hl hRm hnm F
  subst hl
  have E : f_X1_becomeMeet M a0 a b = f_X1_becomeMeet M a0 a b := rfl
  show V G X 4 0 0 (Qx G X 0 0 (p_X1_becomeMeet M a0 a b)) 0 [(0, .ref a0), (1, .ref a), (2, .ref b)] [] M
  refine V.seg F floX1 cjoX1 [.aload_n 1, .getfield 29] (by decide +kernel) (pc2 := 4) (lv2 := [(0, .ref a0), (1, .ref a), (2, .ref b)]) (st2 := [.int (mI M a 0)]) (M2 := M) rfl ⟨trivial, o_a, trivial⟩ ?_
  have hJ38 : ∀ (M38 : Mem), (Sm M M38) → f_X1_becomeMeet M a0 a b = f_X1_becomeMeet_38 a0 M38 → V G X 4 0 0 (Qx G X 0 0 (p_X1_becomeMeet M a0 a b)) 38 [(0, .ref a0)] [] M38 := by
    intro M38 s38 E
    refine V.seg F floX1 cjoX1 [.aload_n 0] (by decide +kernel) (pc2 := 39) (lv2 := [(0, .ref a0)]) (st2 := [.ref a0]) (M2 := M38) rfl ⟨trivial, trivial⟩ ?_
    refine V.callV (as := []) (rest := []) F (by decide +kernel) lX1_61 bX1_makeNone ⟨1, _, (o_a0.sm s38), rfl, rfl⟩ (c_X1_makeNone G X.2.1 M38 a0 (o_a0.sm s38)) (rm_ok hRm hd (by decide) (by decide)) ⟨Nat.zero_le _, Nat.zero_le _⟩ (Nat.le_of_ble_eq_true rfl) (fun r_ N_ p_ => ?_)
    obtain ⟨rfl, rfl, t39⟩ := p_
    refine (?_ : ∀ (M42 : Mem), (Sm M M42) → f_X1_becomeMeet M a0 a b = f_X1_becomeMeet_c42 M42 → V G X 4 0 0 (Qx G X 0 0 (p_X1_becomeMeet M a0 a b)) 42 [(0, .ref a0)] [] M42) _ (Sm.tr s38 t39) E
    intro M42 s42 E
    exact V.vret F (by decide +kernel) ⟨rfl, E.symm, s42⟩
  refine V.if_ne (off := 34) F (by decide +kernel) (tgt := 38) (by decide) (fun h4 => ?_) (fun h4 => ?_)
  · replace E := E.trans (if_neg h4)
    refine V.pick [0] rfl ?_
    exact hJ38 M Sm.rf E
  · replace E := E.trans (if_pos h4)
    refine V.seg F floX1 cjoX1 [.aload_n 2, .getfield 29] (by decide +kernel) (pc2 := 11) (lv2 := [(0, .ref a0), (1, .ref a), (2, .ref b)]) (st2 := [.int (mI M b 0)]) (M2 := M) rfl ⟨trivial, o_b, trivial⟩ ?_
    refine V.if_ne (off := 27) F (by decide +kernel) (tgt := 38) (by decide) (fun h11 => ?_) (fun h11 => ?_)
    · replace E := E.trans (if_neg h11)
      refine V.pick [0] rfl ?_
      exact hJ38 M Sm.rf E
    · replace E := E.trans (if_pos h11)
      refine V.seg F floX1 cjoX1 [.aload_n 1, .getfield 38, .aload_n 2, .getfield 38, .lxor, .aload_n 1, .getfield 35, .land, .aload_n 2, .getfield 35, .land, .lconst 0, .lcmp] (by decide +kernel) (pc2 := 35) (lv2 := [(0, .ref a0), (1, .ref a), (2, .ref b)]) (st2 := [.int (lg_cmp ((((mL M a 4) ^^^ (mL M b 4)) &&& (mL M a 3)) &&& (mL M b 3)) 0)]) (M2 := M) rfl ⟨trivial, o_a, trivial, o_b, trivial, trivial, o_a, trivial, trivial, o_b, trivial, trivial, trivial, trivial⟩ ?_
      refine V.lc_eq (off := 8) F (by decide +kernel) (tgt := 43) (by decide) (fun h35 => ?_) (fun h35 => ?_)
      · replace E := E.trans (if_pos h35)
        refine V.seg F floX1 cjoX1 [.aload_n 2, .getfield 22, .aload_n 1, .getfield 22, .lcmp] (by decide +kernel) (pc2 := 52) (lv2 := [(0, .ref a0), (1, .ref a), (2, .ref b)]) (st2 := [.int (lg_cmp (mL M b 5) (mL M a 5))]) (M2 := M) rfl ⟨trivial, o_b, trivial, o_a, trivial, trivial⟩ ?_
        have hJ60 : ∀ (w0_60 : Nat) (M60 : Mem), (isO M w0_60 1) → (Sm M M60) → f_X1_becomeMeet M a0 a b = f_X1_becomeMeet_60 a0 a b w0_60 M60 → V G X 4 0 0 (Qx G X 0 0 (p_X1_becomeMeet M a0 a b)) 60 [(0, .ref a0), (1, .ref a), (2, .ref b)] [.ref w0_60] M60 := by
          intro w0_60 M60 ow0_60 s60 E
          refine V.seg F floX1 cjoX1 [.astore_n 3, .aload_n 0, .aload_n 1, .getfield 11, .aload_n 2, .getfield 11] (by decide +kernel) (pc2 := 70) (lv2 := [(3, .ref w0_60), (0, .ref a0), (1, .ref a), (2, .ref b)]) (st2 := [.long (mL M60 b 1), .long (mL M60 a 1), .ref a0]) (M2 := M60) rfl ⟨(by decide), trivial, trivial, (o_a.sm s60), trivial, (o_b.sm s60), trivial⟩ ?_
          refine V.mmaxL (st := [.ref a0]) F (by decide +kernel) lX1_85 (rm_ok hRm hd (by decide) (by decide)) ⟨Nat.zero_le _, Nat.zero_le _⟩ (Nat.le_of_ble_eq_true rfl) ?_
          refine V.seg F floX1 cjoX1 [.aload_n 1, .getfield 19, .aload_n 2, .getfield 19] (by decide +kernel) (pc2 := 81) (lv2 := [(3, .ref w0_60), (0, .ref a0), (1, .ref a), (2, .ref b)]) (st2 := [.long (mL M60 b 2), .long (mL M60 a 2), .long (jmax (mL M60 a 1) (mL M60 b 1)), .ref a0]) (M2 := M60) rfl ⟨trivial, (o_a.sm s60), trivial, (o_b.sm s60), trivial⟩ ?_
          refine V.mminL (st := [.long (jmax (mL M60 a 1) (mL M60 b 1)), .ref a0]) F (by decide +kernel) lX1_80 (rm_ok hRm hd (by decide) (by decide)) ⟨Nat.zero_le _, Nat.zero_le _⟩ (Nat.le_of_ble_eq_true rfl) ?_
          refine V.seg F floX1 cjoX1 [.aload_n 1, .getfield 35, .aload_n 2, .getfield 35, .lor, .aload_n 1, .getfield 38, .aload_n 2, .getfield 38, .lor, .aload_n 3, .getfield 22, .aload_n 3, .getfield 41] (by decide +kernel) (pc2 := 110) (lv2 := [(3, .ref w0_60), (0, .ref a0), (1, .ref a), (2, .ref b)]) (st2 := [.long (mL M60 w0_60 6), .long (mL M60 w0_60 5), .long ((mL M60 a 4) ||| (mL M60 b 4)), .long ((mL M60 a 3) ||| (mL M60 b 3)), .long (jmin (mL M60 a 2) (mL M60 b 2)), .long (jmax (mL M60 a 1) (mL M60 b 1)), .ref a0]) (M2 := M60) rfl ⟨trivial, (o_a.sm s60), trivial, (o_b.sm s60), trivial, trivial, (o_a.sm s60), trivial, (o_b.sm s60), trivial, trivial, (ow0_60.sm s60), trivial, (ow0_60.sm s60), trivial⟩ ?_
          refine V.callV (as := [.long (jmax (mL M60 a 1) (mL M60 b 1)), .long (jmin (mL M60 a 2) (mL M60 b 2)), .long ((mL M60 a 3) ||| (mL M60 b 3)), .long ((mL M60 a 4) ||| (mL M60 b 4)), .long (mL M60 w0_60 5), .long (mL M60 w0_60 6)]) (rest := []) F (by decide +kernel) lX1_25 bX1_become ⟨1, _, (o_a0.sm s60), rfl, rfl⟩ (c_X1_become G X.2.1 M60 a0 (jmax (mL M60 a 1) (mL M60 b 1)) (jmin (mL M60 a 2) (mL M60 b 2)) ((mL M60 a 3) ||| (mL M60 b 3)) ((mL M60 a 4) ||| (mL M60 b 4)) (mL M60 w0_60 5) (mL M60 w0_60 6) (o_a0.sm s60)) (rm_ok hRm hd (by decide) (by decide)) ⟨Nat.zero_le _, Nat.zero_le _⟩ (Nat.le_of_ble_eq_true rfl) (fun r_ N_ p_ => ?_)
          obtain ⟨rfl, rfl, t110⟩ := p_
          refine (?_ : ∀ (M113 : Mem), (Sm M M113) → f_X1_becomeMeet M a0 a b = f_X1_becomeMeet_c113 a0 M113 → V G X 4 0 0 (Qx G X 0 0 (p_X1_becomeMeet M a0 a b)) 113 [(3, .ref w0_60), (0, .ref a0), (1, .ref a), (2, .ref b)] [] M113) _ (Sm.tr s60 t110) E
          intro M113 s113 E
          refine V.seg F floX1 cjoX1 [.aload_n 0] (by decide +kernel) (pc2 := 114) (lv2 := [(3, .ref w0_60), (0, .ref a0), (1, .ref a), (2, .ref b)]) (st2 := [.ref a0]) (M2 := M113) rfl ⟨trivial, trivial⟩ ?_
          refine V.callV (as := []) (rest := []) F (by decide +kernel) lX1_92 bX1_sharpen ⟨1, _, (o_a0.sm s113), rfl, rfl⟩ (c_X1_sharpen G X.2.1 M113 a0 (o_a0.sm s113)) (rm_ok hRm hd (by decide) (by decide)) ⟨Nat.zero_le _, Nat.zero_le _⟩ (Nat.le_of_ble_eq_true rfl) (fun r_ N_ p_ => ?_)
          obtain ⟨rfl, rfl, t114⟩ := p_
          refine (?_ : ∀ (M117 : Mem), (Sm M M117) → f_X1_becomeMeet M a0 a b = f_X1_becomeMeet_c117 M117 → V G X 4 0 0 (Qx G X 0 0 (p_X1_becomeMeet M a0 a b)) 117 [(3, .ref w0_60), (0, .ref a0), (1, .ref a), (2, .ref b)] [] M117) _ (Sm.tr s113 t114) E
          intro M117 s117 E
          exact V.vret F (by decide +kernel) ⟨rfl, E.symm, s117⟩
        refine V.lc_le (off := 7) F (by decide +kernel) (tgt := 59) (by decide) (fun h52 => ?_) (fun h52 => ?_)
        · replace E := E.trans (if_pos h52)
          refine V.seg F floX1 cjoX1 [.aload_n 1] (by decide +kernel) (pc2 := 60) (lv2 := [(0, .ref a0), (1, .ref a), (2, .ref b)]) (st2 := [.ref a]) (M2 := M) rfl ⟨trivial, trivial⟩ ?_
          refine V.pick [0, 1, 2] rfl ?_
          exact hJ60 a M o_a Sm.rf E
        · replace E := E.trans (if_neg h52)
          refine V.seg F floX1 cjoX1 [.aload_n 2, .goto 4] (by decide +kernel) (pc2 := 60) (lv2 := [(0, .ref a0), (1, .ref a), (2, .ref b)]) (st2 := [.ref b]) (M2 := M) rfl ⟨trivial, (by decide), trivial⟩ ?_
          refine V.pick [0, 1, 2] rfl ?_
          exact hJ60 b M o_b Sm.rf E
      · replace E := E.trans (if_neg h35)
        refine V.pick [0] rfl ?_
        exact hJ38 M Sm.rf E
def f_X1_becomeJoin_135  (M135 : Mem) : Mem := M135
def f_X1_becomeJoin_c53  (M53 : Mem) : Mem := f_X1_becomeJoin_135 M53
def f_X1_becomeJoin_48 (a0 : Nat) (a : Nat) (M48 : Mem) : Mem := f_X1_becomeJoin_c53 (f_X1_copy M48 a0 a)
def f_X1_becomeJoin_c135  (M135 : Mem) : Mem := f_X1_becomeJoin_135 M135
def f_X1_becomeJoin_c131 (a0 : Nat) (M131 : Mem) : Mem := f_X1_becomeJoin_c135 (f_X1_sharpen M131 a0)
def f_X1_becomeJoin_c87 (a0 : Nat) (a : Nat) (b : Nat) (M56 : Mem) (x87 : Int64) : Mem := f_X1_becomeJoin_c131 a0 (f_X1_become M56 a0 (jmin (mL M56 a 1) (mL M56 b 1)) (jmax (mL M56 a 2) (mL M56 b 2)) x87 ((mL M56 a 4) &&& x87) (f_X1_joinModulus M56 a b) (f_X6_restBy (f_X1_countedRest M56 a) (f_X1_joinModulus M56 a b)))
def f_X1_becomeJoin_56 (a0 : Nat) (a : Nat) (b : Nat) (M56 : Mem) : Mem := f_X1_becomeJoin_c87 a0 a b M56 (((mL M56 a 3) &&& (mL M56 b 3)) &&& (((mL M56 a 4) ^^^ (mL M56 b 4)) ^^^ ((-1))))
def f_X1_becomeJoin_c12  (M12 : Mem) : Mem := f_X1_becomeJoin_135 M12
def f_X1_becomeJoin (M : Mem) (a0 : Nat) (a : Nat) (b : Nat) : Mem := if (mI M a 0) = 0 then if (mI M b 0) = 0 then if (f_X1_isConstant M a) = 0 then f_X1_becomeJoin_56 a0 a b M else if (f_X1_isConstant M b) = 0 then f_X1_becomeJoin_56 a0 a b M else if (mL M a 1) = (mL M b 1) then f_X1_becomeJoin_48 a0 a M else f_X1_becomeJoin_56 a0 a b M else f_X1_becomeJoin_48 a0 a M else f_X1_becomeJoin_c12 (f_X1_copy M a0 b)
abbrev p_X1_becomeJoin (M : Mem) (a0 : Nat) (a : Nat) (b : Nat) : Option Value → Mem → Prop := fun r N => r = none ∧ N = f_X1_becomeJoin M a0 a b ∧ Sm M N
set_option maxRecDepth 100000 in
set_option maxHeartbeats 4000000 in
theorem c_X1_becomeJoin (G : Ctx) (l : Launch) (M : Mem) (a0 : Nat) (a : Nat) (b : Nat) (o_a0 : isO M a0 1) (o_a : isO M a 1) (o_b : isO M b 1) : CT G l 3 mX1_becomeJoin [.ref a0, .ref a, .ref b] M 0 0 (p_X1_becomeJoin M a0 a b) := by
  refine CT.of (by decide) (Nat.le_of_ble_eq_true rfl) ?_
  intro X d hd hl hRm hnm F
  subst hl
  have E : f_X1_becomeJoin M a0 a b = f_X1_becomeJoin M a0 a b := rfl
  show V G X 7 0 0 (Qx G X 0 0 (p_X1_becomeJoin M a0 a b)) 0 [(0, .ref a0), (1, .ref a), (2, .ref b)] [] M
  refine V.seg F floX1 cjoX1 [.aload_n 1, .getfield 29] (by decide +kernel) (pc2 := 4) (lv2 := [(0, .ref a0), (1, .ref a), (2, .ref b)]) (st2 := [.int (mI M a 0)]) (M2 := M) rfl ⟨trivial, o_a, trivial⟩ ?_
  have hJ135 : ∀ (M135 : Mem), (Sm M M135) → f_X1_becomeJoin M a0 a b = f_X1_becomeJoin_135 M135 → V G X 7 0 0 (Qx G X 0 0 (p_X1_becomeJoin M a0 a b)) 135 [] [] M135 := by
    intro M135 s135 E
    exact V.vret F (by decide +kernel) ⟨rfl, E.symm, s135⟩
  refine V.if_eq (off := 11) F (by decide +kernel) (tgt := 15) (by decide) (fun h4 => ?_) (fun h4 => ?_)
  · replace E := E.trans (if_pos h4)
    refine V.seg F floX1 cjoX1 [.aload_n 2, .getfield 29] (by decide +kernel) (pc2 := 19) (lv2 := [(0, .ref a0), (1, .ref a), (2, .ref b)]) (st2 := [.int (mI M b 0)]) (M2 := M) rfl ⟨trivial, o_b, trivial⟩ ?_
    have hJ48 : ∀ (M48 : Mem), (Sm M M48) → f_X1_becomeJoin M a0 a b = f_X1_becomeJoin_48 a0 a M48 → V G X 7 0 0 (Qx G X 0 0 (p_X1_becomeJoin M a0 a b)) 48 [(0, .ref a0), (1, .ref a)] [] M48 := by
      intro M48 s48 E
      refine V.seg F floX1 cjoX1 [.aload_n 0, .aload_n 1] (by decide +kernel) (pc2 := 50) (lv2 := [(0, .ref a0), (1, .ref a)]) (st2 := [.ref a, .ref a0]) (M2 := M48) rfl ⟨trivial, trivial, trivial⟩ ?_
      refine V.callV (as := [.ref a]) (rest := []) F (by decide +kernel) lX1_72 bX1_copy ⟨1, _, (o_a0.sm s48), rfl, rfl⟩ (c_X1_copy G X.2.1 M48 a0 a (o_a0.sm s48) (o_a.sm s48)) (rm_ok hRm hd (by decide) (by decide)) ⟨Nat.zero_le _, Nat.zero_le _⟩ (Nat.le_of_ble_eq_true rfl) (fun r_ N_ p_ => ?_)
      obtain ⟨rfl, rfl, t50⟩ := p_
      refine (?_ : ∀ (M53 : Mem), (Sm M M53) → f_X1_becomeJoin M a0 a b = f_X1_becomeJoin_c53 M53 → V G X 7 0 0 (Qx G X 0 0 (p_X1_becomeJoin M a0 a b)) 53 [(0, .ref a0), (1, .ref a)] [] M53) _ (Sm.tr s48 t50) E
      intro M53 s53 E
      refine V.seg F floX1 cjoX1 [.goto 82] (by decide +kernel) (pc2 := 135) (lv2 := [(0, .ref a0), (1, .ref a)]) (st2 := []) (M2 := M53) rfl ⟨(by decide), trivial⟩ ?_
      refine V.pick [] rfl ?_
      exact hJ135 M53 s53 E
    refine V.if_ne (off := 29) F (by decide +kernel) (tgt := 48) (by decide) (fun h19 => ?_) (fun h19 => ?_)
    · replace E := E.trans (if_neg h19)
      refine V.pick [0, 1] rfl ?_
      exact hJ48 M Sm.rf E
    · replace E := E.trans (if_pos h19)
      refine V.seg F floX1 cjoX1 [.aload_n 1] (by decide +kernel) (pc2 := 23) (lv2 := [(0, .ref a0), (1, .ref a), (2, .ref b)]) (st2 := [.ref a]) (M2 := M) rfl ⟨trivial, trivial⟩ ?_
      refine V.callV (as := []) (rest := []) F (by decide +kernel) lX1_48 bX1_isConstant ⟨1, _, o_a, rfl, rfl⟩ (c_X1_isConstant G X.2.1 M a o_a) (rm_ok hRm hd (by decide) (by decide)) ⟨Nat.zero_le _, Nat.zero_le _⟩ (Nat.le_of_ble_eq_true rfl) (fun r_ N_ p_ => ?_)
      obtain ⟨rfl, hN_, z23⟩ := p_
      rw [hN_]
      clear hN_
      have hJ56 : ∀ (M56 : Mem), (Sm M M56) → f_X1_becomeJoin M a0 a b = f_X1_becomeJoin_56 a0 a b M56 → V G X 7 0 0 (Qx G X 0 0 (p_X1_becomeJoin M a0 a b)) 56 [(0, .ref a0), (1, .ref a), (2, .ref b)] [] M56 := by
        intro M56 s56 E
        refine V.seg F floX1 cjoX1 [.aload_n 1, .aload_n 2] (by decide +kernel) (pc2 := 58) (lv2 := [(0, .ref a0), (1, .ref a), (2, .ref b)]) (st2 := [.ref b, .ref a]) (M2 := M56) rfl ⟨trivial, trivial, trivial⟩ ?_
        refine V.callS (as := [.ref a, .ref b]) (rest := []) F (by decide +kernel) lX1_76 bX1_joinModulus (c_X1_joinModulus G X.2.1 M56 a b (o_a.sm s56) (o_b.sm s56)) (rm_ok hRm hd (by decide) (by decide)) ⟨Nat.zero_le _, Nat.zero_le _⟩ (Nat.le_of_ble_eq_true rfl) (fun r_ N_ p_ => ?_)
        obtain ⟨rfl, hN_⟩ := p_
        rw [hN_]
        clear hN_
        refine V.seg F floX1 cjoX1 [.lstore_n 3, .aload_n 1, .getfield 35, .aload_n 2, .getfield 35, .land, .aload_n 1, .getfield 38, .aload_n 2, .getfield 38, .lxor, .ldc2_w 33, .lxor, .land, .lstore 5] (by decide +kernel) (pc2 := 87) (lv2 := [(5, .long (((mL M56 a 3) &&& (mL M56 b 3)) &&& (((mL M56 a 4) ^^^ (mL M56 b 4)) ^^^ ((-1))))), (3, .long (f_X1_joinModulus M56 a b)), (0, .ref a0), (1, .ref a), (2, .ref b)]) (st2 := []) (M2 := M56) rfl ⟨(by decide), trivial, (o_a.sm s56), trivial, (o_b.sm s56), trivial, trivial, (o_a.sm s56), trivial, (o_b.sm s56), trivial, trivial, trivial, trivial, (by decide), trivial⟩ ?_
        refine (?_ : ∀ (x87 : Int64), f_X1_becomeJoin M a0 a b = f_X1_becomeJoin_c87 a0 a b M56 x87 → V G X 7 0 0 (Qx G X 0 0 (p_X1_becomeJoin M a0 a b)) 87 [(5, .long x87), (3, .long (f_X1_joinModulus M56 a b)), (0, .ref a0), (1, .ref a), (2, .ref b)] [] M56) _  E
        intro x87 E
        refine V.seg F floX1 cjoX1 [.aload_n 0, .aload_n 1, .getfield 11, .aload_n 2, .getfield 11] (by decide +kernel) (pc2 := 96) (lv2 := [(5, .long x87), (3, .long (f_X1_joinModulus M56 a b)), (0, .ref a0), (1, .ref a), (2, .ref b)]) (st2 := [.long (mL M56 b 1), .long (mL M56 a 1), .ref a0]) (M2 := M56) rfl ⟨trivial, trivial, (o_a.sm s56), trivial, (o_b.sm s56), trivial⟩ ?_
        refine V.mminL (st := [.ref a0]) F (by decide +kernel) lX1_80 (rm_ok hRm hd (by decide) (by decide)) ⟨Nat.zero_le _, Nat.zero_le _⟩ (Nat.le_of_ble_eq_true rfl) ?_
        refine V.seg F floX1 cjoX1 [.aload_n 1, .getfield 19, .aload_n 2, .getfield 19] (by decide +kernel) (pc2 := 107) (lv2 := [(5, .long x87), (3, .long (f_X1_joinModulus M56 a b)), (0, .ref a0), (1, .ref a), (2, .ref b)]) (st2 := [.long (mL M56 b 2), .long (mL M56 a 2), .long (jmin (mL M56 a 1) (mL M56 b 1)), .ref a0]) (M2 := M56) rfl ⟨trivial, (o_a.sm s56), trivial, (o_b.sm s56), trivial⟩ ?_
        refine V.mmaxL (st := [.long (jmin (mL M56 a 1) (mL M56 b 1)), .ref a0]) F (by decide +kernel) lX1_85 (rm_ok hRm hd (by decide) (by decide)) ⟨Nat.zero_le _, Nat.zero_le _⟩ (Nat.le_of_ble_eq_true rfl) ?_
        refine V.seg F floX1 cjoX1 [.lload 5, .aload_n 1, .getfield 38, .lload 5, .land, .lload_n 3, .aload_n 1] (by decide +kernel) (pc2 := 121) (lv2 := [(5, .long x87), (3, .long (f_X1_joinModulus M56 a b)), (0, .ref a0), (1, .ref a), (2, .ref b)]) (st2 := [.ref a, .long (f_X1_joinModulus M56 a b), .long ((mL M56 a 4) &&& x87), .long x87, .long (jmax (mL M56 a 2) (mL M56 b 2)), .long (jmin (mL M56 a 1) (mL M56 b 1)), .ref a0]) (M2 := M56) rfl ⟨trivial, trivial, (o_a.sm s56), trivial, trivial, trivial, trivial, trivial⟩ ?_
        refine V.callV (as := []) (rest := [.long (f_X1_joinModulus M56 a b), .long ((mL M56 a 4) &&& x87), .long x87, .long (jmax (mL M56 a 2) (mL M56 b 2)), .long (jmin (mL M56 a 1) (mL M56 b 1)), .ref a0]) F (by decide +kernel) lX1_88 bX1_countedRest ⟨1, _, (o_a.sm s56), rfl, rfl⟩ (c_X1_countedRest G X.2.1 M56 a (o_a.sm s56)) (rm_ok hRm hd (by decide) (by decide)) ⟨Nat.zero_le _, Nat.zero_le _⟩ (Nat.le_of_ble_eq_true rfl) (fun r_ N_ p_ => ?_)
        obtain ⟨rfl, hN_⟩ := p_
        rw [hN_]
        clear hN_
        refine V.seg F floX1 cjoX1 [.lload_n 3] (by decide +kernel) (pc2 := 125) (lv2 := [(5, .long x87), (3, .long (f_X1_joinModulus M56 a b)), (0, .ref a0), (1, .ref a), (2, .ref b)]) (st2 := [.long (f_X1_joinModulus M56 a b), .long (f_X1_countedRest M56 a), .long (f_X1_joinModulus M56 a b), .long ((mL M56 a 4) &&& x87), .long x87, .long (jmax (mL M56 a 2) (mL M56 b 2)), .long (jmin (mL M56 a 1) (mL M56 b 1)), .ref a0]) (M2 := M56) rfl ⟨trivial, trivial⟩ ?_
        refine V.callSN (as := [.long (f_X1_countedRest M56 a), .long (f_X1_joinModulus M56 a b)]) (rest := [.long (f_X1_joinModulus M56 a b), .long ((mL M56 a 4) &&& x87), .long x87, .long (jmax (mL M56 a 2) (mL M56 b 2)), .long (jmin (mL M56 a 1) (mL M56 b 1)), .ref a0]) F (by decide +kernel) lX1_44 bX6_restBy (c_X6_restBy G X.2.1 M56 (f_X1_countedRest M56 a) (f_X1_joinModulus M56 a b)) (rm_ok hRm hd (by decide) (by decide)) ⟨Nat.zero_le _, Nat.zero_le _⟩ (Nat.le_of_ble_eq_true rfl) (fun r_ N_ p_ => ?_)
        obtain ⟨rfl, hN_⟩ := p_
        rw [hN_]
        clear hN_
        refine V.callV (as := [.long (jmin (mL M56 a 1) (mL M56 b 1)), .long (jmax (mL M56 a 2) (mL M56 b 2)), .long x87, .long ((mL M56 a 4) &&& x87), .long (f_X1_joinModulus M56 a b), .long (f_X6_restBy (f_X1_countedRest M56 a) (f_X1_joinModulus M56 a b))]) (rest := []) F (by decide +kernel) lX1_25 bX1_become ⟨1, _, (o_a0.sm s56), rfl, rfl⟩ (c_X1_become G X.2.1 M56 a0 (jmin (mL M56 a 1) (mL M56 b 1)) (jmax (mL M56 a 2) (mL M56 b 2)) x87 ((mL M56 a 4) &&& x87) (f_X1_joinModulus M56 a b) (f_X6_restBy (f_X1_countedRest M56 a) (f_X1_joinModulus M56 a b)) (o_a0.sm s56)) (rm_ok hRm hd (by decide) (by decide)) ⟨Nat.zero_le _, Nat.zero_le _⟩ (Nat.le_of_ble_eq_true rfl) (fun r_ N_ p_ => ?_)
        obtain ⟨rfl, rfl, t128⟩ := p_
        refine (?_ : ∀ (M131 : Mem), (Sm M M131) → f_X1_becomeJoin M a0 a b = f_X1_becomeJoin_c131 a0 M131 → V G X 7 0 0 (Qx G X 0 0 (p_X1_becomeJoin M a0 a b)) 131 [(5, .long x87), (3, .long (f_X1_joinModulus M56 a b)), (0, .ref a0), (1, .ref a), (2, .ref b)] [] M131) _ (Sm.tr s56 t128) E
        intro M131 s131 E
        refine V.seg F floX1 cjoX1 [.aload_n 0] (by decide +kernel) (pc2 := 132) (lv2 := [(5, .long x87), (3, .long (f_X1_joinModulus M56 a b)), (0, .ref a0), (1, .ref a), (2, .ref b)]) (st2 := [.ref a0]) (M2 := M131) rfl ⟨trivial, trivial⟩ ?_
        refine V.callV (as := []) (rest := []) F (by decide +kernel) lX1_92 bX1_sharpen ⟨1, _, (o_a0.sm s131), rfl, rfl⟩ (c_X1_sharpen G X.2.1 M131 a0 (o_a0.sm s131)) (rm_ok hRm hd (by decide) (by decide)) ⟨Nat.zero_le _, Nat.zero_le _⟩ (Nat.le_of_ble_eq_true rfl) (fun r_ N_ p_ => ?_)
        obtain ⟨rfl, rfl, t132⟩ := p_
        refine (?_ : ∀ (M135 : Mem), (Sm M M135) → f_X1_becomeJoin M a0 a b = f_X1_becomeJoin_c135 M135 → V G X 7 0 0 (Qx G X 0 0 (p_X1_becomeJoin M a0 a b)) 135 [(5, .long x87), (3, .long (f_X1_joinModulus M56 a b)), (0, .ref a0), (1, .ref a), (2, .ref b)] [] M135) _ (Sm.tr s131 t132) E
        intro M135 s135 E
        refine V.pick [] rfl ?_
        exact hJ135 M135 s135 E
      refine V.if_eq (off := 30) F (by decide +kernel) (tgt := 56) (by decide) (fun h26 => ?_) (fun h26 => ?_)
      · replace E := E.trans (if_pos h26)
        refine V.pick [0, 1, 2] rfl ?_
        exact hJ56 M Sm.rf E
      · replace E := E.trans (if_neg h26)
        refine V.seg F floX1 cjoX1 [.aload_n 2] (by decide +kernel) (pc2 := 30) (lv2 := [(0, .ref a0), (1, .ref a), (2, .ref b)]) (st2 := [.ref b]) (M2 := M) rfl ⟨trivial, trivial⟩ ?_
        refine V.callV (as := []) (rest := []) F (by decide +kernel) lX1_48 bX1_isConstant ⟨1, _, o_b, rfl, rfl⟩ (c_X1_isConstant G X.2.1 M b o_b) (rm_ok hRm hd (by decide) (by decide)) ⟨Nat.zero_le _, Nat.zero_le _⟩ (Nat.le_of_ble_eq_true rfl) (fun r_ N_ p_ => ?_)
        obtain ⟨rfl, hN_, z30⟩ := p_
        rw [hN_]
        clear hN_
        refine V.if_eq (off := 23) F (by decide +kernel) (tgt := 56) (by decide) (fun h33 => ?_) (fun h33 => ?_)
        · replace E := E.trans (if_pos h33)
          refine V.pick [0, 1, 2] rfl ?_
          exact hJ56 M Sm.rf E
        · replace E := E.trans (if_neg h33)
          refine V.seg F floX1 cjoX1 [.aload_n 1, .getfield 11, .aload_n 2, .getfield 11, .lcmp] (by decide +kernel) (pc2 := 45) (lv2 := [(0, .ref a0), (1, .ref a), (2, .ref b)]) (st2 := [.int (lg_cmp (mL M a 1) (mL M b 1))]) (M2 := M) rfl ⟨trivial, o_a, trivial, o_b, trivial, trivial⟩ ?_
          refine V.lc_ne (off := 11) F (by decide +kernel) (tgt := 56) (by decide) (fun h45 => ?_) (fun h45 => ?_)
          · replace E := E.trans (if_neg h45)
            refine V.pick [0, 1, 2] rfl ?_
            exact hJ56 M Sm.rf E
          · replace E := E.trans (if_pos h45)
            refine V.pick [0, 1] rfl ?_
            exact hJ48 M Sm.rf E
  · replace E := E.trans (if_neg h4)
    refine V.seg F floX1 cjoX1 [.aload_n 0, .aload_n 2] (by decide +kernel) (pc2 := 9) (lv2 := [(0, .ref a0), (1, .ref a), (2, .ref b)]) (st2 := [.ref b, .ref a0]) (M2 := M) rfl ⟨trivial, trivial, trivial⟩ ?_
    refine V.callV (as := [.ref b]) (rest := []) F (by decide +kernel) lX1_72 bX1_copy ⟨1, _, o_a0, rfl, rfl⟩ (c_X1_copy G X.2.1 M a0 b o_a0 o_b) (rm_ok hRm hd (by decide) (by decide)) ⟨Nat.zero_le _, Nat.zero_le _⟩ (Nat.le_of_ble_eq_true rfl) (fun r_ N_ p_ => ?_)
    obtain ⟨rfl, rfl, t9⟩ := p_
    refine (?_ : ∀ (M12 : Mem), (Sm M M12) → f_X1_becomeJoin M a0 a b = f_X1_becomeJoin_c12 M12 → V G X 7 0 0 (Qx G X 0 0 (p_X1_becomeJoin M a0 a b)) 12 [(0, .ref a0), (1, .ref a), (2, .ref b)] [] M12) _ t9 E
    intro M12 s12 E
    refine V.seg F floX1 cjoX1 [.goto 123] (by decide +kernel) (pc2 := 135) (lv2 := [(0, .ref a0), (1, .ref a), (2, .ref b)]) (st2 := []) (M2 := M12) rfl ⟨(by decide), trivial⟩ ?_
    refine V.pick [] rfl ?_
    exact hJ135 M12 s12 E
end
section
/-- the class's and the reference's own objects and arrays are made, their references set -/
def rfB (a k : Nat) : Bool := (decide ((SH a).1 < 9) && decide ((ft ((SH a).1 - 1) k).1 = 2)) || ((decide ((SH a).1 = 23) || decide ((SH a).1 = 24) || decide ((SH a).1 = 28)) && decide (k < (SH a).2))
def Ok (M : Mem) : Prop := 73 ≤ mK M ∧ ∀ a k, a ≤ 73 → rfB a k = true → mB M a k = true
def okO (a c : Nat) : Bool := decide ((SH a).1 = c + 1) && decide (0 < a) && decide (a ≤ 73)
def okA (a kd n : Nat) : Bool := decide (SH a = (kd, n)) && decide (0 < a) && decide (a ≤ 73)
theorem Ok.o {M : Mem} (h : Ok M) (a c : Nat) (hc : okO a c = true) : isO M a c := by
  simp only [okO, Bool.and_eq_true, decide_eq_true_eq] at hc
  exact ⟨hc.1.1, hc.1.2, Nat.le_trans hc.2 h.1⟩
theorem Ok.f {M : Mem} (h : Ok M) (a c k : Nat) (hc : (okO a c && rfB a k) = true) : isO M a c ∧ mB M a k = true := by
  simp only [Bool.and_eq_true] at hc
  refine ⟨h.o a c hc.1, h.2 a k ?_ hc.2⟩
  have h1 := hc.1
  simp only [okO, Bool.and_eq_true, decide_eq_true_eq] at h1
  exact h1.2
theorem Ok.a {M : Mem} (h : Ok M) (a kd n : Nat) (hc : okA a kd n = true) {i : Int32} (hi : vp_in i n) : isA M a kd i := by
  simp only [okA, Bool.and_eq_true, decide_eq_true_eq] at hc
  refine ⟨by rw [hc.1.1], hc.1.2, Nat.le_trans hc.2 h.1, by rw [hc.1.1]; exact hi⟩
theorem Ok.sm {M N : Mem} (h : Ok M) (s : Sm M N) : Ok N := ⟨by show 73 ≤ N.1; rw [s.1]; exact h.1, fun a k h1 h2 => by show N.2.1 a k = true; rw [s.2]; exact h.2 a k h1 h2⟩
/-- the reference's moduli are never 0 -/
def Gb (M : Mem) : Prop := ∀ f, f < 1648 → ¬ mL M 58 f = 0
def Sg (M N : Mem) : Prop := Sm M N ∧ Gb N
theorem Sg.rf {M : Mem} (h : Gb M) : Sg M M := ⟨Sm.rf, h⟩
theorem Sg.tr {M N O : Mem} (h : Sg M N) (h2 : Sg N O) : Sg M O := ⟨h.1.tr h2.1, h2.2⟩
theorem Sg.pI {M N : Mem} {a k : Nat} {v : Int32} (h : Sg M N) : Sg M (uI N a k v) := ⟨h.1, h.2⟩
theorem Sg.pF {M N : Mem} {a k : Nat} {v : Int32} (h : Sg M N) : Sg M (uI N a k v) := ⟨h.1, h.2⟩
theorem Sg.pL {M N : Mem} {a k : Nat} {v : Int64} (h : Sg M N) (ha : 58 ≠ a) : Sg M (uL N a k v) := ⟨h.1, fun f hf => by rw [mL_uL_ne ha]; exact h.2 f hf⟩
theorem Sg.by {M N : Mem} {k : Nat} {v : Int64} (h : Sg M N) (hv : ¬ v = 0) : Sg M (uL N 58 k v) := ⟨h.1, fun f hf => by
  by_cases e : f = k
  · rw [e, mL_uL]; exact hv
  · rw [mL_uL_nk e]; exact h.2 f hf⟩
def vinb (i : Int32) (n : Nat) : Bool := decide (¬ (i < 0 ∨ n ≤ i.toNatClampNeg))
theorem vinc {i : Int32} {n : Nat} (h : vinb i n = true) : vp_in i n := of_decide_eq_true (p := ¬ (i < 0 ∨ n ≤ i.toNatClampNeg)) h
def f_X7_in_18  (w0_18 : Int32) : Int32 := w0_18
def f_X7_in_17   : Int32 := f_X7_in_18 0
def f_X7_in (v : Int64) (a : Int64) (b : Int64) : Int32 := if v < a then f_X7_in_17  else if b < v then f_X7_in_17  else f_X7_in_18 1
abbrev p_X7_in (M : Mem) (v : Int64) (a : Int64) (b : Int64) : Option Value → Mem → Prop := fun r N => r = some (.int (f_X7_in v a b)) ∧ N = M ∧ ((f_X7_in v a b) = 0 ∨ (f_X7_in v a b) = 1)
set_option maxRecDepth 100000 in
set_option maxHeartbeats 4000000 in
theorem c_X7_in (G : Ctx) (l : Launch) (M : Mem) (v : Int64) (a : Int64) (b : Int64)  : CT G l 0 mX7_in [.long v, .long a, .long b] M 0 0 (p_X7_in M v a b) := by
  refine CT.of (by decide) (Nat.le_of_ble_eq_true rfl) ?_
  intro X d hd hl hRm hnm F
  subst hl
  have E : f_X7_in v a b = f_X7_in v a b := rfl
  show V G X 6 0 0 (Qx G X 0 0 (p_X7_in M v a b)) 0 [(0, .long v), (2, .long a), (4, .long b)] [] M
  refine V.seg F floX7 cjoX7 [.lload_n 0, .lload_n 2, .lcmp] (by decide +kernel) (pc2 := 3) (lv2 := [(0, .long v), (2, .long a), (4, .long b)]) (st2 := [.int (lg_cmp v a)]) (M2 := M) rfl ⟨trivial, trivial, trivial, trivial⟩ ?_
  have hJ18 : ∀ (w0_18 : Int32), (w0_18 = 0 ∨ w0_18 = 1) → f_X7_in v a b = f_X7_in_18 w0_18 → V G X 6 0 0 (Qx G X 0 0 (p_X7_in M v a b)) 18 [] [.int w0_18] M := by
    intro w0_18 zw0_18 E
    exact V.zret F (zw0_18) (by decide +kernel) ⟨congrArg (fun z => some (Value.int z)) E.symm, rfl, by rw [E]; exact zw0_18⟩
  have hJ17 : f_X7_in v a b = f_X7_in_17 → V G X 6 0 0 (Qx G X 0 0 (p_X7_in M v a b)) 17 [] [] M := by
    intro E
    refine V.seg F floX7 cjoX7 [.iconst 0] (by decide +kernel) (pc2 := 18) (lv2 := []) (st2 := [.int 0]) (M2 := M) rfl ⟨trivial, trivial⟩ ?_
    refine V.pick [] rfl ?_
    exact hJ18 0 (Or.inl rfl) E
  refine V.lc_lt (off := 14) F (by decide +kernel) (tgt := 17) (by decide) (fun h3 => ?_) (fun h3 => ?_)
  · replace E := E.trans (if_pos h3)
    refine V.pick [] rfl ?_
    exact hJ17   E
  · replace E := E.trans (if_neg h3)
    refine V.seg F floX7 cjoX7 [.lload_n 0, .lload 4, .lcmp] (by decide +kernel) (pc2 := 10) (lv2 := [(0, .long v), (2, .long a), (4, .long b)]) (st2 := [.int (lg_cmp v b)]) (M2 := M) rfl ⟨trivial, trivial, trivial, trivial⟩ ?_
    refine V.lc_gt (off := 7) F (by decide +kernel) (tgt := 17) (by decide) (fun h10 => ?_) (fun h10 => ?_)
    · replace E := E.trans (if_pos h10)
      refine V.pick [] rfl ?_
      exact hJ17   E
    · replace E := E.trans (if_neg h10)
      refine V.seg F floX7 cjoX7 [.iconst 1, .goto 4] (by decide +kernel) (pc2 := 18) (lv2 := [(0, .long v), (2, .long a), (4, .long b)]) (st2 := [.int 1]) (M2 := M) rfl ⟨trivial, (by decide), trivial⟩ ?_
      refine V.pick [] rfl ?_
      exact hJ18 1 (Or.inr rfl) E
def f_X7_rem_21  (w0_21 : Int64) : Int64 := w0_21
def f_X7_rem (v : Int64) (m : Int64) : Int64 := if 0 ≤ (jrem v m) then f_X7_rem_21 (jrem v m) else f_X7_rem_21 ((jrem v m) + m)
abbrev p_X7_rem (M : Mem) (v : Int64) (m : Int64) : Option Value → Mem → Prop := fun r N => r = some (.long (f_X7_rem v m)) ∧ N = M
set_option maxRecDepth 100000 in
set_option maxHeartbeats 4000000 in
theorem c_X7_rem (G : Ctx) (l : Launch) (M : Mem) (v : Int64) (m : Int64) (hm : ¬ m = 0) : CT G l 0 mX7_rem [.long v, .long m] M 0 0 (p_X7_rem M v m) := by
  refine CT.of (by decide) (Nat.le_of_ble_eq_true rfl) ?_
  intro X d hd hl hRm hnm F
  subst hl
  have E : f_X7_rem v m = f_X7_rem v m := rfl
  show V G X 6 0 0 (Qx G X 0 0 (p_X7_rem M v m)) 0 [(0, .long v), (2, .long m)] [] M
  refine V.seg F floX7 cjoX7 [.lload_n 0, .lload_n 2, .lrem, .lstore 4, .lload 4, .lconst 0, .lcmp] (by decide +kernel) (pc2 := 9) (lv2 := [(4, .long (jrem v m)), (0, .long v), (2, .long m)]) (st2 := [.int (lg_cmp (jrem v m) 0)]) (M2 := M) rfl ⟨trivial, trivial, (by assumption), (by decide), trivial, trivial, trivial, trivial⟩ ?_
  have hJ21 : ∀ (w0_21 : Int64), f_X7_rem v m = f_X7_rem_21 w0_21 → V G X 6 0 0 (Qx G X 0 0 (p_X7_rem M v m)) 21 [] [.long w0_21] M := by
    intro w0_21 E
    exact V.lret F (by decide +kernel) ⟨congrArg (fun z => some (Value.long z)) E.symm, rfl⟩
  refine V.lc_ge (off := 10) F (by decide +kernel) (tgt := 19) (by decide) (fun h9 => ?_) (fun h9 => ?_)
  · replace E := E.trans (if_pos h9)
    refine V.seg F floX7 cjoX7 [.lload 4] (by decide +kernel) (pc2 := 21) (lv2 := [(4, .long (jrem v m)), (0, .long v), (2, .long m)]) (st2 := [.long (jrem v m)]) (M2 := M) rfl ⟨trivial, trivial⟩ ?_
    refine V.pick [] rfl ?_
    exact hJ21 (jrem v m)  E
  · replace E := E.trans (if_neg h9)
    refine V.seg F floX7 cjoX7 [.lload 4, .lload_n 2, .ladd, .goto 5] (by decide +kernel) (pc2 := 21) (lv2 := [(4, .long (jrem v m)), (0, .long v), (2, .long m)]) (st2 := [.long ((jrem v m) + m)]) (M2 := M) rfl ⟨trivial, trivial, trivial, (by decide), trivial⟩ ?_
    refine V.pick [] rfl ?_
    exact hJ21 ((jrem v m) + m)  E
def f_X7_more_11  (w0_11 : Int64) : Int64 := w0_11
def f_X7_more (a : Int64) (b : Int64) : Int64 := if a ≤ b then f_X7_more_11 b else f_X7_more_11 a
abbrev p_X7_more (M : Mem) (a : Int64) (b : Int64) : Option Value → Mem → Prop := fun r N => r = some (.long (f_X7_more a b)) ∧ N = M
set_option maxRecDepth 100000 in
set_option maxHeartbeats 4000000 in
theorem c_X7_more (G : Ctx) (l : Launch) (M : Mem) (a : Int64) (b : Int64)  : CT G l 0 mX7_more [.long a, .long b] M 0 0 (p_X7_more M a b) := by
  refine CT.of (by decide) (Nat.le_of_ble_eq_true rfl) ?_
  intro X d hd hl hRm hnm F
  subst hl
  have E : f_X7_more a b = f_X7_more a b := rfl
  show V G X 4 0 0 (Qx G X 0 0 (p_X7_more M a b)) 0 [(0, .long a), (2, .long b)] [] M
  refine V.seg F floX7 cjoX7 [.lload_n 0, .lload_n 2, .lcmp] (by decide +kernel) (pc2 := 3) (lv2 := [(0, .long a), (2, .long b)]) (st2 := [.int (lg_cmp a b)]) (M2 := M) rfl ⟨trivial, trivial, trivial, trivial⟩ ?_
  have hJ11 : ∀ (w0_11 : Int64), f_X7_more a b = f_X7_more_11 w0_11 → V G X 4 0 0 (Qx G X 0 0 (p_X7_more M a b)) 11 [] [.long w0_11] M := by
    intro w0_11 E
    exact V.lret F (by decide +kernel) ⟨congrArg (fun z => some (Value.long z)) E.symm, rfl⟩
  refine V.lc_le (off := 7) F (by decide +kernel) (tgt := 10) (by decide) (fun h3 => ?_) (fun h3 => ?_)
  · replace E := E.trans (if_pos h3)
    refine V.seg F floX7 cjoX7 [.lload_n 2] (by decide +kernel) (pc2 := 11) (lv2 := [(0, .long a), (2, .long b)]) (st2 := [.long b]) (M2 := M) rfl ⟨trivial, trivial⟩ ?_
    refine V.pick [] rfl ?_
    exact hJ11 b  E
  · replace E := E.trans (if_neg h3)
    refine V.seg F floX7 cjoX7 [.lload_n 0, .goto 4] (by decide +kernel) (pc2 := 11) (lv2 := [(0, .long a), (2, .long b)]) (st2 := [.long a]) (M2 := M) rfl ⟨trivial, (by decide), trivial⟩ ?_
    refine V.pick [] rfl ?_
    exact hJ11 a  E
def f_X7_less_11  (w0_11 : Int64) : Int64 := w0_11
def f_X7_less (a : Int64) (b : Int64) : Int64 := if b ≤ a then f_X7_less_11 b else f_X7_less_11 a
abbrev p_X7_less (M : Mem) (a : Int64) (b : Int64) : Option Value → Mem → Prop := fun r N => r = some (.long (f_X7_less a b)) ∧ N = M
set_option maxRecDepth 100000 in
set_option maxHeartbeats 4000000 in
theorem c_X7_less (G : Ctx) (l : Launch) (M : Mem) (a : Int64) (b : Int64)  : CT G l 0 mX7_less [.long a, .long b] M 0 0 (p_X7_less M a b) := by
  refine CT.of (by decide) (Nat.le_of_ble_eq_true rfl) ?_
  intro X d hd hl hRm hnm F
  subst hl
  have E : f_X7_less a b = f_X7_less a b := rfl
  show V G X 4 0 0 (Qx G X 0 0 (p_X7_less M a b)) 0 [(0, .long a), (2, .long b)] [] M
  refine V.seg F floX7 cjoX7 [.lload_n 0, .lload_n 2, .lcmp] (by decide +kernel) (pc2 := 3) (lv2 := [(0, .long a), (2, .long b)]) (st2 := [.int (lg_cmp a b)]) (M2 := M) rfl ⟨trivial, trivial, trivial, trivial⟩ ?_
  have hJ11 : ∀ (w0_11 : Int64), f_X7_less a b = f_X7_less_11 w0_11 → V G X 4 0 0 (Qx G X 0 0 (p_X7_less M a b)) 11 [] [.long w0_11] M := by
    intro w0_11 E
    exact V.lret F (by decide +kernel) ⟨congrArg (fun z => some (Value.long z)) E.symm, rfl⟩
  refine V.lc_ge (off := 7) F (by decide +kernel) (tgt := 10) (by decide) (fun h3 => ?_) (fun h3 => ?_)
  · replace E := E.trans (if_pos h3)
    refine V.seg F floX7 cjoX7 [.lload_n 2] (by decide +kernel) (pc2 := 11) (lv2 := [(0, .long a), (2, .long b)]) (st2 := [.long b]) (M2 := M) rfl ⟨trivial, trivial⟩ ?_
    refine V.pick [] rfl ?_
    exact hJ11 b  E
  · replace E := E.trans (if_neg h3)
    refine V.seg F floX7 cjoX7 [.lload_n 0, .goto 4] (by decide +kernel) (pc2 := 11) (lv2 := [(0, .long a), (2, .long b)]) (st2 := [.long a]) (M2 := M) rfl ⟨trivial, (by decide), trivial⟩ ?_
    refine V.pick [] rfl ?_
    exact hJ11 a  E
def f_X7_isOver_56  (w0_56 : Int32) : Int32 := w0_56
def f_X7_isOver_55   : Int32 := f_X7_isOver_56 0
def f_X7_isOver_48 (w0_37 : Int32) (w0_48 : Int32) : Int32 := if w0_37 = w0_48 then f_X7_isOver_55  else f_X7_isOver_56 1
def f_X7_isOver_37 (a : Int64) (w0_37 : Int32) : Int32 := if 0 ≤ a then f_X7_isOver_48 w0_37 0 else f_X7_isOver_48 w0_37 1
def f_X7_isOver_22 (a : Int64) (s : Int64) (w0_11 : Int32) (w0_22 : Int32) : Int32 := if w0_11 = w0_22 then if 0 ≤ s then f_X7_isOver_37 a 0 else f_X7_isOver_37 a 1 else f_X7_isOver_55 
def f_X7_isOver_11 (a : Int64) (b : Int64) (s : Int64) (w0_11 : Int32) : Int32 := if 0 ≤ b then f_X7_isOver_22 a s w0_11 0 else f_X7_isOver_22 a s w0_11 1
def f_X7_isOver (a : Int64) (b : Int64) (s : Int64) : Int32 := if 0 ≤ a then f_X7_isOver_11 a b s 0 else f_X7_isOver_11 a b s 1
abbrev p_X7_isOver (M : Mem) (a : Int64) (b : Int64) (s : Int64) : Option Value → Mem → Prop := fun r N => r = some (.int (f_X7_isOver a b s)) ∧ N = M ∧ ((f_X7_isOver a b s) = 0 ∨ (f_X7_isOver a b s) = 1)
set_option maxRecDepth 100000 in
set_option maxHeartbeats 4000000 in
theorem c_X7_isOver (G : Ctx) (l : Launch) (M : Mem) (a : Int64) (b : Int64) (s : Int64)  : CT G l 0 mX7_isOver [.long a, .long b, .long s] M 0 0 (p_X7_isOver M a b s) := by
  refine CT.of (by decide) (Nat.le_of_ble_eq_true rfl) ?_
  intro X d hd hl hRm hnm F
  subst hl
  have E : f_X7_isOver a b s = f_X7_isOver a b s := rfl
  show V G X 6 0 0 (Qx G X 0 0 (p_X7_isOver M a b s)) 0 [(0, .long a), (2, .long b), (4, .long s)] [] M
  refine V.seg F floX7 cjoX7 [.lload_n 0, .lconst 0, .lcmp] (by decide +kernel) (pc2 := 3) (lv2 := [(0, .long a), (2, .long b), (4, .long s)]) (st2 := [.int (lg_cmp a 0)]) (M2 := M) rfl ⟨trivial, trivial, trivial, trivial⟩ ?_
  have hJ11 : ∀ (w0_11 : Int32), f_X7_isOver a b s = f_X7_isOver_11 a b s w0_11 → V G X 6 0 0 (Qx G X 0 0 (p_X7_isOver M a b s)) 11 [(0, .long a), (2, .long b), (4, .long s)] [.int w0_11] M := by
    intro w0_11 E
    refine V.seg F floX7 cjoX7 [.lload_n 2, .lconst 0, .lcmp] (by decide +kernel) (pc2 := 14) (lv2 := [(0, .long a), (2, .long b), (4, .long s)]) (st2 := [.int (lg_cmp b 0), .int w0_11]) (M2 := M) rfl ⟨trivial, trivial, trivial, trivial⟩ ?_
    have hJ22 : ∀ (w0_22 : Int32), f_X7_isOver a b s = f_X7_isOver_22 a s w0_11 w0_22 → V G X 6 0 0 (Qx G X 0 0 (p_X7_isOver M a b s)) 22 [(0, .long a), (4, .long s)] [.int w0_22, .int w0_11] M := by
      intro w0_22 E
      have hJ56 : ∀ (w0_56 : Int32), (w0_56 = 0 ∨ w0_56 = 1) → f_X7_isOver a b s = f_X7_isOver_56 w0_56 → V G X 6 0 0 (Qx G X 0 0 (p_X7_isOver M a b s)) 56 [] [.int w0_56] M := by
        intro w0_56 zw0_56 E
        exact V.zret F (zw0_56) (by decide +kernel) ⟨congrArg (fun z => some (Value.int z)) E.symm, rfl, by rw [E]; exact zw0_56⟩
      have hJ55 : f_X7_isOver a b s = f_X7_isOver_55 → V G X 6 0 0 (Qx G X 0 0 (p_X7_isOver M a b s)) 55 [] [] M := by
        intro E
        refine V.seg F floX7 cjoX7 [.iconst 0] (by decide +kernel) (pc2 := 56) (lv2 := []) (st2 := [.int 0]) (M2 := M) rfl ⟨trivial, trivial⟩ ?_
        refine V.pick [] rfl ?_
        exact hJ56 0 (Or.inl rfl) E
      refine V.ic_ne (off := 33) F (by decide +kernel) (tgt := 55) (by decide) (fun h22 => ?_) (fun h22 => ?_)
      · replace E := E.trans (if_neg h22)
        refine V.pick [] rfl ?_
        exact hJ55   E
      · replace E := E.trans (if_pos h22)
        refine V.seg F floX7 cjoX7 [.lload 4, .lconst 0, .lcmp] (by decide +kernel) (pc2 := 29) (lv2 := [(0, .long a), (4, .long s)]) (st2 := [.int (lg_cmp s 0)]) (M2 := M) rfl ⟨trivial, trivial, trivial, trivial⟩ ?_
        have hJ37 : ∀ (w0_37 : Int32), f_X7_isOver a b s = f_X7_isOver_37 a w0_37 → V G X 6 0 0 (Qx G X 0 0 (p_X7_isOver M a b s)) 37 [(0, .long a)] [.int w0_37] M := by
          intro w0_37 E
          refine V.seg F floX7 cjoX7 [.lload_n 0, .lconst 0, .lcmp] (by decide +kernel) (pc2 := 40) (lv2 := [(0, .long a)]) (st2 := [.int (lg_cmp a 0), .int w0_37]) (M2 := M) rfl ⟨trivial, trivial, trivial, trivial⟩ ?_
          have hJ48 : ∀ (w0_48 : Int32), f_X7_isOver a b s = f_X7_isOver_48 w0_37 w0_48 → V G X 6 0 0 (Qx G X 0 0 (p_X7_isOver M a b s)) 48 [] [.int w0_48, .int w0_37] M := by
            intro w0_48 E
            refine V.ic_eq (off := 7) F (by decide +kernel) (tgt := 55) (by decide) (fun h48 => ?_) (fun h48 => ?_)
            · replace E := E.trans (if_pos h48)
              refine V.pick [] rfl ?_
              exact hJ55   E
            · replace E := E.trans (if_neg h48)
              refine V.seg F floX7 cjoX7 [.iconst 1, .goto 4] (by decide +kernel) (pc2 := 56) (lv2 := []) (st2 := [.int 1]) (M2 := M) rfl ⟨trivial, (by decide), trivial⟩ ?_
              refine V.pick [] rfl ?_
              exact hJ56 1 (Or.inr rfl) E
          refine V.lc_ge (off := 7) F (by decide +kernel) (tgt := 47) (by decide) (fun h40 => ?_) (fun h40 => ?_)
          · replace E := E.trans (if_pos h40)
            refine V.seg F floX7 cjoX7 [.iconst 0] (by decide +kernel) (pc2 := 48) (lv2 := [(0, .long a)]) (st2 := [.int 0, .int w0_37]) (M2 := M) rfl ⟨trivial, trivial⟩ ?_
            refine V.pick [] rfl ?_
            exact hJ48 0  E
          · replace E := E.trans (if_neg h40)
            refine V.seg F floX7 cjoX7 [.iconst 1, .goto 4] (by decide +kernel) (pc2 := 48) (lv2 := [(0, .long a)]) (st2 := [.int 1, .int w0_37]) (M2 := M) rfl ⟨trivial, (by decide), trivial⟩ ?_
            refine V.pick [] rfl ?_
            exact hJ48 1  E
        refine V.lc_ge (off := 7) F (by decide +kernel) (tgt := 36) (by decide) (fun h29 => ?_) (fun h29 => ?_)
        · replace E := E.trans (if_pos h29)
          refine V.seg F floX7 cjoX7 [.iconst 0] (by decide +kernel) (pc2 := 37) (lv2 := [(0, .long a), (4, .long s)]) (st2 := [.int 0]) (M2 := M) rfl ⟨trivial, trivial⟩ ?_
          refine V.pick [0] rfl ?_
          exact hJ37 0  E
        · replace E := E.trans (if_neg h29)
          refine V.seg F floX7 cjoX7 [.iconst 1, .goto 4] (by decide +kernel) (pc2 := 37) (lv2 := [(0, .long a), (4, .long s)]) (st2 := [.int 1]) (M2 := M) rfl ⟨trivial, (by decide), trivial⟩ ?_
          refine V.pick [0] rfl ?_
          exact hJ37 1  E
    refine V.lc_ge (off := 7) F (by decide +kernel) (tgt := 21) (by decide) (fun h14 => ?_) (fun h14 => ?_)
    · replace E := E.trans (if_pos h14)
      refine V.seg F floX7 cjoX7 [.iconst 0] (by decide +kernel) (pc2 := 22) (lv2 := [(0, .long a), (2, .long b), (4, .long s)]) (st2 := [.int 0, .int w0_11]) (M2 := M) rfl ⟨trivial, trivial⟩ ?_
      refine V.pick [0, 2] rfl ?_
      exact hJ22 0  E
    · replace E := E.trans (if_neg h14)
      refine V.seg F floX7 cjoX7 [.iconst 1, .goto 4] (by decide +kernel) (pc2 := 22) (lv2 := [(0, .long a), (2, .long b), (4, .long s)]) (st2 := [.int 1, .int w0_11]) (M2 := M) rfl ⟨trivial, (by decide), trivial⟩ ?_
      refine V.pick [0, 2] rfl ?_
      exact hJ22 1  E
  refine V.lc_ge (off := 7) F (by decide +kernel) (tgt := 10) (by decide) (fun h3 => ?_) (fun h3 => ?_)
  · replace E := E.trans (if_pos h3)
    refine V.seg F floX7 cjoX7 [.iconst 0] (by decide +kernel) (pc2 := 11) (lv2 := [(0, .long a), (2, .long b), (4, .long s)]) (st2 := [.int 0]) (M2 := M) rfl ⟨trivial, trivial⟩ ?_
    refine V.pick [0, 1, 2] rfl ?_
    exact hJ11 0  E
  · replace E := E.trans (if_neg h3)
    refine V.seg F floX7 cjoX7 [.iconst 1, .goto 4] (by decide +kernel) (pc2 := 11) (lv2 := [(0, .long a), (2, .long b), (4, .long s)]) (st2 := [.int 1]) (M2 := M) rfl ⟨trivial, (by decide), trivial⟩ ?_
    refine V.pick [0, 1, 2] rfl ?_
    exact hJ11 1  E
def f_X7_all (M : Mem) (f : Int32) : Mem := uL (uL (uL (uL (uL (uL (uI M 53 (ix f) 0) 54 (ix f) ((-9223372036854775808))) 55 (ix f) 9223372036854775807) 56 (ix f) 0) 57 (ix f) 0) 58 (ix f) 1) 59 (ix f) 0
abbrev p_X7_all (M : Mem) (f : Int32) : Option Value → Mem → Prop := fun r N => r = none ∧ N = f_X7_all M f ∧ Sg M N
set_option maxRecDepth 100000 in
set_option maxHeartbeats 4000000 in
theorem c_X7_all (G : Ctx) (l : Launch) (M : Mem) (f : Int32) (q : Ok M) (gb : Gb M) (i_f : vp_in f 1648) : CT G l 0 mX7_all [.ref 52, .int f] M 0 0 (p_X7_all M f) := by
  refine CT.of (by decide) (Nat.le_of_ble_eq_true rfl) ?_
  intro X d hd hl hRm hnm F
  subst hl
  have E : f_X7_all M f = f_X7_all M f := rfl
  show V G X 2 0 0 (Qx G X 0 0 (p_X7_all M f)) 0 [(0, .ref 52), (1, .int f)] [] M
  refine V.seg F floX7 cjoX7 [.aload_n 0, .getfield 9, .iload_n 1, .iconst 0, .bastore, .aload_n 0, .getfield 13, .iload_n 1, .ldc2_w 83, .lastore, .aload_n 0, .getfield 17, .iload_n 1, .ldc2_w 85, .lastore, .aload_n 0, .getfield 20, .iload_n 1, .lconst 0, .lastore, .aload_n 0, .getfield 23, .iload_n 1, .lconst 0, .lastore, .aload_n 0, .getfield 26, .iload_n 1, .lconst 1, .lastore, .aload_n 0, .getfield 29, .iload_n 1, .lconst 0, .lastore] (by decide +kernel) (pc2 := 53) (lv2 := [(0, .ref 52), (1, .int f)]) (st2 := []) (M2 := uL (uL (uL (uL (uL (uL (uI M 53 (ix f) 0) 54 (ix f) ((-9223372036854775808))) 55 (ix f) 9223372036854775807) 56 (ix f) 0) 57 (ix f) 0) 58 (ix f) 1) 59 (ix f) 0) rfl ⟨trivial, (q.f 52 7 0 rfl), trivial, trivial, ⟨(q.a 53 21 1648 rfl (by first | assumption | exact vinc (by decide))), Or.inl rfl⟩, trivial, ((q.sm (Sg.pI (Sg.rf gb)).1).f 52 7 1 rfl), trivial, trivial, ((q.sm (Sg.pI (Sg.rf gb)).1).a 54 22 1648 rfl (by first | assumption | exact vinc (by decide))), trivial, ((q.sm (Sg.pL (Sg.pI (Sg.rf gb)) (by decide)).1).f 52 7 2 rfl), trivial, trivial, ((q.sm (Sg.pL (Sg.pI (Sg.rf gb)) (by decide)).1).a 55 22 1648 rfl (by first | assumption | exact vinc (by decide))), trivial, ((q.sm (Sg.pL (Sg.pL (Sg.pI (Sg.rf gb)) (by decide)) (by decide)).1).f 52 7 3 rfl), trivial, trivial, ((q.sm (Sg.pL (Sg.pL (Sg.pI (Sg.rf gb)) (by decide)) (by decide)).1).a 56 22 1648 rfl (by first | assumption | exact vinc (by decide))), trivial, ((q.sm (Sg.pL (Sg.pL (Sg.pL (Sg.pI (Sg.rf gb)) (by decide)) (by decide)) (by decide)).1).f 52 7 4 rfl), trivial, trivial, ((q.sm (Sg.pL (Sg.pL (Sg.pL (Sg.pI (Sg.rf gb)) (by decide)) (by decide)) (by decide)).1).a 57 22 1648 rfl (by first | assumption | exact vinc (by decide))), trivial, ((q.sm (Sg.pL (Sg.pL (Sg.pL (Sg.pL (Sg.pI (Sg.rf gb)) (by decide)) (by decide)) (by decide)) (by decide)).1).f 52 7 5 rfl), trivial, trivial, ((q.sm (Sg.pL (Sg.pL (Sg.pL (Sg.pL (Sg.pI (Sg.rf gb)) (by decide)) (by decide)) (by decide)) (by decide)).1).a 58 22 1648 rfl (by first | assumption | exact vinc (by decide))), trivial, ((q.sm (Sg.by (Sg.pL (Sg.pL (Sg.pL (Sg.pL (Sg.pI (Sg.rf gb)) (by decide)) (by decide)) (by decide)) (by decide)) (by decide)).1).f 52 7 6 rfl), trivial, trivial, ((q.sm (Sg.by (Sg.pL (Sg.pL (Sg.pL (Sg.pL (Sg.pI (Sg.rf gb)) (by decide)) (by decide)) (by decide)) (by decide)) (by decide)).1).a 59 22 1648 rfl (by first | assumption | exact vinc (by decide))), trivial⟩ ?_
  exact V.vret F (by decide +kernel) ⟨rfl, E.symm, (Sg.pL (Sg.by (Sg.pL (Sg.pL (Sg.pL (Sg.pL (Sg.pI (Sg.rf gb)) (by decide)) (by decide)) (by decide)) (by decide)) (by decide)) (by decide))⟩
def f_X7_nothing_c5 (f : Int32) (M5 : Mem) : Mem := uI M5 53 (ix f) 1
def f_X7_nothing (M : Mem) (f : Int32) : Mem := f_X7_nothing_c5 f (f_X7_all M f)
abbrev p_X7_nothing (M : Mem) (f : Int32) : Option Value → Mem → Prop := fun r N => r = none ∧ N = f_X7_nothing M f ∧ Sg M N
set_option maxRecDepth 100000 in
set_option maxHeartbeats 4000000 in
theorem c_X7_nothing (G : Ctx) (l : Launch) (M : Mem) (f : Int32) (q : Ok M) (gb : Gb M) (i_f : vp_in f 1648) : CT G l 1 mX7_nothing [.ref 52, .int f] M 0 0 (p_X7_nothing M f) := by
  refine CT.of (by decide) (Nat.le_of_ble_eq_true rfl) ?_
  intro X d hd hl hRm hnm F
  subst hl
  have E : f_X7_nothing M f = f_X7_nothing M f := rfl
  show V G X 2 0 0 (Qx G X 0 0 (p_X7_nothing M f)) 0 [(0, .ref 52), (1, .int f)] [] M
  refine V.seg F floX7 cjoX7 [.aload_n 0, .iload_n 1] (by decide +kernel) (pc2 := 2) (lv2 := [(0, .ref 52), (1, .int f)]) (st2 := [.int f, .ref 52]) (M2 := M) rfl ⟨trivial, trivial, trivial⟩ ?_
  refine V.callV (as := [.int f]) (rest := []) F (by decide +kernel) lX7_79 bX7_all ⟨7, _, (q.o 52 7 rfl), rfl, rfl⟩ (c_X7_all G X.2.1 M f q gb (by first | assumption | exact vinc (by decide))) (rm_ok hRm hd (by decide) (by decide)) ⟨Nat.zero_le _, Nat.zero_le _⟩ (Nat.le_of_ble_eq_true rfl) (fun r_ N_ p_ => ?_)
  obtain ⟨rfl, rfl, t2⟩ := p_
  refine (?_ : ∀ (M5 : Mem), (Sg M M5) → f_X7_nothing M f = f_X7_nothing_c5 f M5 → V G X 2 0 0 (Qx G X 0 0 (p_X7_nothing M f)) 5 [(0, .ref 52), (1, .int f)] [] M5) _ t2 E
  intro M5 s5 E
  refine V.seg F floX7 cjoX7 [.aload_n 0, .getfield 9, .iload_n 1, .iconst 1, .bastore] (by decide +kernel) (pc2 := 12) (lv2 := [(0, .ref 52), (1, .int f)]) (st2 := []) (M2 := uI M5 53 (ix f) 1) rfl ⟨trivial, ((q.sm s5.1).f 52 7 0 rfl), trivial, trivial, ⟨((q.sm s5.1).a 53 21 1648 rfl (by first | assumption | exact vinc (by decide))), Or.inr rfl⟩, trivial⟩ ?_
  exact V.vret F (by decide +kernel) ⟨rfl, E.symm, (Sg.pI s5)⟩
def f_X7_number (M : Mem) (f : Int32) (v : Int64) : Mem := uL (uL (uL (uL (uL (uL (uI M 53 (ix f) 0) 54 (ix f) v) 55 (ix f) v) 56 (ix f) ((-1))) 57 (ix f) v) 58 (ix f) 1) 59 (ix f) 0
abbrev p_X7_number (M : Mem) (f : Int32) (v : Int64) : Option Value → Mem → Prop := fun r N => r = none ∧ N = f_X7_number M f v ∧ Sg M N
set_option maxRecDepth 100000 in
set_option maxHeartbeats 4000000 in
theorem c_X7_number (G : Ctx) (l : Launch) (M : Mem) (f : Int32) (v : Int64) (q : Ok M) (gb : Gb M) (i_f : vp_in f 1648) : CT G l 0 mX7_number [.ref 52, .int f, .long v] M 0 0 (p_X7_number M f v) := by
  refine CT.of (by decide) (Nat.le_of_ble_eq_true rfl) ?_
  intro X d hd hl hRm hnm F
  subst hl
  have E : f_X7_number M f v = f_X7_number M f v := rfl
  show V G X 4 0 0 (Qx G X 0 0 (p_X7_number M f v)) 0 [(0, .ref 52), (1, .int f), (2, .long v)] [] M
  refine V.seg F floX7 cjoX7 [.aload_n 0, .getfield 9, .iload_n 1, .iconst 0, .bastore, .aload_n 0, .getfield 13, .iload_n 1, .lload_n 2, .lastore, .aload_n 0, .getfield 17, .iload_n 1, .lload_n 2, .lastore, .aload_n 0, .getfield 20, .iload_n 1, .ldc2_w 87, .lastore, .aload_n 0, .getfield 23, .iload_n 1, .lload_n 2, .lastore, .aload_n 0, .getfield 26, .iload_n 1, .lconst 1, .lastore, .aload_n 0, .getfield 29, .iload_n 1, .lconst 0, .lastore] (by decide +kernel) (pc2 := 51) (lv2 := [(0, .ref 52), (1, .int f), (2, .long v)]) (st2 := []) (M2 := uL (uL (uL (uL (uL (uL (uI M 53 (ix f) 0) 54 (ix f) v) 55 (ix f) v) 56 (ix f) ((-1))) 57 (ix f) v) 58 (ix f) 1) 59 (ix f) 0) rfl ⟨trivial, (q.f 52 7 0 rfl), trivial, trivial, ⟨(q.a 53 21 1648 rfl (by first | assumption | exact vinc (by decide))), Or.inl rfl⟩, trivial, ((q.sm (Sg.pI (Sg.rf gb)).1).f 52 7 1 rfl), trivial, trivial, ((q.sm (Sg.pI (Sg.rf gb)).1).a 54 22 1648 rfl (by first | assumption | exact vinc (by decide))), trivial, ((q.sm (Sg.pL (Sg.pI (Sg.rf gb)) (by decide)).1).f 52 7 2 rfl), trivial, trivial, ((q.sm (Sg.pL (Sg.pI (Sg.rf gb)) (by decide)).1).a 55 22 1648 rfl (by first | assumption | exact vinc (by decide))), trivial, ((q.sm (Sg.pL (Sg.pL (Sg.pI (Sg.rf gb)) (by decide)) (by decide)).1).f 52 7 3 rfl), trivial, trivial, ((q.sm (Sg.pL (Sg.pL (Sg.pI (Sg.rf gb)) (by decide)) (by decide)).1).a 56 22 1648 rfl (by first | assumption | exact vinc (by decide))), trivial, ((q.sm (Sg.pL (Sg.pL (Sg.pL (Sg.pI (Sg.rf gb)) (by decide)) (by decide)) (by decide)).1).f 52 7 4 rfl), trivial, trivial, ((q.sm (Sg.pL (Sg.pL (Sg.pL (Sg.pI (Sg.rf gb)) (by decide)) (by decide)) (by decide)).1).a 57 22 1648 rfl (by first | assumption | exact vinc (by decide))), trivial, ((q.sm (Sg.pL (Sg.pL (Sg.pL (Sg.pL (Sg.pI (Sg.rf gb)) (by decide)) (by decide)) (by decide)) (by decide)).1).f 52 7 5 rfl), trivial, trivial, ((q.sm (Sg.pL (Sg.pL (Sg.pL (Sg.pL (Sg.pI (Sg.rf gb)) (by decide)) (by decide)) (by decide)) (by decide)).1).a 58 22 1648 rfl (by first | assumption | exact vinc (by decide))), trivial, ((q.sm (Sg.by (Sg.pL (Sg.pL (Sg.pL (Sg.pL (Sg.pI (Sg.rf gb)) (by decide)) (by decide)) (by decide)) (by decide)) (by decide)).1).f 52 7 6 rfl), trivial, trivial, ((q.sm (Sg.by (Sg.pL (Sg.pL (Sg.pL (Sg.pL (Sg.pI (Sg.rf gb)) (by decide)) (by decide)) (by decide)) (by decide)) (by decide)).1).a 59 22 1648 rfl (by first | assumption | exact vinc (by decide))), trivial⟩ ?_
  exact V.vret F (by decide +kernel) ⟨rfl, E.symm, (Sg.pL (Sg.by (Sg.pL (Sg.pL (Sg.pL (Sg.pL (Sg.pI (Sg.rf gb)) (by decide)) (by decide)) (by decide)) (by decide)) (by decide)) (by decide))⟩
def f_X7_copy_c72 (f : Int32) (g : Int32) (M72 : Mem) : Mem := uL M72 59 (ix f) (mL M72 59 (ix g))
def f_X7_copy_c36 (f : Int32) (g : Int32) (M36 : Mem) : Mem := f_X7_copy_c72 f g (uL (uL (uL M36 56 (ix f) (mL M36 56 (ix g))) 57 (ix f) (mL (uL M36 56 (ix f) (mL M36 56 (ix g))) 57 (ix g))) 58 (ix f) (mL (uL (uL M36 56 (ix f) (mL M36 56 (ix g))) 57 (ix f) (mL (uL M36 56 (ix f) (mL M36 56 (ix g))) 57 (ix g))) 58 (ix g)))
def f_X7_copy (M : Mem) (f : Int32) (g : Int32) : Mem := f_X7_copy_c36 f g (uL (uL (uI M 53 (ix f) (mI M 53 (ix g))) 54 (ix f) (mL (uI M 53 (ix f) (mI M 53 (ix g))) 54 (ix g))) 55 (ix f) (mL (uL (uI M 53 (ix f) (mI M 53 (ix g))) 54 (ix f) (mL (uI M 53 (ix f) (mI M 53 (ix g))) 54 (ix g))) 55 (ix g)))
abbrev p_X7_copy (M : Mem) (f : Int32) (g : Int32) : Option Value → Mem → Prop := fun r N => r = none ∧ N = f_X7_copy M f g ∧ Sg M N
set_option maxRecDepth 100000 in
set_option maxHeartbeats 4000000 in
theorem c_X7_copy (G : Ctx) (l : Launch) (M : Mem) (f : Int32) (g : Int32) (q : Ok M) (gb : Gb M) (i_f : vp_in f 1648) (i_g : vp_in g 1648) : CT G l 0 mX7_copy [.ref 52, .int f, .int g] M 0 0 (p_X7_copy M f g) := by
  refine CT.of (by decide) (Nat.le_of_ble_eq_true rfl) ?_
  intro X d hd hl hRm hnm F
  subst hl
  have E : f_X7_copy M f g = f_X7_copy M f g := rfl
  show V G X 3 0 0 (Qx G X 0 0 (p_X7_copy M f g)) 0 [(0, .ref 52), (1, .int f), (2, .int g)] [] M
  refine V.bool 53 (ix g) (bl_a (q.a 53 21 1648 rfl (by first | assumption | exact vinc (by decide)))) (fun bz11 => ?_)
  refine V.seg F floX7 cjoX7 [.aload_n 0, .getfield 9, .iload_n 1, .aload_n 0, .getfield 9, .iload_n 2, .baload, .bastore, .aload_n 0, .getfield 13, .iload_n 1, .aload_n 0, .getfield 13, .iload_n 2, .laload, .lastore, .aload_n 0, .getfield 17, .iload_n 1, .aload_n 0, .getfield 17, .iload_n 2, .laload, .lastore] (by decide +kernel) (pc2 := 36) (lv2 := [(0, .ref 52), (1, .int f), (2, .int g)]) (st2 := []) (M2 := uL (uL (uI M 53 (ix f) (mI M 53 (ix g))) 54 (ix f) (mL (uI M 53 (ix f) (mI M 53 (ix g))) 54 (ix g))) 55 (ix f) (mL (uL (uI M 53 (ix f) (mI M 53 (ix g))) 54 (ix f) (mL (uI M 53 (ix f) (mI M 53 (ix g))) 54 (ix g))) 55 (ix g))) rfl ⟨trivial, (q.f 52 7 0 rfl), trivial, trivial, (q.f 52 7 0 rfl), trivial, (q.a 53 21 1648 rfl (by first | assumption | exact vinc (by decide))), ⟨(q.a 53 21 1648 rfl (by first | assumption | exact vinc (by decide))), bz11⟩, trivial, ((q.sm (Sg.pI (Sg.rf gb)).1).f 52 7 1 rfl), trivial, trivial, ((q.sm (Sg.pI (Sg.rf gb)).1).f 52 7 1 rfl), trivial, ((q.sm (Sg.pI (Sg.rf gb)).1).a 54 22 1648 rfl (by first | assumption | exact vinc (by decide))), ((q.sm (Sg.pI (Sg.rf gb)).1).a 54 22 1648 rfl (by first | assumption | exact vinc (by decide))), trivial, ((q.sm (Sg.pL (Sg.pI (Sg.rf gb)) (by decide)).1).f 52 7 2 rfl), trivial, trivial, ((q.sm (Sg.pL (Sg.pI (Sg.rf gb)) (by decide)).1).f 52 7 2 rfl), trivial, ((q.sm (Sg.pL (Sg.pI (Sg.rf gb)) (by decide)).1).a 55 22 1648 rfl (by first | assumption | exact vinc (by decide))), ((q.sm (Sg.pL (Sg.pI (Sg.rf gb)) (by decide)).1).a 55 22 1648 rfl (by first | assumption | exact vinc (by decide))), trivial⟩ ?_
  refine (?_ : ∀ (M36 : Mem), (Sg M M36) → f_X7_copy M f g = f_X7_copy_c36 f g M36 → V G X 3 0 0 (Qx G X 0 0 (p_X7_copy M f g)) 36 [(0, .ref 52), (1, .int f), (2, .int g)] [] M36) _ (Sg.pL (Sg.pL (Sg.pI (Sg.rf gb)) (by decide)) (by decide)) E
  intro M36 s36 E
  refine V.seg F floX7 cjoX7 [.aload_n 0, .getfield 20, .iload_n 1, .aload_n 0, .getfield 20, .iload_n 2, .laload, .lastore, .aload_n 0, .getfield 23, .iload_n 1, .aload_n 0, .getfield 23, .iload_n 2, .laload, .lastore, .aload_n 0, .getfield 26, .iload_n 1, .aload_n 0, .getfield 26, .iload_n 2, .laload, .lastore] (by decide +kernel) (pc2 := 72) (lv2 := [(0, .ref 52), (1, .int f), (2, .int g)]) (st2 := []) (M2 := uL (uL (uL M36 56 (ix f) (mL M36 56 (ix g))) 57 (ix f) (mL (uL M36 56 (ix f) (mL M36 56 (ix g))) 57 (ix g))) 58 (ix f) (mL (uL (uL M36 56 (ix f) (mL M36 56 (ix g))) 57 (ix f) (mL (uL M36 56 (ix f) (mL M36 56 (ix g))) 57 (ix g))) 58 (ix g))) rfl ⟨trivial, ((q.sm s36.1).f 52 7 3 rfl), trivial, trivial, ((q.sm s36.1).f 52 7 3 rfl), trivial, ((q.sm s36.1).a 56 22 1648 rfl (by first | assumption | exact vinc (by decide))), ((q.sm s36.1).a 56 22 1648 rfl (by first | assumption | exact vinc (by decide))), trivial, ((q.sm (Sg.pL s36 (by decide)).1).f 52 7 4 rfl), trivial, trivial, ((q.sm (Sg.pL s36 (by decide)).1).f 52 7 4 rfl), trivial, ((q.sm (Sg.pL s36 (by decide)).1).a 57 22 1648 rfl (by first | assumption | exact vinc (by decide))), ((q.sm (Sg.pL s36 (by decide)).1).a 57 22 1648 rfl (by first | assumption | exact vinc (by decide))), trivial, ((q.sm (Sg.pL (Sg.pL s36 (by decide)) (by decide)).1).f 52 7 5 rfl), trivial, trivial, ((q.sm (Sg.pL (Sg.pL s36 (by decide)) (by decide)).1).f 52 7 5 rfl), trivial, ((q.sm (Sg.pL (Sg.pL s36 (by decide)) (by decide)).1).a 58 22 1648 rfl (by first | assumption | exact vinc (by decide))), ((q.sm (Sg.pL (Sg.pL s36 (by decide)) (by decide)).1).a 58 22 1648 rfl (by first | assumption | exact vinc (by decide))), trivial⟩ ?_
  refine (?_ : ∀ (M72 : Mem), (Sg M M72) → f_X7_copy M f g = f_X7_copy_c72 f g M72 → V G X 3 0 0 (Qx G X 0 0 (p_X7_copy M f g)) 72 [(0, .ref 52), (1, .int f), (2, .int g)] [] M72) _ (Sg.by (Sg.pL (Sg.pL s36 (by decide)) (by decide)) ((Sg.pL (Sg.pL s36 (by decide)) (by decide)).2 _ (vin_lt (by first | assumption | exact vinc (by decide))))) E
  intro M72 s72 E
  refine V.seg F floX7 cjoX7 [.aload_n 0, .getfield 29, .iload_n 1, .aload_n 0, .getfield 29, .iload_n 2, .laload, .lastore] (by decide +kernel) (pc2 := 84) (lv2 := [(0, .ref 52), (1, .int f), (2, .int g)]) (st2 := []) (M2 := uL M72 59 (ix f) (mL M72 59 (ix g))) rfl ⟨trivial, ((q.sm s72.1).f 52 7 6 rfl), trivial, trivial, ((q.sm s72.1).f 52 7 6 rfl), trivial, ((q.sm s72.1).a 59 22 1648 rfl (by first | assumption | exact vinc (by decide))), ((q.sm s72.1).a 59 22 1648 rfl (by first | assumption | exact vinc (by decide))), trivial⟩ ?_
  exact V.vret F (by decide +kernel) ⟨rfl, E.symm, (Sg.pL s72 (by decide))⟩
def f_X7_isNumber_30  (w0_30 : Int32) : Int32 := w0_30
def f_X7_isNumber_29   : Int32 := f_X7_isNumber_30 0
def f_X7_isNumber (M : Mem) (f : Int32) : Int32 := if (mI M 53 (ix f)) = 0 then if (mL M 54 (ix f)) = (mL M 55 (ix f)) then f_X7_isNumber_30 1 else f_X7_isNumber_29  else f_X7_isNumber_29 
abbrev p_X7_isNumber (M : Mem) (f : Int32) : Option Value → Mem → Prop := fun r N => r = some (.int (f_X7_isNumber M f)) ∧ N = M ∧ ((f_X7_isNumber M f) = 0 ∨ (f_X7_isNumber M f) = 1)
set_option maxRecDepth 100000 in
set_option maxHeartbeats 4000000 in
theorem c_X7_isNumber (G : Ctx) (l : Launch) (M : Mem) (f : Int32) (q : Ok M) (gb : Gb M) (i_f : vp_in f 1648) : CT G l 0 mX7_isNumber [.ref 52, .int f] M 0 0 (p_X7_isNumber M f) := by
  refine CT.of (by decide) (Nat.le_of_ble_eq_true rfl) ?_
  intro X d hd hl hRm hnm F
  subst hl
  have E : f_X7_isNumber M f = f_X7_isNumber M f := rfl
  show V G X 2 0 0 (Qx G X 0 0 (p_X7_isNumber M f)) 0 [(0, .ref 52), (1, .int f)] [] M
  refine V.seg F floX7 cjoX7 [.aload_n 0, .getfield 9, .iload_n 1, .baload] (by decide +kernel) (pc2 := 6) (lv2 := [(0, .ref 52), (1, .int f)]) (st2 := [.int (mI M 53 (ix f))]) (M2 := M) rfl ⟨trivial, (q.f 52 7 0 rfl), trivial, (q.a 53 21 1648 rfl (by first | assumption | exact vinc (by decide))), trivial⟩ ?_
  have hJ30 : ∀ (w0_30 : Int32), (w0_30 = 0 ∨ w0_30 = 1) → f_X7_isNumber M f = f_X7_isNumber_30 w0_30 → V G X 2 0 0 (Qx G X 0 0 (p_X7_isNumber M f)) 30 [] [.int w0_30] M := by
    intro w0_30 zw0_30 E
    exact V.zret F (zw0_30) (by decide +kernel) ⟨congrArg (fun z => some (Value.int z)) E.symm, rfl, by rw [E]; exact zw0_30⟩
  have hJ29 : f_X7_isNumber M f = f_X7_isNumber_29 → V G X 2 0 0 (Qx G X 0 0 (p_X7_isNumber M f)) 29 [] [] M := by
    intro E
    refine V.seg F floX7 cjoX7 [.iconst 0] (by decide +kernel) (pc2 := 30) (lv2 := []) (st2 := [.int 0]) (M2 := M) rfl ⟨trivial, trivial⟩ ?_
    refine V.pick [] rfl ?_
    exact hJ30 0 (Or.inl rfl) E
  refine V.if_ne (off := 23) F (by decide +kernel) (tgt := 29) (by decide) (fun h6 => ?_) (fun h6 => ?_)
  · replace E := E.trans (if_neg h6)
    refine V.pick [] rfl ?_
    exact hJ29   E
  · replace E := E.trans (if_pos h6)
    refine V.seg F floX7 cjoX7 [.aload_n 0, .getfield 13, .iload_n 1, .laload, .aload_n 0, .getfield 17, .iload_n 1, .laload, .lcmp] (by decide +kernel) (pc2 := 22) (lv2 := [(0, .ref 52), (1, .int f)]) (st2 := [.int (lg_cmp (mL M 54 (ix f)) (mL M 55 (ix f)))]) (M2 := M) rfl ⟨trivial, (q.f 52 7 1 rfl), trivial, (q.a 54 22 1648 rfl (by first | assumption | exact vinc (by decide))), trivial, (q.f 52 7 2 rfl), trivial, (q.a 55 22 1648 rfl (by first | assumption | exact vinc (by decide))), trivial, trivial⟩ ?_
    refine V.lc_ne (off := 7) F (by decide +kernel) (tgt := 29) (by decide) (fun h22 => ?_) (fun h22 => ?_)
    · replace E := E.trans (if_neg h22)
      refine V.pick [] rfl ?_
      exact hJ29   E
    · replace E := E.trans (if_pos h22)
      refine V.seg F floX7 cjoX7 [.iconst 1, .goto 4] (by decide +kernel) (pc2 := 30) (lv2 := [(0, .ref 52), (1, .int f)]) (st2 := [.int 1]) (M2 := M) rfl ⟨trivial, (by decide), trivial⟩ ?_
      refine V.pick [] rfl ?_
      exact hJ30 1 (Or.inr rfl) E
def f_X7_alike_116  (w0_116 : Int32) : Int32 := w0_116
def f_X7_alike_115   : Int32 := f_X7_alike_116 0
def f_X7_alike (M : Mem) (f : Int32) (g : Int32) : Int32 := if (mI M 53 (ix f)) = (mI M 53 (ix g)) then if (mL M 54 (ix f)) = (mL M 54 (ix g)) then if (mL M 55 (ix f)) = (mL M 55 (ix g)) then if (mL M 56 (ix f)) = (mL M 56 (ix g)) then if (mL M 57 (ix f)) = (mL M 57 (ix g)) then if (mL M 58 (ix f)) = (mL M 58 (ix g)) then if (mL M 59 (ix f)) = (mL M 59 (ix g)) then f_X7_alike_116 1 else f_X7_alike_115  else f_X7_alike_115  else f_X7_alike_115  else f_X7_alike_115  else f_X7_alike_115  else f_X7_alike_115  else f_X7_alike_115 
abbrev p_X7_alike (M : Mem) (f : Int32) (g : Int32) : Option Value → Mem → Prop := fun r N => r = some (.int (f_X7_alike M f g)) ∧ N = M ∧ ((f_X7_alike M f g) = 0 ∨ (f_X7_alike M f g) = 1)
set_option maxRecDepth 100000 in
set_option maxHeartbeats 4000000 in
theorem c_X7_alike (G : Ctx) (l : Launch) (M : Mem) (f : Int32) (g : Int32) (q : Ok M) (gb : Gb M) (i_f : vp_in f 1648) (i_g : vp_in g 1648) : CT G l 0 mX7_alike [.ref 52, .int f, .int g] M 0 0 (p_X7_alike M f g) := by
  refine CT.of (by decide) (Nat.le_of_ble_eq_true rfl) ?_
  intro X d hd hl hRm hnm F
  subst hl
  have E : f_X7_alike M f g = f_X7_alike M f g := rfl
  show V G X 3 0 0 (Qx G X 0 0 (p_X7_alike M f g)) 0 [(0, .ref 52), (1, .int f), (2, .int g)] [] M
  refine V.seg F floX7 cjoX7 [.aload_n 0, .getfield 9, .iload_n 1, .baload, .aload_n 0, .getfield 9, .iload_n 2, .baload] (by decide +kernel) (pc2 := 12) (lv2 := [(0, .ref 52), (1, .int f), (2, .int g)]) (st2 := [.int (mI M 53 (ix g)), .int (mI M 53 (ix f))]) (M2 := M) rfl ⟨trivial, (q.f 52 7 0 rfl), trivial, (q.a 53 21 1648 rfl (by first | assumption | exact vinc (by decide))), trivial, (q.f 52 7 0 rfl), trivial, (q.a 53 21 1648 rfl (by first | assumption | exact vinc (by decide))), trivial⟩ ?_
  have hJ116 : ∀ (w0_116 : Int32), (w0_116 = 0 ∨ w0_116 = 1) → f_X7_alike M f g = f_X7_alike_116 w0_116 → V G X 3 0 0 (Qx G X 0 0 (p_X7_alike M f g)) 116 [] [.int w0_116] M := by
    intro w0_116 zw0_116 E
    exact V.zret F (zw0_116) (by decide +kernel) ⟨congrArg (fun z => some (Value.int z)) E.symm, rfl, by rw [E]; exact zw0_116⟩
  have hJ115 : f_X7_alike M f g = f_X7_alike_115 → V G X 3 0 0 (Qx G X 0 0 (p_X7_alike M f g)) 115 [] [] M := by
    intro E
    refine V.seg F floX7 cjoX7 [.iconst 0] (by decide +kernel) (pc2 := 116) (lv2 := []) (st2 := [.int 0]) (M2 := M) rfl ⟨trivial, trivial⟩ ?_
    refine V.pick [] rfl ?_
    exact hJ116 0 (Or.inl rfl) E
  refine V.ic_ne (off := 103) F (by decide +kernel) (tgt := 115) (by decide) (fun h12 => ?_) (fun h12 => ?_)
  · replace E := E.trans (if_neg h12)
    refine V.pick [] rfl ?_
    exact hJ115   E
  · replace E := E.trans (if_pos h12)
    refine V.seg F floX7 cjoX7 [.aload_n 0, .getfield 13, .iload_n 1, .laload, .aload_n 0, .getfield 13, .iload_n 2, .laload, .lcmp] (by decide +kernel) (pc2 := 28) (lv2 := [(0, .ref 52), (1, .int f), (2, .int g)]) (st2 := [.int (lg_cmp (mL M 54 (ix f)) (mL M 54 (ix g)))]) (M2 := M) rfl ⟨trivial, (q.f 52 7 1 rfl), trivial, (q.a 54 22 1648 rfl (by first | assumption | exact vinc (by decide))), trivial, (q.f 52 7 1 rfl), trivial, (q.a 54 22 1648 rfl (by first | assumption | exact vinc (by decide))), trivial, trivial⟩ ?_
    refine V.lc_ne (off := 87) F (by decide +kernel) (tgt := 115) (by decide) (fun h28 => ?_) (fun h28 => ?_)
    · replace E := E.trans (if_neg h28)
      refine V.pick [] rfl ?_
      exact hJ115   E
    · replace E := E.trans (if_pos h28)
      refine V.seg F floX7 cjoX7 [.aload_n 0, .getfield 17, .iload_n 1, .laload, .aload_n 0, .getfield 17, .iload_n 2, .laload, .lcmp] (by decide +kernel) (pc2 := 44) (lv2 := [(0, .ref 52), (1, .int f), (2, .int g)]) (st2 := [.int (lg_cmp (mL M 55 (ix f)) (mL M 55 (ix g)))]) (M2 := M) rfl ⟨trivial, (q.f 52 7 2 rfl), trivial, (q.a 55 22 1648 rfl (by first | assumption | exact vinc (by decide))), trivial, (q.f 52 7 2 rfl), trivial, (q.a 55 22 1648 rfl (by first | assumption | exact vinc (by decide))), trivial, trivial⟩ ?_
      refine V.lc_ne (off := 71) F (by decide +kernel) (tgt := 115) (by decide) (fun h44 => ?_) (fun h44 => ?_)
      · replace E := E.trans (if_neg h44)
        refine V.pick [] rfl ?_
        exact hJ115   E
      · replace E := E.trans (if_pos h44)
        refine V.seg F floX7 cjoX7 [.aload_n 0, .getfield 20, .iload_n 1, .laload, .aload_n 0, .getfield 20, .iload_n 2, .laload, .lcmp] (by decide +kernel) (pc2 := 60) (lv2 := [(0, .ref 52), (1, .int f), (2, .int g)]) (st2 := [.int (lg_cmp (mL M 56 (ix f)) (mL M 56 (ix g)))]) (M2 := M) rfl ⟨trivial, (q.f 52 7 3 rfl), trivial, (q.a 56 22 1648 rfl (by first | assumption | exact vinc (by decide))), trivial, (q.f 52 7 3 rfl), trivial, (q.a 56 22 1648 rfl (by first | assumption | exact vinc (by decide))), trivial, trivial⟩ ?_
        refine V.lc_ne (off := 55) F (by decide +kernel) (tgt := 115) (by decide) (fun h60 => ?_) (fun h60 => ?_)
        · replace E := E.trans (if_neg h60)
          refine V.pick [] rfl ?_
          exact hJ115   E
        · replace E := E.trans (if_pos h60)
          refine V.seg F floX7 cjoX7 [.aload_n 0, .getfield 23, .iload_n 1, .laload, .aload_n 0, .getfield 23, .iload_n 2, .laload, .lcmp] (by decide +kernel) (pc2 := 76) (lv2 := [(0, .ref 52), (1, .int f), (2, .int g)]) (st2 := [.int (lg_cmp (mL M 57 (ix f)) (mL M 57 (ix g)))]) (M2 := M) rfl ⟨trivial, (q.f 52 7 4 rfl), trivial, (q.a 57 22 1648 rfl (by first | assumption | exact vinc (by decide))), trivial, (q.f 52 7 4 rfl), trivial, (q.a 57 22 1648 rfl (by first | assumption | exact vinc (by decide))), trivial, trivial⟩ ?_
          refine V.lc_ne (off := 39) F (by decide +kernel) (tgt := 115) (by decide) (fun h76 => ?_) (fun h76 => ?_)
          · replace E := E.trans (if_neg h76)
            refine V.pick [] rfl ?_
            exact hJ115   E
          · replace E := E.trans (if_pos h76)
            refine V.seg F floX7 cjoX7 [.aload_n 0, .getfield 26, .iload_n 1, .laload, .aload_n 0, .getfield 26, .iload_n 2, .laload, .lcmp] (by decide +kernel) (pc2 := 92) (lv2 := [(0, .ref 52), (1, .int f), (2, .int g)]) (st2 := [.int (lg_cmp (mL M 58 (ix f)) (mL M 58 (ix g)))]) (M2 := M) rfl ⟨trivial, (q.f 52 7 5 rfl), trivial, (q.a 58 22 1648 rfl (by first | assumption | exact vinc (by decide))), trivial, (q.f 52 7 5 rfl), trivial, (q.a 58 22 1648 rfl (by first | assumption | exact vinc (by decide))), trivial, trivial⟩ ?_
            refine V.lc_ne (off := 23) F (by decide +kernel) (tgt := 115) (by decide) (fun h92 => ?_) (fun h92 => ?_)
            · replace E := E.trans (if_neg h92)
              refine V.pick [] rfl ?_
              exact hJ115   E
            · replace E := E.trans (if_pos h92)
              refine V.seg F floX7 cjoX7 [.aload_n 0, .getfield 29, .iload_n 1, .laload, .aload_n 0, .getfield 29, .iload_n 2, .laload, .lcmp] (by decide +kernel) (pc2 := 108) (lv2 := [(0, .ref 52), (1, .int f), (2, .int g)]) (st2 := [.int (lg_cmp (mL M 59 (ix f)) (mL M 59 (ix g)))]) (M2 := M) rfl ⟨trivial, (q.f 52 7 6 rfl), trivial, (q.a 59 22 1648 rfl (by first | assumption | exact vinc (by decide))), trivial, (q.f 52 7 6 rfl), trivial, (q.a 59 22 1648 rfl (by first | assumption | exact vinc (by decide))), trivial, trivial⟩ ?_
              refine V.lc_ne (off := 7) F (by decide +kernel) (tgt := 115) (by decide) (fun h108 => ?_) (fun h108 => ?_)
              · replace E := E.trans (if_neg h108)
                refine V.pick [] rfl ?_
                exact hJ115   E
              · replace E := E.trans (if_pos h108)
                refine V.seg F floX7 cjoX7 [.iconst 1, .goto 4] (by decide +kernel) (pc2 := 116) (lv2 := [(0, .ref 52), (1, .int f), (2, .int g)]) (st2 := [.int 1]) (M2 := M) rfl ⟨trivial, (by decide), trivial⟩ ?_
                refine V.pick [] rfl ?_
                exact hJ116 1 (Or.inr rfl) E
def f_X7_isIn_71  (w0_71 : Int32) : Int32 := w0_71
def f_X7_isIn_70   : Int32 := f_X7_isIn_71 0
def f_X7_isIn (M : Mem) (f : Int32) (v : Int64) : Int32 := if (mI M 53 (ix f)) = 0 then if (f_X7_in v (mL M 54 (ix f)) (mL M 55 (ix f))) = 0 then f_X7_isIn_70  else if (v &&& (mL M 56 (ix f))) = (mL M 57 (ix f)) then if (f_X7_rem v (mL M 58 (ix f))) = (mL M 59 (ix f)) then f_X7_isIn_71 1 else f_X7_isIn_70  else f_X7_isIn_70  else f_X7_isIn_70 
abbrev p_X7_isIn (M : Mem) (f : Int32) (v : Int64) : Option Value → Mem → Prop := fun r N => r = some (.int (f_X7_isIn M f v)) ∧ N = M ∧ ((f_X7_isIn M f v) = 0 ∨ (f_X7_isIn M f v) = 1)
set_option maxRecDepth 100000 in
set_option maxHeartbeats 4000000 in
theorem c_X7_isIn (G : Ctx) (l : Launch) (M : Mem) (f : Int32) (v : Int64) (q : Ok M) (gb : Gb M) (i_f : vp_in f 1648) : CT G l 1 mX7_isIn [.ref 52, .int f, .long v] M 0 0 (p_X7_isIn M f v) := by
  refine CT.of (by decide) (Nat.le_of_ble_eq_true rfl) ?_
  intro X d hd hl hRm hnm F
  subst hl
  have E : f_X7_isIn M f v = f_X7_isIn M f v := rfl
  show V G X 4 0 0 (Qx G X 0 0 (p_X7_isIn M f v)) 0 [(0, .ref 52), (1, .int f), (2, .long v)] [] M
  refine V.seg F floX7 cjoX7 [.aload_n 0, .getfield 9, .iload_n 1, .baload] (by decide +kernel) (pc2 := 6) (lv2 := [(0, .ref 52), (1, .int f), (2, .long v)]) (st2 := [.int (mI M 53 (ix f))]) (M2 := M) rfl ⟨trivial, (q.f 52 7 0 rfl), trivial, (q.a 53 21 1648 rfl (by first | assumption | exact vinc (by decide))), trivial⟩ ?_
  have hJ71 : ∀ (w0_71 : Int32), (w0_71 = 0 ∨ w0_71 = 1) → f_X7_isIn M f v = f_X7_isIn_71 w0_71 → V G X 4 0 0 (Qx G X 0 0 (p_X7_isIn M f v)) 71 [] [.int w0_71] M := by
    intro w0_71 zw0_71 E
    exact V.zret F (zw0_71) (by decide +kernel) ⟨congrArg (fun z => some (Value.int z)) E.symm, rfl, by rw [E]; exact zw0_71⟩
  have hJ70 : f_X7_isIn M f v = f_X7_isIn_70 → V G X 4 0 0 (Qx G X 0 0 (p_X7_isIn M f v)) 70 [] [] M := by
    intro E
    refine V.seg F floX7 cjoX7 [.iconst 0] (by decide +kernel) (pc2 := 71) (lv2 := []) (st2 := [.int 0]) (M2 := M) rfl ⟨trivial, trivial⟩ ?_
    refine V.pick [] rfl ?_
    exact hJ71 0 (Or.inl rfl) E
  refine V.if_ne (off := 64) F (by decide +kernel) (tgt := 70) (by decide) (fun h6 => ?_) (fun h6 => ?_)
  · replace E := E.trans (if_neg h6)
    refine V.pick [] rfl ?_
    exact hJ70   E
  · replace E := E.trans (if_pos h6)
    refine V.seg F floX7 cjoX7 [.lload_n 2, .aload_n 0, .getfield 13, .iload_n 1, .laload, .aload_n 0, .getfield 17, .iload_n 1, .laload] (by decide +kernel) (pc2 := 22) (lv2 := [(0, .ref 52), (1, .int f), (2, .long v)]) (st2 := [.long (mL M 55 (ix f)), .long (mL M 54 (ix f)), .long v]) (M2 := M) rfl ⟨trivial, trivial, (q.f 52 7 1 rfl), trivial, (q.a 54 22 1648 rfl (by first | assumption | exact vinc (by decide))), trivial, (q.f 52 7 2 rfl), trivial, (q.a 55 22 1648 rfl (by first | assumption | exact vinc (by decide))), trivial⟩ ?_
    refine V.callS (as := [.long v, .long (mL M 54 (ix f)), .long (mL M 55 (ix f))]) (rest := []) F (by decide +kernel) lX7_89 bX7_in (c_X7_in G X.2.1 M v (mL M 54 (ix f)) (mL M 55 (ix f))) (rm_ok hRm hd (by decide) (by decide)) ⟨Nat.zero_le _, Nat.zero_le _⟩ (Nat.le_of_ble_eq_true rfl) (fun r_ N_ p_ => ?_)
    obtain ⟨rfl, hN_, z22⟩ := p_
    rw [hN_]
    clear hN_
    refine V.if_eq (off := 45) F (by decide +kernel) (tgt := 70) (by decide) (fun h25 => ?_) (fun h25 => ?_)
    · replace E := E.trans (if_pos h25)
      refine V.pick [] rfl ?_
      exact hJ70   E
    · replace E := E.trans (if_neg h25)
      refine V.seg F floX7 cjoX7 [.lload_n 2, .aload_n 0, .getfield 20, .iload_n 1, .laload, .land, .aload_n 0, .getfield 23, .iload_n 1, .laload, .lcmp] (by decide +kernel) (pc2 := 43) (lv2 := [(0, .ref 52), (1, .int f), (2, .long v)]) (st2 := [.int (lg_cmp (v &&& (mL M 56 (ix f))) (mL M 57 (ix f)))]) (M2 := M) rfl ⟨trivial, trivial, (q.f 52 7 3 rfl), trivial, (q.a 56 22 1648 rfl (by first | assumption | exact vinc (by decide))), trivial, trivial, (q.f 52 7 4 rfl), trivial, (q.a 57 22 1648 rfl (by first | assumption | exact vinc (by decide))), trivial, trivial⟩ ?_
      refine V.lc_ne (off := 27) F (by decide +kernel) (tgt := 70) (by decide) (fun h43 => ?_) (fun h43 => ?_)
      · replace E := E.trans (if_neg h43)
        refine V.pick [] rfl ?_
        exact hJ70   E
      · replace E := E.trans (if_pos h43)
        refine V.seg F floX7 cjoX7 [.lload_n 2, .aload_n 0, .getfield 26, .iload_n 1, .laload] (by decide +kernel) (pc2 := 53) (lv2 := [(0, .ref 52), (1, .int f), (2, .long v)]) (st2 := [.long (mL M 58 (ix f)), .long v]) (M2 := M) rfl ⟨trivial, trivial, (q.f 52 7 5 rfl), trivial, (q.a 58 22 1648 rfl (by first | assumption | exact vinc (by decide))), trivial⟩ ?_
        refine V.callS (as := [.long v, .long (mL M 58 (ix f))]) (rest := []) F (by decide +kernel) lX7_93 bX7_rem (c_X7_rem G X.2.1 M v (mL M 58 (ix f)) (gb _ (vin_lt (by first | assumption | exact vinc (by decide))))) (rm_ok hRm hd (by decide) (by decide)) ⟨Nat.zero_le _, Nat.zero_le _⟩ (Nat.le_of_ble_eq_true rfl) (fun r_ N_ p_ => ?_)
        obtain ⟨rfl, hN_⟩ := p_
        rw [hN_]
        clear hN_
        refine V.seg F floX7 cjoX7 [.aload_n 0, .getfield 29, .iload_n 1, .laload, .lcmp] (by decide +kernel) (pc2 := 63) (lv2 := [(0, .ref 52), (1, .int f), (2, .long v)]) (st2 := [.int (lg_cmp (f_X7_rem v (mL M 58 (ix f))) (mL M 59 (ix f)))]) (M2 := M) rfl ⟨trivial, (q.f 52 7 6 rfl), trivial, (q.a 59 22 1648 rfl (by first | assumption | exact vinc (by decide))), trivial, trivial⟩ ?_
        refine V.lc_ne (off := 7) F (by decide +kernel) (tgt := 70) (by decide) (fun h63 => ?_) (fun h63 => ?_)
        · replace E := E.trans (if_neg h63)
          refine V.pick [] rfl ?_
          exact hJ70   E
        · replace E := E.trans (if_pos h63)
          refine V.seg F floX7 cjoX7 [.iconst 1, .goto 4] (by decide +kernel) (pc2 := 71) (lv2 := [(0, .ref 52), (1, .int f), (2, .long v)]) (st2 := [.int 1]) (M2 := M) rfl ⟨trivial, (by decide), trivial⟩ ?_
          refine V.pick [] rfl ?_
          exact hJ71 1 (Or.inr rfl) E
def uN (x : Int64) : Nat := x.toUInt64.toNat
theorem uN_lt (x : Int64) : uN x < 18446744073709551616 := x.toUInt64.toNat_lt
theorem uN_inj {x y : Int64} (h : uN x = uN y) : x = y := congrArg UInt64.toInt64 (UInt64.toNat_inj.mp h)
theorem uN_add (x y : Int64) : uN (x + y) = (uN x + uN y) % 18446744073709551616 := by
  show (x.toUInt64 + y.toUInt64).toNat = _
  exact UInt64.toNat_add _ _
theorem uN_mul (x y : Int64) : uN (x * y) = (uN x * uN y) % 18446744073709551616 := by
  show (x.toUInt64 * y.toUInt64).toNat = _
  exact UInt64.toNat_mul _ _
theorem uN_shl (x : Int64) : uN (x <<< ((1 : Int32).toInt64 &&& 63)) = (2 * uN x) % 18446744073709551616 := by
  have h : (((1 : Int32).toInt64 &&& 63).toBitVec.smod 64).toNat = 1 := by decide
  show (x.toBitVec <<< (((1 : Int32).toInt64 &&& 63).toBitVec.smod 64).toNat).toNat = _
  rw [h, BitVec.toNat_shiftLeft, Nat.shiftLeft_eq, Nat.mul_comm]
  rfl
theorem uN_shr (x : Int64) (s : UInt64) : uN (x.toUInt64 >>> s).toInt64 = uN x / 2 ^ (s.toNat % 64) := by
  show (x.toUInt64 >>> s).toNat = _
  rw [UInt64.toNat_shiftRight, Nat.shiftRight_eq_div_pow]
  rfl
theorem uN_s32 (x : Int64) : uN (x.toUInt64 >>> ((32 : Int32).toInt64.toUInt64 &&& Int64.toUInt64 63)).toInt64 = uN x / 4294967296 := by
  have h : ((32 : Int32).toInt64.toUInt64 &&& Int64.toUInt64 63).toNat % 64 = 32 := by decide
  rw [uN_shr, h]
theorem uN_s63 (x : Int64) : uN (x.toUInt64 >>> ((63 : Int32).toInt64.toUInt64 &&& Int64.toUInt64 63)).toInt64 = uN x / 9223372036854775808 := by
  have h : ((63 : Int32).toInt64.toUInt64 &&& Int64.toUInt64 63).toNat % 64 = 63 := by decide
  rw [uN_shr, h]
theorem uN_lo (x : Int64) : uN (x &&& 4294967295) = uN x % 4294967296 := by
  show (x.toUInt64 &&& Int64.toUInt64 4294967295).toNat = _
  rw [UInt64.toNat_and]
  exact Nat.and_two_pow_sub_one_eq_mod _ 32
theorem uN_bit (x : Int64) : (x &&& 1) = 0 ↔ uN x % 2 = 0 := by
  have h : uN (x &&& 1) = uN x % 2 := by
    show (x.toUInt64 &&& Int64.toUInt64 1).toNat = _
    rw [UInt64.toNat_and]
    exact Nat.and_two_pow_sub_one_eq_mod _ 1
  rw [← h]
  exact ⟨fun z => by rw [z]; rfl, fun z => uN_inj (z.trans rfl)⟩
theorem uN_or {x y : Int64} (hy : uN y < 2) : uN ((x <<< ((1 : Int32).toInt64 &&& 63)) ||| y) = (2 * uN x) % 18446744073709551616 + uN y := by
  have h1 : uN ((x <<< ((1 : Int32).toInt64 &&& 63)) ||| y) = uN (x <<< ((1 : Int32).toInt64 &&& 63)) ||| uN y := UInt64.toNat_or _ _
  have h2 : (2 * uN x) % 18446744073709551616 = 2 ^ 1 * (uN x % 9223372036854775808) := by omega
  rw [h1, uN_shl, h2]
  exact (Nat.two_pow_add_eq_or_of_lt (i := 1) hy _).symm
theorem nat_xor {a : Nat} (h : a < 18446744073709551616) : a ^^^ 2 ^ 63 = (a + 9223372036854775808) % 18446744073709551616 := by
  have h1 : (a ^^^ 2 ^ 63) % 2 ^ 63 = a % 2 ^ 63 := by rw [Nat.xor_mod_two_pow, Nat.mod_self, Nat.xor_zero]
  have h2 : (a ^^^ 2 ^ 63) / 2 ^ 63 = (a / 2 ^ 63) ^^^ 1 := by rw [Nat.xor_div_two_pow, Nat.div_self (Nat.two_pow_pos 63)]
  have h3 : a / 2 ^ 63 = 0 ∨ a / 2 ^ 63 = 1 := by omega
  generalize a ^^^ 2 ^ 63 = t at h1 h2
  rcases h3 with h3 | h3
  · rw [h3] at h2
    have h2 : t / 2 ^ 63 = 1 := h2
    omega
  · rw [h3] at h2
    have h2 : t / 2 ^ 63 = 0 := h2
    omega
theorem uN_xor (x : Int64) : uN (x ^^^ (-9223372036854775808)) = (uN x + 9223372036854775808) % 18446744073709551616 := by
  rw [← nat_xor (uN_lt x)]
  exact UInt64.toNat_xor _ _
theorem uN_int (x : Int64) : x.toInt = if 2 * uN x < 18446744073709551616 then (uN x : Int) else (uN x : Int) - 18446744073709551616 := BitVec.toInt_eq_toNat_cond _
theorem uN_le (x y : Int64) : (x ^^^ (-9223372036854775808)) ≤ (y ^^^ (-9223372036854775808)) ↔ uN x ≤ uN y := by
  have hx := uN_lt x
  have hy := uN_lt y
  rw [Int64.le_iff_toInt_le, uN_int, uN_int, uN_xor, uN_xor]
  omega
theorem uN_sk (x : Int64) {k : Nat} (hk : k < 64) : uN (x.toUInt64 >>> ((nI k).toInt64.toUInt64 &&& Int64.toUInt64 63)).toInt64 = uN x / 2 ^ k := by
  have h : ((nI k).toInt64.toUInt64 &&& Int64.toUInt64 63).toNat % 64 = k := by
    rw [nI_l (by omega), UInt64.toNat_and]
    have e : (lN k).toUInt64.toNat = k % 2 ^ 64 := rfl
    have e2 : (Int64.toUInt64 63).toNat = 2 ^ 6 - 1 := by decide
    rw [e, e2, Nat.and_two_pow_sub_one_eq_mod]
    omega
  rw [uN_shr, h]
def f_X7_left_65 (j7 : Nat) (R7_ : Int64 → Nat → Int64) (y4_65 : Int64) : Int64 := R7_ y4_65 (j7 - 1)
def f_X7_left_59 (a : Int64) (b : Int64) (y4_7 : Int64) (j7 : Nat) (R7_ : Int64 → Nat → Int64)  : Int64 := f_X7_left_65 j7 R7_ (((jshl y4_7 1) ||| ((jushr a (nI j7 - 1)) &&& 1)) - b)
def f_X7_left_24 (a : Int64) (b : Int64) (y4_7 : Int64) (j7 : Nat) (R7_ : Int64 → Nat → Int64) (w0_24 : Int32) : Int64 := if w0_24 = 0 then if (((jshl y4_7 1) ||| ((jushr a (nI j7 - 1)) &&& 1)) ^^^ ((-9223372036854775808))) < (b ^^^ ((-9223372036854775808))) then f_X7_left_65 j7 R7_ ((jshl y4_7 1) ||| ((jushr a (nI j7 - 1)) &&& 1)) else f_X7_left_59 a b y4_7 j7 R7_ else f_X7_left_59 a b y4_7 j7 R7_
def f_X7_left_7 (a : Int64) (b : Int64) : Nat → Int64 → Nat → Int64
  | 0, _, _ => 0
  | n_ + 1, y4_7, j7 => if (nI j7 - 1) < 0 then y4_7 else if 0 ≤ y4_7 then f_X7_left_24 a b y4_7 j7 (f_X7_left_7 a b n_) 0 else f_X7_left_24 a b y4_7 j7 (f_X7_left_7 a b n_) 1
def f_X7_left (a : Int64) (b : Int64) : Int64 := f_X7_left_7 a b 65 0 64
abbrev p_X7_left (M : Mem) (a : Int64) (b : Int64) : Option Value → Mem → Prop := fun r N => r = some (.long (f_X7_left a b)) ∧ N = M
set_option maxRecDepth 100000 in
set_option maxHeartbeats 4000000 in
theorem c_X7_left (G : Ctx) (l : Launch) (M : Mem) (a : Int64) (b : Int64)  : CT G l 0 mX7_left [.long a, .long b] M 0 0 (p_X7_left M a b) := by
  refine CT.of (by decide) (Nat.le_of_ble_eq_true rfl) ?_
  intro X d hd hl hRm hnm F
  subst hl
  have E : f_X7_left a b = f_X7_left a b := rfl
  show V G X 8 0 0 (Qx G X 0 0 (p_X7_left M a b)) 0 [(0, .long a), (2, .long b)] [] M
  refine V.seg F floX7 cjoX7 [.lconst 0, .lstore 4, .bipush 63] (by decide +kernel) (pc2 := 5) (lv2 := [(4, .long 0), (0, .long a), (2, .long b)]) (st2 := [.int 63]) (M2 := M) rfl ⟨trivial, (by decide), trivial, trivial⟩ ?_
  refine V.seg F floX7 cjoX7 [.istore 6] (by decide +kernel) (pc2 := 7) (lv2 := [(6, .int 63), (4, .long 0), (0, .long a), (2, .long b)]) (st2 := []) (M2 := M) rfl ⟨(by decide), trivial⟩ ?_
  have hJ7 : ∀ (n_ : Nat) (y4_7 : Int64) (j7 : Nat), (j7 ≤ 64) → (j7 < n_) → f_X7_left a b = f_X7_left_7 a b n_ y4_7 j7 → V G X 8 0 0 (Qx G X 0 0 (p_X7_left M a b)) 7 [(0, .long a), (2, .long b), (4, .long y4_7), (6, .int (nI j7 - 1))] [] M := by
    intro n_
    induction n_ with
    | zero => intro y4_7 j7 b7 m7 E; omega
    | succ n_ ih_7 =>
      intro y4_7 j7 b7 m7 E
      rw [f_X7_left_7] at E
      refine V.seg F floX7 cjoX7 [.iload 6] (by decide +kernel) (pc2 := 9) (lv2 := [(0, .long a), (2, .long b), (4, .long y4_7), (6, .int (nI j7 - 1))]) (st2 := [.int (nI j7 - 1)]) (M2 := M) rfl ⟨trivial, trivial⟩ ?_
      refine V.if_lt (off := 62) F (by decide +kernel) (tgt := 71) (by decide) (fun h9 => ?_) (fun h9 => ?_)
      · replace E := E.trans (if_pos h9)
        refine V.seg F floX7 cjoX7 [.lload 4] (by decide +kernel) (pc2 := 73) (lv2 := [(0, .long a), (2, .long b), (4, .long y4_7), (6, .int (nI j7 - 1))]) (st2 := [.long y4_7]) (M2 := M) rfl ⟨trivial, trivial⟩ ?_
        exact V.lret F (by decide +kernel) ⟨congrArg (fun z => some (Value.long z)) E.symm, rfl⟩
      · replace E := E.trans (if_neg h9)
        refine V.seg F floX7 cjoX7 [.lload 4, .lconst 0, .lcmp] (by decide +kernel) (pc2 := 16) (lv2 := [(0, .long a), (2, .long b), (4, .long y4_7), (6, .int (nI j7 - 1))]) (st2 := [.int (lg_cmp y4_7 0)]) (M2 := M) rfl ⟨trivial, trivial, trivial, trivial⟩ ?_
        have hJ24 : ∀ (w0_24 : Int32), f_X7_left a b = f_X7_left_24 a b y4_7 j7 (f_X7_left_7 a b n_) w0_24 → V G X 8 0 0 (Qx G X 0 0 (p_X7_left M a b)) 24 [(0, .long a), (2, .long b), (4, .long y4_7), (6, .int (nI j7 - 1))] [.int w0_24] M := by
          intro w0_24 E
          refine V.seg F floX7 cjoX7 [.istore 7, .lload 4, .iconst 1, .lshl, .lload_n 0, .iload 6, .lushr, .lconst 1, .land, .lor, .lstore 4, .iload 7] (by decide +kernel) (pc2 := 41) (lv2 := [(4, .long ((jshl y4_7 1) ||| ((jushr a (nI j7 - 1)) &&& 1))), (7, .int w0_24), (0, .long a), (2, .long b), (6, .int (nI j7 - 1))]) (st2 := [.int w0_24]) (M2 := M) rfl ⟨(by decide), trivial, trivial, trivial, trivial, trivial, trivial, trivial, trivial, trivial, (by decide), trivial, trivial⟩ ?_
          have hJ65 : ∀ (y4_65 : Int64), f_X7_left a b = f_X7_left_65 j7 (f_X7_left_7 a b n_) y4_65 → V G X 8 0 0 (Qx G X 0 0 (p_X7_left M a b)) 65 [(0, .long a), (2, .long b), (4, .long y4_65), (6, .int (nI j7 - 1))] [] M := by
            intro y4_65 E
            refine V.seg F floX7 cjoX7 [.iinc 6 (-1), .goto (-61)] (by decide +kernel) (pc2 := 7) (lv2 := [(6, .int ((nI j7 - 1) + (-1))), (0, .long a), (2, .long b), (4, .long y4_65)]) (st2 := []) (M2 := M) rfl ⟨(by decide), (by decide), trivial⟩ ?_
            refine V.pick [1, 2, 3, 0] rfl ?_
            rw [dn_1 (by have hlt_ := dn_pos h9 (by omega); omega)]
            exact ih_7 y4_65 (j7 - 1) (by have hlt_ := dn_pos h9 (by omega); omega) (by have hlt_ := dn_pos h9 (by omega); omega) E
          have hJ59 : f_X7_left a b = f_X7_left_59 a b y4_7 j7 (f_X7_left_7 a b n_) → V G X 8 0 0 (Qx G X 0 0 (p_X7_left M a b)) 59 [(0, .long a), (2, .long b), (4, .long ((jshl y4_7 1) ||| ((jushr a (nI j7 - 1)) &&& 1))), (6, .int (nI j7 - 1))] [] M := by
            intro E
            refine V.seg F floX7 cjoX7 [.lload 4, .lload_n 2, .lsub, .lstore 4] (by decide +kernel) (pc2 := 65) (lv2 := [(4, .long (((jshl y4_7 1) ||| ((jushr a (nI j7 - 1)) &&& 1)) - b)), (0, .long a), (2, .long b), (6, .int (nI j7 - 1))]) (st2 := []) (M2 := M) rfl ⟨trivial, trivial, trivial, (by decide), trivial⟩ ?_
            refine V.pick [1, 2, 0, 3] rfl ?_
            exact hJ65 (((jshl y4_7 1) ||| ((jushr a (nI j7 - 1)) &&& 1)) - b)  E
          refine V.if_ne (off := 18) F (by decide +kernel) (tgt := 59) (by decide) (fun h41 => ?_) (fun h41 => ?_)
          · replace E := E.trans (if_neg h41)
            refine V.pick [2, 3, 0, 4] rfl ?_
            exact hJ59   E
          · replace E := E.trans (if_pos h41)
            refine V.seg F floX7 cjoX7 [.lload 4, .ldc2_w 83, .lxor, .lload_n 2, .ldc2_w 83, .lxor, .lcmp] (by decide +kernel) (pc2 := 56) (lv2 := [(4, .long ((jshl y4_7 1) ||| ((jushr a (nI j7 - 1)) &&& 1))), (7, .int w0_24), (0, .long a), (2, .long b), (6, .int (nI j7 - 1))]) (st2 := [.int (lg_cmp (((jshl y4_7 1) ||| ((jushr a (nI j7 - 1)) &&& 1)) ^^^ ((-9223372036854775808))) (b ^^^ ((-9223372036854775808))))]) (M2 := M) rfl ⟨trivial, trivial, trivial, trivial, trivial, trivial, trivial, trivial⟩ ?_
            refine V.lc_lt (off := 9) F (by decide +kernel) (tgt := 65) (by decide) (fun h56 => ?_) (fun h56 => ?_)
            · replace E := E.trans (if_pos h56)
              refine V.pick [2, 3, 0, 4] rfl ?_
              exact hJ65 ((jshl y4_7 1) ||| ((jushr a (nI j7 - 1)) &&& 1))  E
            · replace E := E.trans (if_neg h56)
              refine V.pick [2, 3, 0, 4] rfl ?_
              exact hJ59   E
        refine V.lc_ge (off := 7) F (by decide +kernel) (tgt := 23) (by decide) (fun h16 => ?_) (fun h16 => ?_)
        · replace E := E.trans (if_pos h16)
          refine V.seg F floX7 cjoX7 [.iconst 0] (by decide +kernel) (pc2 := 24) (lv2 := [(0, .long a), (2, .long b), (4, .long y4_7), (6, .int (nI j7 - 1))]) (st2 := [.int 0]) (M2 := M) rfl ⟨trivial, trivial⟩ ?_
          refine V.pick [0, 1, 2, 3] rfl ?_
          exact hJ24 0  E
        · replace E := E.trans (if_neg h16)
          refine V.seg F floX7 cjoX7 [.iconst 1, .goto 4] (by decide +kernel) (pc2 := 24) (lv2 := [(0, .long a), (2, .long b), (4, .long y4_7), (6, .int (nI j7 - 1))]) (st2 := [.int 1]) (M2 := M) rfl ⟨trivial, (by decide), trivial⟩ ?_
          refine V.pick [0, 1, 2, 3] rfl ?_
          exact hJ24 1  E
  refine V.pick [2, 3, 1, 0] rfl ?_
  exact hJ7 _ 0 64 (by omega) (by omega) E
theorem uN_s1 (v : Int64) : uN (jushr v 1) = uN v / 2 := by
  have h : ((1 : Int32).toInt64.toUInt64 &&& Int64.toUInt64 63).toNat % 64 = 1 := by decide
  show uN (v.toUInt64 >>> _).toInt64 = _
  rw [uN_shr, h]
theorem uN_0 {v : Int64} : v = 0 ↔ uN v = 0 := ⟨fun h => by rw [h]; rfl, fun h => uN_inj (h.trans rfl)⟩
theorem odd_nz {v : Int64} (h : v &&& 1 = 0) (hz : ¬ v = 0) : ¬ jushr v 1 = 0 := by
  rw [uN_0, uN_s1]
  rw [uN_0] at hz
  have := (uN_bit v).mp h
  omega
theorem odd_lt {v : Int64} {n : Nat} (h : uN v < 2 ^ (n + 1)) : uN (jushr v 1) < 2 ^ n := by
  rw [uN_s1]
  rw [Nat.pow_succ] at h
  omega
def f_X7_odd_44  (w0_44 : Int64) : Int64 := w0_44
def f_X7_odd_39   : Int64 := f_X7_odd_44 1
def f_X7_odd_10  : Nat → Int64 → Int64
  | 0, _ => 0
  | n_ + 1, y2_10 => if (y2_10 &&& 1) = 0 then (f_X7_odd_10 n_) (jushr y2_10 1) else if y2_10 < 0 then f_X7_odd_39  else if y2_10 ≤ 2147483647 then f_X7_odd_44 y2_10 else f_X7_odd_39 
def f_X7_odd (g : Int64) : Int64 := if g = 0 then 1 else f_X7_odd_10  64 g
abbrev p_X7_odd (M : Mem) (g : Int64) : Option Value → Mem → Prop := fun r N => r = some (.long (f_X7_odd g)) ∧ N = M
set_option maxRecDepth 100000 in
set_option maxHeartbeats 4000000 in
theorem c_X7_odd (G : Ctx) (l : Launch) (M : Mem) (g : Int64)  : CT G l 0 mX7_odd [.long g] M 0 0 (p_X7_odd M g) := by
  refine CT.of (by decide) (Nat.le_of_ble_eq_true rfl) ?_
  intro X d hd hl hRm hnm F
  subst hl
  have E : f_X7_odd g = f_X7_odd g := rfl
  show V G X 4 0 0 (Qx G X 0 0 (p_X7_odd M g)) 0 [(0, .long g)] [] M
  refine V.seg F floX7 cjoX7 [.lload_n 0, .lconst 0, .lcmp] (by decide +kernel) (pc2 := 3) (lv2 := [(0, .long g)]) (st2 := [.int (lg_cmp g 0)]) (M2 := M) rfl ⟨trivial, trivial, trivial, trivial⟩ ?_
  refine V.lc_ne (off := 5) F (by decide +kernel) (tgt := 8) (by decide) (fun h3 => ?_) (fun h3 => ?_)
  · replace E := E.trans (if_neg h3)
    refine V.seg F floX7 cjoX7 [.lload_n 0] (by decide +kernel) (pc2 := 9) (lv2 := [(0, .long g)]) (st2 := [.long g]) (M2 := M) rfl ⟨trivial, trivial⟩ ?_
    refine V.seg F floX7 cjoX7 [.lstore_n 2] (by decide +kernel) (pc2 := 10) (lv2 := [(2, .long g), (0, .long g)]) (st2 := []) (M2 := M) rfl ⟨(by decide), trivial⟩ ?_
    have hJ10 : ∀ (n_ : Nat) (y2_10 : Int64), (¬ y2_10 = 0) → (uN y2_10 < 2 ^ n_) → f_X7_odd g = f_X7_odd_10 n_ y2_10 → V G X 4 0 0 (Qx G X 0 0 (p_X7_odd M g)) 10 [(2, .long y2_10)] [] M := by
      intro n_
      induction n_ with
      | zero => intro y2_10 z10 m10 E; exact absurd (uN_0.mpr (Nat.lt_one_iff.mp m10)) z10
      | succ n_ ih_10 =>
        intro y2_10 z10 m10 E
        rw [f_X7_odd_10] at E
        refine V.seg F floX7 cjoX7 [.lload_n 2, .lconst 1, .land, .lconst 0, .lcmp] (by decide +kernel) (pc2 := 15) (lv2 := [(2, .long y2_10)]) (st2 := [.int (lg_cmp (y2_10 &&& 1) 0)]) (M2 := M) rfl ⟨trivial, trivial, trivial, trivial, trivial, trivial⟩ ?_
        refine V.lc_ne (off := 10) F (by decide +kernel) (tgt := 25) (by decide) (fun h15 => ?_) (fun h15 => ?_)
        · replace E := E.trans (if_neg h15)
          refine V.seg F floX7 cjoX7 [.lload_n 2, .lconst 0, .lcmp] (by decide +kernel) (pc2 := 28) (lv2 := [(2, .long y2_10)]) (st2 := [.int (lg_cmp y2_10 0)]) (M2 := M) rfl ⟨trivial, trivial, trivial, trivial⟩ ?_
          have hJ44 : ∀ (w0_44 : Int64), f_X7_odd g = f_X7_odd_44 w0_44 → V G X 4 0 0 (Qx G X 0 0 (p_X7_odd M g)) 44 [] [.long w0_44] M := by
            intro w0_44 E
            exact V.lret F (by decide +kernel) ⟨congrArg (fun z => some (Value.long z)) E.symm, rfl⟩
          have hJ39 : f_X7_odd g = f_X7_odd_39 → V G X 4 0 0 (Qx G X 0 0 (p_X7_odd M g)) 39 [] [] M := by
            intro E
            refine V.seg F floX7 cjoX7 [.lconst 1, .goto 4] (by decide +kernel) (pc2 := 44) (lv2 := []) (st2 := [.long 1]) (M2 := M) rfl ⟨trivial, (by decide), trivial⟩ ?_
            refine V.pick [] rfl ?_
            exact hJ44 1  E
          refine V.lc_lt (off := 11) F (by decide +kernel) (tgt := 39) (by decide) (fun h28 => ?_) (fun h28 => ?_)
          · replace E := E.trans (if_pos h28)
            refine V.pick [] rfl ?_
            exact hJ39   E
          · replace E := E.trans (if_neg h28)
            refine V.seg F floX7 cjoX7 [.lload_n 2, .ldc2_w 125, .lcmp] (by decide +kernel) (pc2 := 36) (lv2 := [(2, .long y2_10)]) (st2 := [.int (lg_cmp y2_10 2147483647)]) (M2 := M) rfl ⟨trivial, trivial, trivial, trivial⟩ ?_
            refine V.lc_le (off := 7) F (by decide +kernel) (tgt := 43) (by decide) (fun h36 => ?_) (fun h36 => ?_)
            · replace E := E.trans (if_pos h36)
              refine V.seg F floX7 cjoX7 [.lload_n 2] (by decide +kernel) (pc2 := 44) (lv2 := [(2, .long y2_10)]) (st2 := [.long y2_10]) (M2 := M) rfl ⟨trivial, trivial⟩ ?_
              refine V.pick [] rfl ?_
              exact hJ44 y2_10  E
            · replace E := E.trans (if_neg h36)
              refine V.pick [] rfl ?_
              exact hJ39   E
        · replace E := E.trans (if_pos h15)
          refine V.seg F floX7 cjoX7 [.lload_n 2, .iconst 1, .lushr, .lstore_n 2, .goto (-12)] (by decide +kernel) (pc2 := 10) (lv2 := [(2, .long (jushr y2_10 1))]) (st2 := []) (M2 := M) rfl ⟨trivial, trivial, trivial, (by decide), (by decide), trivial⟩ ?_
          refine V.pick [0] rfl ?_
          exact ih_10 (jushr y2_10 1) (by exact odd_nz h15 z10) (by exact odd_lt m10) E
    refine V.pick [0] rfl ?_
    exact hJ10 _ g (by exact h3) (by exact uN_lt _) E
  · replace E := E.trans (if_pos h3)
    refine V.seg F floX7 cjoX7 [.lconst 1] (by decide +kernel) (pc2 := 7) (lv2 := [(0, .long g)]) (st2 := [.long 1]) (M2 := M) rfl ⟨trivial, trivial⟩ ?_
    exact V.lret F (by decide +kernel) ⟨congrArg (fun z => some (Value.long z)) E.symm, rfl⟩
def f_X7_up_163 (j36 : Nat) (R36_ : Nat → Mem → (Int64 × Mem)) (M163 : Mem) : Int64 × Mem := R36_ (j36 + 1) M163
def f_X7_up_111 (v : Int64) (b : Int64) (w : Int64) (j36 : Nat) (R36_ : Nat → Mem → (Int64 × Mem)) (w0_60 : Int32) (w0_90 : Int32) (w0_111 : Int64) (M111 : Mem) : Int64 × Mem := if w0_60 = 0 then f_X7_up_163 j36 R36_ M111 else if w0_90 = 0 then f_X7_up_163 j36 R36_ M111 else if ((((v ^^^ ((-9223372036854775808))) ^^^ (w ^^^ (b &&& ((-9223372036854775808))))) &&& b) &&& w0_111) = 0 then (((((v ^^^ ((-9223372036854775808))) &&& w0_111) ||| (jshl 1 (nI j36))) ||| ((w ^^^ (b &&& ((-9223372036854775808)))) &&& ((jshl 1 (nI j36)) - 1))) ^^^ ((-9223372036854775808)), M111) else f_X7_up_163 j36 R36_ M111
def f_X7_up_90 (v : Int64) (b : Int64) (w : Int64) (j36 : Nat) (R36_ : Nat → Mem → (Int64 × Mem)) (w0_60 : Int32) (w0_90 : Int32) (M90 : Mem) : Int64 × Mem := if (nI j36) = 63 then f_X7_up_111 v b w j36 R36_ w0_60 w0_90 0 M90 else f_X7_up_111 v b w j36 R36_ w0_60 w0_90 (jshl ((-1)) ((nI j36) + 1)) M90
def f_X7_up_85 (v : Int64) (b : Int64) (w : Int64) (j36 : Nat) (R36_ : Nat → Mem → (Int64 × Mem)) (w0_60 : Int32) (M85 : Mem) : Int64 × Mem := f_X7_up_90 v b w j36 R36_ w0_60 1 M85
def f_X7_up_60 (v : Int64) (b : Int64) (w : Int64) (j36 : Nat) (R36_ : Nat → Mem → (Int64 × Mem)) (w0_60 : Int32) (M60 : Mem) : Int64 × Mem := if ((jushr b (nI j36)) &&& 1) = 0 then f_X7_up_85 v b w j36 R36_ w0_60 M60 else if ((jushr (w ^^^ (b &&& ((-9223372036854775808)))) (nI j36)) &&& 1) = 1 then f_X7_up_85 v b w j36 R36_ w0_60 M60 else f_X7_up_90 v b w j36 R36_ w0_60 0 M60
def f_X7_up_36 (v : Int64) (b : Int64) (w : Int64) : Nat → Nat → Mem → (Int64 × Mem)
  | 0, _, M36 => (0, M36)
  | n_ + 1, j36, M36 => if 64 ≤ (nI j36) then (v, uI M36 52 7 0) else if ((jushr (v ^^^ ((-9223372036854775808))) (nI j36)) &&& 1) = 0 then f_X7_up_60 v b w j36 (f_X7_up_36 v b w n_) 1 M36 else f_X7_up_60 v b w j36 (f_X7_up_36 v b w n_) 0 M36
def f_X7_up (M : Mem) (v : Int64) (b : Int64) (w : Int64) : Int64 × Mem := if (v &&& b) = w then (v, uI M 52 7 1) else f_X7_up_36 v b w 65 0 (uI M 52 7 1)
abbrev p_X7_up (M : Mem) (v : Int64) (b : Int64) (w : Int64) : Option Value → Mem → Prop := fun r N => r = some (.long (f_X7_up M v b w).1) ∧ N = (f_X7_up M v b w).2 ∧ Sg M N
set_option maxRecDepth 100000 in
set_option maxHeartbeats 4000000 in
theorem c_X7_up (G : Ctx) (l : Launch) (M : Mem) (v : Int64) (b : Int64) (w : Int64) (q : Ok M) (gb : Gb M) : CT G l 0 mX7_up [.ref 52, .long v, .long b, .long w] M 0 0 (p_X7_up M v b w) := by
  refine CT.of (by decide) (Nat.le_of_ble_eq_true rfl) ?_
  intro X d hd hl hRm hnm F
  subst hl
  have E : f_X7_up M v b w = f_X7_up M v b w := rfl
  show V G X 16 0 0 (Qx G X 0 0 (p_X7_up M v b w)) 0 [(0, .ref 52), (1, .long v), (3, .long b), (5, .long w)] [] M
  refine V.seg F floX7 cjoX7 [.aload_n 0, .iconst 1, .putfield 97, .lload_n 1, .lload_n 3, .land, .lload 5, .lcmp] (by decide +kernel) (pc2 := 11) (lv2 := [(0, .ref 52), (1, .long v), (3, .long b), (5, .long w)]) (st2 := [.int (lg_cmp (v &&& b) w)]) (M2 := uI M 52 7 1) rfl ⟨trivial, trivial, ⟨(q.o 52 7 rfl), Or.inr rfl⟩, trivial, trivial, trivial, trivial, trivial, trivial⟩ ?_
  refine V.lc_ne (off := 5) F (by decide +kernel) (tgt := 16) (by decide) (fun h11 => ?_) (fun h11 => ?_)
  · replace E := E.trans (if_neg h11)
    refine V.seg F floX7 cjoX7 [.lload_n 1, .ldc2_w 83, .lxor, .lstore 7, .lload 5, .lload_n 3, .ldc2_w 83, .land, .lxor, .lstore 9, .iconst 0] (by decide +kernel) (pc2 := 34) (lv2 := [(9, .long (w ^^^ (b &&& ((-9223372036854775808))))), (7, .long (v ^^^ ((-9223372036854775808)))), (0, .ref 52), (1, .long v), (3, .long b), (5, .long w)]) (st2 := [.int 0]) (M2 := uI M 52 7 1) rfl ⟨trivial, trivial, trivial, (by decide), trivial, trivial, trivial, trivial, trivial, (by decide), trivial, trivial⟩ ?_
    refine V.seg F floX7 cjoX7 [.istore 11] (by decide +kernel) (pc2 := 36) (lv2 := [(11, .int 0), (9, .long (w ^^^ (b &&& ((-9223372036854775808))))), (7, .long (v ^^^ ((-9223372036854775808)))), (0, .ref 52), (1, .long v), (3, .long b), (5, .long w)]) (st2 := []) (M2 := uI M 52 7 1) rfl ⟨(by decide), trivial⟩ ?_
    have hJ36 : ∀ (n_ : Nat) (j36 : Nat) (M36 : Mem), (Sg M M36) → (j36 ≤ 64) → (64 - j36 < n_) → f_X7_up M v b w = f_X7_up_36 v b w n_ j36 M36 → V G X 16 0 0 (Qx G X 0 0 (p_X7_up M v b w)) 36 [(0, .ref 52), (1, .long v), (3, .long b), (7, .long (v ^^^ ((-9223372036854775808)))), (9, .long (w ^^^ (b &&& ((-9223372036854775808))))), (11, .int (nI j36))] [] M36 := by
      intro n_
      induction n_ with
      | zero => intro j36 M36 s36 b36 m36 E; omega
      | succ n_ ih_36 =>
        intro j36 M36 s36 b36 m36 E
        rw [f_X7_up_36] at E
        refine V.seg F floX7 cjoX7 [.iload 11, .bipush 64] (by decide +kernel) (pc2 := 40) (lv2 := [(0, .ref 52), (1, .long v), (3, .long b), (7, .long (v ^^^ ((-9223372036854775808)))), (9, .long (w ^^^ (b &&& ((-9223372036854775808))))), (11, .int (nI j36))]) (st2 := [.int 64, .int (nI j36)]) (M2 := M36) rfl ⟨trivial, trivial, trivial⟩ ?_
        refine V.ic_ge (off := 129) F (by decide +kernel) (tgt := 169) (by decide) (fun h40 => ?_) (fun h40 => ?_)
        · replace E := E.trans (if_pos h40)
          refine V.seg F floX7 cjoX7 [.aload_n 0, .iconst 0, .putfield 97, .lload_n 1] (by decide +kernel) (pc2 := 175) (lv2 := [(0, .ref 52), (1, .long v), (3, .long b), (7, .long (v ^^^ ((-9223372036854775808)))), (9, .long (w ^^^ (b &&& ((-9223372036854775808))))), (11, .int (nI j36))]) (st2 := [.long v]) (M2 := uI M36 52 7 0) rfl ⟨trivial, trivial, ⟨((q.sm s36.1).o 52 7 rfl), Or.inl rfl⟩, trivial, trivial⟩ ?_
          exact V.lret F (by decide +kernel) ⟨congrArg (fun z => some (Value.long z.1)) E.symm, congrArg Prod.snd E.symm, (Sg.pF s36)⟩
        · replace E := E.trans (if_neg h40)
          refine V.seg F floX7 cjoX7 [.lload 7, .iload 11, .lushr, .lconst 1, .land, .lconst 0, .lcmp] (by decide +kernel) (pc2 := 52) (lv2 := [(0, .ref 52), (1, .long v), (3, .long b), (7, .long (v ^^^ ((-9223372036854775808)))), (9, .long (w ^^^ (b &&& ((-9223372036854775808))))), (11, .int (nI j36))]) (st2 := [.int (lg_cmp ((jushr (v ^^^ ((-9223372036854775808))) (nI j36)) &&& 1) 0)]) (M2 := M36) rfl ⟨trivial, trivial, trivial, trivial, trivial, trivial, trivial, trivial⟩ ?_
          have hJ60 : ∀ (w0_60 : Int32) (M60 : Mem), (Sg M M60) → f_X7_up M v b w = f_X7_up_60 v b w j36 (f_X7_up_36 v b w n_) w0_60 M60 → V G X 16 0 0 (Qx G X 0 0 (p_X7_up M v b w)) 60 [(0, .ref 52), (1, .long v), (3, .long b), (7, .long (v ^^^ ((-9223372036854775808)))), (9, .long (w ^^^ (b &&& ((-9223372036854775808))))), (11, .int (nI j36))] [.int w0_60] M60 := by
            intro w0_60 M60 s60 E
            refine V.seg F floX7 cjoX7 [.istore 12, .lload_n 3, .iload 11, .lushr, .lconst 1, .land, .lconst 0, .lcmp] (by decide +kernel) (pc2 := 70) (lv2 := [(12, .int w0_60), (0, .ref 52), (1, .long v), (3, .long b), (7, .long (v ^^^ ((-9223372036854775808)))), (9, .long (w ^^^ (b &&& ((-9223372036854775808))))), (11, .int (nI j36))]) (st2 := [.int (lg_cmp ((jushr b (nI j36)) &&& 1) 0)]) (M2 := M60) rfl ⟨(by decide), trivial, trivial, trivial, trivial, trivial, trivial, trivial, trivial⟩ ?_
            have hJ90 : ∀ (w0_90 : Int32) (M90 : Mem), (Sg M M90) → f_X7_up M v b w = f_X7_up_90 v b w j36 (f_X7_up_36 v b w n_) w0_60 w0_90 M90 → V G X 16 0 0 (Qx G X 0 0 (p_X7_up M v b w)) 90 [(0, .ref 52), (1, .long v), (3, .long b), (7, .long (v ^^^ ((-9223372036854775808)))), (9, .long (w ^^^ (b &&& ((-9223372036854775808))))), (11, .int (nI j36)), (12, .int w0_60)] [.int w0_90] M90 := by
              intro w0_90 M90 s90 E
              refine V.seg F floX7 cjoX7 [.istore 13, .iload 11, .bipush 63] (by decide +kernel) (pc2 := 96) (lv2 := [(13, .int w0_90), (0, .ref 52), (1, .long v), (3, .long b), (7, .long (v ^^^ ((-9223372036854775808)))), (9, .long (w ^^^ (b &&& ((-9223372036854775808))))), (11, .int (nI j36)), (12, .int w0_60)]) (st2 := [.int 63, .int (nI j36)]) (M2 := M90) rfl ⟨(by decide), trivial, trivial, trivial⟩ ?_
              have hJ111 : ∀ (w0_111 : Int64) (M111 : Mem), (Sg M M111) → f_X7_up M v b w = f_X7_up_111 v b w j36 (f_X7_up_36 v b w n_) w0_60 w0_90 w0_111 M111 → V G X 16 0 0 (Qx G X 0 0 (p_X7_up M v b w)) 111 [(0, .ref 52), (1, .long v), (3, .long b), (7, .long (v ^^^ ((-9223372036854775808)))), (9, .long (w ^^^ (b &&& ((-9223372036854775808))))), (11, .int (nI j36)), (12, .int w0_60), (13, .int w0_90)] [.long w0_111] M111 := by
                intro w0_111 M111 s111 E
                refine V.seg F floX7 cjoX7 [.lstore 14, .iload 12] (by decide +kernel) (pc2 := 115) (lv2 := [(14, .long w0_111), (0, .ref 52), (1, .long v), (3, .long b), (7, .long (v ^^^ ((-9223372036854775808)))), (9, .long (w ^^^ (b &&& ((-9223372036854775808))))), (11, .int (nI j36)), (12, .int w0_60), (13, .int w0_90)]) (st2 := [.int w0_60]) (M2 := M111) rfl ⟨(by decide), trivial, trivial⟩ ?_
                have hJ163 : ∀ (M163 : Mem), (Sg M M163) → f_X7_up M v b w = f_X7_up_163 j36 (f_X7_up_36 v b w n_) M163 → V G X 16 0 0 (Qx G X 0 0 (p_X7_up M v b w)) 163 [(0, .ref 52), (1, .long v), (3, .long b), (7, .long (v ^^^ ((-9223372036854775808)))), (9, .long (w ^^^ (b &&& ((-9223372036854775808))))), (11, .int (nI j36))] [] M163 := by
                  intro M163 s163 E
                  refine V.seg F floX7 cjoX7 [.iinc 11 1, .goto (-130)] (by decide +kernel) (pc2 := 36) (lv2 := [(11, .int ((nI j36) + 1)), (0, .ref 52), (1, .long v), (3, .long b), (7, .long (v ^^^ ((-9223372036854775808)))), (9, .long (w ^^^ (b &&& ((-9223372036854775808)))))]) (st2 := []) (M2 := M163) rfl ⟨(by decide), (by decide), trivial⟩ ?_
                  refine V.pick [1, 2, 3, 4, 5, 0] rfl ?_
                  rw [nI_1]
                  exact ih_36 (j36 + 1) M163 s163 (by have hlt_ := cnt_lt (n := 64) h40 rfl (by omega) (by decide); omega) (by have hlt_ := cnt_lt (n := 64) h40 rfl (by omega) (by decide); omega) E
                refine V.if_eq (off := 48) F (by decide +kernel) (tgt := 163) (by decide) (fun h115 => ?_) (fun h115 => ?_)
                · replace E := E.trans (if_pos h115)
                  refine V.pick [1, 2, 3, 4, 5, 6] rfl ?_
                  exact hJ163 M111 s111 E
                · replace E := E.trans (if_neg h115)
                  refine V.seg F floX7 cjoX7 [.iload 13] (by decide +kernel) (pc2 := 120) (lv2 := [(14, .long w0_111), (0, .ref 52), (1, .long v), (3, .long b), (7, .long (v ^^^ ((-9223372036854775808)))), (9, .long (w ^^^ (b &&& ((-9223372036854775808))))), (11, .int (nI j36)), (12, .int w0_60), (13, .int w0_90)]) (st2 := [.int w0_90]) (M2 := M111) rfl ⟨trivial, trivial⟩ ?_
                  refine V.if_eq (off := 43) F (by decide +kernel) (tgt := 163) (by decide) (fun h120 => ?_) (fun h120 => ?_)
                  · replace E := E.trans (if_pos h120)
                    refine V.pick [1, 2, 3, 4, 5, 6] rfl ?_
                    exact hJ163 M111 s111 E
                  · replace E := E.trans (if_neg h120)
                    refine V.seg F floX7 cjoX7 [.lload 7, .lload 9, .lxor, .lload_n 3, .land, .lload 14, .land, .lconst 0, .lcmp] (by decide +kernel) (pc2 := 135) (lv2 := [(14, .long w0_111), (0, .ref 52), (1, .long v), (3, .long b), (7, .long (v ^^^ ((-9223372036854775808)))), (9, .long (w ^^^ (b &&& ((-9223372036854775808))))), (11, .int (nI j36)), (12, .int w0_60), (13, .int w0_90)]) (st2 := [.int (lg_cmp ((((v ^^^ ((-9223372036854775808))) ^^^ (w ^^^ (b &&& ((-9223372036854775808))))) &&& b) &&& w0_111) 0)]) (M2 := M111) rfl ⟨trivial, trivial, trivial, trivial, trivial, trivial, trivial, trivial, trivial, trivial⟩ ?_
                    refine V.lc_ne (off := 28) F (by decide +kernel) (tgt := 163) (by decide) (fun h135 => ?_) (fun h135 => ?_)
                    · replace E := E.trans (if_neg h135)
                      refine V.pick [1, 2, 3, 4, 5, 6] rfl ?_
                      exact hJ163 M111 s111 E
                    · replace E := E.trans (if_pos h135)
                      refine V.seg F floX7 cjoX7 [.lload 7, .lload 14, .land, .lconst 1, .iload 11, .lshl, .lor, .lload 9, .lconst 1, .iload 11, .lshl, .lconst 1, .lsub, .land, .lor, .ldc2_w 83, .lxor] (by decide +kernel) (pc2 := 162) (lv2 := [(14, .long w0_111), (0, .ref 52), (1, .long v), (3, .long b), (7, .long (v ^^^ ((-9223372036854775808)))), (9, .long (w ^^^ (b &&& ((-9223372036854775808))))), (11, .int (nI j36)), (12, .int w0_60), (13, .int w0_90)]) (st2 := [.long (((((v ^^^ ((-9223372036854775808))) &&& w0_111) ||| (jshl 1 (nI j36))) ||| ((w ^^^ (b &&& ((-9223372036854775808)))) &&& ((jshl 1 (nI j36)) - 1))) ^^^ ((-9223372036854775808)))]) (M2 := M111) rfl ⟨trivial, trivial, trivial, trivial, trivial, trivial, trivial, trivial, trivial, trivial, trivial, trivial, trivial, trivial, trivial, trivial, trivial, trivial⟩ ?_
                      exact V.lret F (by decide +kernel) ⟨congrArg (fun z => some (Value.long z.1)) E.symm, congrArg Prod.snd E.symm, s111⟩
              refine V.ic_ne (off := 7) F (by decide +kernel) (tgt := 103) (by decide) (fun h96 => ?_) (fun h96 => ?_)
              · replace E := E.trans (if_neg h96)
                refine V.seg F floX7 cjoX7 [.ldc2_w 87, .iload 11, .iconst 1, .iadd, .lshl] (by decide +kernel) (pc2 := 111) (lv2 := [(13, .int w0_90), (0, .ref 52), (1, .long v), (3, .long b), (7, .long (v ^^^ ((-9223372036854775808)))), (9, .long (w ^^^ (b &&& ((-9223372036854775808))))), (11, .int (nI j36)), (12, .int w0_60)]) (st2 := [.long (jshl ((-1)) ((nI j36) + 1))]) (M2 := M90) rfl ⟨trivial, trivial, trivial, trivial, trivial, trivial⟩ ?_
                refine V.pick [1, 2, 3, 4, 5, 6, 7, 0] rfl ?_
                exact hJ111 (jshl ((-1)) ((nI j36) + 1)) M90 s90 E
              · replace E := E.trans (if_pos h96)
                refine V.seg F floX7 cjoX7 [.lconst 0, .goto 11] (by decide +kernel) (pc2 := 111) (lv2 := [(13, .int w0_90), (0, .ref 52), (1, .long v), (3, .long b), (7, .long (v ^^^ ((-9223372036854775808)))), (9, .long (w ^^^ (b &&& ((-9223372036854775808))))), (11, .int (nI j36)), (12, .int w0_60)]) (st2 := [.long 0]) (M2 := M90) rfl ⟨trivial, (by decide), trivial⟩ ?_
                refine V.pick [1, 2, 3, 4, 5, 6, 7, 0] rfl ?_
                exact hJ111 0 M90 s90 E
            have hJ85 : ∀ (M85 : Mem), (Sg M M85) → f_X7_up M v b w = f_X7_up_85 v b w j36 (f_X7_up_36 v b w n_) w0_60 M85 → V G X 16 0 0 (Qx G X 0 0 (p_X7_up M v b w)) 85 [(0, .ref 52), (1, .long v), (3, .long b), (7, .long (v ^^^ ((-9223372036854775808)))), (9, .long (w ^^^ (b &&& ((-9223372036854775808))))), (11, .int (nI j36)), (12, .int w0_60)] [] M85 := by
              intro M85 s85 E
              refine V.seg F floX7 cjoX7 [.iconst 1, .goto 4] (by decide +kernel) (pc2 := 90) (lv2 := [(0, .ref 52), (1, .long v), (3, .long b), (7, .long (v ^^^ ((-9223372036854775808)))), (9, .long (w ^^^ (b &&& ((-9223372036854775808))))), (11, .int (nI j36)), (12, .int w0_60)]) (st2 := [.int 1]) (M2 := M85) rfl ⟨trivial, (by decide), trivial⟩ ?_
              refine V.pick [0, 1, 2, 3, 4, 5, 6] rfl ?_
              exact hJ90 1 M85 s85 E
            refine V.lc_eq (off := 15) F (by decide +kernel) (tgt := 85) (by decide) (fun h70 => ?_) (fun h70 => ?_)
            · replace E := E.trans (if_pos h70)
              refine V.pick [1, 2, 3, 4, 5, 6, 0] rfl ?_
              exact hJ85 M60 s60 E
            · replace E := E.trans (if_neg h70)
              refine V.seg F floX7 cjoX7 [.lload 9, .iload 11, .lushr, .lconst 1, .land, .lconst 1, .lcmp] (by decide +kernel) (pc2 := 82) (lv2 := [(12, .int w0_60), (0, .ref 52), (1, .long v), (3, .long b), (7, .long (v ^^^ ((-9223372036854775808)))), (9, .long (w ^^^ (b &&& ((-9223372036854775808))))), (11, .int (nI j36))]) (st2 := [.int (lg_cmp ((jushr (w ^^^ (b &&& ((-9223372036854775808)))) (nI j36)) &&& 1) 1)]) (M2 := M60) rfl ⟨trivial, trivial, trivial, trivial, trivial, trivial, trivial, trivial⟩ ?_
              refine V.lc_ne (off := 7) F (by decide +kernel) (tgt := 89) (by decide) (fun h82 => ?_) (fun h82 => ?_)
              · replace E := E.trans (if_neg h82)
                refine V.seg F floX7 cjoX7 [.iconst 0] (by decide +kernel) (pc2 := 90) (lv2 := [(12, .int w0_60), (0, .ref 52), (1, .long v), (3, .long b), (7, .long (v ^^^ ((-9223372036854775808)))), (9, .long (w ^^^ (b &&& ((-9223372036854775808))))), (11, .int (nI j36))]) (st2 := [.int 0]) (M2 := M60) rfl ⟨trivial, trivial⟩ ?_
                refine V.pick [1, 2, 3, 4, 5, 6, 0] rfl ?_
                exact hJ90 0 M60 s60 E
              · replace E := E.trans (if_pos h82)
                refine V.pick [1, 2, 3, 4, 5, 6, 0] rfl ?_
                exact hJ85 M60 s60 E
          refine V.lc_ne (off := 7) F (by decide +kernel) (tgt := 59) (by decide) (fun h52 => ?_) (fun h52 => ?_)
          · replace E := E.trans (if_neg h52)
            refine V.seg F floX7 cjoX7 [.iconst 0] (by decide +kernel) (pc2 := 60) (lv2 := [(0, .ref 52), (1, .long v), (3, .long b), (7, .long (v ^^^ ((-9223372036854775808)))), (9, .long (w ^^^ (b &&& ((-9223372036854775808))))), (11, .int (nI j36))]) (st2 := [.int 0]) (M2 := M36) rfl ⟨trivial, trivial⟩ ?_
            refine V.pick [0, 1, 2, 3, 4, 5] rfl ?_
            exact hJ60 0 M36 s36 E
          · replace E := E.trans (if_pos h52)
            refine V.seg F floX7 cjoX7 [.iconst 1, .goto 4] (by decide +kernel) (pc2 := 60) (lv2 := [(0, .ref 52), (1, .long v), (3, .long b), (7, .long (v ^^^ ((-9223372036854775808)))), (9, .long (w ^^^ (b &&& ((-9223372036854775808))))), (11, .int (nI j36))]) (st2 := [.int 1]) (M2 := M36) rfl ⟨trivial, (by decide), trivial⟩ ?_
            refine V.pick [0, 1, 2, 3, 4, 5] rfl ?_
            exact hJ60 1 M36 s36 E
    refine V.pick [3, 4, 5, 2, 1, 0] rfl ?_
    exact hJ36 _ 0 (uI M 52 7 1) (Sg.pF (Sg.rf gb)) (by omega) (by omega) E
  · replace E := E.trans (if_pos h11)
    refine V.seg F floX7 cjoX7 [.lload_n 1] (by decide +kernel) (pc2 := 15) (lv2 := [(0, .ref 52), (1, .long v), (3, .long b), (5, .long w)]) (st2 := [.long v]) (M2 := uI M 52 7 1) rfl ⟨trivial, trivial⟩ ?_
    exact V.lret F (by decide +kernel) ⟨congrArg (fun z => some (Value.long z.1)) E.symm, congrArg Prod.snd E.symm, (Sg.pF (Sg.rf gb))⟩
def f_X7_down_c18  (x18 : Int64) (M18 : Mem) : Int64 × Mem := (x18 ^^^ ((-1)), M18)
def f_X7_down (M : Mem) (v : Int64) (b : Int64) (w : Int64) : Int64 × Mem := f_X7_down_c18 ((f_X7_up M (v ^^^ ((-1))) b ((w ^^^ ((-1))) &&& b)).1) ((f_X7_up M (v ^^^ ((-1))) b ((w ^^^ ((-1))) &&& b)).2)
abbrev p_X7_down (M : Mem) (v : Int64) (b : Int64) (w : Int64) : Option Value → Mem → Prop := fun r N => r = some (.long (f_X7_down M v b w).1) ∧ N = (f_X7_down M v b w).2 ∧ Sg M N
set_option maxRecDepth 100000 in
set_option maxHeartbeats 4000000 in
theorem c_X7_down (G : Ctx) (l : Launch) (M : Mem) (v : Int64) (b : Int64) (w : Int64) (q : Ok M) (gb : Gb M) : CT G l 1 mX7_down [.ref 52, .long v, .long b, .long w] M 0 0 (p_X7_down M v b w) := by
  refine CT.of (by decide) (Nat.le_of_ble_eq_true rfl) ?_
  intro X d hd hl hRm hnm F
  subst hl
  have E : f_X7_down M v b w = f_X7_down M v b w := rfl
  show V G X 7 0 0 (Qx G X 0 0 (p_X7_down M v b w)) 0 [(0, .ref 52), (1, .long v), (3, .long b), (5, .long w)] [] M
  refine V.seg F floX7 cjoX7 [.aload_n 0, .lload_n 1, .ldc2_w 87, .lxor, .lload_n 3, .lload 5, .ldc2_w 87, .lxor, .lload_n 3, .land] (by decide +kernel) (pc2 := 15) (lv2 := [(0, .ref 52), (1, .long v), (3, .long b), (5, .long w)]) (st2 := [.long ((w ^^^ ((-1))) &&& b), .long b, .long (v ^^^ ((-1))), .ref 52]) (M2 := M) rfl ⟨trivial, trivial, trivial, trivial, trivial, trivial, trivial, trivial, trivial, trivial, trivial⟩ ?_
  refine V.callV (as := [.long (v ^^^ ((-1))), .long b, .long ((w ^^^ ((-1))) &&& b)]) (rest := []) F (by decide +kernel) lX7_101 bX7_up ⟨7, _, (q.o 52 7 rfl), rfl, rfl⟩ (c_X7_up G X.2.1 M (v ^^^ ((-1))) b ((w ^^^ ((-1))) &&& b) q gb) (rm_ok hRm hd (by decide) (by decide)) ⟨Nat.zero_le _, Nat.zero_le _⟩ (Nat.le_of_ble_eq_true rfl) (fun r_ N_ p_ => ?_)
  obtain ⟨rfl, rfl, t15⟩ := p_
  refine (?_ : ∀ (x18 : Int64) (M18 : Mem), (Sg M M18) → f_X7_down M v b w = f_X7_down_c18 x18 M18 → V G X 7 0 0 (Qx G X 0 0 (p_X7_down M v b w)) 18 [(0, .ref 52), (1, .long v), (3, .long b), (5, .long w)] [.long x18] M18) _ _ t15 E
  intro x18 M18 s18 E
  refine V.seg F floX7 cjoX7 [.ldc2_w 87, .lxor] (by decide +kernel) (pc2 := 22) (lv2 := [(0, .ref 52), (1, .long v), (3, .long b), (5, .long w)]) (st2 := [.long (x18 ^^^ ((-1)))]) (M2 := M18) rfl ⟨trivial, trivial, trivial⟩ ?_
  exact V.lret F (by decide +kernel) ⟨congrArg (fun z => some (Value.long z.1)) E.symm, congrArg Prod.snd E.symm, s18⟩
def f_X7_byBits_93  (w0_93 : Int32) (M93 : Mem) : Int32 × Mem := (w0_93, M93)
def f_X7_byBits_92  (M92 : Mem) : Int32 × Mem := f_X7_byBits_93 0 M92
def f_X7_byBits_c60 (f : Int32) (x27 : Int64) (M27 : Mem) (x60 : Int64) (M60 : Mem) : Int32 × Mem := if (mI (uL M27 54 (ix f) x27) 52 7) = 0 then f_X7_byBits_92 (uL M60 55 (ix f) x60) else if (mI (uL M60 55 (ix f) x60) 52 7) = 0 then f_X7_byBits_92 (uL M60 55 (ix f) x60) else if (mL (uL M60 55 (ix f) x60) 55 (ix f)) < (mL (uL M60 55 (ix f) x60) 54 (ix f)) then f_X7_byBits_92 (uL M60 55 (ix f) x60) else f_X7_byBits_93 1 (uL M60 55 (ix f) x60)
def f_X7_byBits_c27 (f : Int32) (x27 : Int64) (M27 : Mem) : Int32 × Mem := f_X7_byBits_c60 f x27 M27 ((f_X7_down (uL M27 54 (ix f) x27) (mL (uL M27 54 (ix f) x27) 55 (ix f)) (mL (uL M27 54 (ix f) x27) 56 (ix f)) (mL (uL M27 54 (ix f) x27) 57 (ix f))).1) ((f_X7_down (uL M27 54 (ix f) x27) (mL (uL M27 54 (ix f) x27) 55 (ix f)) (mL (uL M27 54 (ix f) x27) 56 (ix f)) (mL (uL M27 54 (ix f) x27) 57 (ix f))).2)
def f_X7_byBits (M : Mem) (f : Int32) : Int32 × Mem := f_X7_byBits_c27 f ((f_X7_up M (mL M 54 (ix f)) (mL M 56 (ix f)) (mL M 57 (ix f))).1) ((f_X7_up M (mL M 54 (ix f)) (mL M 56 (ix f)) (mL M 57 (ix f))).2)
abbrev p_X7_byBits (M : Mem) (f : Int32) : Option Value → Mem → Prop := fun r N => r = some (.int (f_X7_byBits M f).1) ∧ N = (f_X7_byBits M f).2 ∧ Sg M N ∧ ((f_X7_byBits M f).1 = 0 ∨ (f_X7_byBits M f).1 = 1)
set_option maxRecDepth 100000 in
set_option maxHeartbeats 4000000 in
theorem c_X7_byBits (G : Ctx) (l : Launch) (M : Mem) (f : Int32) (q : Ok M) (gb : Gb M) (i_f : vp_in f 1648) : CT G l 2 mX7_byBits [.ref 52, .int f] M 0 0 (p_X7_byBits M f) := by
  refine CT.of (by decide) (Nat.le_of_ble_eq_true rfl) ?_
  intro X d hd hl hRm hnm F
  subst hl
  have E : f_X7_byBits M f = f_X7_byBits M f := rfl
  show V G X 3 0 0 (Qx G X 0 0 (p_X7_byBits M f)) 0 [(0, .ref 52), (1, .int f)] [] M
  refine V.seg F floX7 cjoX7 [.aload_n 0, .getfield 13, .iload_n 1, .aload_n 0, .aload_n 0, .getfield 13, .iload_n 1, .laload, .aload_n 0, .getfield 20, .iload_n 1, .laload, .aload_n 0, .getfield 23, .iload_n 1, .laload] (by decide +kernel) (pc2 := 24) (lv2 := [(0, .ref 52), (1, .int f)]) (st2 := [.long (mL M 57 (ix f)), .long (mL M 56 (ix f)), .long (mL M 54 (ix f)), .ref 52, .int f, .ref 54]) (M2 := M) rfl ⟨trivial, (q.f 52 7 1 rfl), trivial, trivial, trivial, (q.f 52 7 1 rfl), trivial, (q.a 54 22 1648 rfl (by first | assumption | exact vinc (by decide))), trivial, (q.f 52 7 3 rfl), trivial, (q.a 56 22 1648 rfl (by first | assumption | exact vinc (by decide))), trivial, (q.f 52 7 4 rfl), trivial, (q.a 57 22 1648 rfl (by first | assumption | exact vinc (by decide))), trivial⟩ ?_
  refine V.callV (as := [.long (mL M 54 (ix f)), .long (mL M 56 (ix f)), .long (mL M 57 (ix f))]) (rest := [.int f, .ref 54]) F (by decide +kernel) lX7_101 bX7_up ⟨7, _, (q.o 52 7 rfl), rfl, rfl⟩ (c_X7_up G X.2.1 M (mL M 54 (ix f)) (mL M 56 (ix f)) (mL M 57 (ix f)) q gb) (rm_ok hRm hd (by decide) (by decide)) ⟨Nat.zero_le _, Nat.zero_le _⟩ (Nat.le_of_ble_eq_true rfl) (fun r_ N_ p_ => ?_)
  obtain ⟨rfl, rfl, t24⟩ := p_
  refine (?_ : ∀ (x27 : Int64) (M27 : Mem), (Sg M M27) → f_X7_byBits M f = f_X7_byBits_c27 f x27 M27 → V G X 3 0 0 (Qx G X 0 0 (p_X7_byBits M f)) 27 [(0, .ref 52), (1, .int f)] [.long x27, .int f, .ref 54] M27) _ _ t24 E
  intro x27 M27 s27 E
  refine V.seg F floX7 cjoX7 [.lastore, .aload_n 0, .getfield 97, .istore_n 2, .aload_n 0, .getfield 17, .iload_n 1, .aload_n 0, .aload_n 0, .getfield 17, .iload_n 1, .laload, .aload_n 0, .getfield 20, .iload_n 1, .laload, .aload_n 0, .getfield 23, .iload_n 1, .laload] (by decide +kernel) (pc2 := 57) (lv2 := [(2, .int (mI (uL M27 54 (ix f) x27) 52 7)), (0, .ref 52), (1, .int f)]) (st2 := [.long (mL (uL M27 54 (ix f) x27) 57 (ix f)), .long (mL (uL M27 54 (ix f) x27) 56 (ix f)), .long (mL (uL M27 54 (ix f) x27) 55 (ix f)), .ref 52, .int f, .ref 55]) (M2 := uL M27 54 (ix f) x27) rfl ⟨((q.sm s27.1).a 54 22 1648 rfl (by first | assumption | exact vinc (by decide))), trivial, ((q.sm (Sg.pL s27 (by decide)).1).o 52 7 rfl), (by decide), trivial, ((q.sm (Sg.pL s27 (by decide)).1).f 52 7 2 rfl), trivial, trivial, trivial, ((q.sm (Sg.pL s27 (by decide)).1).f 52 7 2 rfl), trivial, ((q.sm (Sg.pL s27 (by decide)).1).a 55 22 1648 rfl (by first | assumption | exact vinc (by decide))), trivial, ((q.sm (Sg.pL s27 (by decide)).1).f 52 7 3 rfl), trivial, ((q.sm (Sg.pL s27 (by decide)).1).a 56 22 1648 rfl (by first | assumption | exact vinc (by decide))), trivial, ((q.sm (Sg.pL s27 (by decide)).1).f 52 7 4 rfl), trivial, ((q.sm (Sg.pL s27 (by decide)).1).a 57 22 1648 rfl (by first | assumption | exact vinc (by decide))), trivial⟩ ?_
  refine V.callV (as := [.long (mL (uL M27 54 (ix f) x27) 55 (ix f)), .long (mL (uL M27 54 (ix f) x27) 56 (ix f)), .long (mL (uL M27 54 (ix f) x27) 57 (ix f))]) (rest := [.int f, .ref 55]) F (by decide +kernel) lX7_122 bX7_down ⟨7, _, ((q.sm (Sg.pL s27 (by decide)).1).o 52 7 rfl), rfl, rfl⟩ (c_X7_down G X.2.1 (uL M27 54 (ix f) x27) (mL (uL M27 54 (ix f) x27) 55 (ix f)) (mL (uL M27 54 (ix f) x27) 56 (ix f)) (mL (uL M27 54 (ix f) x27) 57 (ix f)) (q.sm (Sg.pL s27 (by decide)).1) (Sg.pL s27 (by decide)).2) (rm_ok hRm hd (by decide) (by decide)) ⟨Nat.zero_le _, Nat.zero_le _⟩ (Nat.le_of_ble_eq_true rfl) (fun r_ N_ p_ => ?_)
  obtain ⟨rfl, rfl, t57⟩ := p_
  refine (?_ : ∀ (x60 : Int64) (M60 : Mem), (Sg M M60) → f_X7_byBits M f = f_X7_byBits_c60 f x27 M27 x60 M60 → V G X 3 0 0 (Qx G X 0 0 (p_X7_byBits M f)) 60 [(2, .int (mI (uL M27 54 (ix f) x27) 52 7)), (0, .ref 52), (1, .int f)] [.long x60, .int f, .ref 55] M60) _ _ (Sg.tr (Sg.pL s27 (by decide)) t57) E
  intro x60 M60 s60 E
  refine V.seg F floX7 cjoX7 [.lastore, .iload_n 2] (by decide +kernel) (pc2 := 62) (lv2 := [(2, .int (mI (uL M27 54 (ix f) x27) 52 7)), (0, .ref 52), (1, .int f)]) (st2 := [.int (mI (uL M27 54 (ix f) x27) 52 7)]) (M2 := uL M60 55 (ix f) x60) rfl ⟨((q.sm s60.1).a 55 22 1648 rfl (by first | assumption | exact vinc (by decide))), trivial, trivial⟩ ?_
  have hJ93 : ∀ (w0_93 : Int32) (M93 : Mem), (Sg M M93) → (w0_93 = 0 ∨ w0_93 = 1) → f_X7_byBits M f = f_X7_byBits_93 w0_93 M93 → V G X 3 0 0 (Qx G X 0 0 (p_X7_byBits M f)) 93 [] [.int w0_93] M93 := by
    intro w0_93 M93 s93 zw0_93 E
    exact V.zret F (zw0_93) (by decide +kernel) ⟨congrArg (fun z => some (Value.int z.1)) E.symm, congrArg Prod.snd E.symm, s93, by rw [E]; exact zw0_93⟩
  have hJ92 : ∀ (M92 : Mem), (Sg M M92) → f_X7_byBits M f = f_X7_byBits_92 M92 → V G X 3 0 0 (Qx G X 0 0 (p_X7_byBits M f)) 92 [] [] M92 := by
    intro M92 s92 E
    refine V.seg F floX7 cjoX7 [.iconst 0] (by decide +kernel) (pc2 := 93) (lv2 := []) (st2 := [.int 0]) (M2 := M92) rfl ⟨trivial, trivial⟩ ?_
    refine V.pick [] rfl ?_
    exact hJ93 0 M92 s92 (Or.inl rfl) E
  refine V.if_eq (off := 30) F (by decide +kernel) (tgt := 92) (by decide) (fun h62 => ?_) (fun h62 => ?_)
  · replace E := E.trans (if_pos h62)
    refine V.pick [] rfl ?_
    exact hJ92 (uL M60 55 (ix f) x60) (Sg.pL s60 (by decide)) E
  · replace E := E.trans (if_neg h62)
    refine V.seg F floX7 cjoX7 [.aload_n 0, .getfield 97] (by decide +kernel) (pc2 := 69) (lv2 := [(2, .int (mI (uL M27 54 (ix f) x27) 52 7)), (0, .ref 52), (1, .int f)]) (st2 := [.int (mI (uL M60 55 (ix f) x60) 52 7)]) (M2 := uL M60 55 (ix f) x60) rfl ⟨trivial, ((q.sm (Sg.pL s60 (by decide)).1).o 52 7 rfl), trivial⟩ ?_
    refine V.if_eq (off := 23) F (by decide +kernel) (tgt := 92) (by decide) (fun h69 => ?_) (fun h69 => ?_)
    · replace E := E.trans (if_pos h69)
      refine V.pick [] rfl ?_
      exact hJ92 (uL M60 55 (ix f) x60) (Sg.pL s60 (by decide)) E
    · replace E := E.trans (if_neg h69)
      refine V.seg F floX7 cjoX7 [.aload_n 0, .getfield 13, .iload_n 1, .laload, .aload_n 0, .getfield 17, .iload_n 1, .laload, .lcmp] (by decide +kernel) (pc2 := 85) (lv2 := [(2, .int (mI (uL M27 54 (ix f) x27) 52 7)), (0, .ref 52), (1, .int f)]) (st2 := [.int (lg_cmp (mL (uL M60 55 (ix f) x60) 54 (ix f)) (mL (uL M60 55 (ix f) x60) 55 (ix f)))]) (M2 := uL M60 55 (ix f) x60) rfl ⟨trivial, ((q.sm (Sg.pL s60 (by decide)).1).f 52 7 1 rfl), trivial, ((q.sm (Sg.pL s60 (by decide)).1).a 54 22 1648 rfl (by first | assumption | exact vinc (by decide))), trivial, ((q.sm (Sg.pL s60 (by decide)).1).f 52 7 2 rfl), trivial, ((q.sm (Sg.pL s60 (by decide)).1).a 55 22 1648 rfl (by first | assumption | exact vinc (by decide))), trivial, trivial⟩ ?_
      refine V.lc_gt (off := 7) F (by decide +kernel) (tgt := 92) (by decide) (fun h85 => ?_) (fun h85 => ?_)
      · replace E := E.trans (if_pos h85)
        refine V.pick [] rfl ?_
        exact hJ92 (uL M60 55 (ix f) x60) (Sg.pL s60 (by decide)) E
      · replace E := E.trans (if_neg h85)
        refine V.seg F floX7 cjoX7 [.iconst 1, .goto 4] (by decide +kernel) (pc2 := 93) (lv2 := [(2, .int (mI (uL M27 54 (ix f) x27) 52 7)), (0, .ref 52), (1, .int f)]) (st2 := [.int 1]) (M2 := uL M60 55 (ix f) x60) rfl ⟨trivial, (by decide), trivial⟩ ?_
        refine V.pick [] rfl ?_
        exact hJ93 1 (uL M60 55 (ix f) x60) (Sg.pL s60 (by decide)) (Or.inr rfl) E
def f_X7_byRest_85  (M85 : Mem) : Int32 × Mem := (0, M85)
def f_X7_byRest_130  (w0_130 : Int32) (M130 : Mem) : Int32 × Mem := (w0_130, M130)
def f_X7_byRest_c53 (f : Int32) (M : Mem) (x30 : Int64) (x53 : Int64) : Int32 × Mem := if (9223372036854775807 - x30) < (mL M 54 (ix f)) then f_X7_byRest_85 M else if (((-9223372036854775808)) + x53) ≤ (mL M 55 (ix f)) then if (mL (uL (uL M 54 (ix f) ((mL M 54 (ix f)) + x30)) 55 (ix f) ((mL (uL M 54 (ix f) ((mL M 54 (ix f)) + x30)) 55 (ix f)) - x53)) 55 (ix f)) < (mL (uL (uL M 54 (ix f) ((mL M 54 (ix f)) + x30)) 55 (ix f) ((mL (uL M 54 (ix f) ((mL M 54 (ix f)) + x30)) 55 (ix f)) - x53)) 54 (ix f)) then f_X7_byRest_130 0 (uL (uL M 54 (ix f) ((mL M 54 (ix f)) + x30)) 55 (ix f) ((mL (uL M 54 (ix f) ((mL M 54 (ix f)) + x30)) 55 (ix f)) - x53)) else f_X7_byRest_130 1 (uL (uL M 54 (ix f) ((mL M 54 (ix f)) + x30)) 55 (ix f) ((mL (uL M 54 (ix f) ((mL M 54 (ix f)) + x30)) 55 (ix f)) - x53)) else f_X7_byRest_85 M
def f_X7_byRest_c30 (f : Int32) (M : Mem) (x30 : Int64) : Int32 × Mem := f_X7_byRest_c53 f M x30 (f_X7_rem ((f_X7_rem (mL M 55 (ix f)) (mL M 58 (ix f))) - (mL M 59 (ix f))) (mL M 58 (ix f)))
def f_X7_byRest (M : Mem) (f : Int32) : Int32 × Mem := f_X7_byRest_c30 f M (f_X7_rem ((mL M 59 (ix f)) - (f_X7_rem (mL M 54 (ix f)) (mL M 58 (ix f)))) (mL M 58 (ix f)))
abbrev p_X7_byRest (M : Mem) (f : Int32) : Option Value → Mem → Prop := fun r N => r = some (.int (f_X7_byRest M f).1) ∧ N = (f_X7_byRest M f).2 ∧ Sg M N ∧ ((f_X7_byRest M f).1 = 0 ∨ (f_X7_byRest M f).1 = 1)
set_option maxRecDepth 100000 in
set_option maxHeartbeats 4000000 in
theorem c_X7_byRest (G : Ctx) (l : Launch) (M : Mem) (f : Int32) (q : Ok M) (gb : Gb M) (i_f : vp_in f 1648) : CT G l 1 mX7_byRest [.ref 52, .int f] M 0 0 (p_X7_byRest M f) := by
  refine CT.of (by decide) (Nat.le_of_ble_eq_true rfl) ?_
  intro X d hd hl hRm hnm F
  subst hl
  have E : f_X7_byRest M f = f_X7_byRest M f := rfl
  show V G X 8 0 0 (Qx G X 0 0 (p_X7_byRest M f)) 0 [(0, .ref 52), (1, .int f)] [] M
  refine V.seg F floX7 cjoX7 [.aload_n 0, .getfield 26, .iload_n 1, .laload, .lstore_n 2, .aload_n 0, .getfield 29, .iload_n 1, .laload, .aload_n 0, .getfield 13, .iload_n 1, .laload, .lload_n 2] (by decide +kernel) (pc2 := 20) (lv2 := [(2, .long (mL M 58 (ix f))), (0, .ref 52), (1, .int f)]) (st2 := [.long (mL M 58 (ix f)), .long (mL M 54 (ix f)), .long (mL M 59 (ix f))]) (M2 := M) rfl ⟨trivial, (q.f 52 7 5 rfl), trivial, (q.a 58 22 1648 rfl (by first | assumption | exact vinc (by decide))), (by decide), trivial, (q.f 52 7 6 rfl), trivial, (q.a 59 22 1648 rfl (by first | assumption | exact vinc (by decide))), trivial, (q.f 52 7 1 rfl), trivial, (q.a 54 22 1648 rfl (by first | assumption | exact vinc (by decide))), trivial, trivial⟩ ?_
  refine V.callS (as := [.long (mL M 54 (ix f)), .long (mL M 58 (ix f))]) (rest := [.long (mL M 59 (ix f))]) F (by decide +kernel) lX7_93 bX7_rem (c_X7_rem G X.2.1 M (mL M 54 (ix f)) (mL M 58 (ix f)) (gb _ (vin_lt (by first | assumption | exact vinc (by decide))))) (rm_ok hRm hd (by decide) (by decide)) ⟨Nat.zero_le _, Nat.zero_le _⟩ (Nat.le_of_ble_eq_true rfl) (fun r_ N_ p_ => ?_)
  obtain ⟨rfl, hN_⟩ := p_
  rw [hN_]
  clear hN_
  refine V.seg F floX7 cjoX7 [.lsub, .lload_n 2] (by decide +kernel) (pc2 := 25) (lv2 := [(2, .long (mL M 58 (ix f))), (0, .ref 52), (1, .int f)]) (st2 := [.long (mL M 58 (ix f)), .long ((mL M 59 (ix f)) - (f_X7_rem (mL M 54 (ix f)) (mL M 58 (ix f))))]) (M2 := M) rfl ⟨trivial, trivial, trivial⟩ ?_
  refine V.callS (as := [.long ((mL M 59 (ix f)) - (f_X7_rem (mL M 54 (ix f)) (mL M 58 (ix f)))), .long (mL M 58 (ix f))]) (rest := []) F (by decide +kernel) lX7_93 bX7_rem (c_X7_rem G X.2.1 M ((mL M 59 (ix f)) - (f_X7_rem (mL M 54 (ix f)) (mL M 58 (ix f)))) (mL M 58 (ix f)) (gb _ (vin_lt (by first | assumption | exact vinc (by decide))))) (rm_ok hRm hd (by decide) (by decide)) ⟨Nat.zero_le _, Nat.zero_le _⟩ (Nat.le_of_ble_eq_true rfl) (fun r_ N_ p_ => ?_)
  obtain ⟨rfl, hN_⟩ := p_
  rw [hN_]
  clear hN_
  refine V.seg F floX7 cjoX7 [.lstore 4] (by decide +kernel) (pc2 := 30) (lv2 := [(4, .long (f_X7_rem ((mL M 59 (ix f)) - (f_X7_rem (mL M 54 (ix f)) (mL M 58 (ix f)))) (mL M 58 (ix f)))), (2, .long (mL M 58 (ix f))), (0, .ref 52), (1, .int f)]) (st2 := []) (M2 := M) rfl ⟨(by decide), trivial⟩ ?_
  refine (?_ : ∀ (x30 : Int64), f_X7_byRest M f = f_X7_byRest_c30 f M x30 → V G X 8 0 0 (Qx G X 0 0 (p_X7_byRest M f)) 30 [(4, .long x30), (2, .long (mL M 58 (ix f))), (0, .ref 52), (1, .int f)] [] M) _  E
  intro x30 E
  refine V.seg F floX7 cjoX7 [.aload_n 0, .getfield 17, .iload_n 1, .laload, .lload_n 2] (by decide +kernel) (pc2 := 37) (lv2 := [(4, .long x30), (2, .long (mL M 58 (ix f))), (0, .ref 52), (1, .int f)]) (st2 := [.long (mL M 58 (ix f)), .long (mL M 55 (ix f))]) (M2 := M) rfl ⟨trivial, (q.f 52 7 2 rfl), trivial, (q.a 55 22 1648 rfl (by first | assumption | exact vinc (by decide))), trivial, trivial⟩ ?_
  refine V.callS (as := [.long (mL M 55 (ix f)), .long (mL M 58 (ix f))]) (rest := []) F (by decide +kernel) lX7_93 bX7_rem (c_X7_rem G X.2.1 M (mL M 55 (ix f)) (mL M 58 (ix f)) (gb _ (vin_lt (by first | assumption | exact vinc (by decide))))) (rm_ok hRm hd (by decide) (by decide)) ⟨Nat.zero_le _, Nat.zero_le _⟩ (Nat.le_of_ble_eq_true rfl) (fun r_ N_ p_ => ?_)
  obtain ⟨rfl, hN_⟩ := p_
  rw [hN_]
  clear hN_
  refine V.seg F floX7 cjoX7 [.aload_n 0, .getfield 29, .iload_n 1, .laload, .lsub, .lload_n 2] (by decide +kernel) (pc2 := 48) (lv2 := [(4, .long x30), (2, .long (mL M 58 (ix f))), (0, .ref 52), (1, .int f)]) (st2 := [.long (mL M 58 (ix f)), .long ((f_X7_rem (mL M 55 (ix f)) (mL M 58 (ix f))) - (mL M 59 (ix f)))]) (M2 := M) rfl ⟨trivial, (q.f 52 7 6 rfl), trivial, (q.a 59 22 1648 rfl (by first | assumption | exact vinc (by decide))), trivial, trivial, trivial⟩ ?_
  refine V.callS (as := [.long ((f_X7_rem (mL M 55 (ix f)) (mL M 58 (ix f))) - (mL M 59 (ix f))), .long (mL M 58 (ix f))]) (rest := []) F (by decide +kernel) lX7_93 bX7_rem (c_X7_rem G X.2.1 M ((f_X7_rem (mL M 55 (ix f)) (mL M 58 (ix f))) - (mL M 59 (ix f))) (mL M 58 (ix f)) (gb _ (vin_lt (by first | assumption | exact vinc (by decide))))) (rm_ok hRm hd (by decide) (by decide)) ⟨Nat.zero_le _, Nat.zero_le _⟩ (Nat.le_of_ble_eq_true rfl) (fun r_ N_ p_ => ?_)
  obtain ⟨rfl, hN_⟩ := p_
  rw [hN_]
  clear hN_
  refine V.seg F floX7 cjoX7 [.lstore 6] (by decide +kernel) (pc2 := 53) (lv2 := [(6, .long (f_X7_rem ((f_X7_rem (mL M 55 (ix f)) (mL M 58 (ix f))) - (mL M 59 (ix f))) (mL M 58 (ix f)))), (4, .long x30), (2, .long (mL M 58 (ix f))), (0, .ref 52), (1, .int f)]) (st2 := []) (M2 := M) rfl ⟨(by decide), trivial⟩ ?_
  refine (?_ : ∀ (x53 : Int64), f_X7_byRest M f = f_X7_byRest_c53 f M x30 x53 → V G X 8 0 0 (Qx G X 0 0 (p_X7_byRest M f)) 53 [(6, .long x53), (4, .long x30), (2, .long (mL M 58 (ix f))), (0, .ref 52), (1, .int f)] [] M) _  E
  intro x53 E
  refine V.seg F floX7 cjoX7 [.aload_n 0, .getfield 13, .iload_n 1, .laload, .ldc2_w 85, .lload 4, .lsub, .lcmp] (by decide +kernel) (pc2 := 66) (lv2 := [(6, .long x53), (4, .long x30), (2, .long (mL M 58 (ix f))), (0, .ref 52), (1, .int f)]) (st2 := [.int (lg_cmp (mL M 54 (ix f)) (9223372036854775807 - x30))]) (M2 := M) rfl ⟨trivial, (q.f 52 7 1 rfl), trivial, (q.a 54 22 1648 rfl (by first | assumption | exact vinc (by decide))), trivial, trivial, trivial, trivial, trivial⟩ ?_
  have hJ85 : ∀ (M85 : Mem), (Sg M M85) → f_X7_byRest M f = f_X7_byRest_85 M85 → V G X 8 0 0 (Qx G X 0 0 (p_X7_byRest M f)) 85 [] [] M85 := by
    intro M85 s85 E
    refine V.seg F floX7 cjoX7 [.iconst 0] (by decide +kernel) (pc2 := 86) (lv2 := []) (st2 := [.int 0]) (M2 := M85) rfl ⟨trivial, trivial⟩ ?_
    exact V.zret F (Or.inl rfl) (by decide +kernel) ⟨congrArg (fun z => some (Value.int z.1)) E.symm, congrArg Prod.snd E.symm, s85, by rw [E]; exact Or.inl rfl⟩
  refine V.lc_gt (off := 19) F (by decide +kernel) (tgt := 85) (by decide) (fun h66 => ?_) (fun h66 => ?_)
  · replace E := E.trans (if_pos h66)
    refine V.pick [] rfl ?_
    exact hJ85 M (Sg.rf gb) E
  · replace E := E.trans (if_neg h66)
    refine V.seg F floX7 cjoX7 [.aload_n 0, .getfield 17, .iload_n 1, .laload, .ldc2_w 83, .lload 6, .ladd, .lcmp] (by decide +kernel) (pc2 := 82) (lv2 := [(6, .long x53), (4, .long x30), (2, .long (mL M 58 (ix f))), (0, .ref 52), (1, .int f)]) (st2 := [.int (lg_cmp (mL M 55 (ix f)) (((-9223372036854775808)) + x53))]) (M2 := M) rfl ⟨trivial, (q.f 52 7 2 rfl), trivial, (q.a 55 22 1648 rfl (by first | assumption | exact vinc (by decide))), trivial, trivial, trivial, trivial, trivial⟩ ?_
    refine V.lc_ge (off := 5) F (by decide +kernel) (tgt := 87) (by decide) (fun h82 => ?_) (fun h82 => ?_)
    · replace E := E.trans (if_pos h82)
      refine V.seg F floX7 cjoX7 [.aload_n 0, .getfield 13, .iload_n 1, .dup2, .laload, .lload 4, .ladd, .lastore, .aload_n 0, .getfield 17, .iload_n 1, .dup2, .laload, .lload 6, .lsub, .lastore, .aload_n 0, .getfield 13, .iload_n 1, .laload, .aload_n 0, .getfield 17, .iload_n 1, .laload, .lcmp] (by decide +kernel) (pc2 := 122) (lv2 := [(6, .long x53), (4, .long x30), (2, .long (mL M 58 (ix f))), (0, .ref 52), (1, .int f)]) (st2 := [.int (lg_cmp (mL (uL (uL M 54 (ix f) ((mL M 54 (ix f)) + x30)) 55 (ix f) ((mL (uL M 54 (ix f) ((mL M 54 (ix f)) + x30)) 55 (ix f)) - x53)) 54 (ix f)) (mL (uL (uL M 54 (ix f) ((mL M 54 (ix f)) + x30)) 55 (ix f) ((mL (uL M 54 (ix f) ((mL M 54 (ix f)) + x30)) 55 (ix f)) - x53)) 55 (ix f)))]) (M2 := uL (uL M 54 (ix f) ((mL M 54 (ix f)) + x30)) 55 (ix f) ((mL (uL M 54 (ix f) ((mL M 54 (ix f)) + x30)) 55 (ix f)) - x53)) rfl ⟨trivial, (q.f 52 7 1 rfl), trivial, trivial, (q.a 54 22 1648 rfl (by first | assumption | exact vinc (by decide))), trivial, trivial, (q.a 54 22 1648 rfl (by first | assumption | exact vinc (by decide))), trivial, ((q.sm (Sg.pL (Sg.rf gb) (by decide)).1).f 52 7 2 rfl), trivial, trivial, ((q.sm (Sg.pL (Sg.rf gb) (by decide)).1).a 55 22 1648 rfl (by first | assumption | exact vinc (by decide))), trivial, trivial, ((q.sm (Sg.pL (Sg.rf gb) (by decide)).1).a 55 22 1648 rfl (by first | assumption | exact vinc (by decide))), trivial, ((q.sm (Sg.pL (Sg.pL (Sg.rf gb) (by decide)) (by decide)).1).f 52 7 1 rfl), trivial, ((q.sm (Sg.pL (Sg.pL (Sg.rf gb) (by decide)) (by decide)).1).a 54 22 1648 rfl (by first | assumption | exact vinc (by decide))), trivial, ((q.sm (Sg.pL (Sg.pL (Sg.rf gb) (by decide)) (by decide)).1).f 52 7 2 rfl), trivial, ((q.sm (Sg.pL (Sg.pL (Sg.rf gb) (by decide)) (by decide)).1).a 55 22 1648 rfl (by first | assumption | exact vinc (by decide))), trivial, trivial⟩ ?_
      have hJ130 : ∀ (w0_130 : Int32) (M130 : Mem), (Sg M M130) → (w0_130 = 0 ∨ w0_130 = 1) → f_X7_byRest M f = f_X7_byRest_130 w0_130 M130 → V G X 8 0 0 (Qx G X 0 0 (p_X7_byRest M f)) 130 [] [.int w0_130] M130 := by
        intro w0_130 M130 s130 zw0_130 E
        exact V.zret F (zw0_130) (by decide +kernel) ⟨congrArg (fun z => some (Value.int z.1)) E.symm, congrArg Prod.snd E.symm, s130, by rw [E]; exact zw0_130⟩
      refine V.lc_gt (off := 7) F (by decide +kernel) (tgt := 129) (by decide) (fun h122 => ?_) (fun h122 => ?_)
      · replace E := E.trans (if_pos h122)
        refine V.seg F floX7 cjoX7 [.iconst 0] (by decide +kernel) (pc2 := 130) (lv2 := [(6, .long x53), (4, .long x30), (2, .long (mL M 58 (ix f))), (0, .ref 52), (1, .int f)]) (st2 := [.int 0]) (M2 := uL (uL M 54 (ix f) ((mL M 54 (ix f)) + x30)) 55 (ix f) ((mL (uL M 54 (ix f) ((mL M 54 (ix f)) + x30)) 55 (ix f)) - x53)) rfl ⟨trivial, trivial⟩ ?_
        refine V.pick [] rfl ?_
        exact hJ130 0 (uL (uL M 54 (ix f) ((mL M 54 (ix f)) + x30)) 55 (ix f) ((mL (uL M 54 (ix f) ((mL M 54 (ix f)) + x30)) 55 (ix f)) - x53)) (Sg.pL (Sg.pL (Sg.rf gb) (by decide)) (by decide)) (Or.inl rfl) E
      · replace E := E.trans (if_neg h122)
        refine V.seg F floX7 cjoX7 [.iconst 1, .goto 4] (by decide +kernel) (pc2 := 130) (lv2 := [(6, .long x53), (4, .long x30), (2, .long (mL M 58 (ix f))), (0, .ref 52), (1, .int f)]) (st2 := [.int 1]) (M2 := uL (uL M 54 (ix f) ((mL M 54 (ix f)) + x30)) 55 (ix f) ((mL (uL M 54 (ix f) ((mL M 54 (ix f)) + x30)) 55 (ix f)) - x53)) rfl ⟨trivial, (by decide), trivial⟩ ?_
        refine V.pick [] rfl ?_
        exact hJ130 1 (uL (uL M 54 (ix f) ((mL M 54 (ix f)) + x30)) 55 (ix f) ((mL (uL M 54 (ix f) ((mL M 54 (ix f)) + x30)) 55 (ix f)) - x53)) (Sg.pL (Sg.pL (Sg.rf gb) (by decide)) (by decide)) (Or.inr rfl) E
    · replace E := E.trans (if_neg h82)
      refine V.pick [] rfl ?_
      exact hJ85 M (Sg.rf gb) E
def f_X7_byEnds_c116  (M116 : Mem) : Int32 × Mem := (1, M116)
def f_X7_byEnds_50 (f : Int32) (y2_6 : Int64) (M50 : Mem) : Int32 × Mem := if (((mL M50 56 (ix f)) &&& y2_6) &&& ((mL M50 57 (ix f)) ^^^ (mL M50 54 (ix f)))) = 0 then f_X7_byEnds_c116 (uL (uL M50 56 (ix f) ((mL M50 56 (ix f)) ||| y2_6)) 57 (ix f) (((mL (uL M50 56 (ix f) ((mL M50 56 (ix f)) ||| y2_6)) 57 (ix f)) &&& (y2_6 ^^^ ((-1)))) ||| ((mL (uL M50 56 (ix f) ((mL M50 56 (ix f)) ||| y2_6)) 54 (ix f)) &&& y2_6))) else (0, M50)
def f_X7_byEnds_6 (f : Int32) : Nat → Int64 → Nat → Mem → (Int32 × Mem)
  | 0, _, _, M6 => (0, M6)
  | n_ + 1, y2_6, j6, M6 => if (nI j6 - 1) < 0 then f_X7_byEnds_50 f y2_6 M6 else if ((jushr (mL M6 54 (ix f)) (nI j6 - 1)) &&& 1) = ((jushr (mL M6 55 (ix f)) (nI j6 - 1)) &&& 1) then (f_X7_byEnds_6 f n_) (y2_6 ||| (jshl 1 (nI j6 - 1))) (j6 - 1) M6 else f_X7_byEnds_50 f y2_6 M6
def f_X7_byEnds (M : Mem) (f : Int32) : Int32 × Mem := f_X7_byEnds_6 f 65 0 64 M
abbrev p_X7_byEnds (M : Mem) (f : Int32) : Option Value → Mem → Prop := fun r N => r = some (.int (f_X7_byEnds M f).1) ∧ N = (f_X7_byEnds M f).2 ∧ Sg M N ∧ ((f_X7_byEnds M f).1 = 0 ∨ (f_X7_byEnds M f).1 = 1)
set_option maxRecDepth 100000 in
set_option maxHeartbeats 4000000 in
theorem c_X7_byEnds (G : Ctx) (l : Launch) (M : Mem) (f : Int32) (q : Ok M) (gb : Gb M) (i_f : vp_in f 1648) : CT G l 0 mX7_byEnds [.ref 52, .int f] M 0 0 (p_X7_byEnds M f) := by
  refine CT.of (by decide) (Nat.le_of_ble_eq_true rfl) ?_
  intro X d hd hl hRm hnm F
  subst hl
  have E : f_X7_byEnds M f = f_X7_byEnds M f := rfl
  show V G X 5 0 0 (Qx G X 0 0 (p_X7_byEnds M f)) 0 [(0, .ref 52), (1, .int f)] [] M
  refine V.seg F floX7 cjoX7 [.lconst 0, .lstore_n 2, .bipush 63] (by decide +kernel) (pc2 := 4) (lv2 := [(2, .long 0), (0, .ref 52), (1, .int f)]) (st2 := [.int 63]) (M2 := M) rfl ⟨trivial, (by decide), trivial, trivial⟩ ?_
  refine V.seg F floX7 cjoX7 [.istore 4] (by decide +kernel) (pc2 := 6) (lv2 := [(4, .int 63), (2, .long 0), (0, .ref 52), (1, .int f)]) (st2 := []) (M2 := M) rfl ⟨(by decide), trivial⟩ ?_
  have hJ6 : ∀ (n_ : Nat) (y2_6 : Int64) (j6 : Nat) (M6 : Mem), (Sg M M6) → (j6 ≤ 64) → (j6 < n_) → f_X7_byEnds M f = f_X7_byEnds_6 f n_ y2_6 j6 M6 → V G X 5 0 0 (Qx G X 0 0 (p_X7_byEnds M f)) 6 [(0, .ref 52), (1, .int f), (2, .long y2_6), (4, .int (nI j6 - 1))] [] M6 := by
    intro n_
    induction n_ with
    | zero => intro y2_6 j6 M6 s6 b6 m6 E; omega
    | succ n_ ih_6 =>
      intro y2_6 j6 M6 s6 b6 m6 E
      rw [f_X7_byEnds_6] at E
      refine V.seg F floX7 cjoX7 [.iload 4] (by decide +kernel) (pc2 := 8) (lv2 := [(0, .ref 52), (1, .int f), (2, .long y2_6), (4, .int (nI j6 - 1))]) (st2 := [.int (nI j6 - 1)]) (M2 := M6) rfl ⟨trivial, trivial⟩ ?_
      have hJ50 : ∀ (M50 : Mem), (Sg M M50) → f_X7_byEnds M f = f_X7_byEnds_50 f y2_6 M50 → V G X 5 0 0 (Qx G X 0 0 (p_X7_byEnds M f)) 50 [(0, .ref 52), (1, .int f), (2, .long y2_6)] [] M50 := by
        intro M50 s50 E
        refine V.seg F floX7 cjoX7 [.aload_n 0, .getfield 20, .iload_n 1, .laload, .lload_n 2, .land, .aload_n 0, .getfield 23, .iload_n 1, .laload, .aload_n 0, .getfield 13, .iload_n 1, .laload, .lxor, .land, .lconst 0, .lcmp] (by decide +kernel) (pc2 := 74) (lv2 := [(0, .ref 52), (1, .int f), (2, .long y2_6)]) (st2 := [.int (lg_cmp (((mL M50 56 (ix f)) &&& y2_6) &&& ((mL M50 57 (ix f)) ^^^ (mL M50 54 (ix f)))) 0)]) (M2 := M50) rfl ⟨trivial, ((q.sm s50.1).f 52 7 3 rfl), trivial, ((q.sm s50.1).a 56 22 1648 rfl (by first | assumption | exact vinc (by decide))), trivial, trivial, trivial, ((q.sm s50.1).f 52 7 4 rfl), trivial, ((q.sm s50.1).a 57 22 1648 rfl (by first | assumption | exact vinc (by decide))), trivial, ((q.sm s50.1).f 52 7 1 rfl), trivial, ((q.sm s50.1).a 54 22 1648 rfl (by first | assumption | exact vinc (by decide))), trivial, trivial, trivial, trivial, trivial⟩ ?_
        refine V.lc_eq (off := 5) F (by decide +kernel) (tgt := 79) (by decide) (fun h74 => ?_) (fun h74 => ?_)
        · replace E := E.trans (if_pos h74)
          refine V.seg F floX7 cjoX7 [.aload_n 0, .getfield 20, .iload_n 1, .dup2, .laload, .lload_n 2, .lor, .lastore, .aload_n 0, .getfield 23, .iload_n 1, .aload_n 0, .getfield 23, .iload_n 1, .laload, .lload_n 2, .ldc2_w 87, .lxor, .land, .aload_n 0, .getfield 13, .iload_n 1, .laload, .lload_n 2, .land, .lor, .lastore] (by decide +kernel) (pc2 := 116) (lv2 := [(0, .ref 52), (1, .int f), (2, .long y2_6)]) (st2 := []) (M2 := uL (uL M50 56 (ix f) ((mL M50 56 (ix f)) ||| y2_6)) 57 (ix f) (((mL (uL M50 56 (ix f) ((mL M50 56 (ix f)) ||| y2_6)) 57 (ix f)) &&& (y2_6 ^^^ ((-1)))) ||| ((mL (uL M50 56 (ix f) ((mL M50 56 (ix f)) ||| y2_6)) 54 (ix f)) &&& y2_6))) rfl ⟨trivial, ((q.sm s50.1).f 52 7 3 rfl), trivial, trivial, ((q.sm s50.1).a 56 22 1648 rfl (by first | assumption | exact vinc (by decide))), trivial, trivial, ((q.sm s50.1).a 56 22 1648 rfl (by first | assumption | exact vinc (by decide))), trivial, ((q.sm (Sg.pL s50 (by decide)).1).f 52 7 4 rfl), trivial, trivial, ((q.sm (Sg.pL s50 (by decide)).1).f 52 7 4 rfl), trivial, ((q.sm (Sg.pL s50 (by decide)).1).a 57 22 1648 rfl (by first | assumption | exact vinc (by decide))), trivial, trivial, trivial, trivial, trivial, ((q.sm (Sg.pL s50 (by decide)).1).f 52 7 1 rfl), trivial, ((q.sm (Sg.pL s50 (by decide)).1).a 54 22 1648 rfl (by first | assumption | exact vinc (by decide))), trivial, trivial, trivial, ((q.sm (Sg.pL s50 (by decide)).1).a 57 22 1648 rfl (by first | assumption | exact vinc (by decide))), trivial⟩ ?_
          refine (?_ : ∀ (M116 : Mem), (Sg M M116) → f_X7_byEnds M f = f_X7_byEnds_c116 M116 → V G X 5 0 0 (Qx G X 0 0 (p_X7_byEnds M f)) 116 [(0, .ref 52), (1, .int f), (2, .long y2_6)] [] M116) _ (Sg.pL (Sg.pL s50 (by decide)) (by decide)) E
          intro M116 s116 E
          refine V.seg F floX7 cjoX7 [.iconst 1] (by decide +kernel) (pc2 := 117) (lv2 := [(0, .ref 52), (1, .int f), (2, .long y2_6)]) (st2 := [.int 1]) (M2 := M116) rfl ⟨trivial, trivial⟩ ?_
          exact V.zret F (Or.inr rfl) (by decide +kernel) ⟨congrArg (fun z => some (Value.int z.1)) E.symm, congrArg Prod.snd E.symm, s116, by rw [E]; exact Or.inr rfl⟩
        · replace E := E.trans (if_neg h74)
          refine V.seg F floX7 cjoX7 [.iconst 0] (by decide +kernel) (pc2 := 78) (lv2 := [(0, .ref 52), (1, .int f), (2, .long y2_6)]) (st2 := [.int 0]) (M2 := M50) rfl ⟨trivial, trivial⟩ ?_
          exact V.zret F (Or.inl rfl) (by decide +kernel) ⟨congrArg (fun z => some (Value.int z.1)) E.symm, congrArg Prod.snd E.symm, s50, by rw [E]; exact Or.inl rfl⟩
      refine V.if_lt (off := 42) F (by decide +kernel) (tgt := 50) (by decide) (fun h8 => ?_) (fun h8 => ?_)
      · replace E := E.trans (if_pos h8)
        refine V.pick [0, 1, 2] rfl ?_
        exact hJ50 M6 s6 E
      · replace E := E.trans (if_neg h8)
        refine V.seg F floX7 cjoX7 [.aload_n 0, .getfield 13, .iload_n 1, .laload, .iload 4, .lushr, .lconst 1, .land, .aload_n 0, .getfield 17, .iload_n 1, .laload, .iload 4, .lushr, .lconst 1, .land, .lcmp] (by decide +kernel) (pc2 := 34) (lv2 := [(0, .ref 52), (1, .int f), (2, .long y2_6), (4, .int (nI j6 - 1))]) (st2 := [.int (lg_cmp ((jushr (mL M6 54 (ix f)) (nI j6 - 1)) &&& 1) ((jushr (mL M6 55 (ix f)) (nI j6 - 1)) &&& 1))]) (M2 := M6) rfl ⟨trivial, ((q.sm s6.1).f 52 7 1 rfl), trivial, ((q.sm s6.1).a 54 22 1648 rfl (by first | assumption | exact vinc (by decide))), trivial, trivial, trivial, trivial, trivial, ((q.sm s6.1).f 52 7 2 rfl), trivial, ((q.sm s6.1).a 55 22 1648 rfl (by first | assumption | exact vinc (by decide))), trivial, trivial, trivial, trivial, trivial, trivial⟩ ?_
        refine V.lc_ne (off := 16) F (by decide +kernel) (tgt := 50) (by decide) (fun h34 => ?_) (fun h34 => ?_)
        · replace E := E.trans (if_neg h34)
          refine V.pick [0, 1, 2] rfl ?_
          exact hJ50 M6 s6 E
        · replace E := E.trans (if_pos h34)
          refine V.seg F floX7 cjoX7 [.lload_n 2, .lconst 1, .iload 4, .lshl, .lor, .lstore_n 2, .iinc 4 (-1), .goto (-41)] (by decide +kernel) (pc2 := 6) (lv2 := [(4, .int ((nI j6 - 1) + (-1))), (2, .long (y2_6 ||| (jshl 1 (nI j6 - 1)))), (0, .ref 52), (1, .int f)]) (st2 := []) (M2 := M6) rfl ⟨trivial, trivial, trivial, trivial, trivial, (by decide), (by decide), (by decide), trivial⟩ ?_
          refine V.pick [2, 3, 1, 0] rfl ?_
          rw [dn_1 (by have hlt_ := dn_pos h8 (by omega); omega)]
          exact ih_6 (y2_6 ||| (jshl 1 (nI j6 - 1))) (j6 - 1) M6 s6 (by have hlt_ := dn_pos h8 (by omega); omega) (by have hlt_ := dn_pos h8 (by omega); omega) E
  refine V.pick [2, 3, 1, 0] rfl ?_
  exact hJ6 _ 0 64 M (Sg.rf gb) (by omega) (by omega) E
def f_X7_sharpen_177  (M177 : Mem) : Mem := M177
def f_X7_sharpen_170 (j17 : Nat) (R17_ : Int32 → Nat → Mem → Mem) (w0_170 : Int32) (M170 : Mem) : Mem := R17_ w0_170 (j17 + 1) M170
def f_X7_sharpen_165 (j17 : Nat) (R17_ : Int32 → Nat → Mem → Mem) (M165 : Mem) : Mem := f_X7_sharpen_170 j17 R17_ 1 M165
def f_X7_sharpen_c128  (M128 : Mem) : Mem := M128
def f_X7_sharpen_c100  (M100 : Mem) : Mem := M100
def f_X7_sharpen_88 (f : Int32) (j17 : Nat) (M17 : Mem) (R17_ : Int32 → Nat → Mem → Mem) (w0_88 : Int32) (M88 : Mem) : Mem := if w0_88 = 0 then f_X7_sharpen_c100 (f_X7_nothing M88 f) else if (mL M88 54 (ix f)) = (mL M88 55 (ix f)) then f_X7_sharpen_c128 (f_X7_number M88 f (mL M88 54 (ix f))) else if (mL M17 54 (ix f)) = (mL M88 54 (ix f)) then if (mL M17 55 (ix f)) = (mL M88 55 (ix f)) then if (mL M17 56 (ix f)) = (mL M88 56 (ix f)) then f_X7_sharpen_170 j17 R17_ 0 M88 else f_X7_sharpen_165 j17 R17_ M88 else f_X7_sharpen_165 j17 R17_ M88 else f_X7_sharpen_165 j17 R17_ M88
def f_X7_sharpen_87 (f : Int32) (j17 : Nat) (M17 : Mem) (R17_ : Int32 → Nat → Mem → Mem) (M87 : Mem) : Mem := f_X7_sharpen_88 f j17 M17 R17_ 0 M87
def f_X7_sharpen_c80 (f : Int32) (j17 : Nat) (M17 : Mem) (R17_ : Int32 → Nat → Mem → Mem) (x80 : Int32) (M80 : Mem) : Mem := if x80 = 0 then f_X7_sharpen_87 f j17 M17 R17_ M80 else f_X7_sharpen_88 f j17 M17 R17_ 1 M80
def f_X7_sharpen_c72 (f : Int32) (j17 : Nat) (M17 : Mem) (R17_ : Int32 → Nat → Mem → Mem) (x72 : Int32) (M72 : Mem) : Mem := if x72 = 0 then f_X7_sharpen_87 f j17 M17 R17_ M72 else f_X7_sharpen_c80 f j17 M17 R17_ ((f_X7_byEnds M72 f).1) ((f_X7_byEnds M72 f).2)
def f_X7_sharpen_c64 (f : Int32) (j17 : Nat) (M17 : Mem) (R17_ : Int32 → Nat → Mem → Mem) (x64 : Int32) (M64 : Mem) : Mem := if x64 = 0 then f_X7_sharpen_87 f j17 M17 R17_ M64 else f_X7_sharpen_c72 f j17 M17 R17_ ((f_X7_byRest M64 f).1) ((f_X7_byRest M64 f).2)
def f_X7_sharpen_17 (f : Int32) : Nat → Int32 → Nat → Mem → Mem
  | 0, _, _, M17 => M17
  | n_ + 1, y2_17, j17, M17 => if 6 ≤ (nI j17) then f_X7_sharpen_177 M17 else if y2_17 = 0 then f_X7_sharpen_177 M17 else if (mL M17 55 (ix f)) < (mL M17 54 (ix f)) then f_X7_sharpen_87 f j17 M17 (f_X7_sharpen_17 f n_) M17 else f_X7_sharpen_c64 f j17 M17 (f_X7_sharpen_17 f n_) ((f_X7_byBits M17 f).1) ((f_X7_byBits M17 f).2)
def f_X7_sharpen_14 (f : Int32) (w0_14 : Int32) (M14 : Mem) : Mem := f_X7_sharpen_17 f 7 w0_14 0 M14
def f_X7_sharpen (M : Mem) (f : Int32) : Mem := if (mI M 53 (ix f)) = 0 then f_X7_sharpen_14 f 1 M else f_X7_sharpen_14 f 0 M
abbrev p_X7_sharpen (M : Mem) (f : Int32) : Option Value → Mem → Prop := fun r N => r = none ∧ N = f_X7_sharpen M f ∧ Sg M N
set_option maxRecDepth 100000 in
set_option maxHeartbeats 4000000 in
theorem c_X7_sharpen (G : Ctx) (l : Launch) (M : Mem) (f : Int32) (q : Ok M) (gb : Gb M) (i_f : vp_in f 1648) : CT G l 3 mX7_sharpen [.ref 52, .int f] M 0 0 (p_X7_sharpen M f) := by
  refine CT.of (by decide) (Nat.le_of_ble_eq_true rfl) ?_
  intro X d hd hl hRm hnm F
  subst hl
  have E : f_X7_sharpen M f = f_X7_sharpen M f := rfl
  show V G X 11 0 0 (Qx G X 0 0 (p_X7_sharpen M f)) 0 [(0, .ref 52), (1, .int f)] [] M
  refine V.seg F floX7 cjoX7 [.aload_n 0, .getfield 9, .iload_n 1, .baload] (by decide +kernel) (pc2 := 6) (lv2 := [(0, .ref 52), (1, .int f)]) (st2 := [.int (mI M 53 (ix f))]) (M2 := M) rfl ⟨trivial, (q.f 52 7 0 rfl), trivial, (q.a 53 21 1648 rfl (by first | assumption | exact vinc (by decide))), trivial⟩ ?_
  have hJ14 : ∀ (w0_14 : Int32) (M14 : Mem), (Sg M M14) → f_X7_sharpen M f = f_X7_sharpen_14 f w0_14 M14 → V G X 11 0 0 (Qx G X 0 0 (p_X7_sharpen M f)) 14 [(0, .ref 52), (1, .int f)] [.int w0_14] M14 := by
    intro w0_14 M14 s14 E
    refine V.seg F floX7 cjoX7 [.istore_n 2, .iconst 0] (by decide +kernel) (pc2 := 16) (lv2 := [(2, .int w0_14), (0, .ref 52), (1, .int f)]) (st2 := [.int 0]) (M2 := M14) rfl ⟨(by decide), trivial, trivial⟩ ?_
    refine V.seg F floX7 cjoX7 [.istore_n 3] (by decide +kernel) (pc2 := 17) (lv2 := [(3, .int 0), (2, .int w0_14), (0, .ref 52), (1, .int f)]) (st2 := []) (M2 := M14) rfl ⟨(by decide), trivial⟩ ?_
    have hJ17 : ∀ (n_ : Nat) (y2_17 : Int32) (j17 : Nat) (M17 : Mem), (Sg M M17) → (j17 ≤ 6) → (6 - j17 < n_) → f_X7_sharpen M f = f_X7_sharpen_17 f n_ y2_17 j17 M17 → V G X 11 0 0 (Qx G X 0 0 (p_X7_sharpen M f)) 17 [(0, .ref 52), (1, .int f), (2, .int y2_17), (3, .int (nI j17))] [] M17 := by
      intro n_
      induction n_ with
      | zero => intro y2_17 j17 M17 s17 b17 m17 E; omega
      | succ n_ ih_17 =>
        intro y2_17 j17 M17 s17 b17 m17 E
        rw [f_X7_sharpen_17] at E
        refine V.seg F floX7 cjoX7 [.iload_n 3, .bipush 6] (by decide +kernel) (pc2 := 20) (lv2 := [(0, .ref 52), (1, .int f), (2, .int y2_17), (3, .int (nI j17))]) (st2 := [.int 6, .int (nI j17)]) (M2 := M17) rfl ⟨trivial, trivial, trivial⟩ ?_
        have hJ177 : ∀ (M177 : Mem), (Sg M M177) → f_X7_sharpen M f = f_X7_sharpen_177 M177 → V G X 11 0 0 (Qx G X 0 0 (p_X7_sharpen M f)) 177 [] [] M177 := by
          intro M177 s177 E
          exact V.vret F (by decide +kernel) ⟨rfl, E.symm, s177⟩
        refine V.ic_ge (off := 157) F (by decide +kernel) (tgt := 177) (by decide) (fun h20 => ?_) (fun h20 => ?_)
        · replace E := E.trans (if_pos h20)
          refine V.pick [] rfl ?_
          exact hJ177 M17 s17 E
        · replace E := E.trans (if_neg h20)
          refine V.seg F floX7 cjoX7 [.iload_n 2] (by decide +kernel) (pc2 := 24) (lv2 := [(0, .ref 52), (1, .int f), (2, .int y2_17), (3, .int (nI j17))]) (st2 := [.int y2_17]) (M2 := M17) rfl ⟨trivial, trivial⟩ ?_
          refine V.if_eq (off := 153) F (by decide +kernel) (tgt := 177) (by decide) (fun h24 => ?_) (fun h24 => ?_)
          · replace E := E.trans (if_pos h24)
            refine V.pick [] rfl ?_
            exact hJ177 M17 s17 E
          · replace E := E.trans (if_neg h24)
            refine V.seg F floX7 cjoX7 [.aload_n 0, .getfield 13, .iload_n 1, .laload, .lstore 4, .aload_n 0, .getfield 17, .iload_n 1, .laload, .lstore 6, .aload_n 0, .getfield 20, .iload_n 1, .laload, .lstore 8, .lload 4, .lload 6, .lcmp] (by decide +kernel) (pc2 := 56) (lv2 := [(8, .long (mL M17 56 (ix f))), (6, .long (mL M17 55 (ix f))), (4, .long (mL M17 54 (ix f))), (0, .ref 52), (1, .int f), (2, .int y2_17), (3, .int (nI j17))]) (st2 := [.int (lg_cmp (mL M17 54 (ix f)) (mL M17 55 (ix f)))]) (M2 := M17) rfl ⟨trivial, ((q.sm s17.1).f 52 7 1 rfl), trivial, ((q.sm s17.1).a 54 22 1648 rfl (by first | assumption | exact vinc (by decide))), (by decide), trivial, ((q.sm s17.1).f 52 7 2 rfl), trivial, ((q.sm s17.1).a 55 22 1648 rfl (by first | assumption | exact vinc (by decide))), (by decide), trivial, ((q.sm s17.1).f 52 7 3 rfl), trivial, ((q.sm s17.1).a 56 22 1648 rfl (by first | assumption | exact vinc (by decide))), (by decide), trivial, trivial, trivial, trivial⟩ ?_
            have hJ88 : ∀ (w0_88 : Int32) (M88 : Mem), (Sg M M88) → f_X7_sharpen M f = f_X7_sharpen_88 f j17 M17 (f_X7_sharpen_17 f n_) w0_88 M88 → V G X 11 0 0 (Qx G X 0 0 (p_X7_sharpen M f)) 88 [(0, .ref 52), (1, .int f), (3, .int (nI j17)), (4, .long (mL M17 54 (ix f))), (6, .long (mL M17 55 (ix f))), (8, .long (mL M17 56 (ix f)))] [.int w0_88] M88 := by
              intro w0_88 M88 s88 E
              refine V.seg F floX7 cjoX7 [.istore 10, .iload 10] (by decide +kernel) (pc2 := 92) (lv2 := [(10, .int w0_88), (0, .ref 52), (1, .int f), (3, .int (nI j17)), (4, .long (mL M17 54 (ix f))), (6, .long (mL M17 55 (ix f))), (8, .long (mL M17 56 (ix f)))]) (st2 := [.int w0_88]) (M2 := M88) rfl ⟨(by decide), trivial, trivial⟩ ?_
              refine V.if_ne (off := 9) F (by decide +kernel) (tgt := 101) (by decide) (fun h92 => ?_) (fun h92 => ?_)
              · replace E := E.trans (if_neg h92)
                refine V.seg F floX7 cjoX7 [.aload_n 0, .getfield 13, .iload_n 1, .laload, .aload_n 0, .getfield 17, .iload_n 1, .laload, .lcmp] (by decide +kernel) (pc2 := 114) (lv2 := [(10, .int w0_88), (0, .ref 52), (1, .int f), (3, .int (nI j17)), (4, .long (mL M17 54 (ix f))), (6, .long (mL M17 55 (ix f))), (8, .long (mL M17 56 (ix f)))]) (st2 := [.int (lg_cmp (mL M88 54 (ix f)) (mL M88 55 (ix f)))]) (M2 := M88) rfl ⟨trivial, ((q.sm s88.1).f 52 7 1 rfl), trivial, ((q.sm s88.1).a 54 22 1648 rfl (by first | assumption | exact vinc (by decide))), trivial, ((q.sm s88.1).f 52 7 2 rfl), trivial, ((q.sm s88.1).a 55 22 1648 rfl (by first | assumption | exact vinc (by decide))), trivial, trivial⟩ ?_
                refine V.lc_ne (off := 15) F (by decide +kernel) (tgt := 129) (by decide) (fun h114 => ?_) (fun h114 => ?_)
                · replace E := E.trans (if_neg h114)
                  refine V.seg F floX7 cjoX7 [.lload 4, .aload_n 0, .getfield 13, .iload_n 1, .laload, .lcmp] (by decide +kernel) (pc2 := 138) (lv2 := [(10, .int w0_88), (0, .ref 52), (1, .int f), (3, .int (nI j17)), (4, .long (mL M17 54 (ix f))), (6, .long (mL M17 55 (ix f))), (8, .long (mL M17 56 (ix f)))]) (st2 := [.int (lg_cmp (mL M17 54 (ix f)) (mL M88 54 (ix f)))]) (M2 := M88) rfl ⟨trivial, trivial, ((q.sm s88.1).f 52 7 1 rfl), trivial, ((q.sm s88.1).a 54 22 1648 rfl (by first | assumption | exact vinc (by decide))), trivial, trivial⟩ ?_
                  have hJ170 : ∀ (w0_170 : Int32) (M170 : Mem), (Sg M M170) → f_X7_sharpen M f = f_X7_sharpen_170 j17 (f_X7_sharpen_17 f n_) w0_170 M170 → V G X 11 0 0 (Qx G X 0 0 (p_X7_sharpen M f)) 170 [(0, .ref 52), (1, .int f), (3, .int (nI j17))] [.int w0_170] M170 := by
                    intro w0_170 M170 s170 E
                    refine V.seg F floX7 cjoX7 [.istore_n 2, .iinc 3 1, .goto (-157)] (by decide +kernel) (pc2 := 17) (lv2 := [(3, .int ((nI j17) + 1)), (2, .int w0_170), (0, .ref 52), (1, .int f)]) (st2 := []) (M2 := M170) rfl ⟨(by decide), (by decide), (by decide), trivial⟩ ?_
                    refine V.pick [2, 3, 1, 0] rfl ?_
                    rw [nI_1]
                    exact ih_17 w0_170 (j17 + 1) M170 s170 (by have hlt_ := cnt_lt (n := 6) h20 rfl (by omega) (by decide); omega) (by have hlt_ := cnt_lt (n := 6) h20 rfl (by omega) (by decide); omega) E
                  have hJ165 : ∀ (M165 : Mem), (Sg M M165) → f_X7_sharpen M f = f_X7_sharpen_165 j17 (f_X7_sharpen_17 f n_) M165 → V G X 11 0 0 (Qx G X 0 0 (p_X7_sharpen M f)) 165 [(0, .ref 52), (1, .int f), (3, .int (nI j17))] [] M165 := by
                    intro M165 s165 E
                    refine V.seg F floX7 cjoX7 [.iconst 1, .goto 4] (by decide +kernel) (pc2 := 170) (lv2 := [(0, .ref 52), (1, .int f), (3, .int (nI j17))]) (st2 := [.int 1]) (M2 := M165) rfl ⟨trivial, (by decide), trivial⟩ ?_
                    refine V.pick [0, 1, 2] rfl ?_
                    exact hJ170 1 M165 s165 E
                  refine V.lc_ne (off := 27) F (by decide +kernel) (tgt := 165) (by decide) (fun h138 => ?_) (fun h138 => ?_)
                  · replace E := E.trans (if_neg h138)
                    refine V.pick [1, 2, 3] rfl ?_
                    exact hJ165 M88 s88 E
                  · replace E := E.trans (if_pos h138)
                    refine V.seg F floX7 cjoX7 [.lload 6, .aload_n 0, .getfield 17, .iload_n 1, .laload, .lcmp] (by decide +kernel) (pc2 := 150) (lv2 := [(10, .int w0_88), (0, .ref 52), (1, .int f), (3, .int (nI j17)), (4, .long (mL M17 54 (ix f))), (6, .long (mL M17 55 (ix f))), (8, .long (mL M17 56 (ix f)))]) (st2 := [.int (lg_cmp (mL M17 55 (ix f)) (mL M88 55 (ix f)))]) (M2 := M88) rfl ⟨trivial, trivial, ((q.sm s88.1).f 52 7 2 rfl), trivial, ((q.sm s88.1).a 55 22 1648 rfl (by first | assumption | exact vinc (by decide))), trivial, trivial⟩ ?_
                    refine V.lc_ne (off := 15) F (by decide +kernel) (tgt := 165) (by decide) (fun h150 => ?_) (fun h150 => ?_)
                    · replace E := E.trans (if_neg h150)
                      refine V.pick [1, 2, 3] rfl ?_
                      exact hJ165 M88 s88 E
                    · replace E := E.trans (if_pos h150)
                      refine V.seg F floX7 cjoX7 [.lload 8, .aload_n 0, .getfield 20, .iload_n 1, .laload, .lcmp] (by decide +kernel) (pc2 := 162) (lv2 := [(10, .int w0_88), (0, .ref 52), (1, .int f), (3, .int (nI j17)), (4, .long (mL M17 54 (ix f))), (6, .long (mL M17 55 (ix f))), (8, .long (mL M17 56 (ix f)))]) (st2 := [.int (lg_cmp (mL M17 56 (ix f)) (mL M88 56 (ix f)))]) (M2 := M88) rfl ⟨trivial, trivial, ((q.sm s88.1).f 52 7 3 rfl), trivial, ((q.sm s88.1).a 56 22 1648 rfl (by first | assumption | exact vinc (by decide))), trivial, trivial⟩ ?_
                      refine V.lc_eq (off := 7) F (by decide +kernel) (tgt := 169) (by decide) (fun h162 => ?_) (fun h162 => ?_)
                      · replace E := E.trans (if_pos h162)
                        refine V.seg F floX7 cjoX7 [.iconst 0] (by decide +kernel) (pc2 := 170) (lv2 := [(10, .int w0_88), (0, .ref 52), (1, .int f), (3, .int (nI j17)), (4, .long (mL M17 54 (ix f))), (6, .long (mL M17 55 (ix f))), (8, .long (mL M17 56 (ix f)))]) (st2 := [.int 0]) (M2 := M88) rfl ⟨trivial, trivial⟩ ?_
                        refine V.pick [1, 2, 3] rfl ?_
                        exact hJ170 0 M88 s88 E
                      · replace E := E.trans (if_neg h162)
                        refine V.pick [1, 2, 3] rfl ?_
                        exact hJ165 M88 s88 E
                · replace E := E.trans (if_pos h114)
                  refine V.seg F floX7 cjoX7 [.aload_n 0, .iload_n 1, .aload_n 0, .getfield 13, .iload_n 1, .laload] (by decide +kernel) (pc2 := 125) (lv2 := [(10, .int w0_88), (0, .ref 52), (1, .int f), (3, .int (nI j17)), (4, .long (mL M17 54 (ix f))), (6, .long (mL M17 55 (ix f))), (8, .long (mL M17 56 (ix f)))]) (st2 := [.long (mL M88 54 (ix f)), .int f, .ref 52]) (M2 := M88) rfl ⟨trivial, trivial, trivial, ((q.sm s88.1).f 52 7 1 rfl), trivial, ((q.sm s88.1).a 54 22 1648 rfl (by first | assumption | exact vinc (by decide))), trivial⟩ ?_
                  refine V.callV (as := [.int f, .long (mL M88 54 (ix f))]) (rest := []) F (by decide +kernel) lX7_118 bX7_number ⟨7, _, ((q.sm s88.1).o 52 7 rfl), rfl, rfl⟩ (c_X7_number G X.2.1 M88 f (mL M88 54 (ix f)) (q.sm s88.1) s88.2 (by first | assumption | exact vinc (by decide))) (rm_ok hRm hd (by decide) (by decide)) ⟨Nat.zero_le _, Nat.zero_le _⟩ (Nat.le_of_ble_eq_true rfl) (fun r_ N_ p_ => ?_)
                  obtain ⟨rfl, rfl, t125⟩ := p_
                  refine (?_ : ∀ (M128 : Mem), (Sg M M128) → f_X7_sharpen M f = f_X7_sharpen_c128 M128 → V G X 11 0 0 (Qx G X 0 0 (p_X7_sharpen M f)) 128 [(10, .int w0_88), (0, .ref 52), (1, .int f), (3, .int (nI j17)), (4, .long (mL M17 54 (ix f))), (6, .long (mL M17 55 (ix f))), (8, .long (mL M17 56 (ix f)))] [] M128) _ (Sg.tr s88 t125) E
                  intro M128 s128 E
                  exact V.vret F (by decide +kernel) ⟨rfl, E.symm, s128⟩
              · replace E := E.trans (if_pos h92)
                refine V.seg F floX7 cjoX7 [.aload_n 0, .iload_n 1] (by decide +kernel) (pc2 := 97) (lv2 := [(10, .int w0_88), (0, .ref 52), (1, .int f), (3, .int (nI j17)), (4, .long (mL M17 54 (ix f))), (6, .long (mL M17 55 (ix f))), (8, .long (mL M17 56 (ix f)))]) (st2 := [.int f, .ref 52]) (M2 := M88) rfl ⟨trivial, trivial, trivial⟩ ?_
                refine V.callV (as := [.int f]) (rest := []) F (by decide +kernel) lX7_115 bX7_nothing ⟨7, _, ((q.sm s88.1).o 52 7 rfl), rfl, rfl⟩ (c_X7_nothing G X.2.1 M88 f (q.sm s88.1) s88.2 (by first | assumption | exact vinc (by decide))) (rm_ok hRm hd (by decide) (by decide)) ⟨Nat.zero_le _, Nat.zero_le _⟩ (Nat.le_of_ble_eq_true rfl) (fun r_ N_ p_ => ?_)
                obtain ⟨rfl, rfl, t97⟩ := p_
                refine (?_ : ∀ (M100 : Mem), (Sg M M100) → f_X7_sharpen M f = f_X7_sharpen_c100 M100 → V G X 11 0 0 (Qx G X 0 0 (p_X7_sharpen M f)) 100 [(10, .int w0_88), (0, .ref 52), (1, .int f), (3, .int (nI j17)), (4, .long (mL M17 54 (ix f))), (6, .long (mL M17 55 (ix f))), (8, .long (mL M17 56 (ix f)))] [] M100) _ (Sg.tr s88 t97) E
                intro M100 s100 E
                exact V.vret F (by decide +kernel) ⟨rfl, E.symm, s100⟩
            have hJ87 : ∀ (M87 : Mem), (Sg M M87) → f_X7_sharpen M f = f_X7_sharpen_87 f j17 M17 (f_X7_sharpen_17 f n_) M87 → V G X 11 0 0 (Qx G X 0 0 (p_X7_sharpen M f)) 87 [(0, .ref 52), (1, .int f), (3, .int (nI j17)), (4, .long (mL M17 54 (ix f))), (6, .long (mL M17 55 (ix f))), (8, .long (mL M17 56 (ix f)))] [] M87 := by
              intro M87 s87 E
              refine V.seg F floX7 cjoX7 [.iconst 0] (by decide +kernel) (pc2 := 88) (lv2 := [(0, .ref 52), (1, .int f), (3, .int (nI j17)), (4, .long (mL M17 54 (ix f))), (6, .long (mL M17 55 (ix f))), (8, .long (mL M17 56 (ix f)))]) (st2 := [.int 0]) (M2 := M87) rfl ⟨trivial, trivial⟩ ?_
              refine V.pick [0, 1, 2, 3, 4, 5] rfl ?_
              exact hJ88 0 M87 s87 E
            refine V.lc_gt (off := 31) F (by decide +kernel) (tgt := 87) (by decide) (fun h56 => ?_) (fun h56 => ?_)
            · replace E := E.trans (if_pos h56)
              refine V.pick [3, 4, 6, 2, 1, 0] rfl ?_
              exact hJ87 M17 s17 E
            · replace E := E.trans (if_neg h56)
              refine V.seg F floX7 cjoX7 [.aload_n 0, .iload_n 1] (by decide +kernel) (pc2 := 61) (lv2 := [(8, .long (mL M17 56 (ix f))), (6, .long (mL M17 55 (ix f))), (4, .long (mL M17 54 (ix f))), (0, .ref 52), (1, .int f), (2, .int y2_17), (3, .int (nI j17))]) (st2 := [.int f, .ref 52]) (M2 := M17) rfl ⟨trivial, trivial, trivial⟩ ?_
              refine V.callV (as := [.int f]) (rest := []) F (by decide +kernel) lX7_105 bX7_byBits ⟨7, _, ((q.sm s17.1).o 52 7 rfl), rfl, rfl⟩ (c_X7_byBits G X.2.1 M17 f (q.sm s17.1) s17.2 (by first | assumption | exact vinc (by decide))) (rm_ok hRm hd (by decide) (by decide)) ⟨Nat.zero_le _, Nat.zero_le _⟩ (Nat.le_of_ble_eq_true rfl) (fun r_ N_ p_ => ?_)
              obtain ⟨rfl, rfl, t61, z61⟩ := p_
              refine (?_ : ∀ (x64 : Int32) (M64 : Mem), (x64 = 0 ∨ x64 = 1) → Sg M M64 → f_X7_sharpen M f = f_X7_sharpen_c64 f j17 M17 (f_X7_sharpen_17 f n_) x64 M64 → V G X 11 0 0 (Qx G X 0 0 (p_X7_sharpen M f)) 64 [(8, .long (mL M17 56 (ix f))), (6, .long (mL M17 55 (ix f))), (4, .long (mL M17 54 (ix f))), (0, .ref 52), (1, .int f), (2, .int y2_17), (3, .int (nI j17))] [.int x64] M64) _ _ z61 (Sg.tr s17 t61) E
              intro x64 M64 z64 s64 E
              refine V.if_eq (off := 23) F (by decide +kernel) (tgt := 87) (by decide) (fun h64 => ?_) (fun h64 => ?_)
              · replace E := E.trans (if_pos h64)
                refine V.pick [3, 4, 6, 2, 1, 0] rfl ?_
                exact hJ87 M64 s64 E
              · replace E := E.trans (if_neg h64)
                refine V.seg F floX7 cjoX7 [.aload_n 0, .iload_n 1] (by decide +kernel) (pc2 := 69) (lv2 := [(8, .long (mL M17 56 (ix f))), (6, .long (mL M17 55 (ix f))), (4, .long (mL M17 54 (ix f))), (0, .ref 52), (1, .int f), (2, .int y2_17), (3, .int (nI j17))]) (st2 := [.int f, .ref 52]) (M2 := M64) rfl ⟨trivial, trivial, trivial⟩ ?_
                refine V.callV (as := [.int f]) (rest := []) F (by decide +kernel) lX7_109 bX7_byRest ⟨7, _, ((q.sm s64.1).o 52 7 rfl), rfl, rfl⟩ (c_X7_byRest G X.2.1 M64 f (q.sm s64.1) s64.2 (by first | assumption | exact vinc (by decide))) (rm_ok hRm hd (by decide) (by decide)) ⟨Nat.zero_le _, Nat.zero_le _⟩ (Nat.le_of_ble_eq_true rfl) (fun r_ N_ p_ => ?_)
                obtain ⟨rfl, rfl, t69, z69⟩ := p_
                refine (?_ : ∀ (x72 : Int32) (M72 : Mem), (x72 = 0 ∨ x72 = 1) → Sg M M72 → f_X7_sharpen M f = f_X7_sharpen_c72 f j17 M17 (f_X7_sharpen_17 f n_) x72 M72 → V G X 11 0 0 (Qx G X 0 0 (p_X7_sharpen M f)) 72 [(8, .long (mL M17 56 (ix f))), (6, .long (mL M17 55 (ix f))), (4, .long (mL M17 54 (ix f))), (0, .ref 52), (1, .int f), (2, .int y2_17), (3, .int (nI j17))] [.int x72] M72) _ _ z69 (Sg.tr s64 t69) E
                intro x72 M72 z72 s72 E
                refine V.if_eq (off := 15) F (by decide +kernel) (tgt := 87) (by decide) (fun h72 => ?_) (fun h72 => ?_)
                · replace E := E.trans (if_pos h72)
                  refine V.pick [3, 4, 6, 2, 1, 0] rfl ?_
                  exact hJ87 M72 s72 E
                · replace E := E.trans (if_neg h72)
                  refine V.seg F floX7 cjoX7 [.aload_n 0, .iload_n 1] (by decide +kernel) (pc2 := 77) (lv2 := [(8, .long (mL M17 56 (ix f))), (6, .long (mL M17 55 (ix f))), (4, .long (mL M17 54 (ix f))), (0, .ref 52), (1, .int f), (2, .int y2_17), (3, .int (nI j17))]) (st2 := [.int f, .ref 52]) (M2 := M72) rfl ⟨trivial, trivial, trivial⟩ ?_
                  refine V.callV (as := [.int f]) (rest := []) F (by decide +kernel) lX7_112 bX7_byEnds ⟨7, _, ((q.sm s72.1).o 52 7 rfl), rfl, rfl⟩ (c_X7_byEnds G X.2.1 M72 f (q.sm s72.1) s72.2 (by first | assumption | exact vinc (by decide))) (rm_ok hRm hd (by decide) (by decide)) ⟨Nat.zero_le _, Nat.zero_le _⟩ (Nat.le_of_ble_eq_true rfl) (fun r_ N_ p_ => ?_)
                  obtain ⟨rfl, rfl, t77, z77⟩ := p_
                  refine (?_ : ∀ (x80 : Int32) (M80 : Mem), (x80 = 0 ∨ x80 = 1) → Sg M M80 → f_X7_sharpen M f = f_X7_sharpen_c80 f j17 M17 (f_X7_sharpen_17 f n_) x80 M80 → V G X 11 0 0 (Qx G X 0 0 (p_X7_sharpen M f)) 80 [(8, .long (mL M17 56 (ix f))), (6, .long (mL M17 55 (ix f))), (4, .long (mL M17 54 (ix f))), (0, .ref 52), (1, .int f), (2, .int y2_17), (3, .int (nI j17))] [.int x80] M80) _ _ z77 (Sg.tr s72 t77) E
                  intro x80 M80 z80 s80 E
                  refine V.if_eq (off := 7) F (by decide +kernel) (tgt := 87) (by decide) (fun h80 => ?_) (fun h80 => ?_)
                  · replace E := E.trans (if_pos h80)
                    refine V.pick [3, 4, 6, 2, 1, 0] rfl ?_
                    exact hJ87 M80 s80 E
                  · replace E := E.trans (if_neg h80)
                    refine V.seg F floX7 cjoX7 [.iconst 1, .goto 4] (by decide +kernel) (pc2 := 88) (lv2 := [(8, .long (mL M17 56 (ix f))), (6, .long (mL M17 55 (ix f))), (4, .long (mL M17 54 (ix f))), (0, .ref 52), (1, .int f), (2, .int y2_17), (3, .int (nI j17))]) (st2 := [.int 1]) (M2 := M80) rfl ⟨trivial, (by decide), trivial⟩ ?_
                    refine V.pick [3, 4, 6, 2, 1, 0] rfl ?_
                    exact hJ88 1 M80 s80 E
    refine V.pick [2, 3, 1, 0] rfl ?_
    exact hJ17 _ w0_14 0 M14 s14 (by omega) (by omega) E
  refine V.if_ne (off := 7) F (by decide +kernel) (tgt := 13) (by decide) (fun h6 => ?_) (fun h6 => ?_)
  · replace E := E.trans (if_neg h6)
    refine V.seg F floX7 cjoX7 [.iconst 0] (by decide +kernel) (pc2 := 14) (lv2 := [(0, .ref 52), (1, .int f)]) (st2 := [.int 0]) (M2 := M) rfl ⟨trivial, trivial⟩ ?_
    refine V.pick [0, 1] rfl ?_
    exact hJ14 0 M (Sg.rf gb) E
  · replace E := E.trans (if_pos h6)
    refine V.seg F floX7 cjoX7 [.iconst 1, .goto 4] (by decide +kernel) (pc2 := 14) (lv2 := [(0, .ref 52), (1, .int f)]) (st2 := [.int 1]) (M2 := M) rfl ⟨trivial, (by decide), trivial⟩ ?_
    refine V.pick [0, 1] rfl ?_
    exact hJ14 1 M (Sg.rf gb) E
end
section
theorem uN_sub (x y : Int64) : uN (x - y) = (18446744073709551616 - uN y + uN x) % 18446744073709551616 := by
  show (x.toUInt64 - y.toUInt64).toNat = _
  exact UInt64.toNat_sub _ _
theorem uN_neg {r : Int64} : 0 ≤ r ↔ uN r < 9223372036854775808 := by
  rw [Int64.le_iff_toInt_le, uN_int r]
  have h := uN_lt r
  have h0 : (0 : Int64).toInt = 0 := rfl
  rw [h0]
  split <;> omega
theorem uN_ltx (x y : Int64) : (x ^^^ (-9223372036854775808)) < (y ^^^ (-9223372036854775808)) ↔ uN x < uN y := by
  have h := uN_le y x
  rw [← Int64.not_le, h]
  omega
theorem uN_and1 (x : Int64) : uN (x &&& 1) = uN x % 2 := by
  show (x.toUInt64 &&& (1 : Int64).toUInt64).toNat = _
  rw [UInt64.toNat_and]
  exact Nat.and_one_is_mod _
theorem uN_js (x : Int64) {k : Nat} (hk : k < 64) : uN (jushr x (nI k)) = uN x / 2 ^ k := uN_sk x hk
theorem left_loop (a b : Int64) (hb : 0 < uN b) : ∀ (n : Nat) (r : Int64) (j : Nat), j ≤ 64 → j < n → uN r = (uN a / 2 ^ j) % uN b → uN (f_X7_left_7 a b n r j) = uN a % uN b := by
  intro n
  induction n with
  | zero => intro r j _ h; omega
  | succ n ih =>
    intro r j hj hn hr
    rw [f_X7_left_7]
    rcases Nat.eq_zero_or_pos j with e | e
    · subst e
      rw [if_pos (by decide), hr]
      simp
    · obtain ⟨i, rfl⟩ : ∃ i, j = i + 1 := ⟨j - 1, by omega⟩
      have e1 : nI (i + 1) - 1 = nI i := nI_pred i
      have hneg : ¬ nI i < 0 := nI_pos (by omega)
      have hx : uN ((jushr a (nI i)) &&& 1) = uN a / 2 ^ i % 2 := by rw [uN_and1, uN_js a (by omega)]
      have hx2 : uN ((jushr a (nI i)) &&& 1) < 2 := by rw [hx]; omega
      have h2 : uN ((jshl r 1) ||| ((jushr a (nI i)) &&& 1)) = (2 * uN r) % 18446744073709551616 + uN ((jushr a (nI i)) &&& 1) := uN_or hx2
      have hq : uN a / 2 ^ i = 2 * (uN a / 2 ^ (i + 1)) + uN a / 2 ^ i % 2 := by
        rw [Nat.pow_succ, ← Nat.div_div_eq_div_mul]; omega
      have hrb : uN r < uN b := by rw [hr]; exact Nat.mod_lt _ hb
      have hbl := uN_lt b
      have hm : (uN a / 2 ^ i) % uN b = (2 * uN r + uN a / 2 ^ i % 2) % uN b := by
        conv => lhs; rw [hq]
        rw [hr, Nat.add_mod (2 * (uN a / 2 ^ (i + 1) % uN b)), Nat.mul_mod_mod, ← Nat.add_mod]
      generalize hbit : uN a / 2 ^ i % 2 = t at hx hm
      have ht : t < 2 := by omega
      rw [hx] at h2
      have key : ∀ r' : Int64, uN r' = (2 * uN r + t) % uN b → uN (f_X7_left_7 a b n r' i) = uN a % uN b := fun r' h' => ih r' i (by omega) (by omega) (by rw [h', hm])
      have hsub : ∀ z : Int64, (uN z = 2 * uN r + t - 18446744073709551616 ∧ 18446744073709551616 ≤ 2 * uN r + t ∨ uN z = 2 * uN r + t ∧ uN b ≤ 2 * uN r + t) → uN (z - b) = (2 * uN r + t) % uN b := by
        intro z hz
        have hm2 : (2 * uN r + t) % uN b = 2 * uN r + t - uN b := by
          rw [Nat.mod_eq_sub_mod (by omega), Nat.mod_eq_of_lt (by omega)]
        rw [uN_sub, hm2]
        rcases hz with ⟨z1, z2⟩ | ⟨z1, z2⟩ <;> rw [z1] <;> omega
      rw [e1, if_neg hneg]
      by_cases h0 : 0 ≤ r
      · rw [if_pos h0]
        have h63 := uN_neg.mp h0
        have h2' : uN ((jshl r 1) ||| ((jushr a (nI i)) &&& 1)) = 2 * uN r + t := by rw [h2]; omega
        rw [f_X7_left_24, if_pos rfl, e1]
        split
        · rename_i hlt
          rw [uN_ltx, h2'] at hlt
          rw [f_X7_left_65]
          exact key _ (by rw [h2', Nat.mod_eq_of_lt hlt])
        · rename_i hlt
          rw [uN_ltx, h2'] at hlt
          rw [f_X7_left_59, f_X7_left_65, e1]
          exact key _ (hsub _ (Or.inr ⟨h2', by omega⟩))
      · rw [if_neg h0]
        have h63 : 9223372036854775808 ≤ uN r := Nat.not_lt.mp (fun q => h0 (uN_neg.mpr q))
        rw [f_X7_left_24, if_neg (by decide), f_X7_left_59, f_X7_left_65, e1]
        refine key _ (hsub _ (Or.inl ⟨?_, by omega⟩))
        have := uN_lt r
        rw [h2]; omega
/-- the reference's remainder is the unsigned one -/
theorem left_mod {a b : Int64} (hb : ¬ b = 0) : uN (f_X7_left a b) = uN a % uN b := by
  have h : 0 < uN b := Nat.pos_of_ne_zero (fun q => hb (uN_0.mpr q))
  refine left_loop a b h 65 0 64 (by omega) (by omega) ?_
  have h1 : uN a / 2 ^ 64 = 0 := Nat.div_eq_of_lt (uN_lt a)
  rw [h1]
  rfl
theorem left_lt {a b : Int64} {n : Nat} (hb : ¬ b = 0) (h : uN b < n + 1) : uN (f_X7_left a b) < n := by
  rw [left_mod hb]
  have := Nat.mod_lt (uN a) (Nat.pos_of_ne_zero (fun q => hb (uN_0.mpr q)))
  omega
def f_X7_common_6  : Nat → Int64 → Int64 → Int64
  | 0, _, _ => 0
  | n_ + 1, y4_6, y6_6 => if y6_6 = 0 then y4_6 else (f_X7_common_6 n_) y6_6 (f_X7_left y4_6 y6_6)
def f_X7_common (a : Int64) (b : Int64) : Int64 := f_X7_common_6  18446744073709551616 a b
abbrev p_X7_common (M : Mem) (a : Int64) (b : Int64) : Option Value → Mem → Prop := fun r N => r = some (.long (f_X7_common a b)) ∧ N = M
set_option maxRecDepth 100000 in
set_option maxHeartbeats 4000000 in
theorem c_X7_common (G : Ctx) (l : Launch) (M : Mem) (a : Int64) (b : Int64)  : CT G l 1 mX7_common [.long a, .long b] M 0 0 (p_X7_common M a b) := by
  refine CT.of (by decide) (Nat.le_of_ble_eq_true rfl) ?_
  intro X d hd hl hRm hnm F
  subst hl
  have E : f_X7_common a b = f_X7_common a b := rfl
  show V G X 10 0 0 (Qx G X 0 0 (p_X7_common M a b)) 0 [(0, .long a), (2, .long b)] [] M
  refine V.seg F floX7 cjoX7 [.lload_n 0, .lstore 4, .lload_n 2] (by decide +kernel) (pc2 := 4) (lv2 := [(4, .long a), (0, .long a), (2, .long b)]) (st2 := [.long b]) (M2 := M) rfl ⟨trivial, (by decide), trivial, trivial⟩ ?_
  refine V.seg F floX7 cjoX7 [.lstore 6] (by decide +kernel) (pc2 := 6) (lv2 := [(6, .long b), (4, .long a), (0, .long a), (2, .long b)]) (st2 := []) (M2 := M) rfl ⟨(by decide), trivial⟩ ?_
  have hJ6 : ∀ (n_ : Nat) (y4_6 : Int64) (y6_6 : Int64), (uN y6_6 < n_) → f_X7_common a b = f_X7_common_6 n_ y4_6 y6_6 → V G X 10 0 0 (Qx G X 0 0 (p_X7_common M a b)) 6 [(4, .long y4_6), (6, .long y6_6)] [] M := by
    intro n_
    induction n_ with
    | zero => intro y4_6 y6_6 m6 E; omega
    | succ n_ ih_6 =>
      intro y4_6 y6_6 m6 E
      rw [f_X7_common_6] at E
      refine V.seg F floX7 cjoX7 [.lload 6, .lconst 0, .lcmp] (by decide +kernel) (pc2 := 10) (lv2 := [(4, .long y4_6), (6, .long y6_6)]) (st2 := [.int (lg_cmp y6_6 0)]) (M2 := M) rfl ⟨trivial, trivial, trivial, trivial⟩ ?_
      refine V.lc_eq (off := 23) F (by decide +kernel) (tgt := 33) (by decide) (fun h10 => ?_) (fun h10 => ?_)
      · replace E := E.trans (if_pos h10)
        refine V.seg F floX7 cjoX7 [.lload 4] (by decide +kernel) (pc2 := 35) (lv2 := [(4, .long y4_6), (6, .long y6_6)]) (st2 := [.long y4_6]) (M2 := M) rfl ⟨trivial, trivial⟩ ?_
        exact V.lret F (by decide +kernel) ⟨congrArg (fun z => some (Value.long z)) E.symm, rfl⟩
      · replace E := E.trans (if_neg h10)
        refine V.seg F floX7 cjoX7 [.lload 4, .lload 6] (by decide +kernel) (pc2 := 17) (lv2 := [(4, .long y4_6), (6, .long y6_6)]) (st2 := [.long y6_6, .long y4_6]) (M2 := M) rfl ⟨trivial, trivial, trivial⟩ ?_
        refine V.callS (as := [.long y4_6, .long y6_6]) (rest := []) F (by decide +kernel) lX7_127 bX7_left (c_X7_left G X.2.1 M y4_6 y6_6) (rm_ok hRm hd (by decide) (by decide)) ⟨Nat.zero_le _, Nat.zero_le _⟩ (Nat.le_of_ble_eq_true rfl) (fun r_ N_ p_ => ?_)
        obtain ⟨rfl, hN_⟩ := p_
        rw [hN_]
        clear hN_
        refine V.seg F floX7 cjoX7 [.lstore 8, .lload 6, .lstore 4, .lload 8, .lstore 6, .goto (-24)] (by decide +kernel) (pc2 := 6) (lv2 := [(6, .long (f_X7_left y4_6 y6_6)), (4, .long y6_6), (8, .long (f_X7_left y4_6 y6_6))]) (st2 := []) (M2 := M) rfl ⟨(by decide), trivial, (by decide), trivial, (by decide), (by decide), trivial⟩ ?_
        refine V.pick [1, 0] rfl ?_
        exact ih_6 y6_6 (f_X7_left y4_6 y6_6) (by exact left_lt h10 m6) E
  refine V.pick [1, 0] rfl ?_
  exact hJ6 _ a b (by exact uN_lt _) E
def f_X7_byOf_18  (w0_18 : Int64) : Int64 := w0_18
def f_X7_byOf (M : Mem) (f : Int32) : Int64 := if (f_X7_isNumber M f) = 0 then f_X7_byOf_18 (mL M 58 (ix f)) else f_X7_byOf_18 0
abbrev p_X7_byOf (M : Mem) (f : Int32) : Option Value → Mem → Prop := fun r N => r = some (.long (f_X7_byOf M f)) ∧ N = M
set_option maxRecDepth 100000 in
set_option maxHeartbeats 4000000 in
theorem c_X7_byOf (G : Ctx) (l : Launch) (M : Mem) (f : Int32) (q : Ok M) (gb : Gb M) (i_f : vp_in f 1648) : CT G l 1 mX7_byOf [.ref 52, .int f] M 0 0 (p_X7_byOf M f) := by
  refine CT.of (by decide) (Nat.le_of_ble_eq_true rfl) ?_
  intro X d hd hl hRm hnm F
  subst hl
  have E : f_X7_byOf M f = f_X7_byOf M f := rfl
  show V G X 2 0 0 (Qx G X 0 0 (p_X7_byOf M f)) 0 [(0, .ref 52), (1, .int f)] [] M
  refine V.seg F floX7 cjoX7 [.aload_n 0, .iload_n 1] (by decide +kernel) (pc2 := 2) (lv2 := [(0, .ref 52), (1, .int f)]) (st2 := [.int f, .ref 52]) (M2 := M) rfl ⟨trivial, trivial, trivial⟩ ?_
  refine V.callV (as := [.int f]) (rest := []) F (by decide +kernel) lX7_130 bX7_isNumber ⟨7, _, (q.o 52 7 rfl), rfl, rfl⟩ (c_X7_isNumber G X.2.1 M f q gb (by first | assumption | exact vinc (by decide))) (rm_ok hRm hd (by decide) (by decide)) ⟨Nat.zero_le _, Nat.zero_le _⟩ (Nat.le_of_ble_eq_true rfl) (fun r_ N_ p_ => ?_)
  obtain ⟨rfl, hN_, z2⟩ := p_
  rw [hN_]
  clear hN_
  have hJ18 : ∀ (w0_18 : Int64), f_X7_byOf M f = f_X7_byOf_18 w0_18 → V G X 2 0 0 (Qx G X 0 0 (p_X7_byOf M f)) 18 [] [.long w0_18] M := by
    intro w0_18 E
    exact V.lret F (by decide +kernel) ⟨congrArg (fun z => some (Value.long z)) E.symm, rfl⟩
  refine V.if_eq (off := 7) F (by decide +kernel) (tgt := 12) (by decide) (fun h5 => ?_) (fun h5 => ?_)
  · replace E := E.trans (if_pos h5)
    refine V.seg F floX7 cjoX7 [.aload_n 0, .getfield 26, .iload_n 1, .laload] (by decide +kernel) (pc2 := 18) (lv2 := [(0, .ref 52), (1, .int f)]) (st2 := [.long (mL M 58 (ix f))]) (M2 := M) rfl ⟨trivial, (q.f 52 7 5 rfl), trivial, (q.a 58 22 1648 rfl (by first | assumption | exact vinc (by decide))), trivial⟩ ?_
    refine V.pick [] rfl ?_
    exact hJ18 (mL M 58 (ix f))  E
  · replace E := E.trans (if_neg h5)
    refine V.seg F floX7 cjoX7 [.lconst 0, .goto 9] (by decide +kernel) (pc2 := 18) (lv2 := [(0, .ref 52), (1, .int f)]) (st2 := [.long 0]) (M2 := M) rfl ⟨trivial, (by decide), trivial⟩ ?_
    refine V.pick [] rfl ?_
    exact hJ18 0  E
def f_X7_restOf_23  (w0_23 : Int64) : Int64 := w0_23
def f_X7_restOf (M : Mem) (f : Int32) : Int64 := if (f_X7_isNumber M f) = 0 then f_X7_restOf_23 (mL M 59 (ix f)) else f_X7_restOf_23 (mL M 54 (ix f))
abbrev p_X7_restOf (M : Mem) (f : Int32) : Option Value → Mem → Prop := fun r N => r = some (.long (f_X7_restOf M f)) ∧ N = M
set_option maxRecDepth 100000 in
set_option maxHeartbeats 4000000 in
theorem c_X7_restOf (G : Ctx) (l : Launch) (M : Mem) (f : Int32) (q : Ok M) (gb : Gb M) (i_f : vp_in f 1648) : CT G l 1 mX7_restOf [.ref 52, .int f] M 0 0 (p_X7_restOf M f) := by
  refine CT.of (by decide) (Nat.le_of_ble_eq_true rfl) ?_
  intro X d hd hl hRm hnm F
  subst hl
  have E : f_X7_restOf M f = f_X7_restOf M f := rfl
  show V G X 2 0 0 (Qx G X 0 0 (p_X7_restOf M f)) 0 [(0, .ref 52), (1, .int f)] [] M
  refine V.seg F floX7 cjoX7 [.aload_n 0, .iload_n 1] (by decide +kernel) (pc2 := 2) (lv2 := [(0, .ref 52), (1, .int f)]) (st2 := [.int f, .ref 52]) (M2 := M) rfl ⟨trivial, trivial, trivial⟩ ?_
  refine V.callV (as := [.int f]) (rest := []) F (by decide +kernel) lX7_130 bX7_isNumber ⟨7, _, (q.o 52 7 rfl), rfl, rfl⟩ (c_X7_isNumber G X.2.1 M f q gb (by first | assumption | exact vinc (by decide))) (rm_ok hRm hd (by decide) (by decide)) ⟨Nat.zero_le _, Nat.zero_le _⟩ (Nat.le_of_ble_eq_true rfl) (fun r_ N_ p_ => ?_)
  obtain ⟨rfl, hN_, z2⟩ := p_
  rw [hN_]
  clear hN_
  have hJ23 : ∀ (w0_23 : Int64), f_X7_restOf M f = f_X7_restOf_23 w0_23 → V G X 2 0 0 (Qx G X 0 0 (p_X7_restOf M f)) 23 [] [.long w0_23] M := by
    intro w0_23 E
    exact V.lret F (by decide +kernel) ⟨congrArg (fun z => some (Value.long z)) E.symm, rfl⟩
  refine V.if_eq (off := 12) F (by decide +kernel) (tgt := 17) (by decide) (fun h5 => ?_) (fun h5 => ?_)
  · replace E := E.trans (if_pos h5)
    refine V.seg F floX7 cjoX7 [.aload_n 0, .getfield 29, .iload_n 1, .laload] (by decide +kernel) (pc2 := 23) (lv2 := [(0, .ref 52), (1, .int f)]) (st2 := [.long (mL M 59 (ix f))]) (M2 := M) rfl ⟨trivial, (q.f 52 7 6 rfl), trivial, (q.a 59 22 1648 rfl (by first | assumption | exact vinc (by decide))), trivial⟩ ?_
    refine V.pick [] rfl ?_
    exact hJ23 (mL M 59 (ix f))  E
  · replace E := E.trans (if_neg h5)
    refine V.seg F floX7 cjoX7 [.aload_n 0, .getfield 13, .iload_n 1, .laload, .goto 9] (by decide +kernel) (pc2 := 23) (lv2 := [(0, .ref 52), (1, .int f)]) (st2 := [.long (mL M 54 (ix f))]) (M2 := M) rfl ⟨trivial, (q.f 52 7 1 rfl), trivial, (q.a 54 22 1648 rfl (by first | assumption | exact vinc (by decide))), (by decide), trivial⟩ ?_
    refine V.pick [] rfl ?_
    exact hJ23 (mL M 54 (ix f))  E
def f_X7_setRest (M : Mem) (f : Int32) (m : Int64) (pr : Int64) : Mem := uL (uL M 58 (ix f) m) 59 (ix f) (f_X7_rem pr m)
abbrev p_X7_setRest (M : Mem) (f : Int32) (m : Int64) (pr : Int64) : Option Value → Mem → Prop := fun r N => r = none ∧ N = f_X7_setRest M f m pr ∧ Sg M N
set_option maxRecDepth 100000 in
set_option maxHeartbeats 4000000 in
theorem c_X7_setRest (G : Ctx) (l : Launch) (M : Mem) (f : Int32) (m : Int64) (pr : Int64) (q : Ok M) (gb : Gb M) (i_f : vp_in f 1648) (hm : ¬ m = 0) : CT G l 1 mX7_setRest [.ref 52, .int f, .long m, .long pr] M 0 0 (p_X7_setRest M f m pr) := by
  refine CT.of (by decide) (Nat.le_of_ble_eq_true rfl) ?_
  intro X d hd hl hRm hnm F
  subst hl
  have E : f_X7_setRest M f m pr = f_X7_setRest M f m pr := rfl
  show V G X 6 0 0 (Qx G X 0 0 (p_X7_setRest M f m pr)) 0 [(0, .ref 52), (1, .int f), (2, .long m), (4, .long pr)] [] M
  refine V.seg F floX7 cjoX7 [.aload_n 0, .getfield 26, .iload_n 1, .lload_n 2, .lastore, .aload_n 0, .getfield 29, .iload_n 1, .lload 4, .lload_n 2] (by decide +kernel) (pc2 := 15) (lv2 := [(0, .ref 52), (1, .int f), (2, .long m), (4, .long pr)]) (st2 := [.long m, .long pr, .int f, .ref 59]) (M2 := uL M 58 (ix f) m) rfl ⟨trivial, (q.f 52 7 5 rfl), trivial, trivial, (q.a 58 22 1648 rfl (by first | assumption | exact vinc (by decide))), trivial, ((q.sm (Sg.by (Sg.rf gb) (by assumption)).1).f 52 7 6 rfl), trivial, trivial, trivial, trivial⟩ ?_
  refine V.callS (as := [.long pr, .long m]) (rest := [.int f, .ref 59]) F (by decide +kernel) lX7_93 bX7_rem (c_X7_rem G X.2.1 (uL M 58 (ix f) m) pr m (by assumption)) (rm_ok hRm hd (by decide) (by decide)) ⟨Nat.zero_le _, Nat.zero_le _⟩ (Nat.le_of_ble_eq_true rfl) (fun r_ N_ p_ => ?_)
  obtain ⟨rfl, hN_⟩ := p_
  rw [hN_]
  clear hN_
  refine V.seg F floX7 cjoX7 [.lastore] (by decide +kernel) (pc2 := 19) (lv2 := [(0, .ref 52), (1, .int f), (2, .long m), (4, .long pr)]) (st2 := []) (M2 := uL (uL M 58 (ix f) m) 59 (ix f) (f_X7_rem pr m)) rfl ⟨((q.sm (Sg.by (Sg.rf gb) (by assumption)).1).a 59 22 1648 rfl (by first | assumption | exact vinc (by decide))), trivial⟩ ?_
  exact V.vret F (by decide +kernel) ⟨rfl, E.symm, (Sg.pL (Sg.by (Sg.rf gb) (by assumption)) (by decide))⟩
def f_X7_put (M : Mem) (f : Int32) (pl : Int64) (ph : Int64) (k : Int64) (v : Int64) : Mem := uL (uL (uL (uL (uL (uL (uI M 53 (ix f) 0) 54 (ix f) pl) 55 (ix f) ph) 56 (ix f) k) 57 (ix f) v) 58 (ix f) 1) 59 (ix f) 0
abbrev p_X7_put (M : Mem) (f : Int32) (pl : Int64) (ph : Int64) (k : Int64) (v : Int64) : Option Value → Mem → Prop := fun r N => r = none ∧ N = f_X7_put M f pl ph k v ∧ Sg M N
set_option maxRecDepth 100000 in
set_option maxHeartbeats 4000000 in
theorem c_X7_put (G : Ctx) (l : Launch) (M : Mem) (f : Int32) (pl : Int64) (ph : Int64) (k : Int64) (v : Int64) (q : Ok M) (gb : Gb M) (i_f : vp_in f 1648) : CT G l 0 mX7_put [.ref 52, .int f, .long pl, .long ph, .long k, .long v] M 0 0 (p_X7_put M f pl ph k v) := by
  refine CT.of (by decide) (Nat.le_of_ble_eq_true rfl) ?_
  intro X d hd hl hRm hnm F
  subst hl
  have E : f_X7_put M f pl ph k v = f_X7_put M f pl ph k v := rfl
  show V G X 10 0 0 (Qx G X 0 0 (p_X7_put M f pl ph k v)) 0 [(0, .ref 52), (1, .int f), (2, .long pl), (4, .long ph), (6, .long k), (8, .long v)] [] M
  refine V.seg F floX7 cjoX7 [.aload_n 0, .getfield 9, .iload_n 1, .iconst 0, .bastore, .aload_n 0, .getfield 13, .iload_n 1, .lload_n 2, .lastore, .aload_n 0, .getfield 17, .iload_n 1, .lload 4, .lastore, .aload_n 0, .getfield 20, .iload_n 1, .lload 6, .lastore, .aload_n 0, .getfield 23, .iload_n 1, .lload 8, .lastore, .aload_n 0, .getfield 26, .iload_n 1, .lconst 1, .lastore, .aload_n 0, .getfield 29, .iload_n 1, .lconst 0, .lastore] (by decide +kernel) (pc2 := 52) (lv2 := [(0, .ref 52), (1, .int f), (2, .long pl), (4, .long ph), (6, .long k), (8, .long v)]) (st2 := []) (M2 := uL (uL (uL (uL (uL (uL (uI M 53 (ix f) 0) 54 (ix f) pl) 55 (ix f) ph) 56 (ix f) k) 57 (ix f) v) 58 (ix f) 1) 59 (ix f) 0) rfl ⟨trivial, (q.f 52 7 0 rfl), trivial, trivial, ⟨(q.a 53 21 1648 rfl (by first | assumption | exact vinc (by decide))), Or.inl rfl⟩, trivial, ((q.sm (Sg.pI (Sg.rf gb)).1).f 52 7 1 rfl), trivial, trivial, ((q.sm (Sg.pI (Sg.rf gb)).1).a 54 22 1648 rfl (by first | assumption | exact vinc (by decide))), trivial, ((q.sm (Sg.pL (Sg.pI (Sg.rf gb)) (by decide)).1).f 52 7 2 rfl), trivial, trivial, ((q.sm (Sg.pL (Sg.pI (Sg.rf gb)) (by decide)).1).a 55 22 1648 rfl (by first | assumption | exact vinc (by decide))), trivial, ((q.sm (Sg.pL (Sg.pL (Sg.pI (Sg.rf gb)) (by decide)) (by decide)).1).f 52 7 3 rfl), trivial, trivial, ((q.sm (Sg.pL (Sg.pL (Sg.pI (Sg.rf gb)) (by decide)) (by decide)).1).a 56 22 1648 rfl (by first | assumption | exact vinc (by decide))), trivial, ((q.sm (Sg.pL (Sg.pL (Sg.pL (Sg.pI (Sg.rf gb)) (by decide)) (by decide)) (by decide)).1).f 52 7 4 rfl), trivial, trivial, ((q.sm (Sg.pL (Sg.pL (Sg.pL (Sg.pI (Sg.rf gb)) (by decide)) (by decide)) (by decide)).1).a 57 22 1648 rfl (by first | assumption | exact vinc (by decide))), trivial, ((q.sm (Sg.pL (Sg.pL (Sg.pL (Sg.pL (Sg.pI (Sg.rf gb)) (by decide)) (by decide)) (by decide)) (by decide)).1).f 52 7 5 rfl), trivial, trivial, ((q.sm (Sg.pL (Sg.pL (Sg.pL (Sg.pL (Sg.pI (Sg.rf gb)) (by decide)) (by decide)) (by decide)) (by decide)).1).a 58 22 1648 rfl (by first | assumption | exact vinc (by decide))), trivial, ((q.sm (Sg.by (Sg.pL (Sg.pL (Sg.pL (Sg.pL (Sg.pI (Sg.rf gb)) (by decide)) (by decide)) (by decide)) (by decide)) (by decide)).1).f 52 7 6 rfl), trivial, trivial, ((q.sm (Sg.by (Sg.pL (Sg.pL (Sg.pL (Sg.pL (Sg.pI (Sg.rf gb)) (by decide)) (by decide)) (by decide)) (by decide)) (by decide)).1).a 59 22 1648 rfl (by first | assumption | exact vinc (by decide))), trivial⟩ ?_
  exact V.vret F (by decide +kernel) ⟨rfl, E.symm, (Sg.pL (Sg.by (Sg.pL (Sg.pL (Sg.pL (Sg.pL (Sg.pI (Sg.rf gb)) (by decide)) (by decide)) (by decide)) (by decide)) (by decide)) (by decide))⟩
end
section
theorem odd_ne0 (g : Int64) : ¬ f_X7_odd g = 0 := by
  have hl : ∀ (n : Nat) (v : Int64), ¬ v = 0 → uN v < 2 ^ n → ¬ f_X7_odd_10 n v = 0 := by
    intro n
    induction n with
    | zero => intro v hz h; exact absurd (uN_0.mpr (Nat.lt_one_iff.mp h)) hz
    | succ n ih =>
      intro v hz h
      rw [f_X7_odd_10]
      split
      · rename_i e; exact ih _ (odd_nz e hz) (odd_lt h)
      · split
        · show ¬ (1 : Int64) = 0; decide
        · split
          · exact hz
          · show ¬ (1 : Int64) = 0; decide
  unfold f_X7_odd
  split
  · decide
  · rename_i h; exact hl 64 g h (uN_lt g)
def f_X7_join_c37  (M37 : Mem) : Mem := M37
def f_X7_join_34 (t : Int32) (w0_34 : Int32) (M34 : Mem) : Mem := f_X7_join_c37 (f_X7_copy M34 t w0_34)
def f_X7_join_18 (a : Int32) (b : Int32) (t : Int32) (M18 : Mem) : Mem := if (mI M18 53 (ix a)) = 0 then f_X7_join_34 t a M18 else f_X7_join_34 t b M18
def f_X7_join_c242  (M242 : Mem) : Mem := M242
def f_X7_join_c237 (t : Int32) (M237 : Mem) : Mem := f_X7_join_c242 (f_X7_sharpen M237 t)
def f_X7_join_c228 (a : Int32) (t : Int32) (M77 : Mem) (x137 : Int64) (M228 : Mem) : Mem := f_X7_join_c237 t (f_X7_setRest M228 t x137 (f_X7_restOf M77 a))
def f_X7_join_c204 (a : Int32) (b : Int32) (t : Int32) (M77 : Mem) (M112 : Mem) (x137 : Int64) (x204 : Int64) : Mem := f_X7_join_c228 a t M77 x137 (f_X7_put M112 t (f_X7_less (mL M112 54 (ix a)) (mL M112 54 (ix b))) (f_X7_more (mL M112 55 (ix a)) (mL M112 55 (ix b))) x204 ((mL M112 57 (ix a)) &&& x204))
def f_X7_join_c137 (a : Int32) (b : Int32) (t : Int32) (M77 : Mem) (M112 : Mem) (x137 : Int64) : Mem := f_X7_join_c204 a b t M77 M112 x137 (((mL M112 56 (ix a)) &&& (mL M112 56 (ix b))) &&& (((mL M112 57 (ix a)) ^^^ (mL M112 57 (ix b))) ^^^ ((-1))))
def f_X7_join_112 (a : Int32) (b : Int32) (t : Int32) (M77 : Mem) (w0_112 : Int64) (M112 : Mem) : Mem := f_X7_join_c137 a b t M77 M112 (f_X7_odd (f_X7_common (f_X7_common (f_X7_byOf M112 a) (f_X7_byOf M112 b)) w0_112))
def f_X7_join_77 (a : Int32) (b : Int32) (t : Int32) (M77 : Mem) : Mem := if (f_X7_restOf M77 a) ≤ (f_X7_restOf M77 b) then f_X7_join_112 a b t M77 ((f_X7_restOf M77 b) - (f_X7_restOf M77 a)) M77 else f_X7_join_112 a b t M77 ((f_X7_restOf M77 a) - (f_X7_restOf M77 b)) M77
def f_X7_join_c76  (M76 : Mem) : Mem := M76
def f_X7_join (M : Mem) (a : Int32) (b : Int32) (t : Int32) : Mem := if (mI M 53 (ix a)) = 0 then if (mI M 53 (ix b)) = 0 then if (f_X7_isNumber M a) = 0 then f_X7_join_77 a b t M else if (f_X7_isNumber M b) = 0 then f_X7_join_77 a b t M else if (mL M 54 (ix a)) = (mL M 54 (ix b)) then f_X7_join_c76 (f_X7_copy M t a) else f_X7_join_77 a b t M else f_X7_join_18 a b t M else f_X7_join_18 a b t M
abbrev p_X7_join (M : Mem) (a : Int32) (b : Int32) (t : Int32) : Option Value → Mem → Prop := fun r N => r = none ∧ N = f_X7_join M a b t ∧ Sg M N
set_option maxRecDepth 100000 in
set_option maxHeartbeats 4000000 in
theorem c_X7_join (G : Ctx) (l : Launch) (M : Mem) (a : Int32) (b : Int32) (t : Int32) (q : Ok M) (gb : Gb M) (i_a : vp_in a 1648) (i_b : vp_in b 1648) (i_t : vp_in t 1648) : CT G l 4 mX7_join [.ref 52, .int a, .int b, .int t] M 0 0 (p_X7_join M a b t) := by
  refine CT.of (by decide) (Nat.le_of_ble_eq_true rfl) ?_
  intro X d hd hl hRm hnm F
  subst hl
  have E : f_X7_join M a b t = f_X7_join M a b t := rfl
  show V G X 20 0 0 (Qx G X 0 0 (p_X7_join M a b t)) 0 [(0, .ref 52), (1, .int a), (2, .int b), (3, .int t)] [] M
  refine V.seg F floX7 cjoX7 [.aload_n 0, .getfield 9, .iload_n 1, .baload] (by decide +kernel) (pc2 := 6) (lv2 := [(0, .ref 52), (1, .int a), (2, .int b), (3, .int t)]) (st2 := [.int (mI M 53 (ix a))]) (M2 := M) rfl ⟨trivial, (q.f 52 7 0 rfl), trivial, (q.a 53 21 1648 rfl (by first | assumption | exact vinc (by decide))), trivial⟩ ?_
  have hJ18 : ∀ (M18 : Mem), (Sg M M18) → f_X7_join M a b t = f_X7_join_18 a b t M18 → V G X 20 0 0 (Qx G X 0 0 (p_X7_join M a b t)) 18 [(0, .ref 52), (1, .int a), (2, .int b), (3, .int t)] [] M18 := by
    intro M18 s18 E
    refine V.seg F floX7 cjoX7 [.aload_n 0, .iload_n 3, .aload_n 0, .getfield 9, .iload_n 1, .baload] (by decide +kernel) (pc2 := 26) (lv2 := [(0, .ref 52), (1, .int a), (2, .int b), (3, .int t)]) (st2 := [.int (mI M18 53 (ix a)), .int t, .ref 52]) (M2 := M18) rfl ⟨trivial, trivial, trivial, ((q.sm s18.1).f 52 7 0 rfl), trivial, ((q.sm s18.1).a 53 21 1648 rfl (by first | assumption | exact vinc (by decide))), trivial⟩ ?_
    have hJ34 : ∀ (w0_34 : Int32) (M34 : Mem), (Sg M M34) → (vp_in w0_34 1648) → f_X7_join M a b t = f_X7_join_34 t w0_34 M34 → V G X 20 0 0 (Qx G X 0 0 (p_X7_join M a b t)) 34 [] [.int w0_34, .int t, .ref 52] M34 := by
      intro w0_34 M34 s34 jw34 E
      refine V.callV (as := [.int t, .int w0_34]) (rest := []) F (by decide +kernel) lX7_133 bX7_copy ⟨7, _, ((q.sm s34.1).o 52 7 rfl), rfl, rfl⟩ (c_X7_copy G X.2.1 M34 t w0_34 (q.sm s34.1) s34.2 (by first | assumption | exact vinc (by decide)) (by first | assumption | exact vinc (by decide))) (rm_ok hRm hd (by decide) (by decide)) ⟨Nat.zero_le _, Nat.zero_le _⟩ (Nat.le_of_ble_eq_true rfl) (fun r_ N_ p_ => ?_)
      obtain ⟨rfl, rfl, t34⟩ := p_
      refine (?_ : ∀ (M37 : Mem), (Sg M M37) → f_X7_join M a b t = f_X7_join_c37 M37 → V G X 20 0 0 (Qx G X 0 0 (p_X7_join M a b t)) 37 [] [] M37) _ (Sg.tr s34 t34) E
      intro M37 s37 E
      exact V.vret F (by decide +kernel) ⟨rfl, E.symm, s37⟩
    refine V.if_eq (off := 7) F (by decide +kernel) (tgt := 33) (by decide) (fun h26 => ?_) (fun h26 => ?_)
    · replace E := E.trans (if_pos h26)
      refine V.seg F floX7 cjoX7 [.iload_n 1] (by decide +kernel) (pc2 := 34) (lv2 := [(0, .ref 52), (1, .int a), (2, .int b), (3, .int t)]) (st2 := [.int a, .int t, .ref 52]) (M2 := M18) rfl ⟨trivial, trivial⟩ ?_
      refine V.pick [] rfl ?_
      exact hJ34 a M18 s18 (by first | exact i_a | exact i_b) E
    · replace E := E.trans (if_neg h26)
      refine V.seg F floX7 cjoX7 [.iload_n 2, .goto 4] (by decide +kernel) (pc2 := 34) (lv2 := [(0, .ref 52), (1, .int a), (2, .int b), (3, .int t)]) (st2 := [.int b, .int t, .ref 52]) (M2 := M18) rfl ⟨trivial, (by decide), trivial⟩ ?_
      refine V.pick [] rfl ?_
      exact hJ34 b M18 s18 (by first | exact i_a | exact i_b) E
  refine V.if_ne (off := 12) F (by decide +kernel) (tgt := 18) (by decide) (fun h6 => ?_) (fun h6 => ?_)
  · replace E := E.trans (if_neg h6)
    refine V.pick [0, 1, 2, 3] rfl ?_
    exact hJ18 M (Sg.rf gb) E
  · replace E := E.trans (if_pos h6)
    refine V.seg F floX7 cjoX7 [.aload_n 0, .getfield 9, .iload_n 2, .baload] (by decide +kernel) (pc2 := 15) (lv2 := [(0, .ref 52), (1, .int a), (2, .int b), (3, .int t)]) (st2 := [.int (mI M 53 (ix b))]) (M2 := M) rfl ⟨trivial, (q.f 52 7 0 rfl), trivial, (q.a 53 21 1648 rfl (by first | assumption | exact vinc (by decide))), trivial⟩ ?_
    refine V.if_eq (off := 23) F (by decide +kernel) (tgt := 38) (by decide) (fun h15 => ?_) (fun h15 => ?_)
    · replace E := E.trans (if_pos h15)
      refine V.seg F floX7 cjoX7 [.aload_n 0, .iload_n 1] (by decide +kernel) (pc2 := 40) (lv2 := [(0, .ref 52), (1, .int a), (2, .int b), (3, .int t)]) (st2 := [.int a, .ref 52]) (M2 := M) rfl ⟨trivial, trivial, trivial⟩ ?_
      refine V.callV (as := [.int a]) (rest := []) F (by decide +kernel) lX7_130 bX7_isNumber ⟨7, _, (q.o 52 7 rfl), rfl, rfl⟩ (c_X7_isNumber G X.2.1 M a q gb (by first | assumption | exact vinc (by decide))) (rm_ok hRm hd (by decide) (by decide)) ⟨Nat.zero_le _, Nat.zero_le _⟩ (Nat.le_of_ble_eq_true rfl) (fun r_ N_ p_ => ?_)
      obtain ⟨rfl, hN_, z40⟩ := p_
      rw [hN_]
      clear hN_
      have hJ77 : ∀ (M77 : Mem), (Sg M M77) → f_X7_join M a b t = f_X7_join_77 a b t M77 → V G X 20 0 0 (Qx G X 0 0 (p_X7_join M a b t)) 77 [(0, .ref 52), (1, .int a), (2, .int b), (3, .int t)] [] M77 := by
        intro M77 s77 E
        refine V.seg F floX7 cjoX7 [.aload_n 0, .iload_n 1] (by decide +kernel) (pc2 := 79) (lv2 := [(0, .ref 52), (1, .int a), (2, .int b), (3, .int t)]) (st2 := [.int a, .ref 52]) (M2 := M77) rfl ⟨trivial, trivial, trivial⟩ ?_
        refine V.callV (as := [.int a]) (rest := []) F (by decide +kernel) lX7_137 bX7_restOf ⟨7, _, ((q.sm s77.1).o 52 7 rfl), rfl, rfl⟩ (c_X7_restOf G X.2.1 M77 a (q.sm s77.1) s77.2 (by first | assumption | exact vinc (by decide))) (rm_ok hRm hd (by decide) (by decide)) ⟨Nat.zero_le _, Nat.zero_le _⟩ (Nat.le_of_ble_eq_true rfl) (fun r_ N_ p_ => ?_)
        obtain ⟨rfl, hN_⟩ := p_
        rw [hN_]
        clear hN_
        refine V.seg F floX7 cjoX7 [.lstore 4, .aload_n 0, .iload_n 2] (by decide +kernel) (pc2 := 86) (lv2 := [(4, .long (f_X7_restOf M77 a)), (0, .ref 52), (1, .int a), (2, .int b), (3, .int t)]) (st2 := [.int b, .ref 52]) (M2 := M77) rfl ⟨(by decide), trivial, trivial, trivial⟩ ?_
        refine V.callV (as := [.int b]) (rest := []) F (by decide +kernel) lX7_137 bX7_restOf ⟨7, _, ((q.sm s77.1).o 52 7 rfl), rfl, rfl⟩ (c_X7_restOf G X.2.1 M77 b (q.sm s77.1) s77.2 (by first | assumption | exact vinc (by decide))) (rm_ok hRm hd (by decide) (by decide)) ⟨Nat.zero_le _, Nat.zero_le _⟩ (Nat.le_of_ble_eq_true rfl) (fun r_ N_ p_ => ?_)
        obtain ⟨rfl, hN_⟩ := p_
        rw [hN_]
        clear hN_
        refine V.seg F floX7 cjoX7 [.lstore 6, .lload 4, .lload 6, .lcmp] (by decide +kernel) (pc2 := 96) (lv2 := [(6, .long (f_X7_restOf M77 b)), (4, .long (f_X7_restOf M77 a)), (0, .ref 52), (1, .int a), (2, .int b), (3, .int t)]) (st2 := [.int (lg_cmp (f_X7_restOf M77 a) (f_X7_restOf M77 b))]) (M2 := M77) rfl ⟨(by decide), trivial, trivial, trivial, trivial⟩ ?_
        have hJ112 : ∀ (w0_112 : Int64) (M112 : Mem), (Sg M M112) → f_X7_join M a b t = f_X7_join_112 a b t M77 w0_112 M112 → V G X 20 0 0 (Qx G X 0 0 (p_X7_join M a b t)) 112 [(0, .ref 52), (1, .int a), (2, .int b), (3, .int t), (4, .long (f_X7_restOf M77 a))] [.long w0_112] M112 := by
          intro w0_112 M112 s112 E
          refine V.seg F floX7 cjoX7 [.lstore 8, .aload_n 0, .iload_n 1] (by decide +kernel) (pc2 := 116) (lv2 := [(8, .long w0_112), (0, .ref 52), (1, .int a), (2, .int b), (3, .int t), (4, .long (f_X7_restOf M77 a))]) (st2 := [.int a, .ref 52]) (M2 := M112) rfl ⟨(by decide), trivial, trivial, trivial⟩ ?_
          refine V.callV (as := [.int a]) (rest := []) F (by decide +kernel) lX7_141 bX7_byOf ⟨7, _, ((q.sm s112.1).o 52 7 rfl), rfl, rfl⟩ (c_X7_byOf G X.2.1 M112 a (q.sm s112.1) s112.2 (by first | assumption | exact vinc (by decide))) (rm_ok hRm hd (by decide) (by decide)) ⟨Nat.zero_le _, Nat.zero_le _⟩ (Nat.le_of_ble_eq_true rfl) (fun r_ N_ p_ => ?_)
          obtain ⟨rfl, hN_⟩ := p_
          rw [hN_]
          clear hN_
          refine V.seg F floX7 cjoX7 [.aload_n 0, .iload_n 2] (by decide +kernel) (pc2 := 121) (lv2 := [(8, .long w0_112), (0, .ref 52), (1, .int a), (2, .int b), (3, .int t), (4, .long (f_X7_restOf M77 a))]) (st2 := [.int b, .ref 52, .long (f_X7_byOf M112 a)]) (M2 := M112) rfl ⟨trivial, trivial, trivial⟩ ?_
          refine V.callV (as := [.int b]) (rest := [.long (f_X7_byOf M112 a)]) F (by decide +kernel) lX7_141 bX7_byOf ⟨7, _, ((q.sm s112.1).o 52 7 rfl), rfl, rfl⟩ (c_X7_byOf G X.2.1 M112 b (q.sm s112.1) s112.2 (by first | assumption | exact vinc (by decide))) (rm_ok hRm hd (by decide) (by decide)) ⟨Nat.zero_le _, Nat.zero_le _⟩ (Nat.le_of_ble_eq_true rfl) (fun r_ N_ p_ => ?_)
          obtain ⟨rfl, hN_⟩ := p_
          rw [hN_]
          clear hN_
          refine V.callS (as := [.long (f_X7_byOf M112 a), .long (f_X7_byOf M112 b)]) (rest := []) F (by decide +kernel) lX7_144 bX7_common (c_X7_common G X.2.1 M112 (f_X7_byOf M112 a) (f_X7_byOf M112 b)) (rm_ok hRm hd (by decide) (by decide)) ⟨Nat.zero_le _, Nat.zero_le _⟩ (Nat.le_of_ble_eq_true rfl) (fun r_ N_ p_ => ?_)
          obtain ⟨rfl, hN_⟩ := p_
          rw [hN_]
          clear hN_
          refine V.seg F floX7 cjoX7 [.lload 8] (by decide +kernel) (pc2 := 129) (lv2 := [(8, .long w0_112), (0, .ref 52), (1, .int a), (2, .int b), (3, .int t), (4, .long (f_X7_restOf M77 a))]) (st2 := [.long w0_112, .long (f_X7_common (f_X7_byOf M112 a) (f_X7_byOf M112 b))]) (M2 := M112) rfl ⟨trivial, trivial⟩ ?_
          refine V.callS (as := [.long (f_X7_common (f_X7_byOf M112 a) (f_X7_byOf M112 b)), .long w0_112]) (rest := []) F (by decide +kernel) lX7_144 bX7_common (c_X7_common G X.2.1 M112 (f_X7_common (f_X7_byOf M112 a) (f_X7_byOf M112 b)) w0_112) (rm_ok hRm hd (by decide) (by decide)) ⟨Nat.zero_le _, Nat.zero_le _⟩ (Nat.le_of_ble_eq_true rfl) (fun r_ N_ p_ => ?_)
          obtain ⟨rfl, hN_⟩ := p_
          rw [hN_]
          clear hN_
          refine V.callS (as := [.long (f_X7_common (f_X7_common (f_X7_byOf M112 a) (f_X7_byOf M112 b)) w0_112)]) (rest := []) F (by decide +kernel) lX7_147 bX7_odd (c_X7_odd G X.2.1 M112 (f_X7_common (f_X7_common (f_X7_byOf M112 a) (f_X7_byOf M112 b)) w0_112)) (rm_ok hRm hd (by decide) (by decide)) ⟨Nat.zero_le _, Nat.zero_le _⟩ (Nat.le_of_ble_eq_true rfl) (fun r_ N_ p_ => ?_)
          obtain ⟨rfl, hN_⟩ := p_
          rw [hN_]
          clear hN_
          refine V.seg F floX7 cjoX7 [.lstore 10] (by decide +kernel) (pc2 := 137) (lv2 := [(10, .long (f_X7_odd (f_X7_common (f_X7_common (f_X7_byOf M112 a) (f_X7_byOf M112 b)) w0_112))), (8, .long w0_112), (0, .ref 52), (1, .int a), (2, .int b), (3, .int t), (4, .long (f_X7_restOf M77 a))]) (st2 := []) (M2 := M112) rfl ⟨(by decide), trivial⟩ ?_
          refine (?_ : ∀ (x137 : Int64), (¬ x137 = 0) → f_X7_join M a b t = f_X7_join_c137 a b t M77 M112 x137 → V G X 20 0 0 (Qx G X 0 0 (p_X7_join M a b t)) 137 [(10, .long x137), (8, .long w0_112), (0, .ref 52), (1, .int a), (2, .int b), (3, .int t), (4, .long (f_X7_restOf M77 a))] [] M112) _ (odd_ne0 _) E
          intro x137 nz_x137 E
          refine V.seg F floX7 cjoX7 [.aload_n 0, .getfield 13, .iload_n 1, .laload, .aload_n 0, .getfield 13, .iload_n 2, .laload] (by decide +kernel) (pc2 := 149) (lv2 := [(10, .long x137), (8, .long w0_112), (0, .ref 52), (1, .int a), (2, .int b), (3, .int t), (4, .long (f_X7_restOf M77 a))]) (st2 := [.long (mL M112 54 (ix b)), .long (mL M112 54 (ix a))]) (M2 := M112) rfl ⟨trivial, ((q.sm s112.1).f 52 7 1 rfl), trivial, ((q.sm s112.1).a 54 22 1648 rfl (by first | assumption | exact vinc (by decide))), trivial, ((q.sm s112.1).f 52 7 1 rfl), trivial, ((q.sm s112.1).a 54 22 1648 rfl (by first | assumption | exact vinc (by decide))), trivial⟩ ?_
          refine V.callS (as := [.long (mL M112 54 (ix a)), .long (mL M112 54 (ix b))]) (rest := []) F (by decide +kernel) lX7_151 bX7_less (c_X7_less G X.2.1 M112 (mL M112 54 (ix a)) (mL M112 54 (ix b))) (rm_ok hRm hd (by decide) (by decide)) ⟨Nat.zero_le _, Nat.zero_le _⟩ (Nat.le_of_ble_eq_true rfl) (fun r_ N_ p_ => ?_)
          obtain ⟨rfl, hN_⟩ := p_
          rw [hN_]
          clear hN_
          refine V.seg F floX7 cjoX7 [.lstore 12, .aload_n 0, .getfield 17, .iload_n 1, .laload, .aload_n 0, .getfield 17, .iload_n 2, .laload] (by decide +kernel) (pc2 := 166) (lv2 := [(12, .long (f_X7_less (mL M112 54 (ix a)) (mL M112 54 (ix b)))), (10, .long x137), (8, .long w0_112), (0, .ref 52), (1, .int a), (2, .int b), (3, .int t), (4, .long (f_X7_restOf M77 a))]) (st2 := [.long (mL M112 55 (ix b)), .long (mL M112 55 (ix a))]) (M2 := M112) rfl ⟨(by decide), trivial, ((q.sm s112.1).f 52 7 2 rfl), trivial, ((q.sm s112.1).a 55 22 1648 rfl (by first | assumption | exact vinc (by decide))), trivial, ((q.sm s112.1).f 52 7 2 rfl), trivial, ((q.sm s112.1).a 55 22 1648 rfl (by first | assumption | exact vinc (by decide))), trivial⟩ ?_
          refine V.callS (as := [.long (mL M112 55 (ix a)), .long (mL M112 55 (ix b))]) (rest := []) F (by decide +kernel) lX7_154 bX7_more (c_X7_more G X.2.1 M112 (mL M112 55 (ix a)) (mL M112 55 (ix b))) (rm_ok hRm hd (by decide) (by decide)) ⟨Nat.zero_le _, Nat.zero_le _⟩ (Nat.le_of_ble_eq_true rfl) (fun r_ N_ p_ => ?_)
          obtain ⟨rfl, hN_⟩ := p_
          rw [hN_]
          clear hN_
          refine V.seg F floX7 cjoX7 [.lstore 14, .aload_n 0, .getfield 20, .iload_n 1, .laload, .aload_n 0, .getfield 20, .iload_n 2, .laload, .land, .aload_n 0, .getfield 23, .iload_n 1, .laload, .aload_n 0, .getfield 23, .iload_n 2, .laload, .lxor, .ldc2_w 87, .lxor, .land, .lstore 16] (by decide +kernel) (pc2 := 204) (lv2 := [(16, .long (((mL M112 56 (ix a)) &&& (mL M112 56 (ix b))) &&& (((mL M112 57 (ix a)) ^^^ (mL M112 57 (ix b))) ^^^ ((-1))))), (14, .long (f_X7_more (mL M112 55 (ix a)) (mL M112 55 (ix b)))), (12, .long (f_X7_less (mL M112 54 (ix a)) (mL M112 54 (ix b)))), (10, .long x137), (8, .long w0_112), (0, .ref 52), (1, .int a), (2, .int b), (3, .int t), (4, .long (f_X7_restOf M77 a))]) (st2 := []) (M2 := M112) rfl ⟨(by decide), trivial, ((q.sm s112.1).f 52 7 3 rfl), trivial, ((q.sm s112.1).a 56 22 1648 rfl (by first | assumption | exact vinc (by decide))), trivial, ((q.sm s112.1).f 52 7 3 rfl), trivial, ((q.sm s112.1).a 56 22 1648 rfl (by first | assumption | exact vinc (by decide))), trivial, trivial, ((q.sm s112.1).f 52 7 4 rfl), trivial, ((q.sm s112.1).a 57 22 1648 rfl (by first | assumption | exact vinc (by decide))), trivial, ((q.sm s112.1).f 52 7 4 rfl), trivial, ((q.sm s112.1).a 57 22 1648 rfl (by first | assumption | exact vinc (by decide))), trivial, trivial, trivial, trivial, (by decide), trivial⟩ ?_
          refine (?_ : ∀ (x204 : Int64), f_X7_join M a b t = f_X7_join_c204 a b t M77 M112 x137 x204 → V G X 20 0 0 (Qx G X 0 0 (p_X7_join M a b t)) 204 [(16, .long x204), (14, .long (f_X7_more (mL M112 55 (ix a)) (mL M112 55 (ix b)))), (12, .long (f_X7_less (mL M112 54 (ix a)) (mL M112 54 (ix b)))), (10, .long x137), (8, .long w0_112), (0, .ref 52), (1, .int a), (2, .int b), (3, .int t), (4, .long (f_X7_restOf M77 a))] [] M112) _  E
          intro x204 E
          refine V.seg F floX7 cjoX7 [.aload_n 0, .getfield 23, .iload_n 1, .laload, .lload 16, .land, .lstore 18, .aload_n 0, .iload_n 3, .lload 12, .lload 14, .lload 16, .lload 18] (by decide +kernel) (pc2 := 225) (lv2 := [(18, .long ((mL M112 57 (ix a)) &&& x204)), (16, .long x204), (14, .long (f_X7_more (mL M112 55 (ix a)) (mL M112 55 (ix b)))), (12, .long (f_X7_less (mL M112 54 (ix a)) (mL M112 54 (ix b)))), (10, .long x137), (8, .long w0_112), (0, .ref 52), (1, .int a), (2, .int b), (3, .int t), (4, .long (f_X7_restOf M77 a))]) (st2 := [.long ((mL M112 57 (ix a)) &&& x204), .long x204, .long (f_X7_more (mL M112 55 (ix a)) (mL M112 55 (ix b))), .long (f_X7_less (mL M112 54 (ix a)) (mL M112 54 (ix b))), .int t, .ref 52]) (M2 := M112) rfl ⟨trivial, ((q.sm s112.1).f 52 7 4 rfl), trivial, ((q.sm s112.1).a 57 22 1648 rfl (by first | assumption | exact vinc (by decide))), trivial, trivial, (by decide), trivial, trivial, trivial, trivial, trivial, trivial, trivial⟩ ?_
          refine V.callV (as := [.int t, .long (f_X7_less (mL M112 54 (ix a)) (mL M112 54 (ix b))), .long (f_X7_more (mL M112 55 (ix a)) (mL M112 55 (ix b))), .long x204, .long ((mL M112 57 (ix a)) &&& x204)]) (rest := []) F (by decide +kernel) lX7_157 bX7_put ⟨7, _, ((q.sm s112.1).o 52 7 rfl), rfl, rfl⟩ (c_X7_put G X.2.1 M112 t (f_X7_less (mL M112 54 (ix a)) (mL M112 54 (ix b))) (f_X7_more (mL M112 55 (ix a)) (mL M112 55 (ix b))) x204 ((mL M112 57 (ix a)) &&& x204) (q.sm s112.1) s112.2 (by first | assumption | exact vinc (by decide))) (rm_ok hRm hd (by decide) (by decide)) ⟨Nat.zero_le _, Nat.zero_le _⟩ (Nat.le_of_ble_eq_true rfl) (fun r_ N_ p_ => ?_)
          obtain ⟨rfl, rfl, t225⟩ := p_
          refine (?_ : ∀ (M228 : Mem), (Sg M M228) → f_X7_join M a b t = f_X7_join_c228 a t M77 x137 M228 → V G X 20 0 0 (Qx G X 0 0 (p_X7_join M a b t)) 228 [(18, .long ((mL M112 57 (ix a)) &&& x204)), (16, .long x204), (14, .long (f_X7_more (mL M112 55 (ix a)) (mL M112 55 (ix b)))), (12, .long (f_X7_less (mL M112 54 (ix a)) (mL M112 54 (ix b)))), (10, .long x137), (8, .long w0_112), (0, .ref 52), (1, .int a), (2, .int b), (3, .int t), (4, .long (f_X7_restOf M77 a))] [] M228) _ (Sg.tr s112 t225) E
          intro M228 s228 E
          refine V.seg F floX7 cjoX7 [.aload_n 0, .iload_n 3, .lload 10, .lload 4] (by decide +kernel) (pc2 := 234) (lv2 := [(18, .long ((mL M112 57 (ix a)) &&& x204)), (16, .long x204), (14, .long (f_X7_more (mL M112 55 (ix a)) (mL M112 55 (ix b)))), (12, .long (f_X7_less (mL M112 54 (ix a)) (mL M112 54 (ix b)))), (10, .long x137), (8, .long w0_112), (0, .ref 52), (1, .int a), (2, .int b), (3, .int t), (4, .long (f_X7_restOf M77 a))]) (st2 := [.long (f_X7_restOf M77 a), .long x137, .int t, .ref 52]) (M2 := M228) rfl ⟨trivial, trivial, trivial, trivial, trivial⟩ ?_
          refine V.callV (as := [.int t, .long x137, .long (f_X7_restOf M77 a)]) (rest := []) F (by decide +kernel) lX7_161 bX7_setRest ⟨7, _, ((q.sm s228.1).o 52 7 rfl), rfl, rfl⟩ (c_X7_setRest G X.2.1 M228 t x137 (f_X7_restOf M77 a) (q.sm s228.1) s228.2 (by first | assumption | exact vinc (by decide)) nz_x137) (rm_ok hRm hd (by decide) (by decide)) ⟨Nat.zero_le _, Nat.zero_le _⟩ (Nat.le_of_ble_eq_true rfl) (fun r_ N_ p_ => ?_)
          obtain ⟨rfl, rfl, t234⟩ := p_
          refine (?_ : ∀ (M237 : Mem), (Sg M M237) → f_X7_join M a b t = f_X7_join_c237 t M237 → V G X 20 0 0 (Qx G X 0 0 (p_X7_join M a b t)) 237 [(18, .long ((mL M112 57 (ix a)) &&& x204)), (16, .long x204), (14, .long (f_X7_more (mL M112 55 (ix a)) (mL M112 55 (ix b)))), (12, .long (f_X7_less (mL M112 54 (ix a)) (mL M112 54 (ix b)))), (10, .long x137), (8, .long w0_112), (0, .ref 52), (1, .int a), (2, .int b), (3, .int t), (4, .long (f_X7_restOf M77 a))] [] M237) _ (Sg.tr s228 t234) E
          intro M237 s237 E
          refine V.seg F floX7 cjoX7 [.aload_n 0, .iload_n 3] (by decide +kernel) (pc2 := 239) (lv2 := [(18, .long ((mL M112 57 (ix a)) &&& x204)), (16, .long x204), (14, .long (f_X7_more (mL M112 55 (ix a)) (mL M112 55 (ix b)))), (12, .long (f_X7_less (mL M112 54 (ix a)) (mL M112 54 (ix b)))), (10, .long x137), (8, .long w0_112), (0, .ref 52), (1, .int a), (2, .int b), (3, .int t), (4, .long (f_X7_restOf M77 a))]) (st2 := [.int t, .ref 52]) (M2 := M237) rfl ⟨trivial, trivial, trivial⟩ ?_
          refine V.callV (as := [.int t]) (rest := []) F (by decide +kernel) lX7_165 bX7_sharpen ⟨7, _, ((q.sm s237.1).o 52 7 rfl), rfl, rfl⟩ (c_X7_sharpen G X.2.1 M237 t (q.sm s237.1) s237.2 (by first | assumption | exact vinc (by decide))) (rm_ok hRm hd (by decide) (by decide)) ⟨Nat.zero_le _, Nat.zero_le _⟩ (Nat.le_of_ble_eq_true rfl) (fun r_ N_ p_ => ?_)
          obtain ⟨rfl, rfl, t239⟩ := p_
          refine (?_ : ∀ (M242 : Mem), (Sg M M242) → f_X7_join M a b t = f_X7_join_c242 M242 → V G X 20 0 0 (Qx G X 0 0 (p_X7_join M a b t)) 242 [(18, .long ((mL M112 57 (ix a)) &&& x204)), (16, .long x204), (14, .long (f_X7_more (mL M112 55 (ix a)) (mL M112 55 (ix b)))), (12, .long (f_X7_less (mL M112 54 (ix a)) (mL M112 54 (ix b)))), (10, .long x137), (8, .long w0_112), (0, .ref 52), (1, .int a), (2, .int b), (3, .int t), (4, .long (f_X7_restOf M77 a))] [] M242) _ (Sg.tr s237 t239) E
          intro M242 s242 E
          exact V.vret F (by decide +kernel) ⟨rfl, E.symm, s242⟩
        refine V.lc_le (off := 11) F (by decide +kernel) (tgt := 107) (by decide) (fun h96 => ?_) (fun h96 => ?_)
        · replace E := E.trans (if_pos h96)
          refine V.seg F floX7 cjoX7 [.lload 6, .lload 4, .lsub] (by decide +kernel) (pc2 := 112) (lv2 := [(6, .long (f_X7_restOf M77 b)), (4, .long (f_X7_restOf M77 a)), (0, .ref 52), (1, .int a), (2, .int b), (3, .int t)]) (st2 := [.long ((f_X7_restOf M77 b) - (f_X7_restOf M77 a))]) (M2 := M77) rfl ⟨trivial, trivial, trivial, trivial⟩ ?_
          refine V.pick [2, 3, 4, 5, 1] rfl ?_
          exact hJ112 ((f_X7_restOf M77 b) - (f_X7_restOf M77 a)) M77 s77 E
        · replace E := E.trans (if_neg h96)
          refine V.seg F floX7 cjoX7 [.lload 4, .lload 6, .lsub, .goto 8] (by decide +kernel) (pc2 := 112) (lv2 := [(6, .long (f_X7_restOf M77 b)), (4, .long (f_X7_restOf M77 a)), (0, .ref 52), (1, .int a), (2, .int b), (3, .int t)]) (st2 := [.long ((f_X7_restOf M77 a) - (f_X7_restOf M77 b))]) (M2 := M77) rfl ⟨trivial, trivial, trivial, (by decide), trivial⟩ ?_
          refine V.pick [2, 3, 4, 5, 1] rfl ?_
          exact hJ112 ((f_X7_restOf M77 a) - (f_X7_restOf M77 b)) M77 s77 E
      refine V.if_eq (off := 34) F (by decide +kernel) (tgt := 77) (by decide) (fun h43 => ?_) (fun h43 => ?_)
      · replace E := E.trans (if_pos h43)
        refine V.pick [0, 1, 2, 3] rfl ?_
        exact hJ77 M (Sg.rf gb) E
      · replace E := E.trans (if_neg h43)
        refine V.seg F floX7 cjoX7 [.aload_n 0, .iload_n 2] (by decide +kernel) (pc2 := 48) (lv2 := [(0, .ref 52), (1, .int a), (2, .int b), (3, .int t)]) (st2 := [.int b, .ref 52]) (M2 := M) rfl ⟨trivial, trivial, trivial⟩ ?_
        refine V.callV (as := [.int b]) (rest := []) F (by decide +kernel) lX7_130 bX7_isNumber ⟨7, _, (q.o 52 7 rfl), rfl, rfl⟩ (c_X7_isNumber G X.2.1 M b q gb (by first | assumption | exact vinc (by decide))) (rm_ok hRm hd (by decide) (by decide)) ⟨Nat.zero_le _, Nat.zero_le _⟩ (Nat.le_of_ble_eq_true rfl) (fun r_ N_ p_ => ?_)
        obtain ⟨rfl, hN_, z48⟩ := p_
        rw [hN_]
        clear hN_
        refine V.if_eq (off := 26) F (by decide +kernel) (tgt := 77) (by decide) (fun h51 => ?_) (fun h51 => ?_)
        · replace E := E.trans (if_pos h51)
          refine V.pick [0, 1, 2, 3] rfl ?_
          exact hJ77 M (Sg.rf gb) E
        · replace E := E.trans (if_neg h51)
          refine V.seg F floX7 cjoX7 [.aload_n 0, .getfield 13, .iload_n 1, .laload, .aload_n 0, .getfield 13, .iload_n 2, .laload, .lcmp] (by decide +kernel) (pc2 := 67) (lv2 := [(0, .ref 52), (1, .int a), (2, .int b), (3, .int t)]) (st2 := [.int (lg_cmp (mL M 54 (ix a)) (mL M 54 (ix b)))]) (M2 := M) rfl ⟨trivial, (q.f 52 7 1 rfl), trivial, (q.a 54 22 1648 rfl (by first | assumption | exact vinc (by decide))), trivial, (q.f 52 7 1 rfl), trivial, (q.a 54 22 1648 rfl (by first | assumption | exact vinc (by decide))), trivial, trivial⟩ ?_
          refine V.lc_ne (off := 10) F (by decide +kernel) (tgt := 77) (by decide) (fun h67 => ?_) (fun h67 => ?_)
          · replace E := E.trans (if_neg h67)
            refine V.pick [0, 1, 2, 3] rfl ?_
            exact hJ77 M (Sg.rf gb) E
          · replace E := E.trans (if_pos h67)
            refine V.seg F floX7 cjoX7 [.aload_n 0, .iload_n 3, .iload_n 1] (by decide +kernel) (pc2 := 73) (lv2 := [(0, .ref 52), (1, .int a), (2, .int b), (3, .int t)]) (st2 := [.int a, .int t, .ref 52]) (M2 := M) rfl ⟨trivial, trivial, trivial, trivial⟩ ?_
            refine V.callV (as := [.int t, .int a]) (rest := []) F (by decide +kernel) lX7_133 bX7_copy ⟨7, _, (q.o 52 7 rfl), rfl, rfl⟩ (c_X7_copy G X.2.1 M t a q gb (by first | assumption | exact vinc (by decide)) (by first | assumption | exact vinc (by decide))) (rm_ok hRm hd (by decide) (by decide)) ⟨Nat.zero_le _, Nat.zero_le _⟩ (Nat.le_of_ble_eq_true rfl) (fun r_ N_ p_ => ?_)
            obtain ⟨rfl, rfl, t73⟩ := p_
            refine (?_ : ∀ (M76 : Mem), (Sg M M76) → f_X7_join M a b t = f_X7_join_c76 M76 → V G X 20 0 0 (Qx G X 0 0 (p_X7_join M a b t)) 76 [(0, .ref 52), (1, .int a), (2, .int b), (3, .int t)] [] M76) _ t73 E
            intro M76 s76 E
            exact V.vret F (by decide +kernel) ⟨rfl, E.symm, s76⟩
    · replace E := E.trans (if_neg h15)
      refine V.pick [0, 1, 2, 3] rfl ?_
      exact hJ18 M (Sg.rf gb) E
def f_X7_meet_c246  (M246 : Mem) : Mem := M246
def f_X7_meet_c241 (t : Int32) (M241 : Mem) : Mem := f_X7_meet_c246 (f_X7_sharpen M241 t)
def f_X7_meet_c232 (t : Int32) (w0_195 : Int64) (w0_217 : Int64) (M232 : Mem) : Mem := f_X7_meet_c241 t (f_X7_setRest M232 t w0_195 w0_217)
def f_X7_meet_217 (a : Int32) (b : Int32) (t : Int32) (M23 : Mem) (M109 : Mem) (w0_195 : Int64) (w0_217 : Int64) (M217 : Mem) : Mem := f_X7_meet_c232 t w0_195 w0_217 (f_X7_put M217 t (f_X7_more (mL M23 54 (ix a)) (mL M23 54 (ix b))) (f_X7_less (mL M23 55 (ix a)) (mL M23 55 (ix b))) ((mL M109 56 (ix a)) ||| (mL M109 56 (ix b))) ((mL M109 57 (ix a)) ||| (mL M109 57 (ix b))))
def f_X7_meet_195 (a : Int32) (b : Int32) (t : Int32) (M23 : Mem) (M109 : Mem) (w0_173 : Int32) (w0_195 : Int64) (M195 : Mem) : Mem := if w0_173 = 0 then f_X7_meet_217 a b t M23 M109 w0_195 (mL M195 59 (ix a)) M195 else f_X7_meet_217 a b t M23 M109 w0_195 (mL M195 59 (ix b)) M195
def f_X7_meet_173 (a : Int32) (b : Int32) (t : Int32) (M23 : Mem) (M109 : Mem) (w0_173 : Int32) (M173 : Mem) : Mem := if w0_173 = 0 then f_X7_meet_195 a b t M23 M109 w0_173 (mL M173 58 (ix a)) M173 else f_X7_meet_195 a b t M23 M109 w0_173 (mL M173 58 (ix b)) M173
def f_X7_meet_c121  (M121 : Mem) : Mem := M121
def f_X7_meet_109 (a : Int32) (b : Int32) (t : Int32) (M23 : Mem) (w0_109 : Int32) (M109 : Mem) : Mem := if w0_109 = 0 then if (mL M109 58 (ix b)) ≤ (mL M109 58 (ix a)) then f_X7_meet_173 a b t M23 M109 0 M109 else f_X7_meet_173 a b t M23 M109 1 M109 else f_X7_meet_c121 (f_X7_nothing M109 t)
def f_X7_meet_104 (a : Int32) (b : Int32) (t : Int32) (M23 : Mem) (M104 : Mem) : Mem := f_X7_meet_109 a b t M23 1 M104
def f_X7_meet_23 (a : Int32) (b : Int32) (t : Int32) (w0_23 : Int32) (M23 : Mem) : Mem := if w0_23 = 0 then if (f_X7_less (mL M23 55 (ix a)) (mL M23 55 (ix b))) < (f_X7_more (mL M23 54 (ix a)) (mL M23 54 (ix b))) then f_X7_meet_104 a b t M23 M23 else if (((mL M23 56 (ix a)) &&& (mL M23 56 (ix b))) &&& ((mL M23 57 (ix a)) ^^^ (mL M23 57 (ix b)))) = 0 then f_X7_meet_109 a b t M23 0 M23 else f_X7_meet_104 a b t M23 M23 else f_X7_meet_104 a b t M23 M23
def f_X7_meet_18 (a : Int32) (b : Int32) (t : Int32) (M18 : Mem) : Mem := f_X7_meet_23 a b t 1 M18
def f_X7_meet (M : Mem) (a : Int32) (b : Int32) (t : Int32) : Mem := if (mI M 53 (ix a)) = 0 then if (mI M 53 (ix b)) = 0 then f_X7_meet_23 a b t 0 M else f_X7_meet_18 a b t M else f_X7_meet_18 a b t M
abbrev p_X7_meet (M : Mem) (a : Int32) (b : Int32) (t : Int32) : Option Value → Mem → Prop := fun r N => r = none ∧ N = f_X7_meet M a b t ∧ Sg M N
set_option maxRecDepth 100000 in
set_option maxHeartbeats 4000000 in
theorem c_X7_meet (G : Ctx) (l : Launch) (M : Mem) (a : Int32) (b : Int32) (t : Int32) (q : Ok M) (gb : Gb M) (i_a : vp_in a 1648) (i_b : vp_in b 1648) (i_t : vp_in t 1648) : CT G l 4 mX7_meet [.ref 52, .int a, .int b, .int t] M 0 0 (p_X7_meet M a b t) := by
  refine CT.of (by decide) (Nat.le_of_ble_eq_true rfl) ?_
  intro X d hd hl hRm hnm F
  subst hl
  have E : f_X7_meet M a b t = f_X7_meet M a b t := rfl
  show V G X 18 0 0 (Qx G X 0 0 (p_X7_meet M a b t)) 0 [(0, .ref 52), (1, .int a), (2, .int b), (3, .int t)] [] M
  refine V.seg F floX7 cjoX7 [.aload_n 0, .getfield 9, .iload_n 1, .baload] (by decide +kernel) (pc2 := 6) (lv2 := [(0, .ref 52), (1, .int a), (2, .int b), (3, .int t)]) (st2 := [.int (mI M 53 (ix a))]) (M2 := M) rfl ⟨trivial, (q.f 52 7 0 rfl), trivial, (q.a 53 21 1648 rfl (by first | assumption | exact vinc (by decide))), trivial⟩ ?_
  have hJ23 : ∀ (w0_23 : Int32) (M23 : Mem), (Sg M M23) → f_X7_meet M a b t = f_X7_meet_23 a b t w0_23 M23 → V G X 18 0 0 (Qx G X 0 0 (p_X7_meet M a b t)) 23 [(0, .ref 52), (1, .int a), (2, .int b), (3, .int t)] [.int w0_23] M23 := by
    intro w0_23 M23 s23 E
    refine V.seg F floX7 cjoX7 [.istore 4, .aload_n 0, .getfield 13, .iload_n 1, .laload, .aload_n 0, .getfield 13, .iload_n 2, .laload] (by decide +kernel) (pc2 := 37) (lv2 := [(4, .int w0_23), (0, .ref 52), (1, .int a), (2, .int b), (3, .int t)]) (st2 := [.long (mL M23 54 (ix b)), .long (mL M23 54 (ix a))]) (M2 := M23) rfl ⟨(by decide), trivial, ((q.sm s23.1).f 52 7 1 rfl), trivial, ((q.sm s23.1).a 54 22 1648 rfl (by first | assumption | exact vinc (by decide))), trivial, ((q.sm s23.1).f 52 7 1 rfl), trivial, ((q.sm s23.1).a 54 22 1648 rfl (by first | assumption | exact vinc (by decide))), trivial⟩ ?_
    refine V.callS (as := [.long (mL M23 54 (ix a)), .long (mL M23 54 (ix b))]) (rest := []) F (by decide +kernel) lX7_154 bX7_more (c_X7_more G X.2.1 M23 (mL M23 54 (ix a)) (mL M23 54 (ix b))) (rm_ok hRm hd (by decide) (by decide)) ⟨Nat.zero_le _, Nat.zero_le _⟩ (Nat.le_of_ble_eq_true rfl) (fun r_ N_ p_ => ?_)
    obtain ⟨rfl, hN_⟩ := p_
    rw [hN_]
    clear hN_
    refine V.seg F floX7 cjoX7 [.lstore 5, .aload_n 0, .getfield 17, .iload_n 1, .laload, .aload_n 0, .getfield 17, .iload_n 2, .laload] (by decide +kernel) (pc2 := 54) (lv2 := [(5, .long (f_X7_more (mL M23 54 (ix a)) (mL M23 54 (ix b)))), (4, .int w0_23), (0, .ref 52), (1, .int a), (2, .int b), (3, .int t)]) (st2 := [.long (mL M23 55 (ix b)), .long (mL M23 55 (ix a))]) (M2 := M23) rfl ⟨(by decide), trivial, ((q.sm s23.1).f 52 7 2 rfl), trivial, ((q.sm s23.1).a 55 22 1648 rfl (by first | assumption | exact vinc (by decide))), trivial, ((q.sm s23.1).f 52 7 2 rfl), trivial, ((q.sm s23.1).a 55 22 1648 rfl (by first | assumption | exact vinc (by decide))), trivial⟩ ?_
    refine V.callS (as := [.long (mL M23 55 (ix a)), .long (mL M23 55 (ix b))]) (rest := []) F (by decide +kernel) lX7_151 bX7_less (c_X7_less G X.2.1 M23 (mL M23 55 (ix a)) (mL M23 55 (ix b))) (rm_ok hRm hd (by decide) (by decide)) ⟨Nat.zero_le _, Nat.zero_le _⟩ (Nat.le_of_ble_eq_true rfl) (fun r_ N_ p_ => ?_)
    obtain ⟨rfl, hN_⟩ := p_
    rw [hN_]
    clear hN_
    refine V.seg F floX7 cjoX7 [.lstore 7, .iload 4] (by decide +kernel) (pc2 := 61) (lv2 := [(7, .long (f_X7_less (mL M23 55 (ix a)) (mL M23 55 (ix b)))), (5, .long (f_X7_more (mL M23 54 (ix a)) (mL M23 54 (ix b)))), (4, .int w0_23), (0, .ref 52), (1, .int a), (2, .int b), (3, .int t)]) (st2 := [.int w0_23]) (M2 := M23) rfl ⟨(by decide), trivial, trivial⟩ ?_
    have hJ109 : ∀ (w0_109 : Int32) (M109 : Mem), (Sg M M109) → f_X7_meet M a b t = f_X7_meet_109 a b t M23 w0_109 M109 → V G X 18 0 0 (Qx G X 0 0 (p_X7_meet M a b t)) 109 [(0, .ref 52), (1, .int a), (2, .int b), (3, .int t), (5, .long (f_X7_more (mL M23 54 (ix a)) (mL M23 54 (ix b)))), (7, .long (f_X7_less (mL M23 55 (ix a)) (mL M23 55 (ix b))))] [.int w0_109] M109 := by
      intro w0_109 M109 s109 E
      refine V.seg F floX7 cjoX7 [.istore 4, .iload 4] (by decide +kernel) (pc2 := 113) (lv2 := [(4, .int w0_109), (0, .ref 52), (1, .int a), (2, .int b), (3, .int t), (5, .long (f_X7_more (mL M23 54 (ix a)) (mL M23 54 (ix b)))), (7, .long (f_X7_less (mL M23 55 (ix a)) (mL M23 55 (ix b))))]) (st2 := [.int w0_109]) (M2 := M109) rfl ⟨(by decide), trivial, trivial⟩ ?_
      refine V.if_eq (off := 9) F (by decide +kernel) (tgt := 122) (by decide) (fun h113 => ?_) (fun h113 => ?_)
      · replace E := E.trans (if_pos h113)
        refine V.seg F floX7 cjoX7 [.aload_n 0, .getfield 20, .iload_n 1, .laload, .aload_n 0, .getfield 20, .iload_n 2, .laload, .lor, .lstore 9, .aload_n 0, .getfield 23, .iload_n 1, .laload, .aload_n 0, .getfield 23, .iload_n 2, .laload, .lor, .lstore 11, .aload_n 0, .getfield 26, .iload_n 2, .laload, .aload_n 0, .getfield 26, .iload_n 1, .laload, .lcmp] (by decide +kernel) (pc2 := 165) (lv2 := [(11, .long ((mL M109 57 (ix a)) ||| (mL M109 57 (ix b)))), (9, .long ((mL M109 56 (ix a)) ||| (mL M109 56 (ix b)))), (4, .int w0_109), (0, .ref 52), (1, .int a), (2, .int b), (3, .int t), (5, .long (f_X7_more (mL M23 54 (ix a)) (mL M23 54 (ix b)))), (7, .long (f_X7_less (mL M23 55 (ix a)) (mL M23 55 (ix b))))]) (st2 := [.int (lg_cmp (mL M109 58 (ix b)) (mL M109 58 (ix a)))]) (M2 := M109) rfl ⟨trivial, ((q.sm s109.1).f 52 7 3 rfl), trivial, ((q.sm s109.1).a 56 22 1648 rfl (by first | assumption | exact vinc (by decide))), trivial, ((q.sm s109.1).f 52 7 3 rfl), trivial, ((q.sm s109.1).a 56 22 1648 rfl (by first | assumption | exact vinc (by decide))), trivial, (by decide), trivial, ((q.sm s109.1).f 52 7 4 rfl), trivial, ((q.sm s109.1).a 57 22 1648 rfl (by first | assumption | exact vinc (by decide))), trivial, ((q.sm s109.1).f 52 7 4 rfl), trivial, ((q.sm s109.1).a 57 22 1648 rfl (by first | assumption | exact vinc (by decide))), trivial, (by decide), trivial, ((q.sm s109.1).f 52 7 5 rfl), trivial, ((q.sm s109.1).a 58 22 1648 rfl (by first | assumption | exact vinc (by decide))), trivial, ((q.sm s109.1).f 52 7 5 rfl), trivial, ((q.sm s109.1).a 58 22 1648 rfl (by first | assumption | exact vinc (by decide))), trivial, trivial⟩ ?_
        have hJ173 : ∀ (w0_173 : Int32) (M173 : Mem), (Sg M M173) → f_X7_meet M a b t = f_X7_meet_173 a b t M23 M109 w0_173 M173 → V G X 18 0 0 (Qx G X 0 0 (p_X7_meet M a b t)) 173 [(0, .ref 52), (1, .int a), (2, .int b), (3, .int t), (5, .long (f_X7_more (mL M23 54 (ix a)) (mL M23 54 (ix b)))), (7, .long (f_X7_less (mL M23 55 (ix a)) (mL M23 55 (ix b)))), (9, .long ((mL M109 56 (ix a)) ||| (mL M109 56 (ix b)))), (11, .long ((mL M109 57 (ix a)) ||| (mL M109 57 (ix b))))] [.int w0_173] M173 := by
          intro w0_173 M173 s173 E
          refine V.seg F floX7 cjoX7 [.istore 13, .iload 13] (by decide +kernel) (pc2 := 177) (lv2 := [(13, .int w0_173), (0, .ref 52), (1, .int a), (2, .int b), (3, .int t), (5, .long (f_X7_more (mL M23 54 (ix a)) (mL M23 54 (ix b)))), (7, .long (f_X7_less (mL M23 55 (ix a)) (mL M23 55 (ix b)))), (9, .long ((mL M109 56 (ix a)) ||| (mL M109 56 (ix b)))), (11, .long ((mL M109 57 (ix a)) ||| (mL M109 57 (ix b))))]) (st2 := [.int w0_173]) (M2 := M173) rfl ⟨(by decide), trivial, trivial⟩ ?_
          have hJ195 : ∀ (w0_195 : Int64) (M195 : Mem), (Sg M M195) → (¬ w0_195 = 0) → f_X7_meet M a b t = f_X7_meet_195 a b t M23 M109 w0_173 w0_195 M195 → V G X 18 0 0 (Qx G X 0 0 (p_X7_meet M a b t)) 195 [(0, .ref 52), (1, .int a), (2, .int b), (3, .int t), (5, .long (f_X7_more (mL M23 54 (ix a)) (mL M23 54 (ix b)))), (7, .long (f_X7_less (mL M23 55 (ix a)) (mL M23 55 (ix b)))), (9, .long ((mL M109 56 (ix a)) ||| (mL M109 56 (ix b)))), (11, .long ((mL M109 57 (ix a)) ||| (mL M109 57 (ix b)))), (13, .int w0_173)] [.long w0_195] M195 := by
            intro w0_195 M195 s195 jn195 E
            refine V.seg F floX7 cjoX7 [.lstore 14, .iload 13] (by decide +kernel) (pc2 := 199) (lv2 := [(14, .long w0_195), (0, .ref 52), (1, .int a), (2, .int b), (3, .int t), (5, .long (f_X7_more (mL M23 54 (ix a)) (mL M23 54 (ix b)))), (7, .long (f_X7_less (mL M23 55 (ix a)) (mL M23 55 (ix b)))), (9, .long ((mL M109 56 (ix a)) ||| (mL M109 56 (ix b)))), (11, .long ((mL M109 57 (ix a)) ||| (mL M109 57 (ix b)))), (13, .int w0_173)]) (st2 := [.int w0_173]) (M2 := M195) rfl ⟨(by decide), trivial, trivial⟩ ?_
            have hJ217 : ∀ (w0_217 : Int64) (M217 : Mem), (Sg M M217) → f_X7_meet M a b t = f_X7_meet_217 a b t M23 M109 w0_195 w0_217 M217 → V G X 18 0 0 (Qx G X 0 0 (p_X7_meet M a b t)) 217 [(0, .ref 52), (3, .int t), (5, .long (f_X7_more (mL M23 54 (ix a)) (mL M23 54 (ix b)))), (7, .long (f_X7_less (mL M23 55 (ix a)) (mL M23 55 (ix b)))), (9, .long ((mL M109 56 (ix a)) ||| (mL M109 56 (ix b)))), (11, .long ((mL M109 57 (ix a)) ||| (mL M109 57 (ix b)))), (14, .long w0_195)] [.long w0_217] M217 := by
              intro w0_217 M217 s217 E
              refine V.seg F floX7 cjoX7 [.lstore 16, .aload_n 0, .iload_n 3, .lload 5, .lload 7, .lload 9, .lload 11] (by decide +kernel) (pc2 := 229) (lv2 := [(16, .long w0_217), (0, .ref 52), (3, .int t), (5, .long (f_X7_more (mL M23 54 (ix a)) (mL M23 54 (ix b)))), (7, .long (f_X7_less (mL M23 55 (ix a)) (mL M23 55 (ix b)))), (9, .long ((mL M109 56 (ix a)) ||| (mL M109 56 (ix b)))), (11, .long ((mL M109 57 (ix a)) ||| (mL M109 57 (ix b)))), (14, .long w0_195)]) (st2 := [.long ((mL M109 57 (ix a)) ||| (mL M109 57 (ix b))), .long ((mL M109 56 (ix a)) ||| (mL M109 56 (ix b))), .long (f_X7_less (mL M23 55 (ix a)) (mL M23 55 (ix b))), .long (f_X7_more (mL M23 54 (ix a)) (mL M23 54 (ix b))), .int t, .ref 52]) (M2 := M217) rfl ⟨(by decide), trivial, trivial, trivial, trivial, trivial, trivial, trivial⟩ ?_
              refine V.callV (as := [.int t, .long (f_X7_more (mL M23 54 (ix a)) (mL M23 54 (ix b))), .long (f_X7_less (mL M23 55 (ix a)) (mL M23 55 (ix b))), .long ((mL M109 56 (ix a)) ||| (mL M109 56 (ix b))), .long ((mL M109 57 (ix a)) ||| (mL M109 57 (ix b)))]) (rest := []) F (by decide +kernel) lX7_157 bX7_put ⟨7, _, ((q.sm s217.1).o 52 7 rfl), rfl, rfl⟩ (c_X7_put G X.2.1 M217 t (f_X7_more (mL M23 54 (ix a)) (mL M23 54 (ix b))) (f_X7_less (mL M23 55 (ix a)) (mL M23 55 (ix b))) ((mL M109 56 (ix a)) ||| (mL M109 56 (ix b))) ((mL M109 57 (ix a)) ||| (mL M109 57 (ix b))) (q.sm s217.1) s217.2 (by first | assumption | exact vinc (by decide))) (rm_ok hRm hd (by decide) (by decide)) ⟨Nat.zero_le _, Nat.zero_le _⟩ (Nat.le_of_ble_eq_true rfl) (fun r_ N_ p_ => ?_)
              obtain ⟨rfl, rfl, t229⟩ := p_
              refine (?_ : ∀ (M232 : Mem), (Sg M M232) → f_X7_meet M a b t = f_X7_meet_c232 t w0_195 w0_217 M232 → V G X 18 0 0 (Qx G X 0 0 (p_X7_meet M a b t)) 232 [(16, .long w0_217), (0, .ref 52), (3, .int t), (5, .long (f_X7_more (mL M23 54 (ix a)) (mL M23 54 (ix b)))), (7, .long (f_X7_less (mL M23 55 (ix a)) (mL M23 55 (ix b)))), (9, .long ((mL M109 56 (ix a)) ||| (mL M109 56 (ix b)))), (11, .long ((mL M109 57 (ix a)) ||| (mL M109 57 (ix b)))), (14, .long w0_195)] [] M232) _ (Sg.tr s217 t229) E
              intro M232 s232 E
              refine V.seg F floX7 cjoX7 [.aload_n 0, .iload_n 3, .lload 14, .lload 16] (by decide +kernel) (pc2 := 238) (lv2 := [(16, .long w0_217), (0, .ref 52), (3, .int t), (5, .long (f_X7_more (mL M23 54 (ix a)) (mL M23 54 (ix b)))), (7, .long (f_X7_less (mL M23 55 (ix a)) (mL M23 55 (ix b)))), (9, .long ((mL M109 56 (ix a)) ||| (mL M109 56 (ix b)))), (11, .long ((mL M109 57 (ix a)) ||| (mL M109 57 (ix b)))), (14, .long w0_195)]) (st2 := [.long w0_217, .long w0_195, .int t, .ref 52]) (M2 := M232) rfl ⟨trivial, trivial, trivial, trivial, trivial⟩ ?_
              refine V.callV (as := [.int t, .long w0_195, .long w0_217]) (rest := []) F (by decide +kernel) lX7_161 bX7_setRest ⟨7, _, ((q.sm s232.1).o 52 7 rfl), rfl, rfl⟩ (c_X7_setRest G X.2.1 M232 t w0_195 w0_217 (q.sm s232.1) s232.2 (by first | assumption | exact vinc (by decide)) (by assumption)) (rm_ok hRm hd (by decide) (by decide)) ⟨Nat.zero_le _, Nat.zero_le _⟩ (Nat.le_of_ble_eq_true rfl) (fun r_ N_ p_ => ?_)
              obtain ⟨rfl, rfl, t238⟩ := p_
              refine (?_ : ∀ (M241 : Mem), (Sg M M241) → f_X7_meet M a b t = f_X7_meet_c241 t M241 → V G X 18 0 0 (Qx G X 0 0 (p_X7_meet M a b t)) 241 [(16, .long w0_217), (0, .ref 52), (3, .int t), (5, .long (f_X7_more (mL M23 54 (ix a)) (mL M23 54 (ix b)))), (7, .long (f_X7_less (mL M23 55 (ix a)) (mL M23 55 (ix b)))), (9, .long ((mL M109 56 (ix a)) ||| (mL M109 56 (ix b)))), (11, .long ((mL M109 57 (ix a)) ||| (mL M109 57 (ix b)))), (14, .long w0_195)] [] M241) _ (Sg.tr s232 t238) E
              intro M241 s241 E
              refine V.seg F floX7 cjoX7 [.aload_n 0, .iload_n 3] (by decide +kernel) (pc2 := 243) (lv2 := [(16, .long w0_217), (0, .ref 52), (3, .int t), (5, .long (f_X7_more (mL M23 54 (ix a)) (mL M23 54 (ix b)))), (7, .long (f_X7_less (mL M23 55 (ix a)) (mL M23 55 (ix b)))), (9, .long ((mL M109 56 (ix a)) ||| (mL M109 56 (ix b)))), (11, .long ((mL M109 57 (ix a)) ||| (mL M109 57 (ix b)))), (14, .long w0_195)]) (st2 := [.int t, .ref 52]) (M2 := M241) rfl ⟨trivial, trivial, trivial⟩ ?_
              refine V.callV (as := [.int t]) (rest := []) F (by decide +kernel) lX7_165 bX7_sharpen ⟨7, _, ((q.sm s241.1).o 52 7 rfl), rfl, rfl⟩ (c_X7_sharpen G X.2.1 M241 t (q.sm s241.1) s241.2 (by first | assumption | exact vinc (by decide))) (rm_ok hRm hd (by decide) (by decide)) ⟨Nat.zero_le _, Nat.zero_le _⟩ (Nat.le_of_ble_eq_true rfl) (fun r_ N_ p_ => ?_)
              obtain ⟨rfl, rfl, t243⟩ := p_
              refine (?_ : ∀ (M246 : Mem), (Sg M M246) → f_X7_meet M a b t = f_X7_meet_c246 M246 → V G X 18 0 0 (Qx G X 0 0 (p_X7_meet M a b t)) 246 [(16, .long w0_217), (0, .ref 52), (3, .int t), (5, .long (f_X7_more (mL M23 54 (ix a)) (mL M23 54 (ix b)))), (7, .long (f_X7_less (mL M23 55 (ix a)) (mL M23 55 (ix b)))), (9, .long ((mL M109 56 (ix a)) ||| (mL M109 56 (ix b)))), (11, .long ((mL M109 57 (ix a)) ||| (mL M109 57 (ix b)))), (14, .long w0_195)] [] M246) _ (Sg.tr s241 t243) E
              intro M246 s246 E
              exact V.vret F (by decide +kernel) ⟨rfl, E.symm, s246⟩
            refine V.if_eq (off := 12) F (by decide +kernel) (tgt := 211) (by decide) (fun h199 => ?_) (fun h199 => ?_)
            · replace E := E.trans (if_pos h199)
              refine V.seg F floX7 cjoX7 [.aload_n 0, .getfield 29, .iload_n 1, .laload] (by decide +kernel) (pc2 := 217) (lv2 := [(14, .long w0_195), (0, .ref 52), (1, .int a), (2, .int b), (3, .int t), (5, .long (f_X7_more (mL M23 54 (ix a)) (mL M23 54 (ix b)))), (7, .long (f_X7_less (mL M23 55 (ix a)) (mL M23 55 (ix b)))), (9, .long ((mL M109 56 (ix a)) ||| (mL M109 56 (ix b)))), (11, .long ((mL M109 57 (ix a)) ||| (mL M109 57 (ix b)))), (13, .int w0_173)]) (st2 := [.long (mL M195 59 (ix a))]) (M2 := M195) rfl ⟨trivial, ((q.sm s195.1).f 52 7 6 rfl), trivial, ((q.sm s195.1).a 59 22 1648 rfl (by first | assumption | exact vinc (by decide))), trivial⟩ ?_
              refine V.pick [1, 4, 5, 6, 7, 8, 0] rfl ?_
              exact hJ217 (mL M195 59 (ix a)) M195 s195 E
            · replace E := E.trans (if_neg h199)
              refine V.seg F floX7 cjoX7 [.aload_n 0, .getfield 29, .iload_n 2, .laload, .goto 9] (by decide +kernel) (pc2 := 217) (lv2 := [(14, .long w0_195), (0, .ref 52), (1, .int a), (2, .int b), (3, .int t), (5, .long (f_X7_more (mL M23 54 (ix a)) (mL M23 54 (ix b)))), (7, .long (f_X7_less (mL M23 55 (ix a)) (mL M23 55 (ix b)))), (9, .long ((mL M109 56 (ix a)) ||| (mL M109 56 (ix b)))), (11, .long ((mL M109 57 (ix a)) ||| (mL M109 57 (ix b)))), (13, .int w0_173)]) (st2 := [.long (mL M195 59 (ix b))]) (M2 := M195) rfl ⟨trivial, ((q.sm s195.1).f 52 7 6 rfl), trivial, ((q.sm s195.1).a 59 22 1648 rfl (by first | assumption | exact vinc (by decide))), (by decide), trivial⟩ ?_
              refine V.pick [1, 4, 5, 6, 7, 8, 0] rfl ?_
              exact hJ217 (mL M195 59 (ix b)) M195 s195 E
          refine V.if_eq (off := 12) F (by decide +kernel) (tgt := 189) (by decide) (fun h177 => ?_) (fun h177 => ?_)
          · replace E := E.trans (if_pos h177)
            refine V.seg F floX7 cjoX7 [.aload_n 0, .getfield 26, .iload_n 1, .laload] (by decide +kernel) (pc2 := 195) (lv2 := [(13, .int w0_173), (0, .ref 52), (1, .int a), (2, .int b), (3, .int t), (5, .long (f_X7_more (mL M23 54 (ix a)) (mL M23 54 (ix b)))), (7, .long (f_X7_less (mL M23 55 (ix a)) (mL M23 55 (ix b)))), (9, .long ((mL M109 56 (ix a)) ||| (mL M109 56 (ix b)))), (11, .long ((mL M109 57 (ix a)) ||| (mL M109 57 (ix b))))]) (st2 := [.long (mL M173 58 (ix a))]) (M2 := M173) rfl ⟨trivial, ((q.sm s173.1).f 52 7 5 rfl), trivial, ((q.sm s173.1).a 58 22 1648 rfl (by first | assumption | exact vinc (by decide))), trivial⟩ ?_
            refine V.pick [1, 2, 3, 4, 5, 6, 7, 8, 0] rfl ?_
            exact hJ195 (mL M173 58 (ix a)) M173 s173 (by first | exact s173.2 _ (vin_lt i_b) | exact s173.2 _ (vin_lt i_a)) E
          · replace E := E.trans (if_neg h177)
            refine V.seg F floX7 cjoX7 [.aload_n 0, .getfield 26, .iload_n 2, .laload, .goto 9] (by decide +kernel) (pc2 := 195) (lv2 := [(13, .int w0_173), (0, .ref 52), (1, .int a), (2, .int b), (3, .int t), (5, .long (f_X7_more (mL M23 54 (ix a)) (mL M23 54 (ix b)))), (7, .long (f_X7_less (mL M23 55 (ix a)) (mL M23 55 (ix b)))), (9, .long ((mL M109 56 (ix a)) ||| (mL M109 56 (ix b)))), (11, .long ((mL M109 57 (ix a)) ||| (mL M109 57 (ix b))))]) (st2 := [.long (mL M173 58 (ix b))]) (M2 := M173) rfl ⟨trivial, ((q.sm s173.1).f 52 7 5 rfl), trivial, ((q.sm s173.1).a 58 22 1648 rfl (by first | assumption | exact vinc (by decide))), (by decide), trivial⟩ ?_
            refine V.pick [1, 2, 3, 4, 5, 6, 7, 8, 0] rfl ?_
            exact hJ195 (mL M173 58 (ix b)) M173 s173 (by first | exact s173.2 _ (vin_lt i_b) | exact s173.2 _ (vin_lt i_a)) E
        refine V.lc_le (off := 7) F (by decide +kernel) (tgt := 172) (by decide) (fun h165 => ?_) (fun h165 => ?_)
        · replace E := E.trans (if_pos h165)
          refine V.seg F floX7 cjoX7 [.iconst 0] (by decide +kernel) (pc2 := 173) (lv2 := [(11, .long ((mL M109 57 (ix a)) ||| (mL M109 57 (ix b)))), (9, .long ((mL M109 56 (ix a)) ||| (mL M109 56 (ix b)))), (4, .int w0_109), (0, .ref 52), (1, .int a), (2, .int b), (3, .int t), (5, .long (f_X7_more (mL M23 54 (ix a)) (mL M23 54 (ix b)))), (7, .long (f_X7_less (mL M23 55 (ix a)) (mL M23 55 (ix b))))]) (st2 := [.int 0]) (M2 := M109) rfl ⟨trivial, trivial⟩ ?_
          refine V.pick [3, 4, 5, 6, 7, 8, 1, 0] rfl ?_
          exact hJ173 0 M109 s109 E
        · replace E := E.trans (if_neg h165)
          refine V.seg F floX7 cjoX7 [.iconst 1, .goto 4] (by decide +kernel) (pc2 := 173) (lv2 := [(11, .long ((mL M109 57 (ix a)) ||| (mL M109 57 (ix b)))), (9, .long ((mL M109 56 (ix a)) ||| (mL M109 56 (ix b)))), (4, .int w0_109), (0, .ref 52), (1, .int a), (2, .int b), (3, .int t), (5, .long (f_X7_more (mL M23 54 (ix a)) (mL M23 54 (ix b)))), (7, .long (f_X7_less (mL M23 55 (ix a)) (mL M23 55 (ix b))))]) (st2 := [.int 1]) (M2 := M109) rfl ⟨trivial, (by decide), trivial⟩ ?_
          refine V.pick [3, 4, 5, 6, 7, 8, 1, 0] rfl ?_
          exact hJ173 1 M109 s109 E
      · replace E := E.trans (if_neg h113)
        refine V.seg F floX7 cjoX7 [.aload_n 0, .iload_n 3] (by decide +kernel) (pc2 := 118) (lv2 := [(4, .int w0_109), (0, .ref 52), (1, .int a), (2, .int b), (3, .int t), (5, .long (f_X7_more (mL M23 54 (ix a)) (mL M23 54 (ix b)))), (7, .long (f_X7_less (mL M23 55 (ix a)) (mL M23 55 (ix b))))]) (st2 := [.int t, .ref 52]) (M2 := M109) rfl ⟨trivial, trivial, trivial⟩ ?_
        refine V.callV (as := [.int t]) (rest := []) F (by decide +kernel) lX7_115 bX7_nothing ⟨7, _, ((q.sm s109.1).o 52 7 rfl), rfl, rfl⟩ (c_X7_nothing G X.2.1 M109 t (q.sm s109.1) s109.2 (by first | assumption | exact vinc (by decide))) (rm_ok hRm hd (by decide) (by decide)) ⟨Nat.zero_le _, Nat.zero_le _⟩ (Nat.le_of_ble_eq_true rfl) (fun r_ N_ p_ => ?_)
        obtain ⟨rfl, rfl, t118⟩ := p_
        refine (?_ : ∀ (M121 : Mem), (Sg M M121) → f_X7_meet M a b t = f_X7_meet_c121 M121 → V G X 18 0 0 (Qx G X 0 0 (p_X7_meet M a b t)) 121 [(4, .int w0_109), (0, .ref 52), (1, .int a), (2, .int b), (3, .int t), (5, .long (f_X7_more (mL M23 54 (ix a)) (mL M23 54 (ix b)))), (7, .long (f_X7_less (mL M23 55 (ix a)) (mL M23 55 (ix b))))] [] M121) _ (Sg.tr s109 t118) E
        intro M121 s121 E
        exact V.vret F (by decide +kernel) ⟨rfl, E.symm, s121⟩
    have hJ104 : ∀ (M104 : Mem), (Sg M M104) → f_X7_meet M a b t = f_X7_meet_104 a b t M23 M104 → V G X 18 0 0 (Qx G X 0 0 (p_X7_meet M a b t)) 104 [(0, .ref 52), (1, .int a), (2, .int b), (3, .int t), (5, .long (f_X7_more (mL M23 54 (ix a)) (mL M23 54 (ix b)))), (7, .long (f_X7_less (mL M23 55 (ix a)) (mL M23 55 (ix b))))] [] M104 := by
      intro M104 s104 E
      refine V.seg F floX7 cjoX7 [.iconst 1, .goto 4] (by decide +kernel) (pc2 := 109) (lv2 := [(0, .ref 52), (1, .int a), (2, .int b), (3, .int t), (5, .long (f_X7_more (mL M23 54 (ix a)) (mL M23 54 (ix b)))), (7, .long (f_X7_less (mL M23 55 (ix a)) (mL M23 55 (ix b))))]) (st2 := [.int 1]) (M2 := M104) rfl ⟨trivial, (by decide), trivial⟩ ?_
      refine V.pick [0, 1, 2, 3, 4, 5] rfl ?_
      exact hJ109 1 M104 s104 E
    refine V.if_ne (off := 43) F (by decide +kernel) (tgt := 104) (by decide) (fun h61 => ?_) (fun h61 => ?_)
    · replace E := E.trans (if_neg h61)
      refine V.pick [3, 4, 5, 6, 1, 0] rfl ?_
      exact hJ104 M23 s23 E
    · replace E := E.trans (if_pos h61)
      refine V.seg F floX7 cjoX7 [.lload 5, .lload 7, .lcmp] (by decide +kernel) (pc2 := 69) (lv2 := [(7, .long (f_X7_less (mL M23 55 (ix a)) (mL M23 55 (ix b)))), (5, .long (f_X7_more (mL M23 54 (ix a)) (mL M23 54 (ix b)))), (4, .int w0_23), (0, .ref 52), (1, .int a), (2, .int b), (3, .int t)]) (st2 := [.int (lg_cmp (f_X7_more (mL M23 54 (ix a)) (mL M23 54 (ix b))) (f_X7_less (mL M23 55 (ix a)) (mL M23 55 (ix b))))]) (M2 := M23) rfl ⟨trivial, trivial, trivial, trivial⟩ ?_
      refine V.lc_gt (off := 35) F (by decide +kernel) (tgt := 104) (by decide) (fun h69 => ?_) (fun h69 => ?_)
      · replace E := E.trans (if_pos h69)
        refine V.pick [3, 4, 5, 6, 1, 0] rfl ?_
        exact hJ104 M23 s23 E
      · replace E := E.trans (if_neg h69)
        refine V.seg F floX7 cjoX7 [.aload_n 0, .getfield 20, .iload_n 1, .laload, .aload_n 0, .getfield 20, .iload_n 2, .laload, .land, .aload_n 0, .getfield 23, .iload_n 1, .laload, .aload_n 0, .getfield 23, .iload_n 2, .laload, .lxor, .land, .lconst 0, .lcmp] (by decide +kernel) (pc2 := 101) (lv2 := [(7, .long (f_X7_less (mL M23 55 (ix a)) (mL M23 55 (ix b)))), (5, .long (f_X7_more (mL M23 54 (ix a)) (mL M23 54 (ix b)))), (4, .int w0_23), (0, .ref 52), (1, .int a), (2, .int b), (3, .int t)]) (st2 := [.int (lg_cmp (((mL M23 56 (ix a)) &&& (mL M23 56 (ix b))) &&& ((mL M23 57 (ix a)) ^^^ (mL M23 57 (ix b)))) 0)]) (M2 := M23) rfl ⟨trivial, ((q.sm s23.1).f 52 7 3 rfl), trivial, ((q.sm s23.1).a 56 22 1648 rfl (by first | assumption | exact vinc (by decide))), trivial, ((q.sm s23.1).f 52 7 3 rfl), trivial, ((q.sm s23.1).a 56 22 1648 rfl (by first | assumption | exact vinc (by decide))), trivial, trivial, ((q.sm s23.1).f 52 7 4 rfl), trivial, ((q.sm s23.1).a 57 22 1648 rfl (by first | assumption | exact vinc (by decide))), trivial, ((q.sm s23.1).f 52 7 4 rfl), trivial, ((q.sm s23.1).a 57 22 1648 rfl (by first | assumption | exact vinc (by decide))), trivial, trivial, trivial, trivial, trivial⟩ ?_
        refine V.lc_eq (off := 7) F (by decide +kernel) (tgt := 108) (by decide) (fun h101 => ?_) (fun h101 => ?_)
        · replace E := E.trans (if_pos h101)
          refine V.seg F floX7 cjoX7 [.iconst 0] (by decide +kernel) (pc2 := 109) (lv2 := [(7, .long (f_X7_less (mL M23 55 (ix a)) (mL M23 55 (ix b)))), (5, .long (f_X7_more (mL M23 54 (ix a)) (mL M23 54 (ix b)))), (4, .int w0_23), (0, .ref 52), (1, .int a), (2, .int b), (3, .int t)]) (st2 := [.int 0]) (M2 := M23) rfl ⟨trivial, trivial⟩ ?_
          refine V.pick [3, 4, 5, 6, 1, 0] rfl ?_
          exact hJ109 0 M23 s23 E
        · replace E := E.trans (if_neg h101)
          refine V.pick [3, 4, 5, 6, 1, 0] rfl ?_
          exact hJ104 M23 s23 E
  have hJ18 : ∀ (M18 : Mem), (Sg M M18) → f_X7_meet M a b t = f_X7_meet_18 a b t M18 → V G X 18 0 0 (Qx G X 0 0 (p_X7_meet M a b t)) 18 [(0, .ref 52), (1, .int a), (2, .int b), (3, .int t)] [] M18 := by
    intro M18 s18 E
    refine V.seg F floX7 cjoX7 [.iconst 1, .goto 4] (by decide +kernel) (pc2 := 23) (lv2 := [(0, .ref 52), (1, .int a), (2, .int b), (3, .int t)]) (st2 := [.int 1]) (M2 := M18) rfl ⟨trivial, (by decide), trivial⟩ ?_
    refine V.pick [0, 1, 2, 3] rfl ?_
    exact hJ23 1 M18 s18 E
  refine V.if_ne (off := 12) F (by decide +kernel) (tgt := 18) (by decide) (fun h6 => ?_) (fun h6 => ?_)
  · replace E := E.trans (if_neg h6)
    refine V.pick [0, 1, 2, 3] rfl ?_
    exact hJ18 M (Sg.rf gb) E
  · replace E := E.trans (if_pos h6)
    refine V.seg F floX7 cjoX7 [.aload_n 0, .getfield 9, .iload_n 2, .baload] (by decide +kernel) (pc2 := 15) (lv2 := [(0, .ref 52), (1, .int a), (2, .int b), (3, .int t)]) (st2 := [.int (mI M 53 (ix b))]) (M2 := M) rfl ⟨trivial, (q.f 52 7 0 rfl), trivial, (q.a 53 21 1648 rfl (by first | assumption | exact vinc (by decide))), trivial⟩ ?_
    refine V.if_eq (off := 7) F (by decide +kernel) (tgt := 22) (by decide) (fun h15 => ?_) (fun h15 => ?_)
    · replace E := E.trans (if_pos h15)
      refine V.seg F floX7 cjoX7 [.iconst 0] (by decide +kernel) (pc2 := 23) (lv2 := [(0, .ref 52), (1, .int a), (2, .int b), (3, .int t)]) (st2 := [.int 0]) (M2 := M) rfl ⟨trivial, trivial⟩ ?_
      refine V.pick [0, 1, 2, 3] rfl ?_
      exact hJ23 0 M (Sg.rf gb) E
    · replace E := E.trans (if_neg h15)
      refine V.pick [0, 1, 2, 3] rfl ?_
      exact hJ18 M (Sg.rf gb) E
def f_X7_alone (op : Int32) (a : Int64) : Int64 := if op = 12 then -a else if op = 13 then a ^^^ ((-1)) else if op = 14 then Int32.toInt64 (Int8.toInt32 (Int32.toInt8 (Int64.toInt32 a))) else if op = 15 then Int32.toInt64 (Int16.toInt32 (Int32.toInt16 (Int64.toInt32 a))) else if op = 16 then Int32.toInt64 (Int64.toInt32 a) else if op = 17 then a &&& 255 else if op = 18 then a &&& 65535 else a &&& 4294967295
abbrev p_X7_alone (M : Mem) (op : Int32) (a : Int64) : Option Value → Mem → Prop := fun r N => r = some (.long (f_X7_alone op a)) ∧ N = M
set_option maxRecDepth 100000 in
set_option maxHeartbeats 4000000 in
theorem c_X7_alone (G : Ctx) (l : Launch) (M : Mem) (op : Int32) (a : Int64)  : CT G l 0 mX7_alone [.int op, .long a] M 0 0 (p_X7_alone M op a) := by
  refine CT.of (by decide) (Nat.le_of_ble_eq_true rfl) ?_
  intro X d hd hl hRm hnm F
  subst hl
  have E : f_X7_alone op a = f_X7_alone op a := rfl
  show V G X 3 0 0 (Qx G X 0 0 (p_X7_alone M op a)) 0 [(0, .int op), (1, .long a)] [] M
  refine V.seg F floX7 cjoX7 [.iload_n 0] (by decide +kernel) (pc2 := 1) (lv2 := [(0, .int op), (1, .long a)]) (st2 := [.int op]) (M2 := M) rfl ⟨trivial, trivial⟩ ?_
  by_cases h1_0 : op = 12
  · replace E := E.trans (if_pos h1_0)
    refine V.swo (dflt := 78) (lo := 12) (hi := 18) (offs := #[43, 46, 52, 57, 62, 66, 72]) (len := 43) (off := 43) (tgt := 44) F (by decide +kernel) (by rw [h1_0]; rfl) rfl (by decide) ?_
    refine V.seg F floX7 cjoX7 [.lload_n 1, .lneg] (by decide +kernel) (pc2 := 46) (lv2 := [(0, .int op), (1, .long a)]) (st2 := [.long (-a)]) (M2 := M) rfl ⟨trivial, trivial, trivial⟩ ?_
    exact V.lret F (by decide +kernel) ⟨congrArg (fun z => some (Value.long z)) E.symm, rfl⟩
  · replace E := E.trans (if_neg h1_0)
    by_cases h1_1 : op = 13
    · replace E := E.trans (if_pos h1_1)
      refine V.swo (dflt := 78) (lo := 12) (hi := 18) (offs := #[43, 46, 52, 57, 62, 66, 72]) (len := 43) (off := 46) (tgt := 47) F (by decide +kernel) (by rw [h1_1]; rfl) rfl (by decide) ?_
      refine V.seg F floX7 cjoX7 [.lload_n 1, .ldc2_w 87, .lxor] (by decide +kernel) (pc2 := 52) (lv2 := [(0, .int op), (1, .long a)]) (st2 := [.long (a ^^^ ((-1)))]) (M2 := M) rfl ⟨trivial, trivial, trivial, trivial⟩ ?_
      exact V.lret F (by decide +kernel) ⟨congrArg (fun z => some (Value.long z)) E.symm, rfl⟩
    · replace E := E.trans (if_neg h1_1)
      by_cases h1_2 : op = 14
      · replace E := E.trans (if_pos h1_2)
        refine V.swo (dflt := 78) (lo := 12) (hi := 18) (offs := #[43, 46, 52, 57, 62, 66, 72]) (len := 43) (off := 52) (tgt := 53) F (by decide +kernel) (by rw [h1_2]; rfl) rfl (by decide) ?_
        refine V.seg F floX7 cjoX7 [.lload_n 1, .l2i, .i2b, .i2l] (by decide +kernel) (pc2 := 57) (lv2 := [(0, .int op), (1, .long a)]) (st2 := [.long (Int32.toInt64 (Int8.toInt32 (Int32.toInt8 (Int64.toInt32 a))))]) (M2 := M) rfl ⟨trivial, trivial, trivial, trivial, trivial⟩ ?_
        exact V.lret F (by decide +kernel) ⟨congrArg (fun z => some (Value.long z)) E.symm, rfl⟩
      · replace E := E.trans (if_neg h1_2)
        by_cases h1_3 : op = 15
        · replace E := E.trans (if_pos h1_3)
          refine V.swo (dflt := 78) (lo := 12) (hi := 18) (offs := #[43, 46, 52, 57, 62, 66, 72]) (len := 43) (off := 57) (tgt := 58) F (by decide +kernel) (by rw [h1_3]; rfl) rfl (by decide) ?_
          refine V.seg F floX7 cjoX7 [.lload_n 1, .l2i, .i2s, .i2l] (by decide +kernel) (pc2 := 62) (lv2 := [(0, .int op), (1, .long a)]) (st2 := [.long (Int32.toInt64 (Int16.toInt32 (Int32.toInt16 (Int64.toInt32 a))))]) (M2 := M) rfl ⟨trivial, trivial, trivial, trivial, trivial⟩ ?_
          exact V.lret F (by decide +kernel) ⟨congrArg (fun z => some (Value.long z)) E.symm, rfl⟩
        · replace E := E.trans (if_neg h1_3)
          by_cases h1_4 : op = 16
          · replace E := E.trans (if_pos h1_4)
            refine V.swo (dflt := 78) (lo := 12) (hi := 18) (offs := #[43, 46, 52, 57, 62, 66, 72]) (len := 43) (off := 62) (tgt := 63) F (by decide +kernel) (by rw [h1_4]; rfl) rfl (by decide) ?_
            refine V.seg F floX7 cjoX7 [.lload_n 1, .l2i, .i2l] (by decide +kernel) (pc2 := 66) (lv2 := [(0, .int op), (1, .long a)]) (st2 := [.long (Int32.toInt64 (Int64.toInt32 a))]) (M2 := M) rfl ⟨trivial, trivial, trivial, trivial⟩ ?_
            exact V.lret F (by decide +kernel) ⟨congrArg (fun z => some (Value.long z)) E.symm, rfl⟩
          · replace E := E.trans (if_neg h1_4)
            by_cases h1_5 : op = 17
            · replace E := E.trans (if_pos h1_5)
              refine V.swo (dflt := 78) (lo := 12) (hi := 18) (offs := #[43, 46, 52, 57, 62, 66, 72]) (len := 43) (off := 66) (tgt := 67) F (by decide +kernel) (by rw [h1_5]; rfl) rfl (by decide) ?_
              refine V.seg F floX7 cjoX7 [.lload_n 1, .ldc2_w 174, .land] (by decide +kernel) (pc2 := 72) (lv2 := [(0, .int op), (1, .long a)]) (st2 := [.long (a &&& 255)]) (M2 := M) rfl ⟨trivial, trivial, trivial, trivial⟩ ?_
              exact V.lret F (by decide +kernel) ⟨congrArg (fun z => some (Value.long z)) E.symm, rfl⟩
            · replace E := E.trans (if_neg h1_5)
              by_cases h1_6 : op = 18
              · replace E := E.trans (if_pos h1_6)
                refine V.swo (dflt := 78) (lo := 12) (hi := 18) (offs := #[43, 46, 52, 57, 62, 66, 72]) (len := 43) (off := 72) (tgt := 73) F (by decide +kernel) (by rw [h1_6]; rfl) rfl (by decide) ?_
                refine V.seg F floX7 cjoX7 [.lload_n 1, .ldc2_w 176, .land] (by decide +kernel) (pc2 := 78) (lv2 := [(0, .int op), (1, .long a)]) (st2 := [.long (a &&& 65535)]) (M2 := M) rfl ⟨trivial, trivial, trivial, trivial⟩ ?_
                exact V.lret F (by decide +kernel) ⟨congrArg (fun z => some (Value.long z)) E.symm, rfl⟩
              · replace E := E.trans (if_neg h1_6)
                refine V.swo (dflt := 78) (lo := 12) (hi := 18) (offs := #[43, 46, 52, 57, 62, 66, 72]) (len := 43) (off := 78) (tgt := 79) F (by decide +kernel) (sw_dflt 7 (by decide) (h := fun k_ hk_ e_ => match k_, hk_, e_ with | 0, _, e_ => absurd ((e_.trans (by decide))) h1_0 | 1, _, e_ => absurd ((e_.trans (by decide))) h1_1 | 2, _, e_ => absurd ((e_.trans (by decide))) h1_2 | 3, _, e_ => absurd ((e_.trans (by decide))) h1_3 | 4, _, e_ => absurd ((e_.trans (by decide))) h1_4 | 5, _, e_ => absurd ((e_.trans (by decide))) h1_5 | 6, _, e_ => absurd ((e_.trans (by decide))) h1_6 | k_ + 7, hk_, _ => absurd hk_ (by omega))) rfl (by decide) ?_
                refine V.seg F floX7 cjoX7 [.lload_n 1, .ldc2_w 178, .land] (by decide +kernel) (pc2 := 84) (lv2 := [(0, .int op), (1, .long a)]) (st2 := [.long (a &&& 4294967295)]) (M2 := M) rfl ⟨trivial, trivial, trivial, trivial⟩ ?_
                exact V.lret F (by decide +kernel) ⟨congrArg (fun z => some (Value.long z)) E.symm, rfl⟩
def f_X7_reckon (op : Int32) (a : Int64) (b : Int64) : Int64 := if op = 0 then a + b else if op = 1 then a - b else if op = 2 then a * b else if op = 3 then a &&& b else if op = 4 then a ||| b else if op = 5 then a ^^^ b else if op = 6 then jshl a (Int64.toInt32 b) else if op = 7 then jshr a (Int64.toInt32 b) else if op = 8 then jushr a (Int64.toInt32 b) else if op = 9 then a / b else if op = 10 then jrem a b else if op = 11 then ((a ^^^ (jushr a 29)) * ((-4658895280553007687))) + b else f_X7_alone op a
abbrev p_X7_reckon (M : Mem) (op : Int32) (a : Int64) (b : Int64) : Option Value → Mem → Prop := fun r N => r = some (.long (f_X7_reckon op a b)) ∧ N = M
set_option maxRecDepth 100000 in
set_option maxHeartbeats 4000000 in
theorem c_X7_reckon (G : Ctx) (l : Launch) (M : Mem) (op : Int32) (a : Int64) (b : Int64) (hb : op = 9 ∨ op = 10 → ¬ b = 0) : CT G l 1 mX7_reckon [.int op, .long a, .long b] M 0 0 (p_X7_reckon M op a b) := by
  refine CT.of (by decide) (Nat.le_of_ble_eq_true rfl) ?_
  intro X d hd hl hRm hnm F
  subst hl
  have E : f_X7_reckon op a b = f_X7_reckon op a b := rfl
  show V G X 5 0 0 (Qx G X 0 0 (p_X7_reckon M op a b)) 0 [(0, .int op), (1, .long a), (3, .long b)] [] M
  refine V.seg F floX7 cjoX7 [.iload_n 0] (by decide +kernel) (pc2 := 1) (lv2 := [(0, .int op), (1, .long a), (3, .long b)]) (st2 := [.int op]) (M2 := M) rfl ⟨trivial, trivial⟩ ?_
  by_cases h1_0 : op = 0
  · replace E := E.trans (if_pos h1_0)
    refine V.swo (dflt := 123) (lo := 0) (hi := 11) (offs := #[63, 67, 71, 75, 79, 83, 87, 92, 97, 102, 106, 110]) (len := 63) (off := 63) (tgt := 64) F (by decide +kernel) (by rw [h1_0]; rfl) rfl (by decide) ?_
    refine V.seg F floX7 cjoX7 [.lload_n 1, .lload_n 3, .ladd] (by decide +kernel) (pc2 := 67) (lv2 := [(0, .int op), (1, .long a), (3, .long b)]) (st2 := [.long (a + b)]) (M2 := M) rfl ⟨trivial, trivial, trivial, trivial⟩ ?_
    exact V.lret F (by decide +kernel) ⟨congrArg (fun z => some (Value.long z)) E.symm, rfl⟩
  · replace E := E.trans (if_neg h1_0)
    by_cases h1_1 : op = 1
    · replace E := E.trans (if_pos h1_1)
      refine V.swo (dflt := 123) (lo := 0) (hi := 11) (offs := #[63, 67, 71, 75, 79, 83, 87, 92, 97, 102, 106, 110]) (len := 63) (off := 67) (tgt := 68) F (by decide +kernel) (by rw [h1_1]; rfl) rfl (by decide) ?_
      refine V.seg F floX7 cjoX7 [.lload_n 1, .lload_n 3, .lsub] (by decide +kernel) (pc2 := 71) (lv2 := [(0, .int op), (1, .long a), (3, .long b)]) (st2 := [.long (a - b)]) (M2 := M) rfl ⟨trivial, trivial, trivial, trivial⟩ ?_
      exact V.lret F (by decide +kernel) ⟨congrArg (fun z => some (Value.long z)) E.symm, rfl⟩
    · replace E := E.trans (if_neg h1_1)
      by_cases h1_2 : op = 2
      · replace E := E.trans (if_pos h1_2)
        refine V.swo (dflt := 123) (lo := 0) (hi := 11) (offs := #[63, 67, 71, 75, 79, 83, 87, 92, 97, 102, 106, 110]) (len := 63) (off := 71) (tgt := 72) F (by decide +kernel) (by rw [h1_2]; rfl) rfl (by decide) ?_
        refine V.seg F floX7 cjoX7 [.lload_n 1, .lload_n 3, .lmul] (by decide +kernel) (pc2 := 75) (lv2 := [(0, .int op), (1, .long a), (3, .long b)]) (st2 := [.long (a * b)]) (M2 := M) rfl ⟨trivial, trivial, trivial, trivial⟩ ?_
        exact V.lret F (by decide +kernel) ⟨congrArg (fun z => some (Value.long z)) E.symm, rfl⟩
      · replace E := E.trans (if_neg h1_2)
        by_cases h1_3 : op = 3
        · replace E := E.trans (if_pos h1_3)
          refine V.swo (dflt := 123) (lo := 0) (hi := 11) (offs := #[63, 67, 71, 75, 79, 83, 87, 92, 97, 102, 106, 110]) (len := 63) (off := 75) (tgt := 76) F (by decide +kernel) (by rw [h1_3]; rfl) rfl (by decide) ?_
          refine V.seg F floX7 cjoX7 [.lload_n 1, .lload_n 3, .land] (by decide +kernel) (pc2 := 79) (lv2 := [(0, .int op), (1, .long a), (3, .long b)]) (st2 := [.long (a &&& b)]) (M2 := M) rfl ⟨trivial, trivial, trivial, trivial⟩ ?_
          exact V.lret F (by decide +kernel) ⟨congrArg (fun z => some (Value.long z)) E.symm, rfl⟩
        · replace E := E.trans (if_neg h1_3)
          by_cases h1_4 : op = 4
          · replace E := E.trans (if_pos h1_4)
            refine V.swo (dflt := 123) (lo := 0) (hi := 11) (offs := #[63, 67, 71, 75, 79, 83, 87, 92, 97, 102, 106, 110]) (len := 63) (off := 79) (tgt := 80) F (by decide +kernel) (by rw [h1_4]; rfl) rfl (by decide) ?_
            refine V.seg F floX7 cjoX7 [.lload_n 1, .lload_n 3, .lor] (by decide +kernel) (pc2 := 83) (lv2 := [(0, .int op), (1, .long a), (3, .long b)]) (st2 := [.long (a ||| b)]) (M2 := M) rfl ⟨trivial, trivial, trivial, trivial⟩ ?_
            exact V.lret F (by decide +kernel) ⟨congrArg (fun z => some (Value.long z)) E.symm, rfl⟩
          · replace E := E.trans (if_neg h1_4)
            by_cases h1_5 : op = 5
            · replace E := E.trans (if_pos h1_5)
              refine V.swo (dflt := 123) (lo := 0) (hi := 11) (offs := #[63, 67, 71, 75, 79, 83, 87, 92, 97, 102, 106, 110]) (len := 63) (off := 83) (tgt := 84) F (by decide +kernel) (by rw [h1_5]; rfl) rfl (by decide) ?_
              refine V.seg F floX7 cjoX7 [.lload_n 1, .lload_n 3, .lxor] (by decide +kernel) (pc2 := 87) (lv2 := [(0, .int op), (1, .long a), (3, .long b)]) (st2 := [.long (a ^^^ b)]) (M2 := M) rfl ⟨trivial, trivial, trivial, trivial⟩ ?_
              exact V.lret F (by decide +kernel) ⟨congrArg (fun z => some (Value.long z)) E.symm, rfl⟩
            · replace E := E.trans (if_neg h1_5)
              by_cases h1_6 : op = 6
              · replace E := E.trans (if_pos h1_6)
                refine V.swo (dflt := 123) (lo := 0) (hi := 11) (offs := #[63, 67, 71, 75, 79, 83, 87, 92, 97, 102, 106, 110]) (len := 63) (off := 87) (tgt := 88) F (by decide +kernel) (by rw [h1_6]; rfl) rfl (by decide) ?_
                refine V.seg F floX7 cjoX7 [.lload_n 1, .lload_n 3, .l2i, .lshl] (by decide +kernel) (pc2 := 92) (lv2 := [(0, .int op), (1, .long a), (3, .long b)]) (st2 := [.long (jshl a (Int64.toInt32 b))]) (M2 := M) rfl ⟨trivial, trivial, trivial, trivial, trivial⟩ ?_
                exact V.lret F (by decide +kernel) ⟨congrArg (fun z => some (Value.long z)) E.symm, rfl⟩
              · replace E := E.trans (if_neg h1_6)
                by_cases h1_7 : op = 7
                · replace E := E.trans (if_pos h1_7)
                  refine V.swo (dflt := 123) (lo := 0) (hi := 11) (offs := #[63, 67, 71, 75, 79, 83, 87, 92, 97, 102, 106, 110]) (len := 63) (off := 92) (tgt := 93) F (by decide +kernel) (by rw [h1_7]; rfl) rfl (by decide) ?_
                  refine V.seg F floX7 cjoX7 [.lload_n 1, .lload_n 3, .l2i, .lshr] (by decide +kernel) (pc2 := 97) (lv2 := [(0, .int op), (1, .long a), (3, .long b)]) (st2 := [.long (jshr a (Int64.toInt32 b))]) (M2 := M) rfl ⟨trivial, trivial, trivial, trivial, trivial⟩ ?_
                  exact V.lret F (by decide +kernel) ⟨congrArg (fun z => some (Value.long z)) E.symm, rfl⟩
                · replace E := E.trans (if_neg h1_7)
                  by_cases h1_8 : op = 8
                  · replace E := E.trans (if_pos h1_8)
                    refine V.swo (dflt := 123) (lo := 0) (hi := 11) (offs := #[63, 67, 71, 75, 79, 83, 87, 92, 97, 102, 106, 110]) (len := 63) (off := 97) (tgt := 98) F (by decide +kernel) (by rw [h1_8]; rfl) rfl (by decide) ?_
                    refine V.seg F floX7 cjoX7 [.lload_n 1, .lload_n 3, .l2i, .lushr] (by decide +kernel) (pc2 := 102) (lv2 := [(0, .int op), (1, .long a), (3, .long b)]) (st2 := [.long (jushr a (Int64.toInt32 b))]) (M2 := M) rfl ⟨trivial, trivial, trivial, trivial, trivial⟩ ?_
                    exact V.lret F (by decide +kernel) ⟨congrArg (fun z => some (Value.long z)) E.symm, rfl⟩
                  · replace E := E.trans (if_neg h1_8)
                    by_cases h1_9 : op = 9
                    · replace E := E.trans (if_pos h1_9)
                      refine V.swo (dflt := 123) (lo := 0) (hi := 11) (offs := #[63, 67, 71, 75, 79, 83, 87, 92, 97, 102, 106, 110]) (len := 63) (off := 102) (tgt := 103) F (by decide +kernel) (by rw [h1_9]; rfl) rfl (by decide) ?_
                      refine V.seg F floX7 cjoX7 [.lload_n 1, .lload_n 3, .ldiv] (by decide +kernel) (pc2 := 106) (lv2 := [(0, .int op), (1, .long a), (3, .long b)]) (st2 := [.long (a / b)]) (M2 := M) rfl ⟨trivial, trivial, (hb (Or.inl h1_9)), trivial⟩ ?_
                      exact V.lret F (by decide +kernel) ⟨congrArg (fun z => some (Value.long z)) E.symm, rfl⟩
                    · replace E := E.trans (if_neg h1_9)
                      by_cases h1_10 : op = 10
                      · replace E := E.trans (if_pos h1_10)
                        refine V.swo (dflt := 123) (lo := 0) (hi := 11) (offs := #[63, 67, 71, 75, 79, 83, 87, 92, 97, 102, 106, 110]) (len := 63) (off := 106) (tgt := 107) F (by decide +kernel) (by rw [h1_10]; rfl) rfl (by decide) ?_
                        refine V.seg F floX7 cjoX7 [.lload_n 1, .lload_n 3, .lrem] (by decide +kernel) (pc2 := 110) (lv2 := [(0, .int op), (1, .long a), (3, .long b)]) (st2 := [.long (jrem a b)]) (M2 := M) rfl ⟨trivial, trivial, (hb (Or.inr h1_10)), trivial⟩ ?_
                        exact V.lret F (by decide +kernel) ⟨congrArg (fun z => some (Value.long z)) E.symm, rfl⟩
                      · replace E := E.trans (if_neg h1_10)
                        by_cases h1_11 : op = 11
                        · replace E := E.trans (if_pos h1_11)
                          refine V.swo (dflt := 123) (lo := 0) (hi := 11) (offs := #[63, 67, 71, 75, 79, 83, 87, 92, 97, 102, 106, 110]) (len := 63) (off := 110) (tgt := 111) F (by decide +kernel) (by rw [h1_11]; rfl) rfl (by decide) ?_
                          refine V.seg F floX7 cjoX7 [.lload_n 1, .lload_n 1, .bipush 29, .lushr, .lxor, .ldc2_w 168, .lmul, .lload_n 3, .ladd] (by decide +kernel) (pc2 := 123) (lv2 := [(0, .int op), (1, .long a), (3, .long b)]) (st2 := [.long (((a ^^^ (jushr a 29)) * ((-4658895280553007687))) + b)]) (M2 := M) rfl ⟨trivial, trivial, trivial, trivial, trivial, trivial, trivial, trivial, trivial, trivial⟩ ?_
                          exact V.lret F (by decide +kernel) ⟨congrArg (fun z => some (Value.long z)) E.symm, rfl⟩
                        · replace E := E.trans (if_neg h1_11)
                          refine V.swo (dflt := 123) (lo := 0) (hi := 11) (offs := #[63, 67, 71, 75, 79, 83, 87, 92, 97, 102, 106, 110]) (len := 63) (off := 123) (tgt := 124) F (by decide +kernel) (sw_dflt 12 (by decide) (h := fun k_ hk_ e_ => match k_, hk_, e_ with | 0, _, e_ => absurd ((e_.trans (by decide))) h1_0 | 1, _, e_ => absurd ((e_.trans (by decide))) h1_1 | 2, _, e_ => absurd ((e_.trans (by decide))) h1_2 | 3, _, e_ => absurd ((e_.trans (by decide))) h1_3 | 4, _, e_ => absurd ((e_.trans (by decide))) h1_4 | 5, _, e_ => absurd ((e_.trans (by decide))) h1_5 | 6, _, e_ => absurd ((e_.trans (by decide))) h1_6 | 7, _, e_ => absurd ((e_.trans (by decide))) h1_7 | 8, _, e_ => absurd ((e_.trans (by decide))) h1_8 | 9, _, e_ => absurd ((e_.trans (by decide))) h1_9 | 10, _, e_ => absurd ((e_.trans (by decide))) h1_10 | 11, _, e_ => absurd ((e_.trans (by decide))) h1_11 | k_ + 12, hk_, _ => absurd hk_ (by omega))) rfl (by decide) ?_
                          refine V.seg F floX7 cjoX7 [.iload_n 0, .lload_n 1] (by decide +kernel) (pc2 := 126) (lv2 := [(0, .int op), (1, .long a), (3, .long b)]) (st2 := [.long a, .int op]) (M2 := M) rfl ⟨trivial, trivial, trivial⟩ ?_
                          refine V.callS (as := [.int op, .long a]) (rest := []) F (by decide +kernel) lX7_170 bX7_alone (c_X7_alone G X.2.1 M op a) (rm_ok hRm hd (by decide) (by decide)) ⟨Nat.zero_le _, Nat.zero_le _⟩ (Nat.le_of_ble_eq_true rfl) (fun r_ N_ p_ => ?_)
                          obtain ⟨rfl, hN_⟩ := p_
                          rw [hN_]
                          clear hN_
                          exact V.lret F (by decide +kernel) ⟨congrArg (fun z => some (Value.long z)) E.symm, rfl⟩
def f_X7_turn_c35  (M35 : Mem) : Mem := M35
def f_X7_turn (M : Mem) (a : Int32) (t : Int32) : Mem := f_X7_turn_c35 (uL (uL M 56 (ix t) (mL M 56 (ix a))) 57 (ix t) (((mL (uL M 56 (ix t) (mL M 56 (ix a))) 57 (ix a)) ^^^ ((-1))) &&& (mL (uL M 56 (ix t) (mL M 56 (ix a))) 56 (ix a))))
abbrev p_X7_turn (M : Mem) (a : Int32) (t : Int32) : Option Value → Mem → Prop := fun r N => r = none ∧ N = f_X7_turn M a t ∧ Sg M N
set_option maxRecDepth 100000 in
set_option maxHeartbeats 4000000 in
theorem c_X7_turn (G : Ctx) (l : Launch) (M : Mem) (a : Int32) (t : Int32) (q : Ok M) (gb : Gb M) (i_a : vp_in a 1648) (i_t : vp_in t 1648) : CT G l 0 mX7_turn [.ref 52, .int a, .int t] M 0 0 (p_X7_turn M a t) := by
  refine CT.of (by decide) (Nat.le_of_ble_eq_true rfl) ?_
  intro X d hd hl hRm hnm F
  subst hl
  have E : f_X7_turn M a t = f_X7_turn M a t := rfl
  show V G X 3 0 0 (Qx G X 0 0 (p_X7_turn M a t)) 0 [(0, .ref 52), (1, .int a), (2, .int t)] [] M
  refine V.seg F floX7 cjoX7 [.aload_n 0, .getfield 20, .iload_n 2, .aload_n 0, .getfield 20, .iload_n 1, .laload, .lastore, .aload_n 0, .getfield 23, .iload_n 2, .aload_n 0, .getfield 23, .iload_n 1, .laload, .ldc2_w 87, .lxor, .aload_n 0, .getfield 20, .iload_n 1, .laload, .land, .lastore] (by decide +kernel) (pc2 := 35) (lv2 := [(0, .ref 52), (1, .int a), (2, .int t)]) (st2 := []) (M2 := uL (uL M 56 (ix t) (mL M 56 (ix a))) 57 (ix t) (((mL (uL M 56 (ix t) (mL M 56 (ix a))) 57 (ix a)) ^^^ ((-1))) &&& (mL (uL M 56 (ix t) (mL M 56 (ix a))) 56 (ix a)))) rfl ⟨trivial, (q.f 52 7 3 rfl), trivial, trivial, (q.f 52 7 3 rfl), trivial, (q.a 56 22 1648 rfl (by first | assumption | exact vinc (by decide))), (q.a 56 22 1648 rfl (by first | assumption | exact vinc (by decide))), trivial, ((q.sm (Sg.pL (Sg.rf gb) (by decide)).1).f 52 7 4 rfl), trivial, trivial, ((q.sm (Sg.pL (Sg.rf gb) (by decide)).1).f 52 7 4 rfl), trivial, ((q.sm (Sg.pL (Sg.rf gb) (by decide)).1).a 57 22 1648 rfl (by first | assumption | exact vinc (by decide))), trivial, trivial, trivial, ((q.sm (Sg.pL (Sg.rf gb) (by decide)).1).f 52 7 3 rfl), trivial, ((q.sm (Sg.pL (Sg.rf gb) (by decide)).1).a 56 22 1648 rfl (by first | assumption | exact vinc (by decide))), trivial, ((q.sm (Sg.pL (Sg.rf gb) (by decide)).1).a 57 22 1648 rfl (by first | assumption | exact vinc (by decide))), trivial⟩ ?_
  refine (?_ : ∀ (M35 : Mem), (Sg M M35) → f_X7_turn M a t = f_X7_turn_c35 M35 → V G X 3 0 0 (Qx G X 0 0 (p_X7_turn M a t)) 35 [(0, .ref 52), (1, .int a), (2, .int t)] [] M35) _ (Sg.pL (Sg.pL (Sg.rf gb) (by decide)) (by decide)) E
  intro M35 s35 E
  exact V.vret F (by decide +kernel) ⟨rfl, E.symm, s35⟩
def f_X7_bit_30  (w0_30 : Int32) : Int32 := w0_30
def f_X7_bit (M : Mem) (f : Int32) (p : Int32) : Int32 := if ((jushr (mL M 56 (ix f)) p) &&& 1) = 0 then f_X7_bit_30 2 else f_X7_bit_30 (Int64.toInt32 ((jushr (mL M 57 (ix f)) p) &&& 1))
abbrev p_X7_bit (M : Mem) (f : Int32) (p : Int32) : Option Value → Mem → Prop := fun r N => r = some (.int (f_X7_bit M f p)) ∧ N = M
set_option maxRecDepth 100000 in
set_option maxHeartbeats 4000000 in
theorem c_X7_bit (G : Ctx) (l : Launch) (M : Mem) (f : Int32) (p : Int32) (q : Ok M) (gb : Gb M) (i_f : vp_in f 1648) : CT G l 0 mX7_bit [.ref 52, .int f, .int p] M 0 0 (p_X7_bit M f p) := by
  refine CT.of (by decide) (Nat.le_of_ble_eq_true rfl) ?_
  intro X d hd hl hRm hnm F
  subst hl
  have E : f_X7_bit M f p = f_X7_bit M f p := rfl
  show V G X 3 0 0 (Qx G X 0 0 (p_X7_bit M f p)) 0 [(0, .ref 52), (1, .int f), (2, .int p)] [] M
  refine V.seg F floX7 cjoX7 [.aload_n 0, .getfield 20, .iload_n 1, .laload, .iload_n 2, .lushr, .lconst 1, .land, .lconst 0, .lcmp] (by decide +kernel) (pc2 := 12) (lv2 := [(0, .ref 52), (1, .int f), (2, .int p)]) (st2 := [.int (lg_cmp ((jushr (mL M 56 (ix f)) p) &&& 1) 0)]) (M2 := M) rfl ⟨trivial, (q.f 52 7 3 rfl), trivial, (q.a 56 22 1648 rfl (by first | assumption | exact vinc (by decide))), trivial, trivial, trivial, trivial, trivial, trivial, trivial⟩ ?_
  have hJ30 : ∀ (w0_30 : Int32), f_X7_bit M f p = f_X7_bit_30 w0_30 → V G X 3 0 0 (Qx G X 0 0 (p_X7_bit M f p)) 30 [] [.int w0_30] M := by
    intro w0_30 E
    exact V.iret F (by decide +kernel) ⟨congrArg (fun z => some (Value.int z)) E.symm, rfl⟩
  refine V.lc_ne (off := 7) F (by decide +kernel) (tgt := 19) (by decide) (fun h12 => ?_) (fun h12 => ?_)
  · replace E := E.trans (if_neg h12)
    refine V.seg F floX7 cjoX7 [.aload_n 0, .getfield 23, .iload_n 1, .laload, .iload_n 2, .lushr, .lconst 1, .land, .l2i] (by decide +kernel) (pc2 := 30) (lv2 := [(0, .ref 52), (1, .int f), (2, .int p)]) (st2 := [.int (Int64.toInt32 ((jushr (mL M 57 (ix f)) p) &&& 1))]) (M2 := M) rfl ⟨trivial, (q.f 52 7 4 rfl), trivial, (q.a 57 22 1648 rfl (by first | assumption | exact vinc (by decide))), trivial, trivial, trivial, trivial, trivial, trivial⟩ ?_
    refine V.pick [] rfl ?_
    exact hJ30 (Int64.toInt32 ((jushr (mL M 57 (ix f)) p) &&& 1))  E
  · replace E := E.trans (if_pos h12)
    refine V.seg F floX7 cjoX7 [.iconst 2, .goto 14] (by decide +kernel) (pc2 := 30) (lv2 := [(0, .ref 52), (1, .int f), (2, .int p)]) (st2 := [.int 2]) (M2 := M) rfl ⟨trivial, (by decide), trivial⟩ ?_
    refine V.pick [] rfl ?_
    exact hJ30 2  E
def f_X7_ripple_183 (j20 : Nat) (R20_ : Int32 → Int64 → Int64 → Nat → Mem → Mem) (y6_91 : Int64) (y8_91 : Int64) (w0_183 : Int32) (M183 : Mem) : Mem := R20_ w0_183 y6_91 y8_91 (j20 + 1) M183
def f_X7_ripple_159 (j20 : Nat) (R20_ : Int32 → Int64 → Int64 → Nat → Mem → Mem) (y6_91 : Int64) (y8_91 : Int64) (w0_102 : Int32) (w0_113 : Int32) (w0_125 : Int32) (w0_138 : Int32) (w0_148 : Int32) (w0_159 : Int32) (M159 : Mem) : Mem := if ((w0_102 + w0_113) + w0_125) ≤ 1 then if ((w0_138 + w0_148) + w0_159) ≤ 1 then f_X7_ripple_183 j20 R20_ y6_91 y8_91 2 M159 else f_X7_ripple_183 j20 R20_ y6_91 y8_91 0 M159 else f_X7_ripple_183 j20 R20_ y6_91 y8_91 1 M159
def f_X7_ripple_148 (y5_20 : Int32) (j20 : Nat) (R20_ : Int32 → Int64 → Int64 → Nat → Mem → Mem) (y6_91 : Int64) (y8_91 : Int64) (w0_102 : Int32) (w0_113 : Int32) (w0_125 : Int32) (w0_138 : Int32) (w0_148 : Int32) (M148 : Mem) : Mem := if y5_20 = 0 then f_X7_ripple_159 j20 R20_ y6_91 y8_91 w0_102 w0_113 w0_125 w0_138 w0_148 1 M148 else f_X7_ripple_159 j20 R20_ y6_91 y8_91 w0_102 w0_113 w0_125 w0_138 w0_148 0 M148
def f_X7_ripple_138 (b : Int32) (y5_20 : Int32) (j20 : Nat) (M20 : Mem) (R20_ : Int32 → Int64 → Int64 → Nat → Mem → Mem) (y6_91 : Int64) (y8_91 : Int64) (w0_102 : Int32) (w0_113 : Int32) (w0_125 : Int32) (w0_138 : Int32) (M138 : Mem) : Mem := if (f_X7_bit M20 b (nI j20)) = 0 then f_X7_ripple_148 y5_20 j20 R20_ y6_91 y8_91 w0_102 w0_113 w0_125 w0_138 1 M138 else f_X7_ripple_148 y5_20 j20 R20_ y6_91 y8_91 w0_102 w0_113 w0_125 w0_138 0 M138
def f_X7_ripple_125 (a : Int32) (b : Int32) (y5_20 : Int32) (j20 : Nat) (M20 : Mem) (R20_ : Int32 → Int64 → Int64 → Nat → Mem → Mem) (y6_91 : Int64) (y8_91 : Int64) (w0_102 : Int32) (w0_113 : Int32) (w0_125 : Int32) (M125 : Mem) : Mem := if (f_X7_bit M20 a (nI j20)) = 0 then f_X7_ripple_138 b y5_20 j20 M20 R20_ y6_91 y8_91 w0_102 w0_113 w0_125 1 M125 else f_X7_ripple_138 b y5_20 j20 M20 R20_ y6_91 y8_91 w0_102 w0_113 w0_125 0 M125
def f_X7_ripple_113 (a : Int32) (b : Int32) (y5_20 : Int32) (j20 : Nat) (M20 : Mem) (R20_ : Int32 → Int64 → Int64 → Nat → Mem → Mem) (y6_91 : Int64) (y8_91 : Int64) (w0_102 : Int32) (w0_113 : Int32) (M113 : Mem) : Mem := if y5_20 = 1 then f_X7_ripple_125 a b y5_20 j20 M20 R20_ y6_91 y8_91 w0_102 w0_113 1 M113 else f_X7_ripple_125 a b y5_20 j20 M20 R20_ y6_91 y8_91 w0_102 w0_113 0 M113
def f_X7_ripple_102 (a : Int32) (b : Int32) (y5_20 : Int32) (j20 : Nat) (M20 : Mem) (R20_ : Int32 → Int64 → Int64 → Nat → Mem → Mem) (y6_91 : Int64) (y8_91 : Int64) (w0_102 : Int32) (M102 : Mem) : Mem := if (f_X7_bit M20 b (nI j20)) = 1 then f_X7_ripple_113 a b y5_20 j20 M20 R20_ y6_91 y8_91 w0_102 1 M102 else f_X7_ripple_113 a b y5_20 j20 M20 R20_ y6_91 y8_91 w0_102 0 M102
def f_X7_ripple_91 (a : Int32) (b : Int32) (y5_20 : Int32) (j20 : Nat) (M20 : Mem) (R20_ : Int32 → Int64 → Int64 → Nat → Mem → Mem) (y6_91 : Int64) (y8_91 : Int64) (M91 : Mem) : Mem := if (f_X7_bit M20 a (nI j20)) = 1 then f_X7_ripple_102 a b y5_20 j20 M20 R20_ y6_91 y8_91 1 M91 else f_X7_ripple_102 a b y5_20 j20 M20 R20_ y6_91 y8_91 0 M91
def f_X7_ripple_20 (a : Int32) (b : Int32) (t : Int32) : Nat → Int32 → Int64 → Int64 → Nat → Mem → Mem
  | 0, _, _, _, _, M20 => M20
  | n_ + 1, y5_20, y6_20, y8_20, j20, M20 => if 64 ≤ (nI j20) then uL (uL M20 56 (ix t) y6_20) 57 (ix t) y8_20 else if 2 ≤ (f_X7_bit M20 a (nI j20)) then f_X7_ripple_91 a b y5_20 j20 M20 (f_X7_ripple_20 a b t n_) y6_20 y8_20 M20 else if 2 ≤ (f_X7_bit M20 b (nI j20)) then f_X7_ripple_91 a b y5_20 j20 M20 (f_X7_ripple_20 a b t n_) y6_20 y8_20 M20 else if 2 ≤ y5_20 then f_X7_ripple_91 a b y5_20 j20 M20 (f_X7_ripple_20 a b t n_) y6_20 y8_20 M20 else f_X7_ripple_91 a b y5_20 j20 M20 (f_X7_ripple_20 a b t n_) (y6_20 ||| (jshl 1 (nI j20))) (y8_20 ||| (jshl (Int32.toInt64 ((((f_X7_bit M20 a (nI j20)) + (f_X7_bit M20 b (nI j20))) + y5_20) &&& 1)) (nI j20))) M20
def f_X7_ripple_9 (a : Int32) (b : Int32) (t : Int32) (w0_9 : Int32) (M9 : Mem) : Mem := f_X7_ripple_20 a b t 65 w0_9 0 0 0 M9
def f_X7_ripple (M : Mem) (a : Int32) (b : Int32) (c : Int32) (t : Int32) : Mem := if c = 0 then f_X7_ripple_9 a b t 0 M else f_X7_ripple_9 a b t 1 M
abbrev p_X7_ripple (M : Mem) (a : Int32) (b : Int32) (c : Int32) (t : Int32) : Option Value → Mem → Prop := fun r N => r = none ∧ N = f_X7_ripple M a b c t ∧ Sg M N
set_option maxRecDepth 100000 in
set_option maxHeartbeats 4000000 in
theorem c_X7_ripple (G : Ctx) (l : Launch) (M : Mem) (a : Int32) (b : Int32) (c : Int32) (t : Int32) (z_c : c = 0 ∨ c = 1) (q : Ok M) (gb : Gb M) (i_a : vp_in a 1648) (i_b : vp_in b 1648) (i_t : vp_in t 1648) : CT G l 1 mX7_ripple [.ref 52, .int a, .int b, .int c, .int t] M 0 0 (p_X7_ripple M a b c t) := by
  refine CT.of (by decide) (Nat.le_of_ble_eq_true rfl) ?_
  intro X d hd hl hRm hnm F
  subst hl
  have E : f_X7_ripple M a b c t = f_X7_ripple M a b c t := rfl
  show V G X 15 0 0 (Qx G X 0 0 (p_X7_ripple M a b c t)) 0 [(0, .ref 52), (1, .int a), (2, .int b), (3, .int c), (4, .int t)] [] M
  refine V.seg F floX7 cjoX7 [.iload_n 3] (by decide +kernel) (pc2 := 1) (lv2 := [(0, .ref 52), (1, .int a), (2, .int b), (3, .int c), (4, .int t)]) (st2 := [.int c]) (M2 := M) rfl ⟨trivial, trivial⟩ ?_
  have hJ9 : ∀ (w0_9 : Int32) (M9 : Mem), (Sg M M9) → f_X7_ripple M a b c t = f_X7_ripple_9 a b t w0_9 M9 → V G X 15 0 0 (Qx G X 0 0 (p_X7_ripple M a b c t)) 9 [(0, .ref 52), (1, .int a), (2, .int b), (4, .int t)] [.int w0_9] M9 := by
    intro w0_9 M9 s9 E
    refine V.seg F floX7 cjoX7 [.istore 5, .lconst 0, .lstore 6, .lconst 0, .lstore 8, .iconst 0] (by decide +kernel) (pc2 := 18) (lv2 := [(8, .long 0), (6, .long 0), (5, .int w0_9), (0, .ref 52), (1, .int a), (2, .int b), (4, .int t)]) (st2 := [.int 0]) (M2 := M9) rfl ⟨(by decide), trivial, (by decide), trivial, (by decide), trivial, trivial⟩ ?_
    refine V.seg F floX7 cjoX7 [.istore 10] (by decide +kernel) (pc2 := 20) (lv2 := [(10, .int 0), (8, .long 0), (6, .long 0), (5, .int w0_9), (0, .ref 52), (1, .int a), (2, .int b), (4, .int t)]) (st2 := []) (M2 := M9) rfl ⟨(by decide), trivial⟩ ?_
    have hJ20 : ∀ (n_ : Nat) (y5_20 : Int32) (y6_20 : Int64) (y8_20 : Int64) (j20 : Nat) (M20 : Mem), (Sg M M20) → (j20 ≤ 64) → (64 - j20 < n_) → f_X7_ripple M a b c t = f_X7_ripple_20 a b t n_ y5_20 y6_20 y8_20 j20 M20 → V G X 15 0 0 (Qx G X 0 0 (p_X7_ripple M a b c t)) 20 [(0, .ref 52), (1, .int a), (2, .int b), (4, .int t), (5, .int y5_20), (6, .long y6_20), (8, .long y8_20), (10, .int (nI j20))] [] M20 := by
      intro n_
      induction n_ with
      | zero => intro y5_20 y6_20 y8_20 j20 M20 s20 b20 m20 E; omega
      | succ n_ ih_20 =>
        intro y5_20 y6_20 y8_20 j20 M20 s20 b20 m20 E
        rw [f_X7_ripple_20] at E
        refine V.seg F floX7 cjoX7 [.iload 10, .bipush 64] (by decide +kernel) (pc2 := 24) (lv2 := [(0, .ref 52), (1, .int a), (2, .int b), (4, .int t), (5, .int y5_20), (6, .long y6_20), (8, .long y8_20), (10, .int (nI j20))]) (st2 := [.int 64, .int (nI j20)]) (M2 := M20) rfl ⟨trivial, trivial, trivial⟩ ?_
        refine V.ic_ge (off := 167) F (by decide +kernel) (tgt := 191) (by decide) (fun h24 => ?_) (fun h24 => ?_)
        · replace E := E.trans (if_pos h24)
          refine V.seg F floX7 cjoX7 [.aload_n 0, .getfield 20, .iload 4, .lload 6, .lastore, .aload_n 0, .getfield 23, .iload 4, .lload 8, .lastore] (by decide +kernel) (pc2 := 209) (lv2 := [(0, .ref 52), (1, .int a), (2, .int b), (4, .int t), (5, .int y5_20), (6, .long y6_20), (8, .long y8_20), (10, .int (nI j20))]) (st2 := []) (M2 := uL (uL M20 56 (ix t) y6_20) 57 (ix t) y8_20) rfl ⟨trivial, ((q.sm s20.1).f 52 7 3 rfl), trivial, trivial, ((q.sm s20.1).a 56 22 1648 rfl (by first | assumption | exact vinc (by decide))), trivial, ((q.sm (Sg.pL s20 (by decide)).1).f 52 7 4 rfl), trivial, trivial, ((q.sm (Sg.pL s20 (by decide)).1).a 57 22 1648 rfl (by first | assumption | exact vinc (by decide))), trivial⟩ ?_
          exact V.vret F (by decide +kernel) ⟨rfl, E.symm, (Sg.pL (Sg.pL s20 (by decide)) (by decide))⟩
        · replace E := E.trans (if_neg h24)
          refine V.seg F floX7 cjoX7 [.aload_n 0, .iload_n 1, .iload 10] (by decide +kernel) (pc2 := 31) (lv2 := [(0, .ref 52), (1, .int a), (2, .int b), (4, .int t), (5, .int y5_20), (6, .long y6_20), (8, .long y8_20), (10, .int (nI j20))]) (st2 := [.int (nI j20), .int a, .ref 52]) (M2 := M20) rfl ⟨trivial, trivial, trivial, trivial⟩ ?_
          refine V.callV (as := [.int a, .int (nI j20)]) (rest := []) F (by decide +kernel) lX7_209 bX7_bit ⟨7, _, ((q.sm s20.1).o 52 7 rfl), rfl, rfl⟩ (c_X7_bit G X.2.1 M20 a (nI j20) (q.sm s20.1) s20.2 (by first | assumption | exact vinc (by decide))) (rm_ok hRm hd (by decide) (by decide)) ⟨Nat.zero_le _, Nat.zero_le _⟩ (Nat.le_of_ble_eq_true rfl) (fun r_ N_ p_ => ?_)
          obtain ⟨rfl, hN_⟩ := p_
          rw [hN_]
          clear hN_
          refine V.seg F floX7 cjoX7 [.istore 11, .aload_n 0, .iload_n 2, .iload 10] (by decide +kernel) (pc2 := 40) (lv2 := [(11, .int (f_X7_bit M20 a (nI j20))), (0, .ref 52), (1, .int a), (2, .int b), (4, .int t), (5, .int y5_20), (6, .long y6_20), (8, .long y8_20), (10, .int (nI j20))]) (st2 := [.int (nI j20), .int b, .ref 52]) (M2 := M20) rfl ⟨(by decide), trivial, trivial, trivial, trivial⟩ ?_
          refine V.callV (as := [.int b, .int (nI j20)]) (rest := []) F (by decide +kernel) lX7_209 bX7_bit ⟨7, _, ((q.sm s20.1).o 52 7 rfl), rfl, rfl⟩ (c_X7_bit G X.2.1 M20 b (nI j20) (q.sm s20.1) s20.2 (by first | assumption | exact vinc (by decide))) (rm_ok hRm hd (by decide) (by decide)) ⟨Nat.zero_le _, Nat.zero_le _⟩ (Nat.le_of_ble_eq_true rfl) (fun r_ N_ p_ => ?_)
          obtain ⟨rfl, hN_⟩ := p_
          rw [hN_]
          clear hN_
          refine V.seg F floX7 cjoX7 [.istore 12, .iload 11, .iconst 2] (by decide +kernel) (pc2 := 48) (lv2 := [(12, .int (f_X7_bit M20 b (nI j20))), (11, .int (f_X7_bit M20 a (nI j20))), (0, .ref 52), (1, .int a), (2, .int b), (4, .int t), (5, .int y5_20), (6, .long y6_20), (8, .long y8_20), (10, .int (nI j20))]) (st2 := [.int 2, .int (f_X7_bit M20 a (nI j20))]) (M2 := M20) rfl ⟨(by decide), trivial, trivial, trivial⟩ ?_
          have hJ91 : ∀ (y6_91 : Int64) (y8_91 : Int64) (M91 : Mem), (Sg M M91) → f_X7_ripple M a b c t = f_X7_ripple_91 a b y5_20 j20 M20 (f_X7_ripple_20 a b t n_) y6_91 y8_91 M91 → V G X 15 0 0 (Qx G X 0 0 (p_X7_ripple M a b c t)) 91 [(0, .ref 52), (1, .int a), (2, .int b), (4, .int t), (5, .int y5_20), (6, .long y6_91), (8, .long y8_91), (10, .int (nI j20)), (11, .int (f_X7_bit M20 a (nI j20))), (12, .int (f_X7_bit M20 b (nI j20)))] [] M91 := by
            intro y6_91 y8_91 M91 s91 E
            refine V.seg F floX7 cjoX7 [.iload 11, .iconst 1] (by decide +kernel) (pc2 := 94) (lv2 := [(0, .ref 52), (1, .int a), (2, .int b), (4, .int t), (5, .int y5_20), (6, .long y6_91), (8, .long y8_91), (10, .int (nI j20)), (11, .int (f_X7_bit M20 a (nI j20))), (12, .int (f_X7_bit M20 b (nI j20)))]) (st2 := [.int 1, .int (f_X7_bit M20 a (nI j20))]) (M2 := M91) rfl ⟨trivial, trivial, trivial⟩ ?_
            have hJ102 : ∀ (w0_102 : Int32) (M102 : Mem), (Sg M M102) → f_X7_ripple M a b c t = f_X7_ripple_102 a b y5_20 j20 M20 (f_X7_ripple_20 a b t n_) y6_91 y8_91 w0_102 M102 → V G X 15 0 0 (Qx G X 0 0 (p_X7_ripple M a b c t)) 102 [(0, .ref 52), (1, .int a), (2, .int b), (4, .int t), (5, .int y5_20), (6, .long y6_91), (8, .long y8_91), (10, .int (nI j20)), (11, .int (f_X7_bit M20 a (nI j20))), (12, .int (f_X7_bit M20 b (nI j20)))] [.int w0_102] M102 := by
              intro w0_102 M102 s102 E
              refine V.seg F floX7 cjoX7 [.iload 12, .iconst 1] (by decide +kernel) (pc2 := 105) (lv2 := [(0, .ref 52), (1, .int a), (2, .int b), (4, .int t), (5, .int y5_20), (6, .long y6_91), (8, .long y8_91), (10, .int (nI j20)), (11, .int (f_X7_bit M20 a (nI j20))), (12, .int (f_X7_bit M20 b (nI j20)))]) (st2 := [.int 1, .int (f_X7_bit M20 b (nI j20)), .int w0_102]) (M2 := M102) rfl ⟨trivial, trivial, trivial⟩ ?_
              have hJ113 : ∀ (w0_113 : Int32) (M113 : Mem), (Sg M M113) → f_X7_ripple M a b c t = f_X7_ripple_113 a b y5_20 j20 M20 (f_X7_ripple_20 a b t n_) y6_91 y8_91 w0_102 w0_113 M113 → V G X 15 0 0 (Qx G X 0 0 (p_X7_ripple M a b c t)) 113 [(0, .ref 52), (1, .int a), (2, .int b), (4, .int t), (5, .int y5_20), (6, .long y6_91), (8, .long y8_91), (10, .int (nI j20)), (11, .int (f_X7_bit M20 a (nI j20))), (12, .int (f_X7_bit M20 b (nI j20)))] [.int w0_113, .int w0_102] M113 := by
                intro w0_113 M113 s113 E
                refine V.seg F floX7 cjoX7 [.iadd, .iload 5, .iconst 1] (by decide +kernel) (pc2 := 117) (lv2 := [(0, .ref 52), (1, .int a), (2, .int b), (4, .int t), (5, .int y5_20), (6, .long y6_91), (8, .long y8_91), (10, .int (nI j20)), (11, .int (f_X7_bit M20 a (nI j20))), (12, .int (f_X7_bit M20 b (nI j20)))]) (st2 := [.int 1, .int y5_20, .int (w0_102 + w0_113)]) (M2 := M113) rfl ⟨trivial, trivial, trivial, trivial⟩ ?_
                have hJ125 : ∀ (w0_125 : Int32) (M125 : Mem), (Sg M M125) → f_X7_ripple M a b c t = f_X7_ripple_125 a b y5_20 j20 M20 (f_X7_ripple_20 a b t n_) y6_91 y8_91 w0_102 w0_113 w0_125 M125 → V G X 15 0 0 (Qx G X 0 0 (p_X7_ripple M a b c t)) 125 [(0, .ref 52), (1, .int a), (2, .int b), (4, .int t), (5, .int y5_20), (6, .long y6_91), (8, .long y8_91), (10, .int (nI j20)), (11, .int (f_X7_bit M20 a (nI j20))), (12, .int (f_X7_bit M20 b (nI j20)))] [.int w0_125, .int (w0_102 + w0_113)] M125 := by
                  intro w0_125 M125 s125 E
                  refine V.seg F floX7 cjoX7 [.iadd, .istore 13, .iload 11] (by decide +kernel) (pc2 := 130) (lv2 := [(13, .int ((w0_102 + w0_113) + w0_125)), (0, .ref 52), (1, .int a), (2, .int b), (4, .int t), (5, .int y5_20), (6, .long y6_91), (8, .long y8_91), (10, .int (nI j20)), (11, .int (f_X7_bit M20 a (nI j20))), (12, .int (f_X7_bit M20 b (nI j20)))]) (st2 := [.int (f_X7_bit M20 a (nI j20))]) (M2 := M125) rfl ⟨trivial, (by decide), trivial, trivial⟩ ?_
                  have hJ138 : ∀ (w0_138 : Int32) (M138 : Mem), (Sg M M138) → f_X7_ripple M a b c t = f_X7_ripple_138 b y5_20 j20 M20 (f_X7_ripple_20 a b t n_) y6_91 y8_91 w0_102 w0_113 w0_125 w0_138 M138 → V G X 15 0 0 (Qx G X 0 0 (p_X7_ripple M a b c t)) 138 [(0, .ref 52), (1, .int a), (2, .int b), (4, .int t), (5, .int y5_20), (6, .long y6_91), (8, .long y8_91), (10, .int (nI j20)), (12, .int (f_X7_bit M20 b (nI j20))), (13, .int ((w0_102 + w0_113) + w0_125))] [.int w0_138] M138 := by
                    intro w0_138 M138 s138 E
                    refine V.seg F floX7 cjoX7 [.iload 12] (by decide +kernel) (pc2 := 140) (lv2 := [(0, .ref 52), (1, .int a), (2, .int b), (4, .int t), (5, .int y5_20), (6, .long y6_91), (8, .long y8_91), (10, .int (nI j20)), (12, .int (f_X7_bit M20 b (nI j20))), (13, .int ((w0_102 + w0_113) + w0_125))]) (st2 := [.int (f_X7_bit M20 b (nI j20)), .int w0_138]) (M2 := M138) rfl ⟨trivial, trivial⟩ ?_
                    have hJ148 : ∀ (w0_148 : Int32) (M148 : Mem), (Sg M M148) → f_X7_ripple M a b c t = f_X7_ripple_148 y5_20 j20 (f_X7_ripple_20 a b t n_) y6_91 y8_91 w0_102 w0_113 w0_125 w0_138 w0_148 M148 → V G X 15 0 0 (Qx G X 0 0 (p_X7_ripple M a b c t)) 148 [(0, .ref 52), (1, .int a), (2, .int b), (4, .int t), (5, .int y5_20), (6, .long y6_91), (8, .long y8_91), (10, .int (nI j20)), (13, .int ((w0_102 + w0_113) + w0_125))] [.int w0_148, .int w0_138] M148 := by
                      intro w0_148 M148 s148 E
                      refine V.seg F floX7 cjoX7 [.iadd, .iload 5] (by decide +kernel) (pc2 := 151) (lv2 := [(0, .ref 52), (1, .int a), (2, .int b), (4, .int t), (5, .int y5_20), (6, .long y6_91), (8, .long y8_91), (10, .int (nI j20)), (13, .int ((w0_102 + w0_113) + w0_125))]) (st2 := [.int y5_20, .int (w0_138 + w0_148)]) (M2 := M148) rfl ⟨trivial, trivial, trivial⟩ ?_
                      have hJ159 : ∀ (w0_159 : Int32) (M159 : Mem), (Sg M M159) → f_X7_ripple M a b c t = f_X7_ripple_159 j20 (f_X7_ripple_20 a b t n_) y6_91 y8_91 w0_102 w0_113 w0_125 w0_138 w0_148 w0_159 M159 → V G X 15 0 0 (Qx G X 0 0 (p_X7_ripple M a b c t)) 159 [(0, .ref 52), (1, .int a), (2, .int b), (4, .int t), (6, .long y6_91), (8, .long y8_91), (10, .int (nI j20)), (13, .int ((w0_102 + w0_113) + w0_125))] [.int w0_159, .int (w0_138 + w0_148)] M159 := by
                        intro w0_159 M159 s159 E
                        refine V.seg F floX7 cjoX7 [.iadd, .istore 14, .iload 13, .iconst 1] (by decide +kernel) (pc2 := 165) (lv2 := [(14, .int ((w0_138 + w0_148) + w0_159)), (0, .ref 52), (1, .int a), (2, .int b), (4, .int t), (6, .long y6_91), (8, .long y8_91), (10, .int (nI j20)), (13, .int ((w0_102 + w0_113) + w0_125))]) (st2 := [.int 1, .int ((w0_102 + w0_113) + w0_125)]) (M2 := M159) rfl ⟨trivial, (by decide), trivial, trivial, trivial⟩ ?_
                        have hJ183 : ∀ (w0_183 : Int32) (M183 : Mem), (Sg M M183) → f_X7_ripple M a b c t = f_X7_ripple_183 j20 (f_X7_ripple_20 a b t n_) y6_91 y8_91 w0_183 M183 → V G X 15 0 0 (Qx G X 0 0 (p_X7_ripple M a b c t)) 183 [(0, .ref 52), (1, .int a), (2, .int b), (4, .int t), (6, .long y6_91), (8, .long y8_91), (10, .int (nI j20))] [.int w0_183] M183 := by
                          intro w0_183 M183 s183 E
                          refine V.seg F floX7 cjoX7 [.istore 5, .iinc 10 1, .goto (-168)] (by decide +kernel) (pc2 := 20) (lv2 := [(10, .int ((nI j20) + 1)), (5, .int w0_183), (0, .ref 52), (1, .int a), (2, .int b), (4, .int t), (6, .long y6_91), (8, .long y8_91)]) (st2 := []) (M2 := M183) rfl ⟨(by decide), (by decide), (by decide), trivial⟩ ?_
                          refine V.pick [2, 3, 4, 5, 1, 6, 7, 0] rfl ?_
                          rw [nI_1]
                          exact ih_20 w0_183 y6_91 y8_91 (j20 + 1) M183 s183 (by have hlt_ := cnt_lt (n := 64) h24 rfl (by omega) (by decide); omega) (by have hlt_ := cnt_lt (n := 64) h24 rfl (by omega) (by decide); omega) E
                        refine V.ic_le (off := 7) F (by decide +kernel) (tgt := 172) (by decide) (fun h165 => ?_) (fun h165 => ?_)
                        · replace E := E.trans (if_pos h165)
                          refine V.seg F floX7 cjoX7 [.iload 14, .iconst 1] (by decide +kernel) (pc2 := 175) (lv2 := [(14, .int ((w0_138 + w0_148) + w0_159)), (0, .ref 52), (1, .int a), (2, .int b), (4, .int t), (6, .long y6_91), (8, .long y8_91), (10, .int (nI j20)), (13, .int ((w0_102 + w0_113) + w0_125))]) (st2 := [.int 1, .int ((w0_138 + w0_148) + w0_159)]) (M2 := M159) rfl ⟨trivial, trivial, trivial⟩ ?_
                          refine V.ic_le (off := 7) F (by decide +kernel) (tgt := 182) (by decide) (fun h175 => ?_) (fun h175 => ?_)
                          · replace E := E.trans (if_pos h175)
                            refine V.seg F floX7 cjoX7 [.iconst 2] (by decide +kernel) (pc2 := 183) (lv2 := [(14, .int ((w0_138 + w0_148) + w0_159)), (0, .ref 52), (1, .int a), (2, .int b), (4, .int t), (6, .long y6_91), (8, .long y8_91), (10, .int (nI j20)), (13, .int ((w0_102 + w0_113) + w0_125))]) (st2 := [.int 2]) (M2 := M159) rfl ⟨trivial, trivial⟩ ?_
                            refine V.pick [1, 2, 3, 4, 5, 6, 7] rfl ?_
                            exact hJ183 2 M159 s159 E
                          · replace E := E.trans (if_neg h175)
                            refine V.seg F floX7 cjoX7 [.iconst 0, .goto 4] (by decide +kernel) (pc2 := 183) (lv2 := [(14, .int ((w0_138 + w0_148) + w0_159)), (0, .ref 52), (1, .int a), (2, .int b), (4, .int t), (6, .long y6_91), (8, .long y8_91), (10, .int (nI j20)), (13, .int ((w0_102 + w0_113) + w0_125))]) (st2 := [.int 0]) (M2 := M159) rfl ⟨trivial, (by decide), trivial⟩ ?_
                            refine V.pick [1, 2, 3, 4, 5, 6, 7] rfl ?_
                            exact hJ183 0 M159 s159 E
                        · replace E := E.trans (if_neg h165)
                          refine V.seg F floX7 cjoX7 [.iconst 1, .goto 14] (by decide +kernel) (pc2 := 183) (lv2 := [(14, .int ((w0_138 + w0_148) + w0_159)), (0, .ref 52), (1, .int a), (2, .int b), (4, .int t), (6, .long y6_91), (8, .long y8_91), (10, .int (nI j20)), (13, .int ((w0_102 + w0_113) + w0_125))]) (st2 := [.int 1]) (M2 := M159) rfl ⟨trivial, (by decide), trivial⟩ ?_
                          refine V.pick [1, 2, 3, 4, 5, 6, 7] rfl ?_
                          exact hJ183 1 M159 s159 E
                      refine V.if_ne (off := 7) F (by decide +kernel) (tgt := 158) (by decide) (fun h151 => ?_) (fun h151 => ?_)
                      · replace E := E.trans (if_neg h151)
                        refine V.seg F floX7 cjoX7 [.iconst 0] (by decide +kernel) (pc2 := 159) (lv2 := [(0, .ref 52), (1, .int a), (2, .int b), (4, .int t), (5, .int y5_20), (6, .long y6_91), (8, .long y8_91), (10, .int (nI j20)), (13, .int ((w0_102 + w0_113) + w0_125))]) (st2 := [.int 0, .int (w0_138 + w0_148)]) (M2 := M148) rfl ⟨trivial, trivial⟩ ?_
                        refine V.pick [0, 1, 2, 3, 5, 6, 7, 8] rfl ?_
                        exact hJ159 0 M148 s148 E
                      · replace E := E.trans (if_pos h151)
                        refine V.seg F floX7 cjoX7 [.iconst 1, .goto 4] (by decide +kernel) (pc2 := 159) (lv2 := [(0, .ref 52), (1, .int a), (2, .int b), (4, .int t), (5, .int y5_20), (6, .long y6_91), (8, .long y8_91), (10, .int (nI j20)), (13, .int ((w0_102 + w0_113) + w0_125))]) (st2 := [.int 1, .int (w0_138 + w0_148)]) (M2 := M148) rfl ⟨trivial, (by decide), trivial⟩ ?_
                        refine V.pick [0, 1, 2, 3, 5, 6, 7, 8] rfl ?_
                        exact hJ159 1 M148 s148 E
                    refine V.if_ne (off := 7) F (by decide +kernel) (tgt := 147) (by decide) (fun h140 => ?_) (fun h140 => ?_)
                    · replace E := E.trans (if_neg h140)
                      refine V.seg F floX7 cjoX7 [.iconst 0] (by decide +kernel) (pc2 := 148) (lv2 := [(0, .ref 52), (1, .int a), (2, .int b), (4, .int t), (5, .int y5_20), (6, .long y6_91), (8, .long y8_91), (10, .int (nI j20)), (12, .int (f_X7_bit M20 b (nI j20))), (13, .int ((w0_102 + w0_113) + w0_125))]) (st2 := [.int 0, .int w0_138]) (M2 := M138) rfl ⟨trivial, trivial⟩ ?_
                      refine V.pick [0, 1, 2, 3, 4, 5, 6, 7, 9] rfl ?_
                      exact hJ148 0 M138 s138 E
                    · replace E := E.trans (if_pos h140)
                      refine V.seg F floX7 cjoX7 [.iconst 1, .goto 4] (by decide +kernel) (pc2 := 148) (lv2 := [(0, .ref 52), (1, .int a), (2, .int b), (4, .int t), (5, .int y5_20), (6, .long y6_91), (8, .long y8_91), (10, .int (nI j20)), (12, .int (f_X7_bit M20 b (nI j20))), (13, .int ((w0_102 + w0_113) + w0_125))]) (st2 := [.int 1, .int w0_138]) (M2 := M138) rfl ⟨trivial, (by decide), trivial⟩ ?_
                      refine V.pick [0, 1, 2, 3, 4, 5, 6, 7, 9] rfl ?_
                      exact hJ148 1 M138 s138 E
                  refine V.if_ne (off := 7) F (by decide +kernel) (tgt := 137) (by decide) (fun h130 => ?_) (fun h130 => ?_)
                  · replace E := E.trans (if_neg h130)
                    refine V.seg F floX7 cjoX7 [.iconst 0] (by decide +kernel) (pc2 := 138) (lv2 := [(13, .int ((w0_102 + w0_113) + w0_125)), (0, .ref 52), (1, .int a), (2, .int b), (4, .int t), (5, .int y5_20), (6, .long y6_91), (8, .long y8_91), (10, .int (nI j20)), (11, .int (f_X7_bit M20 a (nI j20))), (12, .int (f_X7_bit M20 b (nI j20)))]) (st2 := [.int 0]) (M2 := M125) rfl ⟨trivial, trivial⟩ ?_
                    refine V.pick [1, 2, 3, 4, 5, 6, 7, 8, 10, 0] rfl ?_
                    exact hJ138 0 M125 s125 E
                  · replace E := E.trans (if_pos h130)
                    refine V.seg F floX7 cjoX7 [.iconst 1, .goto 4] (by decide +kernel) (pc2 := 138) (lv2 := [(13, .int ((w0_102 + w0_113) + w0_125)), (0, .ref 52), (1, .int a), (2, .int b), (4, .int t), (5, .int y5_20), (6, .long y6_91), (8, .long y8_91), (10, .int (nI j20)), (11, .int (f_X7_bit M20 a (nI j20))), (12, .int (f_X7_bit M20 b (nI j20)))]) (st2 := [.int 1]) (M2 := M125) rfl ⟨trivial, (by decide), trivial⟩ ?_
                    refine V.pick [1, 2, 3, 4, 5, 6, 7, 8, 10, 0] rfl ?_
                    exact hJ138 1 M125 s125 E
                refine V.ic_ne (off := 7) F (by decide +kernel) (tgt := 124) (by decide) (fun h117 => ?_) (fun h117 => ?_)
                · replace E := E.trans (if_neg h117)
                  refine V.seg F floX7 cjoX7 [.iconst 0] (by decide +kernel) (pc2 := 125) (lv2 := [(0, .ref 52), (1, .int a), (2, .int b), (4, .int t), (5, .int y5_20), (6, .long y6_91), (8, .long y8_91), (10, .int (nI j20)), (11, .int (f_X7_bit M20 a (nI j20))), (12, .int (f_X7_bit M20 b (nI j20)))]) (st2 := [.int 0, .int (w0_102 + w0_113)]) (M2 := M113) rfl ⟨trivial, trivial⟩ ?_
                  refine V.pick [0, 1, 2, 3, 4, 5, 6, 7, 8, 9] rfl ?_
                  exact hJ125 0 M113 s113 E
                · replace E := E.trans (if_pos h117)
                  refine V.seg F floX7 cjoX7 [.iconst 1, .goto 4] (by decide +kernel) (pc2 := 125) (lv2 := [(0, .ref 52), (1, .int a), (2, .int b), (4, .int t), (5, .int y5_20), (6, .long y6_91), (8, .long y8_91), (10, .int (nI j20)), (11, .int (f_X7_bit M20 a (nI j20))), (12, .int (f_X7_bit M20 b (nI j20)))]) (st2 := [.int 1, .int (w0_102 + w0_113)]) (M2 := M113) rfl ⟨trivial, (by decide), trivial⟩ ?_
                  refine V.pick [0, 1, 2, 3, 4, 5, 6, 7, 8, 9] rfl ?_
                  exact hJ125 1 M113 s113 E
              refine V.ic_ne (off := 7) F (by decide +kernel) (tgt := 112) (by decide) (fun h105 => ?_) (fun h105 => ?_)
              · replace E := E.trans (if_neg h105)
                refine V.seg F floX7 cjoX7 [.iconst 0] (by decide +kernel) (pc2 := 113) (lv2 := [(0, .ref 52), (1, .int a), (2, .int b), (4, .int t), (5, .int y5_20), (6, .long y6_91), (8, .long y8_91), (10, .int (nI j20)), (11, .int (f_X7_bit M20 a (nI j20))), (12, .int (f_X7_bit M20 b (nI j20)))]) (st2 := [.int 0, .int w0_102]) (M2 := M102) rfl ⟨trivial, trivial⟩ ?_
                refine V.pick [0, 1, 2, 3, 4, 5, 6, 7, 8, 9] rfl ?_
                exact hJ113 0 M102 s102 E
              · replace E := E.trans (if_pos h105)
                refine V.seg F floX7 cjoX7 [.iconst 1, .goto 4] (by decide +kernel) (pc2 := 113) (lv2 := [(0, .ref 52), (1, .int a), (2, .int b), (4, .int t), (5, .int y5_20), (6, .long y6_91), (8, .long y8_91), (10, .int (nI j20)), (11, .int (f_X7_bit M20 a (nI j20))), (12, .int (f_X7_bit M20 b (nI j20)))]) (st2 := [.int 1, .int w0_102]) (M2 := M102) rfl ⟨trivial, (by decide), trivial⟩ ?_
                refine V.pick [0, 1, 2, 3, 4, 5, 6, 7, 8, 9] rfl ?_
                exact hJ113 1 M102 s102 E
            refine V.ic_ne (off := 7) F (by decide +kernel) (tgt := 101) (by decide) (fun h94 => ?_) (fun h94 => ?_)
            · replace E := E.trans (if_neg h94)
              refine V.seg F floX7 cjoX7 [.iconst 0] (by decide +kernel) (pc2 := 102) (lv2 := [(0, .ref 52), (1, .int a), (2, .int b), (4, .int t), (5, .int y5_20), (6, .long y6_91), (8, .long y8_91), (10, .int (nI j20)), (11, .int (f_X7_bit M20 a (nI j20))), (12, .int (f_X7_bit M20 b (nI j20)))]) (st2 := [.int 0]) (M2 := M91) rfl ⟨trivial, trivial⟩ ?_
              refine V.pick [0, 1, 2, 3, 4, 5, 6, 7, 8, 9] rfl ?_
              exact hJ102 0 M91 s91 E
            · replace E := E.trans (if_pos h94)
              refine V.seg F floX7 cjoX7 [.iconst 1, .goto 4] (by decide +kernel) (pc2 := 102) (lv2 := [(0, .ref 52), (1, .int a), (2, .int b), (4, .int t), (5, .int y5_20), (6, .long y6_91), (8, .long y8_91), (10, .int (nI j20)), (11, .int (f_X7_bit M20 a (nI j20))), (12, .int (f_X7_bit M20 b (nI j20)))]) (st2 := [.int 1]) (M2 := M91) rfl ⟨trivial, (by decide), trivial⟩ ?_
              refine V.pick [0, 1, 2, 3, 4, 5, 6, 7, 8, 9] rfl ?_
              exact hJ102 1 M91 s91 E
          refine V.ic_ge (off := 43) F (by decide +kernel) (tgt := 91) (by decide) (fun h48 => ?_) (fun h48 => ?_)
          · replace E := E.trans (if_pos h48)
            refine V.pick [2, 3, 4, 5, 6, 7, 8, 9, 1, 0] rfl ?_
            exact hJ91 y6_20 y8_20 M20 s20 E
          · replace E := E.trans (if_neg h48)
            refine V.seg F floX7 cjoX7 [.iload 12, .iconst 2] (by decide +kernel) (pc2 := 54) (lv2 := [(12, .int (f_X7_bit M20 b (nI j20))), (11, .int (f_X7_bit M20 a (nI j20))), (0, .ref 52), (1, .int a), (2, .int b), (4, .int t), (5, .int y5_20), (6, .long y6_20), (8, .long y8_20), (10, .int (nI j20))]) (st2 := [.int 2, .int (f_X7_bit M20 b (nI j20))]) (M2 := M20) rfl ⟨trivial, trivial, trivial⟩ ?_
            refine V.ic_ge (off := 37) F (by decide +kernel) (tgt := 91) (by decide) (fun h54 => ?_) (fun h54 => ?_)
            · replace E := E.trans (if_pos h54)
              refine V.pick [2, 3, 4, 5, 6, 7, 8, 9, 1, 0] rfl ?_
              exact hJ91 y6_20 y8_20 M20 s20 E
            · replace E := E.trans (if_neg h54)
              refine V.seg F floX7 cjoX7 [.iload 5, .iconst 2] (by decide +kernel) (pc2 := 60) (lv2 := [(12, .int (f_X7_bit M20 b (nI j20))), (11, .int (f_X7_bit M20 a (nI j20))), (0, .ref 52), (1, .int a), (2, .int b), (4, .int t), (5, .int y5_20), (6, .long y6_20), (8, .long y8_20), (10, .int (nI j20))]) (st2 := [.int 2, .int y5_20]) (M2 := M20) rfl ⟨trivial, trivial, trivial⟩ ?_
              refine V.ic_ge (off := 31) F (by decide +kernel) (tgt := 91) (by decide) (fun h60 => ?_) (fun h60 => ?_)
              · replace E := E.trans (if_pos h60)
                refine V.pick [2, 3, 4, 5, 6, 7, 8, 9, 1, 0] rfl ?_
                exact hJ91 y6_20 y8_20 M20 s20 E
              · replace E := E.trans (if_neg h60)
                refine V.seg F floX7 cjoX7 [.lload 6, .lconst 1, .iload 10, .lshl, .lor, .lstore 6, .lload 8, .iload 11, .iload 12, .iadd, .iload 5, .iadd, .iconst 1, .iand, .i2l, .iload 10, .lshl, .lor, .lstore 8] (by decide +kernel) (pc2 := 91) (lv2 := [(8, .long (y8_20 ||| (jshl (Int32.toInt64 ((((f_X7_bit M20 a (nI j20)) + (f_X7_bit M20 b (nI j20))) + y5_20) &&& 1)) (nI j20)))), (6, .long (y6_20 ||| (jshl 1 (nI j20)))), (12, .int (f_X7_bit M20 b (nI j20))), (11, .int (f_X7_bit M20 a (nI j20))), (0, .ref 52), (1, .int a), (2, .int b), (4, .int t), (5, .int y5_20), (10, .int (nI j20))]) (st2 := []) (M2 := M20) rfl ⟨trivial, trivial, trivial, trivial, trivial, (by decide), trivial, trivial, trivial, trivial, trivial, trivial, trivial, trivial, trivial, trivial, trivial, trivial, (by decide), trivial⟩ ?_
                refine V.pick [4, 5, 6, 7, 8, 1, 0, 9, 3, 2] rfl ?_
                exact hJ91 (y6_20 ||| (jshl 1 (nI j20))) (y8_20 ||| (jshl (Int32.toInt64 ((((f_X7_bit M20 a (nI j20)) + (f_X7_bit M20 b (nI j20))) + y5_20) &&& 1)) (nI j20))) M20 s20 E
    refine V.pick [4, 5, 6, 7, 3, 2, 1, 0] rfl ?_
    exact hJ20 _ w0_9 0 0 0 M9 s9 (by omega) (by omega) E
  refine V.if_eq (off := 7) F (by decide +kernel) (tgt := 8) (by decide) (fun h1 => ?_) (fun h1 => ?_)
  · replace E := E.trans (if_pos h1)
    refine V.seg F floX7 cjoX7 [.iconst 0] (by decide +kernel) (pc2 := 9) (lv2 := [(0, .ref 52), (1, .int a), (2, .int b), (3, .int c), (4, .int t)]) (st2 := [.int 0]) (M2 := M) rfl ⟨trivial, trivial⟩ ?_
    refine V.pick [0, 1, 2, 4] rfl ?_
    exact hJ9 0 M (Sg.rf gb) E
  · replace E := E.trans (if_neg h1)
    refine V.seg F floX7 cjoX7 [.iconst 1, .goto 4] (by decide +kernel) (pc2 := 9) (lv2 := [(0, .ref 52), (1, .int a), (2, .int b), (3, .int c), (4, .int t)]) (st2 := [.int 1]) (M2 := M) rfl ⟨trivial, (by decide), trivial⟩ ?_
    refine V.pick [0, 1, 2, 4] rfl ?_
    exact hJ9 1 M (Sg.rf gb) E
end
section
theorem pos_ne {b : Int64} (h : 0 < b) : ¬ b = 0 := fun e => absurd h (by rw [e]; decide)
theorem neg0 {c : Int64} (h : -c = 0) : c = 0 := by
  have : -(-c) = -(0 : Int64) := by rw [h]
  rw [Int64.neg_neg] at this
  rw [this]; rfl
def f_X7_bitwise_236  (M236 : Mem) : Mem := M236
def f_X7_bitwise_195 (op : Int32) (M195 : Mem) : Mem := if op = 3 then if (mL M195 54 (ix 17)) < 0 then f_X7_bitwise_236 M195 else f_X7_bitwise_236 (uL M195 55 (ix 18) (f_X7_less (mL M195 55 (ix 18)) (mL M195 55 (ix 17)))) else f_X7_bitwise_236 M195
def f_X7_bitwise_131 (op : Int32) (w0_95 : Int64) (w0_131 : Int64) (M131 : Mem) : Mem := if op = 3 then if (mL (uL (uL M131 56 (ix 18) (w0_95 ||| w0_131)) 57 (ix 18) w0_95) 54 (ix 16)) < 0 then f_X7_bitwise_195 op (uL (uL M131 56 (ix 18) (w0_95 ||| w0_131)) 57 (ix 18) w0_95) else f_X7_bitwise_195 op (uL (uL (uL M131 56 (ix 18) (w0_95 ||| w0_131)) 57 (ix 18) w0_95) 55 (ix 18) (f_X7_less (mL (uL (uL M131 56 (ix 18) (w0_95 ||| w0_131)) 57 (ix 18) w0_95) 55 (ix 18)) (mL (uL (uL M131 56 (ix 18) (w0_95 ||| w0_131)) 57 (ix 18) w0_95) 55 (ix 16)))) else f_X7_bitwise_195 op (uL (uL M131 56 (ix 18) (w0_95 ||| w0_131)) 57 (ix 18) w0_95)
def f_X7_bitwise_95 (op : Int32) (M : Mem) (w0_95 : Int64) (M95 : Mem) : Mem := if op = 3 then f_X7_bitwise_131 op w0_95 (((mL M 56 (ix 16)) &&& ((mL M 57 (ix 16)) ^^^ ((-1)))) ||| ((mL M 56 (ix 17)) &&& ((mL M 57 (ix 17)) ^^^ ((-1))))) M95 else if op = 4 then f_X7_bitwise_131 op w0_95 (((mL M 56 (ix 16)) &&& ((mL M 57 (ix 16)) ^^^ ((-1)))) &&& ((mL M 56 (ix 17)) &&& ((mL M 57 (ix 17)) ^^^ ((-1))))) M95 else f_X7_bitwise_131 op w0_95 (((mL M 57 (ix 16)) &&& (mL M 57 (ix 17))) ||| (((mL M 56 (ix 16)) &&& ((mL M 57 (ix 16)) ^^^ ((-1)))) &&& ((mL M 56 (ix 17)) &&& ((mL M 57 (ix 17)) ^^^ ((-1)))))) M95
def f_X7_bitwise (M : Mem) (op : Int32) : Mem := if op = 3 then f_X7_bitwise_95 op M ((mL M 57 (ix 16)) &&& (mL M 57 (ix 17))) M else if op = 4 then f_X7_bitwise_95 op M ((mL M 57 (ix 16)) ||| (mL M 57 (ix 17))) M else f_X7_bitwise_95 op M (((mL M 57 (ix 16)) &&& ((mL M 56 (ix 17)) &&& ((mL M 57 (ix 17)) ^^^ ((-1))))) ||| (((mL M 56 (ix 16)) &&& ((mL M 57 (ix 16)) ^^^ ((-1)))) &&& (mL M 57 (ix 17)))) M
abbrev p_X7_bitwise (M : Mem) (op : Int32) : Option Value → Mem → Prop := fun r N => r = none ∧ N = f_X7_bitwise M op ∧ Sg M N
set_option maxRecDepth 100000 in
set_option maxHeartbeats 4000000 in
theorem c_X7_bitwise (G : Ctx) (l : Launch) (M : Mem) (op : Int32) (q : Ok M) (gb : Gb M) : CT G l 1 mX7_bitwise [.ref 52, .int op] M 0 0 (p_X7_bitwise M op) := by
  refine CT.of (by decide) (Nat.le_of_ble_eq_true rfl) ?_
  intro X d hd hl hRm hnm F
  subst hl
  have E : f_X7_bitwise M op = f_X7_bitwise M op := rfl
  show V G X 14 0 0 (Qx G X 0 0 (p_X7_bitwise M op)) 0 [(0, .ref 52), (1, .int op)] [] M
  refine V.seg F floX7 cjoX7 [.aload_n 0, .getfield 20, .bipush 16, .laload, .aload_n 0, .getfield 23, .bipush 16, .laload, .ldc2_w 87, .lxor, .land, .lstore_n 2, .aload_n 0, .getfield 20, .bipush 17, .laload, .aload_n 0, .getfield 23, .bipush 17, .laload, .ldc2_w 87, .lxor, .land, .lstore 4, .aload_n 0, .getfield 23, .bipush 16, .laload, .lstore 6, .aload_n 0, .getfield 23, .bipush 17, .laload, .lstore 8, .iload_n 1, .iconst 3] (by decide +kernel) (pc2 := 61) (lv2 := [(8, .long (mL M 57 (ix 17))), (6, .long (mL M 57 (ix 16))), (4, .long ((mL M 56 (ix 17)) &&& ((mL M 57 (ix 17)) ^^^ ((-1))))), (2, .long ((mL M 56 (ix 16)) &&& ((mL M 57 (ix 16)) ^^^ ((-1))))), (0, .ref 52), (1, .int op)]) (st2 := [.int 3, .int op]) (M2 := M) rfl ⟨trivial, (q.f 52 7 3 rfl), trivial, (q.a 56 22 1648 rfl (vinc (by decide))), trivial, (q.f 52 7 4 rfl), trivial, (q.a 57 22 1648 rfl (vinc (by decide))), trivial, trivial, trivial, (by decide), trivial, (q.f 52 7 3 rfl), trivial, (q.a 56 22 1648 rfl (vinc (by decide))), trivial, (q.f 52 7 4 rfl), trivial, (q.a 57 22 1648 rfl (vinc (by decide))), trivial, trivial, trivial, (by decide), trivial, (q.f 52 7 4 rfl), trivial, (q.a 57 22 1648 rfl (vinc (by decide))), (by decide), trivial, (q.f 52 7 4 rfl), trivial, (q.a 57 22 1648 rfl (vinc (by decide))), (by decide), trivial, trivial, trivial⟩ ?_
  have hJ95 : ∀ (w0_95 : Int64) (M95 : Mem), (Sg M M95) → f_X7_bitwise M op = f_X7_bitwise_95 op M w0_95 M95 → V G X 14 0 0 (Qx G X 0 0 (p_X7_bitwise M op)) 95 [(0, .ref 52), (1, .int op), (2, .long ((mL M 56 (ix 16)) &&& ((mL M 57 (ix 16)) ^^^ ((-1))))), (4, .long ((mL M 56 (ix 17)) &&& ((mL M 57 (ix 17)) ^^^ ((-1))))), (6, .long (mL M 57 (ix 16))), (8, .long (mL M 57 (ix 17)))] [.long w0_95] M95 := by
    intro w0_95 M95 s95 E
    refine V.seg F floX7 cjoX7 [.lstore 10, .iload_n 1, .iconst 3] (by decide +kernel) (pc2 := 99) (lv2 := [(10, .long w0_95), (0, .ref 52), (1, .int op), (2, .long ((mL M 56 (ix 16)) &&& ((mL M 57 (ix 16)) ^^^ ((-1))))), (4, .long ((mL M 56 (ix 17)) &&& ((mL M 57 (ix 17)) ^^^ ((-1))))), (6, .long (mL M 57 (ix 16))), (8, .long (mL M 57 (ix 17)))]) (st2 := [.int 3, .int op]) (M2 := M95) rfl ⟨(by decide), trivial, trivial, trivial⟩ ?_
    have hJ131 : ∀ (w0_131 : Int64) (M131 : Mem), (Sg M M131) → f_X7_bitwise M op = f_X7_bitwise_131 op w0_95 w0_131 M131 → V G X 14 0 0 (Qx G X 0 0 (p_X7_bitwise M op)) 131 [(0, .ref 52), (1, .int op), (10, .long w0_95)] [.long w0_131] M131 := by
      intro w0_131 M131 s131 E
      refine V.seg F floX7 cjoX7 [.lstore 12, .aload_n 0, .getfield 20, .bipush 18, .lload 10, .lload 12, .lor, .lastore, .aload_n 0, .getfield 23, .bipush 18, .lload 10, .lastore, .iload_n 1, .iconst 3] (by decide +kernel) (pc2 := 156) (lv2 := [(12, .long w0_131), (0, .ref 52), (1, .int op), (10, .long w0_95)]) (st2 := [.int 3, .int op]) (M2 := uL (uL M131 56 (ix 18) (w0_95 ||| w0_131)) 57 (ix 18) w0_95) rfl ⟨(by decide), trivial, ((q.sm s131.1).f 52 7 3 rfl), trivial, trivial, trivial, trivial, ((q.sm s131.1).a 56 22 1648 rfl (vinc (by decide))), trivial, ((q.sm (Sg.pL s131 (by decide)).1).f 52 7 4 rfl), trivial, trivial, ((q.sm (Sg.pL s131 (by decide)).1).a 57 22 1648 rfl (vinc (by decide))), trivial, trivial, trivial⟩ ?_
      have hJ195 : ∀ (M195 : Mem), (Sg M M195) → f_X7_bitwise M op = f_X7_bitwise_195 op M195 → V G X 14 0 0 (Qx G X 0 0 (p_X7_bitwise M op)) 195 [(0, .ref 52), (1, .int op)] [] M195 := by
        intro M195 s195 E
        refine V.seg F floX7 cjoX7 [.iload_n 1, .iconst 3] (by decide +kernel) (pc2 := 197) (lv2 := [(0, .ref 52), (1, .int op)]) (st2 := [.int 3, .int op]) (M2 := M195) rfl ⟨trivial, trivial, trivial⟩ ?_
        have hJ236 : ∀ (M236 : Mem), (Sg M M236) → f_X7_bitwise M op = f_X7_bitwise_236 M236 → V G X 14 0 0 (Qx G X 0 0 (p_X7_bitwise M op)) 236 [] [] M236 := by
          intro M236 s236 E
          exact V.vret F (by decide +kernel) ⟨rfl, E.symm, s236⟩
        refine V.ic_ne (off := 39) F (by decide +kernel) (tgt := 236) (by decide) (fun h197 => ?_) (fun h197 => ?_)
        · replace E := E.trans (if_neg h197)
          refine V.pick [] rfl ?_
          exact hJ236 M195 s195 E
        · replace E := E.trans (if_pos h197)
          refine V.seg F floX7 cjoX7 [.aload_n 0, .getfield 13, .bipush 17, .laload, .lconst 0, .lcmp] (by decide +kernel) (pc2 := 209) (lv2 := [(0, .ref 52), (1, .int op)]) (st2 := [.int (lg_cmp (mL M195 54 (ix 17)) 0)]) (M2 := M195) rfl ⟨trivial, ((q.sm s195.1).f 52 7 1 rfl), trivial, ((q.sm s195.1).a 54 22 1648 rfl (vinc (by decide))), trivial, trivial, trivial⟩ ?_
          refine V.lc_lt (off := 27) F (by decide +kernel) (tgt := 236) (by decide) (fun h209 => ?_) (fun h209 => ?_)
          · replace E := E.trans (if_pos h209)
            refine V.pick [] rfl ?_
            exact hJ236 M195 s195 E
          · replace E := E.trans (if_neg h209)
            refine V.seg F floX7 cjoX7 [.aload_n 0, .getfield 17, .bipush 18, .aload_n 0, .getfield 17, .bipush 18, .laload, .aload_n 0, .getfield 17, .bipush 17, .laload] (by decide +kernel) (pc2 := 232) (lv2 := [(0, .ref 52), (1, .int op)]) (st2 := [.long (mL M195 55 (ix 17)), .long (mL M195 55 (ix 18)), .int 18, .ref 55]) (M2 := M195) rfl ⟨trivial, ((q.sm s195.1).f 52 7 2 rfl), trivial, trivial, ((q.sm s195.1).f 52 7 2 rfl), trivial, ((q.sm s195.1).a 55 22 1648 rfl (vinc (by decide))), trivial, ((q.sm s195.1).f 52 7 2 rfl), trivial, ((q.sm s195.1).a 55 22 1648 rfl (vinc (by decide))), trivial⟩ ?_
            refine V.callS (as := [.long (mL M195 55 (ix 18)), .long (mL M195 55 (ix 17))]) (rest := [.int 18, .ref 55]) F (by decide +kernel) lX7_151 bX7_less (c_X7_less G X.2.1 M195 (mL M195 55 (ix 18)) (mL M195 55 (ix 17))) (rm_ok hRm hd (by decide) (by decide)) ⟨Nat.zero_le _, Nat.zero_le _⟩ (Nat.le_of_ble_eq_true rfl) (fun r_ N_ p_ => ?_)
            obtain ⟨rfl, hN_⟩ := p_
            rw [hN_]
            clear hN_
            refine V.seg F floX7 cjoX7 [.lastore] (by decide +kernel) (pc2 := 236) (lv2 := [(0, .ref 52), (1, .int op)]) (st2 := []) (M2 := uL M195 55 (ix 18) (f_X7_less (mL M195 55 (ix 18)) (mL M195 55 (ix 17)))) rfl ⟨((q.sm s195.1).a 55 22 1648 rfl (vinc (by decide))), trivial⟩ ?_
            refine V.pick [] rfl ?_
            exact hJ236 (uL M195 55 (ix 18) (f_X7_less (mL M195 55 (ix 18)) (mL M195 55 (ix 17)))) (Sg.pL s195 (by decide)) E
      refine V.ic_ne (off := 39) F (by decide +kernel) (tgt := 195) (by decide) (fun h156 => ?_) (fun h156 => ?_)
      · replace E := E.trans (if_neg h156)
        refine V.pick [1, 2] rfl ?_
        exact hJ195 (uL (uL M131 56 (ix 18) (w0_95 ||| w0_131)) 57 (ix 18) w0_95) (Sg.pL (Sg.pL s131 (by decide)) (by decide)) E
      · replace E := E.trans (if_pos h156)
        refine V.seg F floX7 cjoX7 [.aload_n 0, .getfield 13, .bipush 16, .laload, .lconst 0, .lcmp] (by decide +kernel) (pc2 := 168) (lv2 := [(12, .long w0_131), (0, .ref 52), (1, .int op), (10, .long w0_95)]) (st2 := [.int (lg_cmp (mL (uL (uL M131 56 (ix 18) (w0_95 ||| w0_131)) 57 (ix 18) w0_95) 54 (ix 16)) 0)]) (M2 := uL (uL M131 56 (ix 18) (w0_95 ||| w0_131)) 57 (ix 18) w0_95) rfl ⟨trivial, ((q.sm (Sg.pL (Sg.pL s131 (by decide)) (by decide)).1).f 52 7 1 rfl), trivial, ((q.sm (Sg.pL (Sg.pL s131 (by decide)) (by decide)).1).a 54 22 1648 rfl (vinc (by decide))), trivial, trivial, trivial⟩ ?_
        refine V.lc_lt (off := 27) F (by decide +kernel) (tgt := 195) (by decide) (fun h168 => ?_) (fun h168 => ?_)
        · replace E := E.trans (if_pos h168)
          refine V.pick [1, 2] rfl ?_
          exact hJ195 (uL (uL M131 56 (ix 18) (w0_95 ||| w0_131)) 57 (ix 18) w0_95) (Sg.pL (Sg.pL s131 (by decide)) (by decide)) E
        · replace E := E.trans (if_neg h168)
          refine V.seg F floX7 cjoX7 [.aload_n 0, .getfield 17, .bipush 18, .aload_n 0, .getfield 17, .bipush 18, .laload, .aload_n 0, .getfield 17, .bipush 16, .laload] (by decide +kernel) (pc2 := 191) (lv2 := [(12, .long w0_131), (0, .ref 52), (1, .int op), (10, .long w0_95)]) (st2 := [.long (mL (uL (uL M131 56 (ix 18) (w0_95 ||| w0_131)) 57 (ix 18) w0_95) 55 (ix 16)), .long (mL (uL (uL M131 56 (ix 18) (w0_95 ||| w0_131)) 57 (ix 18) w0_95) 55 (ix 18)), .int 18, .ref 55]) (M2 := uL (uL M131 56 (ix 18) (w0_95 ||| w0_131)) 57 (ix 18) w0_95) rfl ⟨trivial, ((q.sm (Sg.pL (Sg.pL s131 (by decide)) (by decide)).1).f 52 7 2 rfl), trivial, trivial, ((q.sm (Sg.pL (Sg.pL s131 (by decide)) (by decide)).1).f 52 7 2 rfl), trivial, ((q.sm (Sg.pL (Sg.pL s131 (by decide)) (by decide)).1).a 55 22 1648 rfl (vinc (by decide))), trivial, ((q.sm (Sg.pL (Sg.pL s131 (by decide)) (by decide)).1).f 52 7 2 rfl), trivial, ((q.sm (Sg.pL (Sg.pL s131 (by decide)) (by decide)).1).a 55 22 1648 rfl (vinc (by decide))), trivial⟩ ?_
          refine V.callS (as := [.long (mL (uL (uL M131 56 (ix 18) (w0_95 ||| w0_131)) 57 (ix 18) w0_95) 55 (ix 18)), .long (mL (uL (uL M131 56 (ix 18) (w0_95 ||| w0_131)) 57 (ix 18) w0_95) 55 (ix 16))]) (rest := [.int 18, .ref 55]) F (by decide +kernel) lX7_151 bX7_less (c_X7_less G X.2.1 (uL (uL M131 56 (ix 18) (w0_95 ||| w0_131)) 57 (ix 18) w0_95) (mL (uL (uL M131 56 (ix 18) (w0_95 ||| w0_131)) 57 (ix 18) w0_95) 55 (ix 18)) (mL (uL (uL M131 56 (ix 18) (w0_95 ||| w0_131)) 57 (ix 18) w0_95) 55 (ix 16))) (rm_ok hRm hd (by decide) (by decide)) ⟨Nat.zero_le _, Nat.zero_le _⟩ (Nat.le_of_ble_eq_true rfl) (fun r_ N_ p_ => ?_)
          obtain ⟨rfl, hN_⟩ := p_
          rw [hN_]
          clear hN_
          refine V.seg F floX7 cjoX7 [.lastore] (by decide +kernel) (pc2 := 195) (lv2 := [(12, .long w0_131), (0, .ref 52), (1, .int op), (10, .long w0_95)]) (st2 := []) (M2 := uL (uL (uL M131 56 (ix 18) (w0_95 ||| w0_131)) 57 (ix 18) w0_95) 55 (ix 18) (f_X7_less (mL (uL (uL M131 56 (ix 18) (w0_95 ||| w0_131)) 57 (ix 18) w0_95) 55 (ix 18)) (mL (uL (uL M131 56 (ix 18) (w0_95 ||| w0_131)) 57 (ix 18) w0_95) 55 (ix 16)))) rfl ⟨((q.sm (Sg.pL (Sg.pL s131 (by decide)) (by decide)).1).a 55 22 1648 rfl (vinc (by decide))), trivial⟩ ?_
          refine V.pick [1, 2] rfl ?_
          exact hJ195 (uL (uL (uL M131 56 (ix 18) (w0_95 ||| w0_131)) 57 (ix 18) w0_95) 55 (ix 18) (f_X7_less (mL (uL (uL M131 56 (ix 18) (w0_95 ||| w0_131)) 57 (ix 18) w0_95) 55 (ix 18)) (mL (uL (uL M131 56 (ix 18) (w0_95 ||| w0_131)) 57 (ix 18) w0_95) 55 (ix 16)))) (Sg.pL (Sg.pL (Sg.pL s131 (by decide)) (by decide)) (by decide)) E
    refine V.ic_ne (off := 10) F (by decide +kernel) (tgt := 109) (by decide) (fun h99 => ?_) (fun h99 => ?_)
    · replace E := E.trans (if_neg h99)
      refine V.seg F floX7 cjoX7 [.iload_n 1, .iconst 4] (by decide +kernel) (pc2 := 111) (lv2 := [(10, .long w0_95), (0, .ref 52), (1, .int op), (2, .long ((mL M 56 (ix 16)) &&& ((mL M 57 (ix 16)) ^^^ ((-1))))), (4, .long ((mL M 56 (ix 17)) &&& ((mL M 57 (ix 17)) ^^^ ((-1))))), (6, .long (mL M 57 (ix 16))), (8, .long (mL M 57 (ix 17)))]) (st2 := [.int 4, .int op]) (M2 := M95) rfl ⟨trivial, trivial, trivial⟩ ?_
      refine V.ic_ne (off := 10) F (by decide +kernel) (tgt := 121) (by decide) (fun h111 => ?_) (fun h111 => ?_)
      · replace E := E.trans (if_neg h111)
        refine V.seg F floX7 cjoX7 [.lload 6, .lload 8, .land, .lload_n 2, .lload 4, .land, .lor] (by decide +kernel) (pc2 := 131) (lv2 := [(10, .long w0_95), (0, .ref 52), (1, .int op), (2, .long ((mL M 56 (ix 16)) &&& ((mL M 57 (ix 16)) ^^^ ((-1))))), (4, .long ((mL M 56 (ix 17)) &&& ((mL M 57 (ix 17)) ^^^ ((-1))))), (6, .long (mL M 57 (ix 16))), (8, .long (mL M 57 (ix 17)))]) (st2 := [.long (((mL M 57 (ix 16)) &&& (mL M 57 (ix 17))) ||| (((mL M 56 (ix 16)) &&& ((mL M 57 (ix 16)) ^^^ ((-1)))) &&& ((mL M 56 (ix 17)) &&& ((mL M 57 (ix 17)) ^^^ ((-1))))))]) (M2 := M95) rfl ⟨trivial, trivial, trivial, trivial, trivial, trivial, trivial, trivial⟩ ?_
        refine V.pick [1, 2, 0] rfl ?_
        exact hJ131 (((mL M 57 (ix 16)) &&& (mL M 57 (ix 17))) ||| (((mL M 56 (ix 16)) &&& ((mL M 57 (ix 16)) ^^^ ((-1)))) &&& ((mL M 56 (ix 17)) &&& ((mL M 57 (ix 17)) ^^^ ((-1)))))) M95 s95 E
      · replace E := E.trans (if_pos h111)
        refine V.seg F floX7 cjoX7 [.lload_n 2, .lload 4, .land, .goto 13] (by decide +kernel) (pc2 := 131) (lv2 := [(10, .long w0_95), (0, .ref 52), (1, .int op), (2, .long ((mL M 56 (ix 16)) &&& ((mL M 57 (ix 16)) ^^^ ((-1))))), (4, .long ((mL M 56 (ix 17)) &&& ((mL M 57 (ix 17)) ^^^ ((-1))))), (6, .long (mL M 57 (ix 16))), (8, .long (mL M 57 (ix 17)))]) (st2 := [.long (((mL M 56 (ix 16)) &&& ((mL M 57 (ix 16)) ^^^ ((-1)))) &&& ((mL M 56 (ix 17)) &&& ((mL M 57 (ix 17)) ^^^ ((-1)))))]) (M2 := M95) rfl ⟨trivial, trivial, trivial, (by decide), trivial⟩ ?_
        refine V.pick [1, 2, 0] rfl ?_
        exact hJ131 (((mL M 56 (ix 16)) &&& ((mL M 57 (ix 16)) ^^^ ((-1)))) &&& ((mL M 56 (ix 17)) &&& ((mL M 57 (ix 17)) ^^^ ((-1))))) M95 s95 E
    · replace E := E.trans (if_pos h99)
      refine V.seg F floX7 cjoX7 [.lload_n 2, .lload 4, .lor, .goto 25] (by decide +kernel) (pc2 := 131) (lv2 := [(10, .long w0_95), (0, .ref 52), (1, .int op), (2, .long ((mL M 56 (ix 16)) &&& ((mL M 57 (ix 16)) ^^^ ((-1))))), (4, .long ((mL M 56 (ix 17)) &&& ((mL M 57 (ix 17)) ^^^ ((-1))))), (6, .long (mL M 57 (ix 16))), (8, .long (mL M 57 (ix 17)))]) (st2 := [.long (((mL M 56 (ix 16)) &&& ((mL M 57 (ix 16)) ^^^ ((-1)))) ||| ((mL M 56 (ix 17)) &&& ((mL M 57 (ix 17)) ^^^ ((-1)))))]) (M2 := M95) rfl ⟨trivial, trivial, trivial, (by decide), trivial⟩ ?_
      refine V.pick [1, 2, 0] rfl ?_
      exact hJ131 (((mL M 56 (ix 16)) &&& ((mL M 57 (ix 16)) ^^^ ((-1)))) ||| ((mL M 56 (ix 17)) &&& ((mL M 57 (ix 17)) ^^^ ((-1))))) M95 s95 E
  refine V.ic_ne (off := 11) F (by decide +kernel) (tgt := 72) (by decide) (fun h61 => ?_) (fun h61 => ?_)
  · replace E := E.trans (if_neg h61)
    refine V.seg F floX7 cjoX7 [.iload_n 1, .iconst 4] (by decide +kernel) (pc2 := 74) (lv2 := [(8, .long (mL M 57 (ix 17))), (6, .long (mL M 57 (ix 16))), (4, .long ((mL M 56 (ix 17)) &&& ((mL M 57 (ix 17)) ^^^ ((-1))))), (2, .long ((mL M 56 (ix 16)) &&& ((mL M 57 (ix 16)) ^^^ ((-1))))), (0, .ref 52), (1, .int op)]) (st2 := [.int 4, .int op]) (M2 := M) rfl ⟨trivial, trivial, trivial⟩ ?_
    refine V.ic_ne (off := 11) F (by decide +kernel) (tgt := 85) (by decide) (fun h74 => ?_) (fun h74 => ?_)
    · replace E := E.trans (if_neg h74)
      refine V.seg F floX7 cjoX7 [.lload 6, .lload 4, .land, .lload_n 2, .lload 8, .land, .lor] (by decide +kernel) (pc2 := 95) (lv2 := [(8, .long (mL M 57 (ix 17))), (6, .long (mL M 57 (ix 16))), (4, .long ((mL M 56 (ix 17)) &&& ((mL M 57 (ix 17)) ^^^ ((-1))))), (2, .long ((mL M 56 (ix 16)) &&& ((mL M 57 (ix 16)) ^^^ ((-1))))), (0, .ref 52), (1, .int op)]) (st2 := [.long (((mL M 57 (ix 16)) &&& ((mL M 56 (ix 17)) &&& ((mL M 57 (ix 17)) ^^^ ((-1))))) ||| (((mL M 56 (ix 16)) &&& ((mL M 57 (ix 16)) ^^^ ((-1)))) &&& (mL M 57 (ix 17))))]) (M2 := M) rfl ⟨trivial, trivial, trivial, trivial, trivial, trivial, trivial, trivial⟩ ?_
      refine V.pick [4, 5, 3, 2, 1, 0] rfl ?_
      exact hJ95 (((mL M 57 (ix 16)) &&& ((mL M 56 (ix 17)) &&& ((mL M 57 (ix 17)) ^^^ ((-1))))) ||| (((mL M 56 (ix 16)) &&& ((mL M 57 (ix 16)) ^^^ ((-1)))) &&& (mL M 57 (ix 17)))) M (Sg.rf gb) E
    · replace E := E.trans (if_pos h74)
      refine V.seg F floX7 cjoX7 [.lload 6, .lload 8, .lor, .goto 13] (by decide +kernel) (pc2 := 95) (lv2 := [(8, .long (mL M 57 (ix 17))), (6, .long (mL M 57 (ix 16))), (4, .long ((mL M 56 (ix 17)) &&& ((mL M 57 (ix 17)) ^^^ ((-1))))), (2, .long ((mL M 56 (ix 16)) &&& ((mL M 57 (ix 16)) ^^^ ((-1))))), (0, .ref 52), (1, .int op)]) (st2 := [.long ((mL M 57 (ix 16)) ||| (mL M 57 (ix 17)))]) (M2 := M) rfl ⟨trivial, trivial, trivial, (by decide), trivial⟩ ?_
      refine V.pick [4, 5, 3, 2, 1, 0] rfl ?_
      exact hJ95 ((mL M 57 (ix 16)) ||| (mL M 57 (ix 17))) M (Sg.rf gb) E
  · replace E := E.trans (if_pos h61)
    refine V.seg F floX7 cjoX7 [.lload 6, .lload 8, .land, .goto 26] (by decide +kernel) (pc2 := 95) (lv2 := [(8, .long (mL M 57 (ix 17))), (6, .long (mL M 57 (ix 16))), (4, .long ((mL M 56 (ix 17)) &&& ((mL M 57 (ix 17)) ^^^ ((-1))))), (2, .long ((mL M 56 (ix 16)) &&& ((mL M 57 (ix 16)) ^^^ ((-1))))), (0, .ref 52), (1, .int op)]) (st2 := [.long ((mL M 57 (ix 16)) &&& (mL M 57 (ix 17)))]) (M2 := M) rfl ⟨trivial, trivial, trivial, (by decide), trivial⟩ ?_
    refine V.pick [4, 5, 3, 2, 1, 0] rfl ?_
    exact hJ95 ((mL M 57 (ix 16)) &&& (mL M 57 (ix 17))) M (Sg.rf gb) E
def f_X7_divide_29  (M29 : Mem) : Mem := uI M29 52 8 1
def f_X7_divide_269  (M269 : Mem) : Mem := M269
def f_X7_divide_c207 (M : Mem) (M207 : Mem) : Mem := if ((mL M 54 (ix 17)) &&& ((mL M 54 (ix 17)) - 1)) = 0 then if (mL M207 54 (ix 16)) < 0 then f_X7_divide_269 M207 else f_X7_divide_269 (uL (uL M207 56 (ix 18) ((mL M207 56 (ix 16)) ||| (((mL M 54 (ix 17)) - 1) ^^^ ((-1))))) 57 (ix 18) ((mL (uL M207 56 (ix 18) ((mL M207 56 (ix 16)) ||| (((mL M 54 (ix 17)) - 1) ^^^ ((-1))))) 57 (ix 16)) &&& ((mL M 54 (ix 17)) - 1))) else f_X7_divide_269 M207
def f_X7_divide_179 (M : Mem) (w0_179 : Int64) (M179 : Mem) : Mem := f_X7_divide_c207 M (f_X7_setRest (uL M179 55 (ix 18) w0_179) 18 (f_X7_odd (f_X7_common (mL (uL M179 55 (ix 18) w0_179) 58 (ix 16)) (mL M 54 (ix 17)))) (mL (uL M179 55 (ix 18) w0_179) 59 (ix 16)))
def f_X7_divide_143 (M : Mem) (w0_143 : Int64) (M143 : Mem) : Mem := if 0 < (mL (uL M143 54 (ix 18) w0_143) 55 (ix 16)) then f_X7_divide_179 M (f_X7_less (mL (uL M143 54 (ix 18) w0_143) 55 (ix 16)) ((mL M 54 (ix 17)) - 1)) (uL M143 54 (ix 18) w0_143) else f_X7_divide_179 M 0 (uL M143 54 (ix 18) w0_143)
def f_X7_divide_108 (M : Mem) (M108 : Mem) : Mem := if (mL M108 54 (ix 16)) < 0 then f_X7_divide_143 M (f_X7_more (mL M108 54 (ix 16)) (1 - (mL M 54 (ix 17)))) M108 else f_X7_divide_143 M 0 M108
def f_X7_divide_c107  (M107 : Mem) : Mem := M107
def f_X7_divide_c73  (M73 : Mem) : Mem := M73
def f_X7_divide (M : Mem) (op : Int32) : Mem := if op = 11 then f_X7_divide_29 M else if (f_X7_isNumber M 17) = 0 then f_X7_divide_29 M else if 0 < (mL M 54 (ix 17)) then if op = 9 then f_X7_divide_c73 (uL (uL M 54 (ix 18) ((mL M 54 (ix 16)) / (mL M 54 (ix 17)))) 55 (ix 18) ((mL (uL M 54 (ix 18) ((mL M 54 (ix 16)) / (mL M 54 (ix 17)))) 55 (ix 16)) / (mL M 54 (ix 17)))) else if (mL M 54 (ix 16)) ≤ (-(mL M 54 (ix 17))) then f_X7_divide_108 M M else if (mL M 54 (ix 17)) ≤ (mL M 55 (ix 16)) then f_X7_divide_108 M M else f_X7_divide_c107 (f_X7_copy M 18 16) else f_X7_divide_29 M
abbrev p_X7_divide (M : Mem) (op : Int32) : Option Value → Mem → Prop := fun r N => r = none ∧ N = f_X7_divide M op ∧ Sg M N
set_option maxRecDepth 100000 in
set_option maxHeartbeats 4000000 in
theorem c_X7_divide (G : Ctx) (l : Launch) (M : Mem) (op : Int32) (q : Ok M) (gb : Gb M) : CT G l 2 mX7_divide [.ref 52, .int op] M 0 0 (p_X7_divide M op) := by
  refine CT.of (by decide) (Nat.le_of_ble_eq_true rfl) ?_
  intro X d hd hl hRm hnm F
  subst hl
  have E : f_X7_divide M op = f_X7_divide M op := rfl
  show V G X 4 0 0 (Qx G X 0 0 (p_X7_divide M op)) 0 [(0, .ref 52), (1, .int op)] [] M
  refine V.seg F floX7 cjoX7 [.aload_n 0, .getfield 13, .bipush 17, .laload, .lstore_n 2, .iload_n 1, .bipush 11] (by decide +kernel) (pc2 := 11) (lv2 := [(2, .long (mL M 54 (ix 17))), (0, .ref 52), (1, .int op)]) (st2 := [.int 11, .int op]) (M2 := M) rfl ⟨trivial, (q.f 52 7 1 rfl), trivial, (q.a 54 22 1648 rfl (vinc (by decide))), (by decide), trivial, trivial, trivial⟩ ?_
  have hJ29 : ∀ (M29 : Mem), (Sg M M29) → f_X7_divide M op = f_X7_divide_29 M29 → V G X 4 0 0 (Qx G X 0 0 (p_X7_divide M op)) 29 [(0, .ref 52)] [] M29 := by
    intro M29 s29 E
    refine V.seg F floX7 cjoX7 [.aload_n 0, .iconst 1, .putfield 180] (by decide +kernel) (pc2 := 34) (lv2 := [(0, .ref 52)]) (st2 := []) (M2 := uI M29 52 8 1) rfl ⟨trivial, trivial, ⟨((q.sm s29.1).o 52 7 rfl), Or.inr rfl⟩, trivial⟩ ?_
    exact V.vret F (by decide +kernel) ⟨rfl, E.symm, (Sg.pF s29)⟩
  refine V.ic_eq (off := 18) F (by decide +kernel) (tgt := 29) (by decide) (fun h11 => ?_) (fun h11 => ?_)
  · replace E := E.trans (if_pos h11)
    refine V.pick [1] rfl ?_
    exact hJ29 M (Sg.rf gb) E
  · replace E := E.trans (if_neg h11)
    refine V.seg F floX7 cjoX7 [.aload_n 0, .bipush 17] (by decide +kernel) (pc2 := 17) (lv2 := [(2, .long (mL M 54 (ix 17))), (0, .ref 52), (1, .int op)]) (st2 := [.int 17, .ref 52]) (M2 := M) rfl ⟨trivial, trivial, trivial⟩ ?_
    refine V.callV (as := [.int 17]) (rest := []) F (by decide +kernel) lX7_130 bX7_isNumber ⟨7, _, (q.o 52 7 rfl), rfl, rfl⟩ (c_X7_isNumber G X.2.1 M 17 q gb (vinc (by decide))) (rm_ok hRm hd (by decide) (by decide)) ⟨Nat.zero_le _, Nat.zero_le _⟩ (Nat.le_of_ble_eq_true rfl) (fun r_ N_ p_ => ?_)
    obtain ⟨rfl, hN_, z17⟩ := p_
    rw [hN_]
    clear hN_
    refine V.if_eq (off := 9) F (by decide +kernel) (tgt := 29) (by decide) (fun h20 => ?_) (fun h20 => ?_)
    · replace E := E.trans (if_pos h20)
      refine V.pick [1] rfl ?_
      exact hJ29 M (Sg.rf gb) E
    · replace E := E.trans (if_neg h20)
      refine V.seg F floX7 cjoX7 [.lload_n 2, .lconst 0, .lcmp] (by decide +kernel) (pc2 := 26) (lv2 := [(2, .long (mL M 54 (ix 17))), (0, .ref 52), (1, .int op)]) (st2 := [.int (lg_cmp (mL M 54 (ix 17)) 0)]) (M2 := M) rfl ⟨trivial, trivial, trivial, trivial⟩ ?_
      refine V.lc_gt (off := 9) F (by decide +kernel) (tgt := 35) (by decide) (fun h26 => ?_) (fun h26 => ?_)
      · replace E := E.trans (if_pos h26)
        refine V.seg F floX7 cjoX7 [.iload_n 1, .bipush 9] (by decide +kernel) (pc2 := 38) (lv2 := [(2, .long (mL M 54 (ix 17))), (0, .ref 52), (1, .int op)]) (st2 := [.int 9, .int op]) (M2 := M) rfl ⟨trivial, trivial, trivial⟩ ?_
        refine V.ic_ne (off := 36) F (by decide +kernel) (tgt := 74) (by decide) (fun h38 => ?_) (fun h38 => ?_)
        · replace E := E.trans (if_neg h38)
          refine V.seg F floX7 cjoX7 [.lload_n 2, .lneg, .aload_n 0, .getfield 13, .bipush 16, .laload, .lcmp] (by decide +kernel) (pc2 := 84) (lv2 := [(2, .long (mL M 54 (ix 17))), (0, .ref 52), (1, .int op)]) (st2 := [.int (lg_cmp (-(mL M 54 (ix 17))) (mL M 54 (ix 16)))]) (M2 := M) rfl ⟨trivial, trivial, trivial, (q.f 52 7 1 rfl), trivial, (q.a 54 22 1648 rfl (vinc (by decide))), trivial, trivial⟩ ?_
          have hJ108 : ∀ (M108 : Mem), (Sg M M108) → f_X7_divide M op = f_X7_divide_108 M M108 → V G X 4 0 0 (Qx G X 0 0 (p_X7_divide M op)) 108 [(0, .ref 52), (2, .long (mL M 54 (ix 17)))] [] M108 := by
            intro M108 s108 E
            refine V.seg F floX7 cjoX7 [.aload_n 0, .getfield 13, .bipush 18, .aload_n 0, .getfield 13, .bipush 16, .laload, .lconst 0, .lcmp] (by decide +kernel) (pc2 := 123) (lv2 := [(0, .ref 52), (2, .long (mL M 54 (ix 17)))]) (st2 := [.int (lg_cmp (mL M108 54 (ix 16)) 0), .int 18, .ref 54]) (M2 := M108) rfl ⟨trivial, ((q.sm s108.1).f 52 7 1 rfl), trivial, trivial, ((q.sm s108.1).f 52 7 1 rfl), trivial, ((q.sm s108.1).a 54 22 1648 rfl (vinc (by decide))), trivial, trivial, trivial⟩ ?_
            have hJ143 : ∀ (w0_143 : Int64) (M143 : Mem), (Sg M M143) → f_X7_divide M op = f_X7_divide_143 M w0_143 M143 → V G X 4 0 0 (Qx G X 0 0 (p_X7_divide M op)) 143 [(0, .ref 52), (2, .long (mL M 54 (ix 17)))] [.long w0_143, .int 18, .ref 54] M143 := by
              intro w0_143 M143 s143 E
              refine V.seg F floX7 cjoX7 [.lastore, .aload_n 0, .getfield 17, .bipush 18, .aload_n 0, .getfield 17, .bipush 16, .laload, .lconst 0, .lcmp] (by decide +kernel) (pc2 := 159) (lv2 := [(0, .ref 52), (2, .long (mL M 54 (ix 17)))]) (st2 := [.int (lg_cmp (mL (uL M143 54 (ix 18) w0_143) 55 (ix 16)) 0), .int 18, .ref 55]) (M2 := uL M143 54 (ix 18) w0_143) rfl ⟨((q.sm s143.1).a 54 22 1648 rfl (vinc (by decide))), trivial, ((q.sm (Sg.pL s143 (by decide)).1).f 52 7 2 rfl), trivial, trivial, ((q.sm (Sg.pL s143 (by decide)).1).f 52 7 2 rfl), trivial, ((q.sm (Sg.pL s143 (by decide)).1).a 55 22 1648 rfl (vinc (by decide))), trivial, trivial, trivial⟩ ?_
              have hJ179 : ∀ (w0_179 : Int64) (M179 : Mem), (Sg M M179) → f_X7_divide M op = f_X7_divide_179 M w0_179 M179 → V G X 4 0 0 (Qx G X 0 0 (p_X7_divide M op)) 179 [(0, .ref 52), (2, .long (mL M 54 (ix 17)))] [.long w0_179, .int 18, .ref 55] M179 := by
                intro w0_179 M179 s179 E
                refine V.seg F floX7 cjoX7 [.lastore, .aload_n 0, .bipush 18, .aload_n 0, .getfield 26, .bipush 16, .laload, .lload_n 2] (by decide +kernel) (pc2 := 191) (lv2 := [(0, .ref 52), (2, .long (mL M 54 (ix 17)))]) (st2 := [.long (mL M 54 (ix 17)), .long (mL (uL M179 55 (ix 18) w0_179) 58 (ix 16)), .int 18, .ref 52]) (M2 := uL M179 55 (ix 18) w0_179) rfl ⟨((q.sm s179.1).a 55 22 1648 rfl (vinc (by decide))), trivial, trivial, trivial, ((q.sm (Sg.pL s179 (by decide)).1).f 52 7 5 rfl), trivial, ((q.sm (Sg.pL s179 (by decide)).1).a 58 22 1648 rfl (vinc (by decide))), trivial, trivial⟩ ?_
                refine V.callS (as := [.long (mL (uL M179 55 (ix 18) w0_179) 58 (ix 16)), .long (mL M 54 (ix 17))]) (rest := [.int 18, .ref 52]) F (by decide +kernel) lX7_144 bX7_common (c_X7_common G X.2.1 (uL M179 55 (ix 18) w0_179) (mL (uL M179 55 (ix 18) w0_179) 58 (ix 16)) (mL M 54 (ix 17))) (rm_ok hRm hd (by decide) (by decide)) ⟨Nat.zero_le _, Nat.zero_le _⟩ (Nat.le_of_ble_eq_true rfl) (fun r_ N_ p_ => ?_)
                obtain ⟨rfl, hN_⟩ := p_
                rw [hN_]
                clear hN_
                refine V.callS (as := [.long (f_X7_common (mL (uL M179 55 (ix 18) w0_179) 58 (ix 16)) (mL M 54 (ix 17)))]) (rest := [.int 18, .ref 52]) F (by decide +kernel) lX7_147 bX7_odd (c_X7_odd G X.2.1 (uL M179 55 (ix 18) w0_179) (f_X7_common (mL (uL M179 55 (ix 18) w0_179) 58 (ix 16)) (mL M 54 (ix 17)))) (rm_ok hRm hd (by decide) (by decide)) ⟨Nat.zero_le _, Nat.zero_le _⟩ (Nat.le_of_ble_eq_true rfl) (fun r_ N_ p_ => ?_)
                obtain ⟨rfl, hN_⟩ := p_
                rw [hN_]
                clear hN_
                refine V.seg F floX7 cjoX7 [.aload_n 0, .getfield 29, .bipush 16, .laload] (by decide +kernel) (pc2 := 204) (lv2 := [(0, .ref 52), (2, .long (mL M 54 (ix 17)))]) (st2 := [.long (mL (uL M179 55 (ix 18) w0_179) 59 (ix 16)), .long (f_X7_odd (f_X7_common (mL (uL M179 55 (ix 18) w0_179) 58 (ix 16)) (mL M 54 (ix 17)))), .int 18, .ref 52]) (M2 := uL M179 55 (ix 18) w0_179) rfl ⟨trivial, ((q.sm (Sg.pL s179 (by decide)).1).f 52 7 6 rfl), trivial, ((q.sm (Sg.pL s179 (by decide)).1).a 59 22 1648 rfl (vinc (by decide))), trivial⟩ ?_
                refine V.callV (as := [.int 18, .long (f_X7_odd (f_X7_common (mL (uL M179 55 (ix 18) w0_179) 58 (ix 16)) (mL M 54 (ix 17)))), .long (mL (uL M179 55 (ix 18) w0_179) 59 (ix 16))]) (rest := []) F (by decide +kernel) lX7_161 bX7_setRest ⟨7, _, ((q.sm (Sg.pL s179 (by decide)).1).o 52 7 rfl), rfl, rfl⟩ (c_X7_setRest G X.2.1 (uL M179 55 (ix 18) w0_179) 18 (f_X7_odd (f_X7_common (mL (uL M179 55 (ix 18) w0_179) 58 (ix 16)) (mL M 54 (ix 17)))) (mL (uL M179 55 (ix 18) w0_179) 59 (ix 16)) (q.sm (Sg.pL s179 (by decide)).1) (Sg.pL s179 (by decide)).2 (vinc (by decide)) (odd_ne0 _)) (rm_ok hRm hd (by decide) (by decide)) ⟨Nat.zero_le _, Nat.zero_le _⟩ (Nat.le_of_ble_eq_true rfl) (fun r_ N_ p_ => ?_)
                obtain ⟨rfl, rfl, t204⟩ := p_
                refine (?_ : ∀ (M207 : Mem), (Sg M M207) → f_X7_divide M op = f_X7_divide_c207 M M207 → V G X 4 0 0 (Qx G X 0 0 (p_X7_divide M op)) 207 [(0, .ref 52), (2, .long (mL M 54 (ix 17)))] [] M207) _ (Sg.tr (Sg.pL s179 (by decide)) t204) E
                intro M207 s207 E
                refine V.seg F floX7 cjoX7 [.lload_n 2, .lload_n 2, .lconst 1, .lsub, .land, .lconst 0, .lcmp] (by decide +kernel) (pc2 := 214) (lv2 := [(0, .ref 52), (2, .long (mL M 54 (ix 17)))]) (st2 := [.int (lg_cmp ((mL M 54 (ix 17)) &&& ((mL M 54 (ix 17)) - 1)) 0)]) (M2 := M207) rfl ⟨trivial, trivial, trivial, trivial, trivial, trivial, trivial, trivial⟩ ?_
                have hJ269 : ∀ (M269 : Mem), (Sg M M269) → f_X7_divide M op = f_X7_divide_269 M269 → V G X 4 0 0 (Qx G X 0 0 (p_X7_divide M op)) 269 [] [] M269 := by
                  intro M269 s269 E
                  exact V.vret F (by decide +kernel) ⟨rfl, E.symm, s269⟩
                refine V.lc_ne (off := 55) F (by decide +kernel) (tgt := 269) (by decide) (fun h214 => ?_) (fun h214 => ?_)
                · replace E := E.trans (if_neg h214)
                  refine V.pick [] rfl ?_
                  exact hJ269 M207 s207 E
                · replace E := E.trans (if_pos h214)
                  refine V.seg F floX7 cjoX7 [.aload_n 0, .getfield 13, .bipush 16, .laload, .lconst 0, .lcmp] (by decide +kernel) (pc2 := 226) (lv2 := [(0, .ref 52), (2, .long (mL M 54 (ix 17)))]) (st2 := [.int (lg_cmp (mL M207 54 (ix 16)) 0)]) (M2 := M207) rfl ⟨trivial, ((q.sm s207.1).f 52 7 1 rfl), trivial, ((q.sm s207.1).a 54 22 1648 rfl (vinc (by decide))), trivial, trivial, trivial⟩ ?_
                  refine V.lc_lt (off := 43) F (by decide +kernel) (tgt := 269) (by decide) (fun h226 => ?_) (fun h226 => ?_)
                  · replace E := E.trans (if_pos h226)
                    refine V.pick [] rfl ?_
                    exact hJ269 M207 s207 E
                  · replace E := E.trans (if_neg h226)
                    refine V.seg F floX7 cjoX7 [.aload_n 0, .getfield 20, .bipush 18, .aload_n 0, .getfield 20, .bipush 16, .laload, .lload_n 2, .lconst 1, .lsub, .ldc2_w 87, .lxor, .lor, .lastore, .aload_n 0, .getfield 23, .bipush 18, .aload_n 0, .getfield 23, .bipush 16, .laload, .lload_n 2, .lconst 1, .lsub, .land, .lastore] (by decide +kernel) (pc2 := 269) (lv2 := [(0, .ref 52), (2, .long (mL M 54 (ix 17)))]) (st2 := []) (M2 := uL (uL M207 56 (ix 18) ((mL M207 56 (ix 16)) ||| (((mL M 54 (ix 17)) - 1) ^^^ ((-1))))) 57 (ix 18) ((mL (uL M207 56 (ix 18) ((mL M207 56 (ix 16)) ||| (((mL M 54 (ix 17)) - 1) ^^^ ((-1))))) 57 (ix 16)) &&& ((mL M 54 (ix 17)) - 1))) rfl ⟨trivial, ((q.sm s207.1).f 52 7 3 rfl), trivial, trivial, ((q.sm s207.1).f 52 7 3 rfl), trivial, ((q.sm s207.1).a 56 22 1648 rfl (vinc (by decide))), trivial, trivial, trivial, trivial, trivial, trivial, ((q.sm s207.1).a 56 22 1648 rfl (vinc (by decide))), trivial, ((q.sm (Sg.pL s207 (by decide)).1).f 52 7 4 rfl), trivial, trivial, ((q.sm (Sg.pL s207 (by decide)).1).f 52 7 4 rfl), trivial, ((q.sm (Sg.pL s207 (by decide)).1).a 57 22 1648 rfl (vinc (by decide))), trivial, trivial, trivial, trivial, ((q.sm (Sg.pL s207 (by decide)).1).a 57 22 1648 rfl (vinc (by decide))), trivial⟩ ?_
                    refine V.pick [] rfl ?_
                    exact hJ269 (uL (uL M207 56 (ix 18) ((mL M207 56 (ix 16)) ||| (((mL M 54 (ix 17)) - 1) ^^^ ((-1))))) 57 (ix 18) ((mL (uL M207 56 (ix 18) ((mL M207 56 (ix 16)) ||| (((mL M 54 (ix 17)) - 1) ^^^ ((-1))))) 57 (ix 16)) &&& ((mL M 54 (ix 17)) - 1))) (Sg.pL (Sg.pL s207 (by decide)) (by decide)) E
              refine V.lc_gt (off := 7) F (by decide +kernel) (tgt := 166) (by decide) (fun h159 => ?_) (fun h159 => ?_)
              · replace E := E.trans (if_pos h159)
                refine V.seg F floX7 cjoX7 [.aload_n 0, .getfield 17, .bipush 16, .laload, .lload_n 2, .lconst 1, .lsub] (by decide +kernel) (pc2 := 176) (lv2 := [(0, .ref 52), (2, .long (mL M 54 (ix 17)))]) (st2 := [.long ((mL M 54 (ix 17)) - 1), .long (mL (uL M143 54 (ix 18) w0_143) 55 (ix 16)), .int 18, .ref 55]) (M2 := uL M143 54 (ix 18) w0_143) rfl ⟨trivial, ((q.sm (Sg.pL s143 (by decide)).1).f 52 7 2 rfl), trivial, ((q.sm (Sg.pL s143 (by decide)).1).a 55 22 1648 rfl (vinc (by decide))), trivial, trivial, trivial, trivial⟩ ?_
                refine V.callS (as := [.long (mL (uL M143 54 (ix 18) w0_143) 55 (ix 16)), .long ((mL M 54 (ix 17)) - 1)]) (rest := [.int 18, .ref 55]) F (by decide +kernel) lX7_151 bX7_less (c_X7_less G X.2.1 (uL M143 54 (ix 18) w0_143) (mL (uL M143 54 (ix 18) w0_143) 55 (ix 16)) ((mL M 54 (ix 17)) - 1)) (rm_ok hRm hd (by decide) (by decide)) ⟨Nat.zero_le _, Nat.zero_le _⟩ (Nat.le_of_ble_eq_true rfl) (fun r_ N_ p_ => ?_)
                obtain ⟨rfl, hN_⟩ := p_
                rw [hN_]
                clear hN_
                refine V.pick [0, 1] rfl ?_
                exact hJ179 (f_X7_less (mL (uL M143 54 (ix 18) w0_143) 55 (ix 16)) ((mL M 54 (ix 17)) - 1)) (uL M143 54 (ix 18) w0_143) (Sg.pL s143 (by decide)) E
              · replace E := E.trans (if_neg h159)
                refine V.seg F floX7 cjoX7 [.lconst 0, .goto 16] (by decide +kernel) (pc2 := 179) (lv2 := [(0, .ref 52), (2, .long (mL M 54 (ix 17)))]) (st2 := [.long 0, .int 18, .ref 55]) (M2 := uL M143 54 (ix 18) w0_143) rfl ⟨trivial, (by decide), trivial⟩ ?_
                refine V.pick [0, 1] rfl ?_
                exact hJ179 0 (uL M143 54 (ix 18) w0_143) (Sg.pL s143 (by decide)) E
            refine V.lc_lt (off := 7) F (by decide +kernel) (tgt := 130) (by decide) (fun h123 => ?_) (fun h123 => ?_)
            · replace E := E.trans (if_pos h123)
              refine V.seg F floX7 cjoX7 [.aload_n 0, .getfield 13, .bipush 16, .laload, .lconst 1, .lload_n 2, .lsub] (by decide +kernel) (pc2 := 140) (lv2 := [(0, .ref 52), (2, .long (mL M 54 (ix 17)))]) (st2 := [.long (1 - (mL M 54 (ix 17))), .long (mL M108 54 (ix 16)), .int 18, .ref 54]) (M2 := M108) rfl ⟨trivial, ((q.sm s108.1).f 52 7 1 rfl), trivial, ((q.sm s108.1).a 54 22 1648 rfl (vinc (by decide))), trivial, trivial, trivial, trivial⟩ ?_
              refine V.callS (as := [.long (mL M108 54 (ix 16)), .long (1 - (mL M 54 (ix 17)))]) (rest := [.int 18, .ref 54]) F (by decide +kernel) lX7_154 bX7_more (c_X7_more G X.2.1 M108 (mL M108 54 (ix 16)) (1 - (mL M 54 (ix 17)))) (rm_ok hRm hd (by decide) (by decide)) ⟨Nat.zero_le _, Nat.zero_le _⟩ (Nat.le_of_ble_eq_true rfl) (fun r_ N_ p_ => ?_)
              obtain ⟨rfl, hN_⟩ := p_
              rw [hN_]
              clear hN_
              refine V.pick [0, 1] rfl ?_
              exact hJ143 (f_X7_more (mL M108 54 (ix 16)) (1 - (mL M 54 (ix 17)))) M108 s108 E
            · replace E := E.trans (if_neg h123)
              refine V.seg F floX7 cjoX7 [.lconst 0, .goto 16] (by decide +kernel) (pc2 := 143) (lv2 := [(0, .ref 52), (2, .long (mL M 54 (ix 17)))]) (st2 := [.long 0, .int 18, .ref 54]) (M2 := M108) rfl ⟨trivial, (by decide), trivial⟩ ?_
              refine V.pick [0, 1] rfl ?_
              exact hJ143 0 M108 s108 E
          refine V.lc_ge (off := 24) F (by decide +kernel) (tgt := 108) (by decide) (fun h84 => ?_) (fun h84 => ?_)
          · replace E := E.trans (if_pos h84)
            refine V.pick [1, 0] rfl ?_
            exact hJ108 M (Sg.rf gb) E
          · replace E := E.trans (if_neg h84)
            refine V.seg F floX7 cjoX7 [.aload_n 0, .getfield 17, .bipush 16, .laload, .lload_n 2, .lcmp] (by decide +kernel) (pc2 := 96) (lv2 := [(2, .long (mL M 54 (ix 17))), (0, .ref 52), (1, .int op)]) (st2 := [.int (lg_cmp (mL M 55 (ix 16)) (mL M 54 (ix 17)))]) (M2 := M) rfl ⟨trivial, (q.f 52 7 2 rfl), trivial, (q.a 55 22 1648 rfl (vinc (by decide))), trivial, trivial, trivial⟩ ?_
            refine V.lc_ge (off := 12) F (by decide +kernel) (tgt := 108) (by decide) (fun h96 => ?_) (fun h96 => ?_)
            · replace E := E.trans (if_pos h96)
              refine V.pick [1, 0] rfl ?_
              exact hJ108 M (Sg.rf gb) E
            · replace E := E.trans (if_neg h96)
              refine V.seg F floX7 cjoX7 [.aload_n 0, .bipush 18, .bipush 16] (by decide +kernel) (pc2 := 104) (lv2 := [(2, .long (mL M 54 (ix 17))), (0, .ref 52), (1, .int op)]) (st2 := [.int 16, .int 18, .ref 52]) (M2 := M) rfl ⟨trivial, trivial, trivial, trivial⟩ ?_
              refine V.callV (as := [.int 18, .int 16]) (rest := []) F (by decide +kernel) lX7_133 bX7_copy ⟨7, _, (q.o 52 7 rfl), rfl, rfl⟩ (c_X7_copy G X.2.1 M 18 16 q gb (vinc (by decide)) (vinc (by decide))) (rm_ok hRm hd (by decide) (by decide)) ⟨Nat.zero_le _, Nat.zero_le _⟩ (Nat.le_of_ble_eq_true rfl) (fun r_ N_ p_ => ?_)
              obtain ⟨rfl, rfl, t104⟩ := p_
              refine (?_ : ∀ (M107 : Mem), (Sg M M107) → f_X7_divide M op = f_X7_divide_c107 M107 → V G X 4 0 0 (Qx G X 0 0 (p_X7_divide M op)) 107 [(2, .long (mL M 54 (ix 17))), (0, .ref 52), (1, .int op)] [] M107) _ t104 E
              intro M107 s107 E
              exact V.vret F (by decide +kernel) ⟨rfl, E.symm, s107⟩
        · replace E := E.trans (if_pos h38)
          refine V.seg F floX7 cjoX7 [.aload_n 0, .getfield 13, .bipush 18, .aload_n 0, .getfield 13, .bipush 16, .laload, .lload_n 2, .ldiv, .lastore, .aload_n 0, .getfield 17, .bipush 18, .aload_n 0, .getfield 17, .bipush 16, .laload, .lload_n 2, .ldiv, .lastore] (by decide +kernel) (pc2 := 73) (lv2 := [(2, .long (mL M 54 (ix 17))), (0, .ref 52), (1, .int op)]) (st2 := []) (M2 := uL (uL M 54 (ix 18) ((mL M 54 (ix 16)) / (mL M 54 (ix 17)))) 55 (ix 18) ((mL (uL M 54 (ix 18) ((mL M 54 (ix 16)) / (mL M 54 (ix 17)))) 55 (ix 16)) / (mL M 54 (ix 17)))) rfl ⟨trivial, (q.f 52 7 1 rfl), trivial, trivial, (q.f 52 7 1 rfl), trivial, (q.a 54 22 1648 rfl (vinc (by decide))), trivial, (pos_ne h26), (q.a 54 22 1648 rfl (vinc (by decide))), trivial, ((q.sm (Sg.pL (Sg.rf gb) (by decide)).1).f 52 7 2 rfl), trivial, trivial, ((q.sm (Sg.pL (Sg.rf gb) (by decide)).1).f 52 7 2 rfl), trivial, ((q.sm (Sg.pL (Sg.rf gb) (by decide)).1).a 55 22 1648 rfl (vinc (by decide))), trivial, (pos_ne h26), ((q.sm (Sg.pL (Sg.rf gb) (by decide)).1).a 55 22 1648 rfl (vinc (by decide))), trivial⟩ ?_
          refine (?_ : ∀ (M73 : Mem), (Sg M M73) → f_X7_divide M op = f_X7_divide_c73 M73 → V G X 4 0 0 (Qx G X 0 0 (p_X7_divide M op)) 73 [(2, .long (mL M 54 (ix 17))), (0, .ref 52), (1, .int op)] [] M73) _ (Sg.pL (Sg.pL (Sg.rf gb) (by decide)) (by decide)) E
          intro M73 s73 E
          exact V.vret F (by decide +kernel) ⟨rfl, E.symm, s73⟩
      · replace E := E.trans (if_neg h26)
        refine V.pick [1] rfl ?_
        exact hJ29 M (Sg.rf gb) E
def f_X7_narrow_214  (w0_214 : Int64) (M214 : Mem) : Mem := uL M214 57 (ix 18) w0_214
def f_X7_narrow_174 (w0_25 : Int32) (w0_37 : Int32) (w0_174 : Int64) (M174 : Mem) : Mem := if w0_37 = 0 then f_X7_narrow_214 ((mL (uL M174 56 (ix 18) w0_174) 57 (ix 16)) &&& ((jshl 1 w0_25) - 1)) (uL M174 56 (ix 18) w0_174) else f_X7_narrow_214 (jshr (jshl (mL (uL M174 56 (ix 18) w0_174) 57 (ix 16)) (64 - w0_25)) (64 - w0_25)) (uL M174 56 (ix 18) w0_174)
def f_X7_narrow_111 (w0_25 : Int32) (w0_37 : Int32) (w0_53 : Int64) (w0_74 : Int64) (M111 : Mem) : Mem := if w0_37 = 0 then f_X7_narrow_174 w0_25 w0_37 ((mL (uL (uL M111 54 (ix 18) w0_53) 55 (ix 18) w0_74) 56 (ix 16)) ||| (jshl ((-1)) w0_25)) (uL (uL M111 54 (ix 18) w0_53) 55 (ix 18) w0_74) else f_X7_narrow_174 w0_25 w0_37 (jshr (jshl (mL (uL (uL M111 54 (ix 18) w0_53) 55 (ix 18) w0_74) 56 (ix 16)) (64 - w0_25)) (64 - w0_25)) (uL (uL M111 54 (ix 18) w0_53) 55 (ix 18) w0_74)
def f_X7_narrow_c110  (M110 : Mem) : Mem := M110
def f_X7_narrow_74 (w0_25 : Int32) (w0_37 : Int32) (w0_53 : Int64) (w0_74 : Int64) (M74 : Mem) : Mem := if (mL M74 54 (ix 16)) < w0_53 then f_X7_narrow_111 w0_25 w0_37 w0_53 w0_74 M74 else if w0_74 < (mL M74 55 (ix 16)) then f_X7_narrow_111 w0_25 w0_37 w0_53 w0_74 M74 else f_X7_narrow_c110 (f_X7_copy M74 18 16)
def f_X7_narrow_53 (w0_25 : Int32) (w0_37 : Int32) (w0_53 : Int64) (M53 : Mem) : Mem := if w0_37 = 0 then f_X7_narrow_74 w0_25 w0_37 w0_53 ((jshl 1 w0_25) - 1) M53 else f_X7_narrow_74 w0_25 w0_37 w0_53 ((jshl 1 (w0_25 - 1)) - 1) M53
def f_X7_narrow_37 (w0_25 : Int32) (w0_37 : Int32) (M37 : Mem) : Mem := if w0_37 = 0 then f_X7_narrow_53 w0_25 w0_37 0 M37 else f_X7_narrow_53 w0_25 w0_37 (jshl ((-1)) (w0_25 - 1)) M37
def f_X7_narrow_25 (op : Int32) (w0_25 : Int32) (M25 : Mem) : Mem := if 17 ≤ op then f_X7_narrow_37 w0_25 0 M25 else f_X7_narrow_37 w0_25 1 M25
def f_X7_narrow (M : Mem) (op : Int32) : Mem := if (irem op 3) = 2 then f_X7_narrow_25 op 8 M else if (irem op 3) = 0 then f_X7_narrow_25 op 16 M else f_X7_narrow_25 op 32 M
abbrev p_X7_narrow (M : Mem) (op : Int32) : Option Value → Mem → Prop := fun r N => r = none ∧ N = f_X7_narrow M op ∧ Sg M N
set_option maxRecDepth 100000 in
set_option maxHeartbeats 4000000 in
theorem c_X7_narrow (G : Ctx) (l : Launch) (M : Mem) (op : Int32) (q : Ok M) (gb : Gb M) : CT G l 1 mX7_narrow [.ref 52, .int op] M 0 0 (p_X7_narrow M op) := by
  refine CT.of (by decide) (Nat.le_of_ble_eq_true rfl) ?_
  intro X d hd hl hRm hnm F
  subst hl
  have E : f_X7_narrow M op = f_X7_narrow M op := rfl
  show V G X 9 0 0 (Qx G X 0 0 (p_X7_narrow M op)) 0 [(0, .ref 52), (1, .int op)] [] M
  refine V.seg F floX7 cjoX7 [.iload_n 1, .iconst 3, .irem, .iconst 2] (by decide +kernel) (pc2 := 4) (lv2 := [(0, .ref 52), (1, .int op)]) (st2 := [.int 2, .int (irem op 3)]) (M2 := M) rfl ⟨trivial, trivial, (by decide), trivial, trivial⟩ ?_
  have hJ25 : ∀ (w0_25 : Int32) (M25 : Mem), (Sg M M25) → f_X7_narrow M op = f_X7_narrow_25 op w0_25 M25 → V G X 9 0 0 (Qx G X 0 0 (p_X7_narrow M op)) 25 [(0, .ref 52), (1, .int op)] [.int w0_25] M25 := by
    intro w0_25 M25 s25 E
    refine V.seg F floX7 cjoX7 [.istore_n 2, .iload_n 1, .bipush 17] (by decide +kernel) (pc2 := 29) (lv2 := [(2, .int w0_25), (0, .ref 52), (1, .int op)]) (st2 := [.int 17, .int op]) (M2 := M25) rfl ⟨(by decide), trivial, trivial, trivial⟩ ?_
    have hJ37 : ∀ (w0_37 : Int32) (M37 : Mem), (Sg M M37) → f_X7_narrow M op = f_X7_narrow_37 w0_25 w0_37 M37 → V G X 9 0 0 (Qx G X 0 0 (p_X7_narrow M op)) 37 [(0, .ref 52), (2, .int w0_25)] [.int w0_37] M37 := by
      intro w0_37 M37 s37 E
      refine V.seg F floX7 cjoX7 [.istore_n 3, .iload_n 3] (by decide +kernel) (pc2 := 39) (lv2 := [(3, .int w0_37), (0, .ref 52), (2, .int w0_25)]) (st2 := [.int w0_37]) (M2 := M37) rfl ⟨(by decide), trivial, trivial⟩ ?_
      have hJ53 : ∀ (w0_53 : Int64) (M53 : Mem), (Sg M M53) → f_X7_narrow M op = f_X7_narrow_53 w0_25 w0_37 w0_53 M53 → V G X 9 0 0 (Qx G X 0 0 (p_X7_narrow M op)) 53 [(0, .ref 52), (2, .int w0_25), (3, .int w0_37)] [.long w0_53] M53 := by
        intro w0_53 M53 s53 E
        refine V.seg F floX7 cjoX7 [.lstore 4, .iload_n 3] (by decide +kernel) (pc2 := 56) (lv2 := [(4, .long w0_53), (0, .ref 52), (2, .int w0_25), (3, .int w0_37)]) (st2 := [.int w0_37]) (M2 := M53) rfl ⟨(by decide), trivial, trivial⟩ ?_
        have hJ74 : ∀ (w0_74 : Int64) (M74 : Mem), (Sg M M74) → f_X7_narrow M op = f_X7_narrow_74 w0_25 w0_37 w0_53 w0_74 M74 → V G X 9 0 0 (Qx G X 0 0 (p_X7_narrow M op)) 74 [(0, .ref 52), (2, .int w0_25), (3, .int w0_37), (4, .long w0_53)] [.long w0_74] M74 := by
          intro w0_74 M74 s74 E
          refine V.seg F floX7 cjoX7 [.lstore 6, .aload_n 0, .getfield 13, .bipush 16, .laload, .lload 4, .lcmp] (by decide +kernel) (pc2 := 86) (lv2 := [(6, .long w0_74), (0, .ref 52), (2, .int w0_25), (3, .int w0_37), (4, .long w0_53)]) (st2 := [.int (lg_cmp (mL M74 54 (ix 16)) w0_53)]) (M2 := M74) rfl ⟨(by decide), trivial, ((q.sm s74.1).f 52 7 1 rfl), trivial, ((q.sm s74.1).a 54 22 1648 rfl (vinc (by decide))), trivial, trivial, trivial⟩ ?_
          have hJ111 : ∀ (M111 : Mem), (Sg M M111) → f_X7_narrow M op = f_X7_narrow_111 w0_25 w0_37 w0_53 w0_74 M111 → V G X 9 0 0 (Qx G X 0 0 (p_X7_narrow M op)) 111 [(0, .ref 52), (2, .int w0_25), (3, .int w0_37), (4, .long w0_53), (6, .long w0_74)] [] M111 := by
            intro M111 s111 E
            refine V.seg F floX7 cjoX7 [.aload_n 0, .getfield 13, .bipush 18, .lload 4, .lastore, .aload_n 0, .getfield 17, .bipush 18, .lload 6, .lastore, .bipush 64, .iload_n 2, .isub, .istore 8, .aload_n 0, .getfield 20, .bipush 18, .iload_n 3] (by decide +kernel) (pc2 := 142) (lv2 := [(8, .int (64 - w0_25)), (0, .ref 52), (2, .int w0_25), (3, .int w0_37), (4, .long w0_53), (6, .long w0_74)]) (st2 := [.int w0_37, .int 18, .ref 56]) (M2 := uL (uL M111 54 (ix 18) w0_53) 55 (ix 18) w0_74) rfl ⟨trivial, ((q.sm s111.1).f 52 7 1 rfl), trivial, trivial, ((q.sm s111.1).a 54 22 1648 rfl (vinc (by decide))), trivial, ((q.sm (Sg.pL s111 (by decide)).1).f 52 7 2 rfl), trivial, trivial, ((q.sm (Sg.pL s111 (by decide)).1).a 55 22 1648 rfl (vinc (by decide))), trivial, trivial, trivial, (by decide), trivial, ((q.sm (Sg.pL (Sg.pL s111 (by decide)) (by decide)).1).f 52 7 3 rfl), trivial, trivial, trivial⟩ ?_
            have hJ174 : ∀ (w0_174 : Int64) (M174 : Mem), (Sg M M174) → f_X7_narrow M op = f_X7_narrow_174 w0_25 w0_37 w0_174 M174 → V G X 9 0 0 (Qx G X 0 0 (p_X7_narrow M op)) 174 [(0, .ref 52), (2, .int w0_25), (3, .int w0_37), (8, .int (64 - w0_25))] [.long w0_174, .int 18, .ref 56] M174 := by
              intro w0_174 M174 s174 E
              refine V.seg F floX7 cjoX7 [.lastore, .aload_n 0, .getfield 23, .bipush 18, .iload_n 3] (by decide +kernel) (pc2 := 182) (lv2 := [(0, .ref 52), (2, .int w0_25), (3, .int w0_37), (8, .int (64 - w0_25))]) (st2 := [.int w0_37, .int 18, .ref 57]) (M2 := uL M174 56 (ix 18) w0_174) rfl ⟨((q.sm s174.1).a 56 22 1648 rfl (vinc (by decide))), trivial, ((q.sm (Sg.pL s174 (by decide)).1).f 52 7 4 rfl), trivial, trivial, trivial⟩ ?_
              have hJ214 : ∀ (w0_214 : Int64) (M214 : Mem), (Sg M M214) → f_X7_narrow M op = f_X7_narrow_214 w0_214 M214 → V G X 9 0 0 (Qx G X 0 0 (p_X7_narrow M op)) 214 [] [.long w0_214, .int 18, .ref 57] M214 := by
                intro w0_214 M214 s214 E
                refine V.seg F floX7 cjoX7 [.lastore] (by decide +kernel) (pc2 := 215) (lv2 := []) (st2 := []) (M2 := uL M214 57 (ix 18) w0_214) rfl ⟨((q.sm s214.1).a 57 22 1648 rfl (vinc (by decide))), trivial⟩ ?_
                exact V.vret F (by decide +kernel) ⟨rfl, E.symm, (Sg.pL s214 (by decide))⟩
              refine V.if_eq (off := 19) F (by decide +kernel) (tgt := 201) (by decide) (fun h182 => ?_) (fun h182 => ?_)
              · replace E := E.trans (if_pos h182)
                refine V.seg F floX7 cjoX7 [.aload_n 0, .getfield 23, .bipush 16, .laload, .lconst 1, .iload_n 2, .lshl, .lconst 1, .lsub, .land] (by decide +kernel) (pc2 := 214) (lv2 := [(0, .ref 52), (2, .int w0_25), (3, .int w0_37), (8, .int (64 - w0_25))]) (st2 := [.long ((mL (uL M174 56 (ix 18) w0_174) 57 (ix 16)) &&& ((jshl 1 w0_25) - 1)), .int 18, .ref 57]) (M2 := uL M174 56 (ix 18) w0_174) rfl ⟨trivial, ((q.sm (Sg.pL s174 (by decide)).1).f 52 7 4 rfl), trivial, ((q.sm (Sg.pL s174 (by decide)).1).a 57 22 1648 rfl (vinc (by decide))), trivial, trivial, trivial, trivial, trivial, trivial, trivial⟩ ?_
                refine V.pick [] rfl ?_
                exact hJ214 ((mL (uL M174 56 (ix 18) w0_174) 57 (ix 16)) &&& ((jshl 1 w0_25) - 1)) (uL M174 56 (ix 18) w0_174) (Sg.pL s174 (by decide)) E
              · replace E := E.trans (if_neg h182)
                refine V.seg F floX7 cjoX7 [.aload_n 0, .getfield 23, .bipush 16, .laload, .iload 8, .lshl, .iload 8, .lshr, .goto 16] (by decide +kernel) (pc2 := 214) (lv2 := [(0, .ref 52), (2, .int w0_25), (3, .int w0_37), (8, .int (64 - w0_25))]) (st2 := [.long (jshr (jshl (mL (uL M174 56 (ix 18) w0_174) 57 (ix 16)) (64 - w0_25)) (64 - w0_25)), .int 18, .ref 57]) (M2 := uL M174 56 (ix 18) w0_174) rfl ⟨trivial, ((q.sm (Sg.pL s174 (by decide)).1).f 52 7 4 rfl), trivial, ((q.sm (Sg.pL s174 (by decide)).1).a 57 22 1648 rfl (vinc (by decide))), trivial, trivial, trivial, trivial, (by decide), trivial⟩ ?_
                refine V.pick [] rfl ?_
                exact hJ214 (jshr (jshl (mL (uL M174 56 (ix 18) w0_174) 57 (ix 16)) (64 - w0_25)) (64 - w0_25)) (uL M174 56 (ix 18) w0_174) (Sg.pL s174 (by decide)) E
            refine V.if_eq (off := 19) F (by decide +kernel) (tgt := 161) (by decide) (fun h142 => ?_) (fun h142 => ?_)
            · replace E := E.trans (if_pos h142)
              refine V.seg F floX7 cjoX7 [.aload_n 0, .getfield 20, .bipush 16, .laload, .ldc2_w 87, .iload_n 2, .lshl, .lor] (by decide +kernel) (pc2 := 174) (lv2 := [(8, .int (64 - w0_25)), (0, .ref 52), (2, .int w0_25), (3, .int w0_37), (4, .long w0_53), (6, .long w0_74)]) (st2 := [.long ((mL (uL (uL M111 54 (ix 18) w0_53) 55 (ix 18) w0_74) 56 (ix 16)) ||| (jshl ((-1)) w0_25)), .int 18, .ref 56]) (M2 := uL (uL M111 54 (ix 18) w0_53) 55 (ix 18) w0_74) rfl ⟨trivial, ((q.sm (Sg.pL (Sg.pL s111 (by decide)) (by decide)).1).f 52 7 3 rfl), trivial, ((q.sm (Sg.pL (Sg.pL s111 (by decide)) (by decide)).1).a 56 22 1648 rfl (vinc (by decide))), trivial, trivial, trivial, trivial, trivial⟩ ?_
              refine V.pick [1, 2, 3, 0] rfl ?_
              exact hJ174 ((mL (uL (uL M111 54 (ix 18) w0_53) 55 (ix 18) w0_74) 56 (ix 16)) ||| (jshl ((-1)) w0_25)) (uL (uL M111 54 (ix 18) w0_53) 55 (ix 18) w0_74) (Sg.pL (Sg.pL s111 (by decide)) (by decide)) E
            · replace E := E.trans (if_neg h142)
              refine V.seg F floX7 cjoX7 [.aload_n 0, .getfield 20, .bipush 16, .laload, .iload 8, .lshl, .iload 8, .lshr, .goto 16] (by decide +kernel) (pc2 := 174) (lv2 := [(8, .int (64 - w0_25)), (0, .ref 52), (2, .int w0_25), (3, .int w0_37), (4, .long w0_53), (6, .long w0_74)]) (st2 := [.long (jshr (jshl (mL (uL (uL M111 54 (ix 18) w0_53) 55 (ix 18) w0_74) 56 (ix 16)) (64 - w0_25)) (64 - w0_25)), .int 18, .ref 56]) (M2 := uL (uL M111 54 (ix 18) w0_53) 55 (ix 18) w0_74) rfl ⟨trivial, ((q.sm (Sg.pL (Sg.pL s111 (by decide)) (by decide)).1).f 52 7 3 rfl), trivial, ((q.sm (Sg.pL (Sg.pL s111 (by decide)) (by decide)).1).a 56 22 1648 rfl (vinc (by decide))), trivial, trivial, trivial, trivial, (by decide), trivial⟩ ?_
              refine V.pick [1, 2, 3, 0] rfl ?_
              exact hJ174 (jshr (jshl (mL (uL (uL M111 54 (ix 18) w0_53) 55 (ix 18) w0_74) 56 (ix 16)) (64 - w0_25)) (64 - w0_25)) (uL (uL M111 54 (ix 18) w0_53) 55 (ix 18) w0_74) (Sg.pL (Sg.pL s111 (by decide)) (by decide)) E
          refine V.lc_lt (off := 25) F (by decide +kernel) (tgt := 111) (by decide) (fun h86 => ?_) (fun h86 => ?_)
          · replace E := E.trans (if_pos h86)
            refine V.pick [1, 2, 3, 4, 0] rfl ?_
            exact hJ111 M74 s74 E
          · replace E := E.trans (if_neg h86)
            refine V.seg F floX7 cjoX7 [.aload_n 0, .getfield 17, .bipush 16, .laload, .lload 6, .lcmp] (by decide +kernel) (pc2 := 99) (lv2 := [(6, .long w0_74), (0, .ref 52), (2, .int w0_25), (3, .int w0_37), (4, .long w0_53)]) (st2 := [.int (lg_cmp (mL M74 55 (ix 16)) w0_74)]) (M2 := M74) rfl ⟨trivial, ((q.sm s74.1).f 52 7 2 rfl), trivial, ((q.sm s74.1).a 55 22 1648 rfl (vinc (by decide))), trivial, trivial, trivial⟩ ?_
            refine V.lc_gt (off := 12) F (by decide +kernel) (tgt := 111) (by decide) (fun h99 => ?_) (fun h99 => ?_)
            · replace E := E.trans (if_pos h99)
              refine V.pick [1, 2, 3, 4, 0] rfl ?_
              exact hJ111 M74 s74 E
            · replace E := E.trans (if_neg h99)
              refine V.seg F floX7 cjoX7 [.aload_n 0, .bipush 18, .bipush 16] (by decide +kernel) (pc2 := 107) (lv2 := [(6, .long w0_74), (0, .ref 52), (2, .int w0_25), (3, .int w0_37), (4, .long w0_53)]) (st2 := [.int 16, .int 18, .ref 52]) (M2 := M74) rfl ⟨trivial, trivial, trivial, trivial⟩ ?_
              refine V.callV (as := [.int 18, .int 16]) (rest := []) F (by decide +kernel) lX7_133 bX7_copy ⟨7, _, ((q.sm s74.1).o 52 7 rfl), rfl, rfl⟩ (c_X7_copy G X.2.1 M74 18 16 (q.sm s74.1) s74.2 (vinc (by decide)) (vinc (by decide))) (rm_ok hRm hd (by decide) (by decide)) ⟨Nat.zero_le _, Nat.zero_le _⟩ (Nat.le_of_ble_eq_true rfl) (fun r_ N_ p_ => ?_)
              obtain ⟨rfl, rfl, t107⟩ := p_
              refine (?_ : ∀ (M110 : Mem), (Sg M M110) → f_X7_narrow M op = f_X7_narrow_c110 M110 → V G X 9 0 0 (Qx G X 0 0 (p_X7_narrow M op)) 110 [(6, .long w0_74), (0, .ref 52), (2, .int w0_25), (3, .int w0_37), (4, .long w0_53)] [] M110) _ (Sg.tr s74 t107) E
              intro M110 s110 E
              exact V.vret F (by decide +kernel) ⟨rfl, E.symm, s110⟩
        refine V.if_eq (off := 13) F (by decide +kernel) (tgt := 69) (by decide) (fun h56 => ?_) (fun h56 => ?_)
        · replace E := E.trans (if_pos h56)
          refine V.seg F floX7 cjoX7 [.lconst 1, .iload_n 2, .lshl, .lconst 1, .lsub] (by decide +kernel) (pc2 := 74) (lv2 := [(4, .long w0_53), (0, .ref 52), (2, .int w0_25), (3, .int w0_37)]) (st2 := [.long ((jshl 1 w0_25) - 1)]) (M2 := M53) rfl ⟨trivial, trivial, trivial, trivial, trivial, trivial⟩ ?_
          refine V.pick [1, 2, 3, 0] rfl ?_
          exact hJ74 ((jshl 1 w0_25) - 1) M53 s53 E
        · replace E := E.trans (if_neg h56)
          refine V.seg F floX7 cjoX7 [.lconst 1, .iload_n 2, .iconst 1, .isub, .lshl, .lconst 1, .lsub, .goto 8] (by decide +kernel) (pc2 := 74) (lv2 := [(4, .long w0_53), (0, .ref 52), (2, .int w0_25), (3, .int w0_37)]) (st2 := [.long ((jshl 1 (w0_25 - 1)) - 1)]) (M2 := M53) rfl ⟨trivial, trivial, trivial, trivial, trivial, trivial, trivial, (by decide), trivial⟩ ?_
          refine V.pick [1, 2, 3, 0] rfl ?_
          exact hJ74 ((jshl 1 (w0_25 - 1)) - 1) M53 s53 E
      refine V.if_eq (off := 13) F (by decide +kernel) (tgt := 52) (by decide) (fun h39 => ?_) (fun h39 => ?_)
      · replace E := E.trans (if_pos h39)
        refine V.seg F floX7 cjoX7 [.lconst 0] (by decide +kernel) (pc2 := 53) (lv2 := [(3, .int w0_37), (0, .ref 52), (2, .int w0_25)]) (st2 := [.long 0]) (M2 := M37) rfl ⟨trivial, trivial⟩ ?_
        refine V.pick [1, 2, 0] rfl ?_
        exact hJ53 0 M37 s37 E
      · replace E := E.trans (if_neg h39)
        refine V.seg F floX7 cjoX7 [.ldc2_w 87, .iload_n 2, .iconst 1, .isub, .lshl, .goto 4] (by decide +kernel) (pc2 := 53) (lv2 := [(3, .int w0_37), (0, .ref 52), (2, .int w0_25)]) (st2 := [.long (jshl ((-1)) (w0_25 - 1))]) (M2 := M37) rfl ⟨trivial, trivial, trivial, trivial, trivial, (by decide), trivial⟩ ?_
        refine V.pick [1, 2, 0] rfl ?_
        exact hJ53 (jshl ((-1)) (w0_25 - 1)) M37 s37 E
    refine V.ic_ge (off := 7) F (by decide +kernel) (tgt := 36) (by decide) (fun h29 => ?_) (fun h29 => ?_)
    · replace E := E.trans (if_pos h29)
      refine V.seg F floX7 cjoX7 [.iconst 0] (by decide +kernel) (pc2 := 37) (lv2 := [(2, .int w0_25), (0, .ref 52), (1, .int op)]) (st2 := [.int 0]) (M2 := M25) rfl ⟨trivial, trivial⟩ ?_
      refine V.pick [1, 0] rfl ?_
      exact hJ37 0 M25 s25 E
    · replace E := E.trans (if_neg h29)
      refine V.seg F floX7 cjoX7 [.iconst 1, .goto 4] (by decide +kernel) (pc2 := 37) (lv2 := [(2, .int w0_25), (0, .ref 52), (1, .int op)]) (st2 := [.int 1]) (M2 := M25) rfl ⟨trivial, (by decide), trivial⟩ ?_
      refine V.pick [1, 0] rfl ?_
      exact hJ37 1 M25 s25 E
  refine V.ic_ne (off := 8) F (by decide +kernel) (tgt := 12) (by decide) (fun h4 => ?_) (fun h4 => ?_)
  · replace E := E.trans (if_neg h4)
    refine V.seg F floX7 cjoX7 [.iload_n 1, .iconst 3, .irem] (by decide +kernel) (pc2 := 15) (lv2 := [(0, .ref 52), (1, .int op)]) (st2 := [.int (irem op 3)]) (M2 := M) rfl ⟨trivial, trivial, (by decide), trivial⟩ ?_
    refine V.if_ne (off := 8) F (by decide +kernel) (tgt := 23) (by decide) (fun h15 => ?_) (fun h15 => ?_)
    · replace E := E.trans (if_neg h15)
      refine V.seg F floX7 cjoX7 [.bipush 32] (by decide +kernel) (pc2 := 25) (lv2 := [(0, .ref 52), (1, .int op)]) (st2 := [.int 32]) (M2 := M) rfl ⟨trivial, trivial⟩ ?_
      refine V.pick [0, 1] rfl ?_
      exact hJ25 32 M (Sg.rf gb) E
    · replace E := E.trans (if_pos h15)
      refine V.seg F floX7 cjoX7 [.bipush 16, .goto 5] (by decide +kernel) (pc2 := 25) (lv2 := [(0, .ref 52), (1, .int op)]) (st2 := [.int 16]) (M2 := M) rfl ⟨trivial, (by decide), trivial⟩ ?_
      refine V.pick [0, 1] rfl ?_
      exact hJ25 16 M (Sg.rf gb) E
  · replace E := E.trans (if_pos h4)
    refine V.seg F floX7 cjoX7 [.bipush 8, .goto 16] (by decide +kernel) (pc2 := 25) (lv2 := [(0, .ref 52), (1, .int op)]) (st2 := [.int 8]) (M2 := M) rfl ⟨trivial, (by decide), trivial⟩ ?_
    refine V.pick [0, 1] rfl ?_
    exact hJ25 8 M (Sg.rf gb) E
def f_X7_add_300  (M300 : Mem) : Mem := M300
def f_X7_add_c300  (M300 : Mem) : Mem := f_X7_add_300 M300
def f_X7_add_c288  (M288 : Mem) : Mem := f_X7_add_300 M288
def f_X7_add_c278 (a : Int32) (M278 : Mem) : Mem := f_X7_add_c288 (f_X7_ripple M278 a 21 1 18)
def f_X7_add_267 (a : Int32) (b : Int32) (s : Int32) (M267 : Mem) : Mem := if s = 0 then f_X7_add_c300 (f_X7_ripple M267 a b 0 18) else f_X7_add_c278 a (f_X7_turn M267 b 21)
def f_X7_add_c267 (a : Int32) (b : Int32) (s : Int32) (M267 : Mem) : Mem := f_X7_add_267 a b s M267
def f_X7_add_264 (a : Int32) (b : Int32) (s : Int32) (x218 : Int64) (w0_264 : Int64) (M264 : Mem) : Mem := f_X7_add_c267 a b s (f_X7_setRest M264 18 x218 w0_264)
def f_X7_add_c242 (a : Int32) (b : Int32) (s : Int32) (w0_33 : Int64) (w0_68 : Int64) (M175 : Mem) (x218 : Int64) (x230 : Int64) (x242 : Int64) : Mem := if s = 0 then f_X7_add_264 a b s x218 (x230 + x242) (uL (uL M175 54 (ix 18) w0_33) 55 (ix 18) w0_68) else f_X7_add_264 a b s x218 (x230 - x242) (uL (uL M175 54 (ix 18) w0_33) 55 (ix 18) w0_68)
def f_X7_add_c230 (a : Int32) (b : Int32) (s : Int32) (w0_33 : Int64) (w0_68 : Int64) (M175 : Mem) (x218 : Int64) (x230 : Int64) : Mem := f_X7_add_c242 a b s w0_33 w0_68 M175 x218 x230 (f_X7_rem (f_X7_restOf (uL (uL M175 54 (ix 18) w0_33) 55 (ix 18) w0_68) b) x218)
def f_X7_add_c218 (a : Int32) (b : Int32) (s : Int32) (w0_33 : Int64) (w0_68 : Int64) (M175 : Mem) (x218 : Int64) : Mem := f_X7_add_c230 a b s w0_33 w0_68 M175 x218 (f_X7_rem (f_X7_restOf (uL (uL M175 54 (ix 18) w0_33) 55 (ix 18) w0_68) a) x218)
def f_X7_add_175 (a : Int32) (b : Int32) (s : Int32) (w0_33 : Int64) (w0_68 : Int64) (w0_175 : Int32) (M175 : Mem) : Mem := if w0_175 = 0 then f_X7_add_c218 a b s w0_33 w0_68 M175 (f_X7_odd (f_X7_common (f_X7_byOf (uL (uL M175 54 (ix 18) w0_33) 55 (ix 18) w0_68) a) (f_X7_byOf (uL (uL M175 54 (ix 18) w0_33) 55 (ix 18) w0_68) b))) else f_X7_add_267 a b s M175
def f_X7_add_170 (a : Int32) (b : Int32) (s : Int32) (w0_33 : Int64) (w0_68 : Int64) (M170 : Mem) : Mem := f_X7_add_175 a b s w0_33 w0_68 1 M170
def f_X7_add_122 (a : Int32) (b : Int32) (s : Int32) (w0_33 : Int64) (w0_68 : Int64) (M122 : Mem) : Mem := f_X7_add_175 a b s w0_33 w0_68 1 M122
def f_X7_add_68 (a : Int32) (b : Int32) (s : Int32) (w0_33 : Int64) (w0_68 : Int64) (M68 : Mem) : Mem := if s = 0 then if (f_X7_isOver (mL M68 54 (ix a)) (mL M68 54 (ix b)) w0_33) = 0 then if (f_X7_isOver (mL M68 55 (ix a)) (mL M68 55 (ix b)) w0_68) = 0 then f_X7_add_175 a b s w0_33 w0_68 0 M68 else f_X7_add_170 a b s w0_33 w0_68 M68 else f_X7_add_170 a b s w0_33 w0_68 M68 else if (f_X7_isOver (mL M68 54 (ix a)) ((mL M68 55 (ix b)) ^^^ ((-1))) w0_33) = 0 then if (f_X7_isOver (mL M68 55 (ix a)) ((mL M68 54 (ix b)) ^^^ ((-1))) w0_68) = 0 then f_X7_add_175 a b s w0_33 w0_68 0 M68 else f_X7_add_122 a b s w0_33 w0_68 M68 else f_X7_add_122 a b s w0_33 w0_68 M68
def f_X7_add_33 (a : Int32) (b : Int32) (s : Int32) (w0_33 : Int64) (M33 : Mem) : Mem := if s = 0 then f_X7_add_68 a b s w0_33 ((mL M33 55 (ix a)) + (mL M33 55 (ix b))) M33 else f_X7_add_68 a b s w0_33 ((mL M33 55 (ix a)) - (mL M33 54 (ix b))) M33
def f_X7_add (M : Mem) (a : Int32) (b : Int32) (s : Int32) : Mem := if s = 0 then f_X7_add_33 a b s ((mL M 54 (ix a)) + (mL M 54 (ix b))) M else f_X7_add_33 a b s ((mL M 54 (ix a)) - (mL M 55 (ix b))) M
abbrev p_X7_add (M : Mem) (a : Int32) (b : Int32) (s : Int32) : Option Value → Mem → Prop := fun r N => r = none ∧ N = f_X7_add M a b s ∧ Sg M N
set_option maxRecDepth 100000 in
set_option maxHeartbeats 4000000 in
theorem c_X7_add (G : Ctx) (l : Launch) (M : Mem) (a : Int32) (b : Int32) (s : Int32) (z_s : s = 0 ∨ s = 1) (q : Ok M) (gb : Gb M) (i_a : vp_in a 1648) (i_b : vp_in b 1648) : CT G l 2 mX7_add [.ref 52, .int a, .int b, .int s] M 0 0 (p_X7_add M a b s) := by
  refine CT.of (by decide) (Nat.le_of_ble_eq_true rfl) ?_
  intro X d hd hl hRm hnm F
  subst hl
  have E : f_X7_add M a b s = f_X7_add M a b s := rfl
  show V G X 15 0 0 (Qx G X 0 0 (p_X7_add M a b s)) 0 [(0, .ref 52), (1, .int a), (2, .int b), (3, .int s)] [] M
  refine V.seg F floX7 cjoX7 [.iload_n 3] (by decide +kernel) (pc2 := 1) (lv2 := [(0, .ref 52), (1, .int a), (2, .int b), (3, .int s)]) (st2 := [.int s]) (M2 := M) rfl ⟨trivial, trivial⟩ ?_
  have hJ33 : ∀ (w0_33 : Int64) (M33 : Mem), (Sg M M33) → f_X7_add M a b s = f_X7_add_33 a b s w0_33 M33 → V G X 15 0 0 (Qx G X 0 0 (p_X7_add M a b s)) 33 [(0, .ref 52), (1, .int a), (2, .int b), (3, .int s)] [.long w0_33] M33 := by
    intro w0_33 M33 s33 E
    refine V.seg F floX7 cjoX7 [.lstore 4, .iload_n 3] (by decide +kernel) (pc2 := 36) (lv2 := [(4, .long w0_33), (0, .ref 52), (1, .int a), (2, .int b), (3, .int s)]) (st2 := [.int s]) (M2 := M33) rfl ⟨(by decide), trivial, trivial⟩ ?_
    have hJ68 : ∀ (w0_68 : Int64) (M68 : Mem), (Sg M M68) → f_X7_add M a b s = f_X7_add_68 a b s w0_33 w0_68 M68 → V G X 15 0 0 (Qx G X 0 0 (p_X7_add M a b s)) 68 [(0, .ref 52), (1, .int a), (2, .int b), (3, .int s), (4, .long w0_33)] [.long w0_68] M68 := by
      intro w0_68 M68 s68 E
      refine V.seg F floX7 cjoX7 [.lstore 6, .iload_n 3] (by decide +kernel) (pc2 := 71) (lv2 := [(6, .long w0_68), (0, .ref 52), (1, .int a), (2, .int b), (3, .int s), (4, .long w0_33)]) (st2 := [.int s]) (M2 := M68) rfl ⟨(by decide), trivial, trivial⟩ ?_
      have hJ175 : ∀ (w0_175 : Int32) (M175 : Mem), (Sg M M175) → f_X7_add M a b s = f_X7_add_175 a b s w0_33 w0_68 w0_175 M175 → V G X 15 0 0 (Qx G X 0 0 (p_X7_add M a b s)) 175 [(0, .ref 52), (1, .int a), (2, .int b), (3, .int s), (4, .long w0_33), (6, .long w0_68)] [.int w0_175] M175 := by
        intro w0_175 M175 s175 E
        refine V.seg F floX7 cjoX7 [.istore 8, .iload 8] (by decide +kernel) (pc2 := 179) (lv2 := [(8, .int w0_175), (0, .ref 52), (1, .int a), (2, .int b), (3, .int s), (4, .long w0_33), (6, .long w0_68)]) (st2 := [.int w0_175]) (M2 := M175) rfl ⟨(by decide), trivial, trivial⟩ ?_
        have hJ267 : ∀ (M267 : Mem), (Sg M M267) → f_X7_add M a b s = f_X7_add_267 a b s M267 → V G X 15 0 0 (Qx G X 0 0 (p_X7_add M a b s)) 267 [(0, .ref 52), (1, .int a), (2, .int b), (3, .int s)] [] M267 := by
          intro M267 s267 E
          refine V.seg F floX7 cjoX7 [.iload_n 3] (by decide +kernel) (pc2 := 268) (lv2 := [(0, .ref 52), (1, .int a), (2, .int b), (3, .int s)]) (st2 := [.int s]) (M2 := M267) rfl ⟨trivial, trivial⟩ ?_
          have hJ300 : ∀ (M300 : Mem), (Sg M M300) → f_X7_add M a b s = f_X7_add_300 M300 → V G X 15 0 0 (Qx G X 0 0 (p_X7_add M a b s)) 300 [] [] M300 := by
            intro M300 s300 E
            exact V.vret F (by decide +kernel) ⟨rfl, E.symm, s300⟩
          refine V.if_eq (off := 23) F (by decide +kernel) (tgt := 291) (by decide) (fun h268 => ?_) (fun h268 => ?_)
          · replace E := E.trans (if_pos h268)
            refine V.seg F floX7 cjoX7 [.aload_n 0, .iload_n 1, .iload_n 2, .iconst 0, .bipush 18] (by decide +kernel) (pc2 := 297) (lv2 := [(0, .ref 52), (1, .int a), (2, .int b), (3, .int s)]) (st2 := [.int 18, .int 0, .int b, .int a, .ref 52]) (M2 := M267) rfl ⟨trivial, trivial, trivial, trivial, trivial, trivial⟩ ?_
            refine V.callV (as := [.int a, .int b, .int 0, .int 18]) (rest := []) F (by decide +kernel) lX7_216 bX7_ripple ⟨7, _, ((q.sm s267.1).o 52 7 rfl), rfl, rfl⟩ (c_X7_ripple G X.2.1 M267 a b 0 18 (Or.inl rfl) (q.sm s267.1) s267.2 (by first | assumption | exact vinc (by decide)) (by first | assumption | exact vinc (by decide)) (vinc (by decide))) (rm_ok hRm hd (by decide) (by decide)) ⟨Nat.zero_le _, Nat.zero_le _⟩ (Nat.le_of_ble_eq_true rfl) (fun r_ N_ p_ => ?_)
            obtain ⟨rfl, rfl, t297⟩ := p_
            refine (?_ : ∀ (M300 : Mem), (Sg M M300) → f_X7_add M a b s = f_X7_add_c300 M300 → V G X 15 0 0 (Qx G X 0 0 (p_X7_add M a b s)) 300 [(0, .ref 52), (1, .int a), (2, .int b), (3, .int s)] [] M300) _ (Sg.tr s267 t297) E
            intro M300 s300 E
            refine V.pick [] rfl ?_
            exact hJ300 M300 s300 E
          · replace E := E.trans (if_neg h268)
            refine V.seg F floX7 cjoX7 [.aload_n 0, .iload_n 2, .bipush 21] (by decide +kernel) (pc2 := 275) (lv2 := [(0, .ref 52), (1, .int a), (2, .int b), (3, .int s)]) (st2 := [.int 21, .int b, .ref 52]) (M2 := M267) rfl ⟨trivial, trivial, trivial, trivial⟩ ?_
            refine V.callV (as := [.int b, .int 21]) (rest := []) F (by decide +kernel) lX7_203 bX7_turn ⟨7, _, ((q.sm s267.1).o 52 7 rfl), rfl, rfl⟩ (c_X7_turn G X.2.1 M267 b 21 (q.sm s267.1) s267.2 (by first | assumption | exact vinc (by decide)) (vinc (by decide))) (rm_ok hRm hd (by decide) (by decide)) ⟨Nat.zero_le _, Nat.zero_le _⟩ (Nat.le_of_ble_eq_true rfl) (fun r_ N_ p_ => ?_)
            obtain ⟨rfl, rfl, t275⟩ := p_
            refine (?_ : ∀ (M278 : Mem), (Sg M M278) → f_X7_add M a b s = f_X7_add_c278 a M278 → V G X 15 0 0 (Qx G X 0 0 (p_X7_add M a b s)) 278 [(0, .ref 52), (1, .int a), (2, .int b), (3, .int s)] [] M278) _ (Sg.tr s267 t275) E
            intro M278 s278 E
            refine V.seg F floX7 cjoX7 [.aload_n 0, .iload_n 1, .bipush 21, .iconst 1, .bipush 18] (by decide +kernel) (pc2 := 285) (lv2 := [(0, .ref 52), (1, .int a), (2, .int b), (3, .int s)]) (st2 := [.int 18, .int 1, .int 21, .int a, .ref 52]) (M2 := M278) rfl ⟨trivial, trivial, trivial, trivial, trivial, trivial⟩ ?_
            refine V.callV (as := [.int a, .int 21, .int 1, .int 18]) (rest := []) F (by decide +kernel) lX7_216 bX7_ripple ⟨7, _, ((q.sm s278.1).o 52 7 rfl), rfl, rfl⟩ (c_X7_ripple G X.2.1 M278 a 21 1 18 (Or.inr rfl) (q.sm s278.1) s278.2 (by first | assumption | exact vinc (by decide)) (vinc (by decide)) (vinc (by decide))) (rm_ok hRm hd (by decide) (by decide)) ⟨Nat.zero_le _, Nat.zero_le _⟩ (Nat.le_of_ble_eq_true rfl) (fun r_ N_ p_ => ?_)
            obtain ⟨rfl, rfl, t285⟩ := p_
            refine (?_ : ∀ (M288 : Mem), (Sg M M288) → f_X7_add M a b s = f_X7_add_c288 M288 → V G X 15 0 0 (Qx G X 0 0 (p_X7_add M a b s)) 288 [(0, .ref 52), (1, .int a), (2, .int b), (3, .int s)] [] M288) _ (Sg.tr s278 t285) E
            intro M288 s288 E
            refine V.seg F floX7 cjoX7 [.goto 12] (by decide +kernel) (pc2 := 300) (lv2 := [(0, .ref 52), (1, .int a), (2, .int b), (3, .int s)]) (st2 := []) (M2 := M288) rfl ⟨(by decide), trivial⟩ ?_
            refine V.pick [] rfl ?_
            exact hJ300 M288 s288 E
        refine V.if_ne (off := 88) F (by decide +kernel) (tgt := 267) (by decide) (fun h179 => ?_) (fun h179 => ?_)
        · replace E := E.trans (if_neg h179)
          refine V.pick [1, 2, 3, 4] rfl ?_
          exact hJ267 M175 s175 E
        · replace E := E.trans (if_pos h179)
          refine V.seg F floX7 cjoX7 [.aload_n 0, .getfield 13, .bipush 18, .lload 4, .lastore, .aload_n 0, .getfield 17, .bipush 18, .lload 6, .lastore, .aload_n 0, .iload_n 1] (by decide +kernel) (pc2 := 202) (lv2 := [(8, .int w0_175), (0, .ref 52), (1, .int a), (2, .int b), (3, .int s), (4, .long w0_33), (6, .long w0_68)]) (st2 := [.int a, .ref 52]) (M2 := uL (uL M175 54 (ix 18) w0_33) 55 (ix 18) w0_68) rfl ⟨trivial, ((q.sm s175.1).f 52 7 1 rfl), trivial, trivial, ((q.sm s175.1).a 54 22 1648 rfl (vinc (by decide))), trivial, ((q.sm (Sg.pL s175 (by decide)).1).f 52 7 2 rfl), trivial, trivial, ((q.sm (Sg.pL s175 (by decide)).1).a 55 22 1648 rfl (vinc (by decide))), trivial, trivial, trivial⟩ ?_
          refine V.callV (as := [.int a]) (rest := []) F (by decide +kernel) lX7_141 bX7_byOf ⟨7, _, ((q.sm (Sg.pL (Sg.pL s175 (by decide)) (by decide)).1).o 52 7 rfl), rfl, rfl⟩ (c_X7_byOf G X.2.1 (uL (uL M175 54 (ix 18) w0_33) 55 (ix 18) w0_68) a (q.sm (Sg.pL (Sg.pL s175 (by decide)) (by decide)).1) (Sg.pL (Sg.pL s175 (by decide)) (by decide)).2 (by first | assumption | exact vinc (by decide))) (rm_ok hRm hd (by decide) (by decide)) ⟨Nat.zero_le _, Nat.zero_le _⟩ (Nat.le_of_ble_eq_true rfl) (fun r_ N_ p_ => ?_)
          obtain ⟨rfl, hN_⟩ := p_
          rw [hN_]
          clear hN_
          refine V.seg F floX7 cjoX7 [.aload_n 0, .iload_n 2] (by decide +kernel) (pc2 := 207) (lv2 := [(8, .int w0_175), (0, .ref 52), (1, .int a), (2, .int b), (3, .int s), (4, .long w0_33), (6, .long w0_68)]) (st2 := [.int b, .ref 52, .long (f_X7_byOf (uL (uL M175 54 (ix 18) w0_33) 55 (ix 18) w0_68) a)]) (M2 := uL (uL M175 54 (ix 18) w0_33) 55 (ix 18) w0_68) rfl ⟨trivial, trivial, trivial⟩ ?_
          refine V.callV (as := [.int b]) (rest := [.long (f_X7_byOf (uL (uL M175 54 (ix 18) w0_33) 55 (ix 18) w0_68) a)]) F (by decide +kernel) lX7_141 bX7_byOf ⟨7, _, ((q.sm (Sg.pL (Sg.pL s175 (by decide)) (by decide)).1).o 52 7 rfl), rfl, rfl⟩ (c_X7_byOf G X.2.1 (uL (uL M175 54 (ix 18) w0_33) 55 (ix 18) w0_68) b (q.sm (Sg.pL (Sg.pL s175 (by decide)) (by decide)).1) (Sg.pL (Sg.pL s175 (by decide)) (by decide)).2 (by first | assumption | exact vinc (by decide))) (rm_ok hRm hd (by decide) (by decide)) ⟨Nat.zero_le _, Nat.zero_le _⟩ (Nat.le_of_ble_eq_true rfl) (fun r_ N_ p_ => ?_)
          obtain ⟨rfl, hN_⟩ := p_
          rw [hN_]
          clear hN_
          refine V.callS (as := [.long (f_X7_byOf (uL (uL M175 54 (ix 18) w0_33) 55 (ix 18) w0_68) a), .long (f_X7_byOf (uL (uL M175 54 (ix 18) w0_33) 55 (ix 18) w0_68) b)]) (rest := []) F (by decide +kernel) lX7_144 bX7_common (c_X7_common G X.2.1 (uL (uL M175 54 (ix 18) w0_33) 55 (ix 18) w0_68) (f_X7_byOf (uL (uL M175 54 (ix 18) w0_33) 55 (ix 18) w0_68) a) (f_X7_byOf (uL (uL M175 54 (ix 18) w0_33) 55 (ix 18) w0_68) b)) (rm_ok hRm hd (by decide) (by decide)) ⟨Nat.zero_le _, Nat.zero_le _⟩ (Nat.le_of_ble_eq_true rfl) (fun r_ N_ p_ => ?_)
          obtain ⟨rfl, hN_⟩ := p_
          rw [hN_]
          clear hN_
          refine V.callS (as := [.long (f_X7_common (f_X7_byOf (uL (uL M175 54 (ix 18) w0_33) 55 (ix 18) w0_68) a) (f_X7_byOf (uL (uL M175 54 (ix 18) w0_33) 55 (ix 18) w0_68) b))]) (rest := []) F (by decide +kernel) lX7_147 bX7_odd (c_X7_odd G X.2.1 (uL (uL M175 54 (ix 18) w0_33) 55 (ix 18) w0_68) (f_X7_common (f_X7_byOf (uL (uL M175 54 (ix 18) w0_33) 55 (ix 18) w0_68) a) (f_X7_byOf (uL (uL M175 54 (ix 18) w0_33) 55 (ix 18) w0_68) b))) (rm_ok hRm hd (by decide) (by decide)) ⟨Nat.zero_le _, Nat.zero_le _⟩ (Nat.le_of_ble_eq_true rfl) (fun r_ N_ p_ => ?_)
          obtain ⟨rfl, hN_⟩ := p_
          rw [hN_]
          clear hN_
          refine V.seg F floX7 cjoX7 [.lstore 9] (by decide +kernel) (pc2 := 218) (lv2 := [(9, .long (f_X7_odd (f_X7_common (f_X7_byOf (uL (uL M175 54 (ix 18) w0_33) 55 (ix 18) w0_68) a) (f_X7_byOf (uL (uL M175 54 (ix 18) w0_33) 55 (ix 18) w0_68) b)))), (8, .int w0_175), (0, .ref 52), (1, .int a), (2, .int b), (3, .int s), (4, .long w0_33), (6, .long w0_68)]) (st2 := []) (M2 := uL (uL M175 54 (ix 18) w0_33) 55 (ix 18) w0_68) rfl ⟨(by decide), trivial⟩ ?_
          refine (?_ : ∀ (x218 : Int64), (¬ x218 = 0) → f_X7_add M a b s = f_X7_add_c218 a b s w0_33 w0_68 M175 x218 → V G X 15 0 0 (Qx G X 0 0 (p_X7_add M a b s)) 218 [(9, .long x218), (8, .int w0_175), (0, .ref 52), (1, .int a), (2, .int b), (3, .int s), (4, .long w0_33), (6, .long w0_68)] [] (uL (uL M175 54 (ix 18) w0_33) 55 (ix 18) w0_68)) _ (odd_ne0 _) E
          intro x218 nz_x218 E
          refine V.seg F floX7 cjoX7 [.aload_n 0, .iload_n 1] (by decide +kernel) (pc2 := 220) (lv2 := [(9, .long x218), (8, .int w0_175), (0, .ref 52), (1, .int a), (2, .int b), (3, .int s), (4, .long w0_33), (6, .long w0_68)]) (st2 := [.int a, .ref 52]) (M2 := uL (uL M175 54 (ix 18) w0_33) 55 (ix 18) w0_68) rfl ⟨trivial, trivial, trivial⟩ ?_
          refine V.callV (as := [.int a]) (rest := []) F (by decide +kernel) lX7_137 bX7_restOf ⟨7, _, ((q.sm (Sg.pL (Sg.pL s175 (by decide)) (by decide)).1).o 52 7 rfl), rfl, rfl⟩ (c_X7_restOf G X.2.1 (uL (uL M175 54 (ix 18) w0_33) 55 (ix 18) w0_68) a (q.sm (Sg.pL (Sg.pL s175 (by decide)) (by decide)).1) (Sg.pL (Sg.pL s175 (by decide)) (by decide)).2 (by first | assumption | exact vinc (by decide))) (rm_ok hRm hd (by decide) (by decide)) ⟨Nat.zero_le _, Nat.zero_le _⟩ (Nat.le_of_ble_eq_true rfl) (fun r_ N_ p_ => ?_)
          obtain ⟨rfl, hN_⟩ := p_
          rw [hN_]
          clear hN_
          refine V.seg F floX7 cjoX7 [.lload 9] (by decide +kernel) (pc2 := 225) (lv2 := [(9, .long x218), (8, .int w0_175), (0, .ref 52), (1, .int a), (2, .int b), (3, .int s), (4, .long w0_33), (6, .long w0_68)]) (st2 := [.long x218, .long (f_X7_restOf (uL (uL M175 54 (ix 18) w0_33) 55 (ix 18) w0_68) a)]) (M2 := uL (uL M175 54 (ix 18) w0_33) 55 (ix 18) w0_68) rfl ⟨trivial, trivial⟩ ?_
          refine V.callS (as := [.long (f_X7_restOf (uL (uL M175 54 (ix 18) w0_33) 55 (ix 18) w0_68) a), .long x218]) (rest := []) F (by decide +kernel) lX7_93 bX7_rem (c_X7_rem G X.2.1 (uL (uL M175 54 (ix 18) w0_33) 55 (ix 18) w0_68) (f_X7_restOf (uL (uL M175 54 (ix 18) w0_33) 55 (ix 18) w0_68) a) x218 nz_x218) (rm_ok hRm hd (by decide) (by decide)) ⟨Nat.zero_le _, Nat.zero_le _⟩ (Nat.le_of_ble_eq_true rfl) (fun r_ N_ p_ => ?_)
          obtain ⟨rfl, hN_⟩ := p_
          rw [hN_]
          clear hN_
          refine V.seg F floX7 cjoX7 [.lstore 11] (by decide +kernel) (pc2 := 230) (lv2 := [(11, .long (f_X7_rem (f_X7_restOf (uL (uL M175 54 (ix 18) w0_33) 55 (ix 18) w0_68) a) x218)), (9, .long x218), (8, .int w0_175), (0, .ref 52), (1, .int a), (2, .int b), (3, .int s), (4, .long w0_33), (6, .long w0_68)]) (st2 := []) (M2 := uL (uL M175 54 (ix 18) w0_33) 55 (ix 18) w0_68) rfl ⟨(by decide), trivial⟩ ?_
          refine (?_ : ∀ (x230 : Int64), f_X7_add M a b s = f_X7_add_c230 a b s w0_33 w0_68 M175 x218 x230 → V G X 15 0 0 (Qx G X 0 0 (p_X7_add M a b s)) 230 [(11, .long x230), (9, .long x218), (8, .int w0_175), (0, .ref 52), (1, .int a), (2, .int b), (3, .int s), (4, .long w0_33), (6, .long w0_68)] [] (uL (uL M175 54 (ix 18) w0_33) 55 (ix 18) w0_68)) _  E
          intro x230 E
          refine V.seg F floX7 cjoX7 [.aload_n 0, .iload_n 2] (by decide +kernel) (pc2 := 232) (lv2 := [(11, .long x230), (9, .long x218), (8, .int w0_175), (0, .ref 52), (1, .int a), (2, .int b), (3, .int s), (4, .long w0_33), (6, .long w0_68)]) (st2 := [.int b, .ref 52]) (M2 := uL (uL M175 54 (ix 18) w0_33) 55 (ix 18) w0_68) rfl ⟨trivial, trivial, trivial⟩ ?_
          refine V.callV (as := [.int b]) (rest := []) F (by decide +kernel) lX7_137 bX7_restOf ⟨7, _, ((q.sm (Sg.pL (Sg.pL s175 (by decide)) (by decide)).1).o 52 7 rfl), rfl, rfl⟩ (c_X7_restOf G X.2.1 (uL (uL M175 54 (ix 18) w0_33) 55 (ix 18) w0_68) b (q.sm (Sg.pL (Sg.pL s175 (by decide)) (by decide)).1) (Sg.pL (Sg.pL s175 (by decide)) (by decide)).2 (by first | assumption | exact vinc (by decide))) (rm_ok hRm hd (by decide) (by decide)) ⟨Nat.zero_le _, Nat.zero_le _⟩ (Nat.le_of_ble_eq_true rfl) (fun r_ N_ p_ => ?_)
          obtain ⟨rfl, hN_⟩ := p_
          rw [hN_]
          clear hN_
          refine V.seg F floX7 cjoX7 [.lload 9] (by decide +kernel) (pc2 := 237) (lv2 := [(11, .long x230), (9, .long x218), (8, .int w0_175), (0, .ref 52), (1, .int a), (2, .int b), (3, .int s), (4, .long w0_33), (6, .long w0_68)]) (st2 := [.long x218, .long (f_X7_restOf (uL (uL M175 54 (ix 18) w0_33) 55 (ix 18) w0_68) b)]) (M2 := uL (uL M175 54 (ix 18) w0_33) 55 (ix 18) w0_68) rfl ⟨trivial, trivial⟩ ?_
          refine V.callS (as := [.long (f_X7_restOf (uL (uL M175 54 (ix 18) w0_33) 55 (ix 18) w0_68) b), .long x218]) (rest := []) F (by decide +kernel) lX7_93 bX7_rem (c_X7_rem G X.2.1 (uL (uL M175 54 (ix 18) w0_33) 55 (ix 18) w0_68) (f_X7_restOf (uL (uL M175 54 (ix 18) w0_33) 55 (ix 18) w0_68) b) x218 nz_x218) (rm_ok hRm hd (by decide) (by decide)) ⟨Nat.zero_le _, Nat.zero_le _⟩ (Nat.le_of_ble_eq_true rfl) (fun r_ N_ p_ => ?_)
          obtain ⟨rfl, hN_⟩ := p_
          rw [hN_]
          clear hN_
          refine V.seg F floX7 cjoX7 [.lstore 13] (by decide +kernel) (pc2 := 242) (lv2 := [(13, .long (f_X7_rem (f_X7_restOf (uL (uL M175 54 (ix 18) w0_33) 55 (ix 18) w0_68) b) x218)), (11, .long x230), (9, .long x218), (8, .int w0_175), (0, .ref 52), (1, .int a), (2, .int b), (3, .int s), (4, .long w0_33), (6, .long w0_68)]) (st2 := []) (M2 := uL (uL M175 54 (ix 18) w0_33) 55 (ix 18) w0_68) rfl ⟨(by decide), trivial⟩ ?_
          refine (?_ : ∀ (x242 : Int64), f_X7_add M a b s = f_X7_add_c242 a b s w0_33 w0_68 M175 x218 x230 x242 → V G X 15 0 0 (Qx G X 0 0 (p_X7_add M a b s)) 242 [(13, .long x242), (11, .long x230), (9, .long x218), (8, .int w0_175), (0, .ref 52), (1, .int a), (2, .int b), (3, .int s), (4, .long w0_33), (6, .long w0_68)] [] (uL (uL M175 54 (ix 18) w0_33) 55 (ix 18) w0_68)) _  E
          intro x242 E
          refine V.seg F floX7 cjoX7 [.aload_n 0, .bipush 18, .lload 9, .iload_n 3] (by decide +kernel) (pc2 := 248) (lv2 := [(13, .long x242), (11, .long x230), (9, .long x218), (8, .int w0_175), (0, .ref 52), (1, .int a), (2, .int b), (3, .int s), (4, .long w0_33), (6, .long w0_68)]) (st2 := [.int s, .long x218, .int 18, .ref 52]) (M2 := uL (uL M175 54 (ix 18) w0_33) 55 (ix 18) w0_68) rfl ⟨trivial, trivial, trivial, trivial, trivial⟩ ?_
          have hJ264 : ∀ (w0_264 : Int64) (M264 : Mem), (Sg M M264) → f_X7_add M a b s = f_X7_add_264 a b s x218 w0_264 M264 → V G X 15 0 0 (Qx G X 0 0 (p_X7_add M a b s)) 264 [(0, .ref 52), (1, .int a), (2, .int b), (3, .int s)] [.long w0_264, .long x218, .int 18, .ref 52] M264 := by
            intro w0_264 M264 s264 E
            refine V.callV (as := [.int 18, .long x218, .long w0_264]) (rest := []) F (by decide +kernel) lX7_161 bX7_setRest ⟨7, _, ((q.sm s264.1).o 52 7 rfl), rfl, rfl⟩ (c_X7_setRest G X.2.1 M264 18 x218 w0_264 (q.sm s264.1) s264.2 (vinc (by decide)) nz_x218) (rm_ok hRm hd (by decide) (by decide)) ⟨Nat.zero_le _, Nat.zero_le _⟩ (Nat.le_of_ble_eq_true rfl) (fun r_ N_ p_ => ?_)
            obtain ⟨rfl, rfl, t264⟩ := p_
            refine (?_ : ∀ (M267 : Mem), (Sg M M267) → f_X7_add M a b s = f_X7_add_c267 a b s M267 → V G X 15 0 0 (Qx G X 0 0 (p_X7_add M a b s)) 267 [(0, .ref 52), (1, .int a), (2, .int b), (3, .int s)] [] M267) _ (Sg.tr s264 t264) E
            intro M267 s267 E
            refine V.pick [0, 1, 2, 3] rfl ?_
            exact hJ267 M267 s267 E
          refine V.if_eq (off := 11) F (by decide +kernel) (tgt := 259) (by decide) (fun h248 => ?_) (fun h248 => ?_)
          · replace E := E.trans (if_pos h248)
            refine V.seg F floX7 cjoX7 [.lload 11, .lload 13, .ladd] (by decide +kernel) (pc2 := 264) (lv2 := [(13, .long x242), (11, .long x230), (9, .long x218), (8, .int w0_175), (0, .ref 52), (1, .int a), (2, .int b), (3, .int s), (4, .long w0_33), (6, .long w0_68)]) (st2 := [.long (x230 + x242), .long x218, .int 18, .ref 52]) (M2 := uL (uL M175 54 (ix 18) w0_33) 55 (ix 18) w0_68) rfl ⟨trivial, trivial, trivial, trivial⟩ ?_
            refine V.pick [4, 5, 6, 7] rfl ?_
            exact hJ264 (x230 + x242) (uL (uL M175 54 (ix 18) w0_33) 55 (ix 18) w0_68) (Sg.pL (Sg.pL s175 (by decide)) (by decide)) E
          · replace E := E.trans (if_neg h248)
            refine V.seg F floX7 cjoX7 [.lload 11, .lload 13, .lsub, .goto 8] (by decide +kernel) (pc2 := 264) (lv2 := [(13, .long x242), (11, .long x230), (9, .long x218), (8, .int w0_175), (0, .ref 52), (1, .int a), (2, .int b), (3, .int s), (4, .long w0_33), (6, .long w0_68)]) (st2 := [.long (x230 - x242), .long x218, .int 18, .ref 52]) (M2 := uL (uL M175 54 (ix 18) w0_33) 55 (ix 18) w0_68) rfl ⟨trivial, trivial, trivial, (by decide), trivial⟩ ?_
            refine V.pick [4, 5, 6, 7] rfl ?_
            exact hJ264 (x230 - x242) (uL (uL M175 54 (ix 18) w0_33) 55 (ix 18) w0_68) (Sg.pL (Sg.pL s175 (by decide)) (by decide)) E
      refine V.if_eq (off := 59) F (by decide +kernel) (tgt := 130) (by decide) (fun h71 => ?_) (fun h71 => ?_)
      · replace E := E.trans (if_pos h71)
        refine V.seg F floX7 cjoX7 [.aload_n 0, .getfield 13, .iload_n 1, .laload, .aload_n 0, .getfield 13, .iload_n 2, .laload, .lload 4] (by decide +kernel) (pc2 := 144) (lv2 := [(6, .long w0_68), (0, .ref 52), (1, .int a), (2, .int b), (3, .int s), (4, .long w0_33)]) (st2 := [.long w0_33, .long (mL M68 54 (ix b)), .long (mL M68 54 (ix a))]) (M2 := M68) rfl ⟨trivial, ((q.sm s68.1).f 52 7 1 rfl), trivial, ((q.sm s68.1).a 54 22 1648 rfl (by first | assumption | exact vinc (by decide))), trivial, ((q.sm s68.1).f 52 7 1 rfl), trivial, ((q.sm s68.1).a 54 22 1648 rfl (by first | assumption | exact vinc (by decide))), trivial, trivial⟩ ?_
        refine V.callS (as := [.long (mL M68 54 (ix a)), .long (mL M68 54 (ix b)), .long w0_33]) (rest := []) F (by decide +kernel) lX7_213 bX7_isOver (c_X7_isOver G X.2.1 M68 (mL M68 54 (ix a)) (mL M68 54 (ix b)) w0_33) (rm_ok hRm hd (by decide) (by decide)) ⟨Nat.zero_le _, Nat.zero_le _⟩ (Nat.le_of_ble_eq_true rfl) (fun r_ N_ p_ => ?_)
        obtain ⟨rfl, hN_, z144⟩ := p_
        rw [hN_]
        clear hN_
        have hJ170 : ∀ (M170 : Mem), (Sg M M170) → f_X7_add M a b s = f_X7_add_170 a b s w0_33 w0_68 M170 → V G X 15 0 0 (Qx G X 0 0 (p_X7_add M a b s)) 170 [(0, .ref 52), (1, .int a), (2, .int b), (3, .int s), (4, .long w0_33), (6, .long w0_68)] [] M170 := by
          intro M170 s170 E
          refine V.seg F floX7 cjoX7 [.iconst 1, .goto 4] (by decide +kernel) (pc2 := 175) (lv2 := [(0, .ref 52), (1, .int a), (2, .int b), (3, .int s), (4, .long w0_33), (6, .long w0_68)]) (st2 := [.int 1]) (M2 := M170) rfl ⟨trivial, (by decide), trivial⟩ ?_
          refine V.pick [0, 1, 2, 3, 4, 5] rfl ?_
          exact hJ175 1 M170 s170 E
        refine V.if_ne (off := 23) F (by decide +kernel) (tgt := 170) (by decide) (fun h147 => ?_) (fun h147 => ?_)
        · replace E := E.trans (if_neg h147)
          refine V.pick [1, 2, 3, 4, 5, 0] rfl ?_
          exact hJ170 M68 s68 E
        · replace E := E.trans (if_pos h147)
          refine V.seg F floX7 cjoX7 [.aload_n 0, .getfield 17, .iload_n 1, .laload, .aload_n 0, .getfield 17, .iload_n 2, .laload, .lload 6] (by decide +kernel) (pc2 := 164) (lv2 := [(6, .long w0_68), (0, .ref 52), (1, .int a), (2, .int b), (3, .int s), (4, .long w0_33)]) (st2 := [.long w0_68, .long (mL M68 55 (ix b)), .long (mL M68 55 (ix a))]) (M2 := M68) rfl ⟨trivial, ((q.sm s68.1).f 52 7 2 rfl), trivial, ((q.sm s68.1).a 55 22 1648 rfl (by first | assumption | exact vinc (by decide))), trivial, ((q.sm s68.1).f 52 7 2 rfl), trivial, ((q.sm s68.1).a 55 22 1648 rfl (by first | assumption | exact vinc (by decide))), trivial, trivial⟩ ?_
          refine V.callS (as := [.long (mL M68 55 (ix a)), .long (mL M68 55 (ix b)), .long w0_68]) (rest := []) F (by decide +kernel) lX7_213 bX7_isOver (c_X7_isOver G X.2.1 M68 (mL M68 55 (ix a)) (mL M68 55 (ix b)) w0_68) (rm_ok hRm hd (by decide) (by decide)) ⟨Nat.zero_le _, Nat.zero_le _⟩ (Nat.le_of_ble_eq_true rfl) (fun r_ N_ p_ => ?_)
          obtain ⟨rfl, hN_, z164⟩ := p_
          rw [hN_]
          clear hN_
          refine V.if_eq (off := 7) F (by decide +kernel) (tgt := 174) (by decide) (fun h167 => ?_) (fun h167 => ?_)
          · replace E := E.trans (if_pos h167)
            refine V.seg F floX7 cjoX7 [.iconst 0] (by decide +kernel) (pc2 := 175) (lv2 := [(6, .long w0_68), (0, .ref 52), (1, .int a), (2, .int b), (3, .int s), (4, .long w0_33)]) (st2 := [.int 0]) (M2 := M68) rfl ⟨trivial, trivial⟩ ?_
            refine V.pick [1, 2, 3, 4, 5, 0] rfl ?_
            exact hJ175 0 M68 s68 E
          · replace E := E.trans (if_neg h167)
            refine V.pick [1, 2, 3, 4, 5, 0] rfl ?_
            exact hJ170 M68 s68 E
      · replace E := E.trans (if_neg h71)
        refine V.seg F floX7 cjoX7 [.aload_n 0, .getfield 13, .iload_n 1, .laload, .aload_n 0, .getfield 17, .iload_n 2, .laload, .ldc2_w 87, .lxor, .lload 4] (by decide +kernel) (pc2 := 92) (lv2 := [(6, .long w0_68), (0, .ref 52), (1, .int a), (2, .int b), (3, .int s), (4, .long w0_33)]) (st2 := [.long w0_33, .long ((mL M68 55 (ix b)) ^^^ ((-1))), .long (mL M68 54 (ix a))]) (M2 := M68) rfl ⟨trivial, ((q.sm s68.1).f 52 7 1 rfl), trivial, ((q.sm s68.1).a 54 22 1648 rfl (by first | assumption | exact vinc (by decide))), trivial, ((q.sm s68.1).f 52 7 2 rfl), trivial, ((q.sm s68.1).a 55 22 1648 rfl (by first | assumption | exact vinc (by decide))), trivial, trivial, trivial, trivial⟩ ?_
        refine V.callS (as := [.long (mL M68 54 (ix a)), .long ((mL M68 55 (ix b)) ^^^ ((-1))), .long w0_33]) (rest := []) F (by decide +kernel) lX7_213 bX7_isOver (c_X7_isOver G X.2.1 M68 (mL M68 54 (ix a)) ((mL M68 55 (ix b)) ^^^ ((-1))) w0_33) (rm_ok hRm hd (by decide) (by decide)) ⟨Nat.zero_le _, Nat.zero_le _⟩ (Nat.le_of_ble_eq_true rfl) (fun r_ N_ p_ => ?_)
        obtain ⟨rfl, hN_, z92⟩ := p_
        rw [hN_]
        clear hN_
        have hJ122 : ∀ (M122 : Mem), (Sg M M122) → f_X7_add M a b s = f_X7_add_122 a b s w0_33 w0_68 M122 → V G X 15 0 0 (Qx G X 0 0 (p_X7_add M a b s)) 122 [(0, .ref 52), (1, .int a), (2, .int b), (3, .int s), (4, .long w0_33), (6, .long w0_68)] [] M122 := by
          intro M122 s122 E
          refine V.seg F floX7 cjoX7 [.iconst 1, .goto 52] (by decide +kernel) (pc2 := 175) (lv2 := [(0, .ref 52), (1, .int a), (2, .int b), (3, .int s), (4, .long w0_33), (6, .long w0_68)]) (st2 := [.int 1]) (M2 := M122) rfl ⟨trivial, (by decide), trivial⟩ ?_
          refine V.pick [0, 1, 2, 3, 4, 5] rfl ?_
          exact hJ175 1 M122 s122 E
        refine V.if_ne (off := 27) F (by decide +kernel) (tgt := 122) (by decide) (fun h95 => ?_) (fun h95 => ?_)
        · replace E := E.trans (if_neg h95)
          refine V.pick [1, 2, 3, 4, 5, 0] rfl ?_
          exact hJ122 M68 s68 E
        · replace E := E.trans (if_pos h95)
          refine V.seg F floX7 cjoX7 [.aload_n 0, .getfield 17, .iload_n 1, .laload, .aload_n 0, .getfield 13, .iload_n 2, .laload, .ldc2_w 87, .lxor, .lload 6] (by decide +kernel) (pc2 := 116) (lv2 := [(6, .long w0_68), (0, .ref 52), (1, .int a), (2, .int b), (3, .int s), (4, .long w0_33)]) (st2 := [.long w0_68, .long ((mL M68 54 (ix b)) ^^^ ((-1))), .long (mL M68 55 (ix a))]) (M2 := M68) rfl ⟨trivial, ((q.sm s68.1).f 52 7 2 rfl), trivial, ((q.sm s68.1).a 55 22 1648 rfl (by first | assumption | exact vinc (by decide))), trivial, ((q.sm s68.1).f 52 7 1 rfl), trivial, ((q.sm s68.1).a 54 22 1648 rfl (by first | assumption | exact vinc (by decide))), trivial, trivial, trivial, trivial⟩ ?_
          refine V.callS (as := [.long (mL M68 55 (ix a)), .long ((mL M68 54 (ix b)) ^^^ ((-1))), .long w0_68]) (rest := []) F (by decide +kernel) lX7_213 bX7_isOver (c_X7_isOver G X.2.1 M68 (mL M68 55 (ix a)) ((mL M68 54 (ix b)) ^^^ ((-1))) w0_68) (rm_ok hRm hd (by decide) (by decide)) ⟨Nat.zero_le _, Nat.zero_le _⟩ (Nat.le_of_ble_eq_true rfl) (fun r_ N_ p_ => ?_)
          obtain ⟨rfl, hN_, z116⟩ := p_
          rw [hN_]
          clear hN_
          refine V.if_eq (off := 7) F (by decide +kernel) (tgt := 126) (by decide) (fun h119 => ?_) (fun h119 => ?_)
          · replace E := E.trans (if_pos h119)
            refine V.seg F floX7 cjoX7 [.iconst 0, .goto 48] (by decide +kernel) (pc2 := 175) (lv2 := [(6, .long w0_68), (0, .ref 52), (1, .int a), (2, .int b), (3, .int s), (4, .long w0_33)]) (st2 := [.int 0]) (M2 := M68) rfl ⟨trivial, (by decide), trivial⟩ ?_
            refine V.pick [1, 2, 3, 4, 5, 0] rfl ?_
            exact hJ175 0 M68 s68 E
          · replace E := E.trans (if_neg h119)
            refine V.pick [1, 2, 3, 4, 5, 0] rfl ?_
            exact hJ122 M68 s68 E
    refine V.if_eq (off := 19) F (by decide +kernel) (tgt := 55) (by decide) (fun h36 => ?_) (fun h36 => ?_)
    · replace E := E.trans (if_pos h36)
      refine V.seg F floX7 cjoX7 [.aload_n 0, .getfield 17, .iload_n 1, .laload, .aload_n 0, .getfield 17, .iload_n 2, .laload, .ladd] (by decide +kernel) (pc2 := 68) (lv2 := [(4, .long w0_33), (0, .ref 52), (1, .int a), (2, .int b), (3, .int s)]) (st2 := [.long ((mL M33 55 (ix a)) + (mL M33 55 (ix b)))]) (M2 := M33) rfl ⟨trivial, ((q.sm s33.1).f 52 7 2 rfl), trivial, ((q.sm s33.1).a 55 22 1648 rfl (by first | assumption | exact vinc (by decide))), trivial, ((q.sm s33.1).f 52 7 2 rfl), trivial, ((q.sm s33.1).a 55 22 1648 rfl (by first | assumption | exact vinc (by decide))), trivial, trivial⟩ ?_
      refine V.pick [1, 2, 3, 4, 0] rfl ?_
      exact hJ68 ((mL M33 55 (ix a)) + (mL M33 55 (ix b))) M33 s33 E
    · replace E := E.trans (if_neg h36)
      refine V.seg F floX7 cjoX7 [.aload_n 0, .getfield 17, .iload_n 1, .laload, .aload_n 0, .getfield 13, .iload_n 2, .laload, .lsub, .goto 16] (by decide +kernel) (pc2 := 68) (lv2 := [(4, .long w0_33), (0, .ref 52), (1, .int a), (2, .int b), (3, .int s)]) (st2 := [.long ((mL M33 55 (ix a)) - (mL M33 54 (ix b)))]) (M2 := M33) rfl ⟨trivial, ((q.sm s33.1).f 52 7 2 rfl), trivial, ((q.sm s33.1).a 55 22 1648 rfl (by first | assumption | exact vinc (by decide))), trivial, ((q.sm s33.1).f 52 7 1 rfl), trivial, ((q.sm s33.1).a 54 22 1648 rfl (by first | assumption | exact vinc (by decide))), trivial, (by decide), trivial⟩ ?_
      refine V.pick [1, 2, 3, 4, 0] rfl ?_
      exact hJ68 ((mL M33 55 (ix a)) - (mL M33 54 (ix b))) M33 s33 E
  refine V.if_eq (off := 19) F (by decide +kernel) (tgt := 20) (by decide) (fun h1 => ?_) (fun h1 => ?_)
  · replace E := E.trans (if_pos h1)
    refine V.seg F floX7 cjoX7 [.aload_n 0, .getfield 13, .iload_n 1, .laload, .aload_n 0, .getfield 13, .iload_n 2, .laload, .ladd] (by decide +kernel) (pc2 := 33) (lv2 := [(0, .ref 52), (1, .int a), (2, .int b), (3, .int s)]) (st2 := [.long ((mL M 54 (ix a)) + (mL M 54 (ix b)))]) (M2 := M) rfl ⟨trivial, (q.f 52 7 1 rfl), trivial, (q.a 54 22 1648 rfl (by first | assumption | exact vinc (by decide))), trivial, (q.f 52 7 1 rfl), trivial, (q.a 54 22 1648 rfl (by first | assumption | exact vinc (by decide))), trivial, trivial⟩ ?_
    refine V.pick [0, 1, 2, 3] rfl ?_
    exact hJ33 ((mL M 54 (ix a)) + (mL M 54 (ix b))) M (Sg.rf gb) E
  · replace E := E.trans (if_neg h1)
    refine V.seg F floX7 cjoX7 [.aload_n 0, .getfield 13, .iload_n 1, .laload, .aload_n 0, .getfield 17, .iload_n 2, .laload, .lsub, .goto 16] (by decide +kernel) (pc2 := 33) (lv2 := [(0, .ref 52), (1, .int a), (2, .int b), (3, .int s)]) (st2 := [.long ((mL M 54 (ix a)) - (mL M 55 (ix b)))]) (M2 := M) rfl ⟨trivial, (q.f 52 7 1 rfl), trivial, (q.a 54 22 1648 rfl (by first | assumption | exact vinc (by decide))), trivial, (q.f 52 7 2 rfl), trivial, (q.a 55 22 1648 rfl (by first | assumption | exact vinc (by decide))), trivial, (by decide), trivial⟩ ?_
    refine V.pick [0, 1, 2, 3] rfl ?_
    exact hJ33 ((mL M 54 (ix a)) - (mL M 55 (ix b))) M (Sg.rf gb) E
def f_X7_oddProduct_131  (w0_131 : Int64) : Int64 := w0_131
def f_X7_oddProduct_94 (w0_71 : Int64) : Nat → Int64 → Int64
  | 0, _ => 0
  | n_ + 1, y5_94 => if (y5_94 &&& 1) = 0 then (f_X7_oddProduct_94 w0_71 n_) (jushr y5_94 1) else if y5_94 ≤ (2147483647 / w0_71) then f_X7_oddProduct_131 (y5_94 * w0_71) else f_X7_oddProduct_131 1
def f_X7_oddProduct_92 (w0_71 : Int64) (w0_92 : Int64) : Int64 := f_X7_oddProduct_94 w0_71 64 w0_92
def f_X7_oddProduct_71 (w0_44 : Int64) (w0_71 : Int64) : Int64 := if w0_44 = 0 then 1 else if 0 ≤ w0_44 then f_X7_oddProduct_92 w0_71 w0_44 else f_X7_oddProduct_92 w0_71 (-w0_44)
def f_X7_oddProduct_44 (M : Mem) (w0_44 : Int64) : Int64 := if (f_X7_isNumber M 16) = 0 then f_X7_oddProduct_71 w0_44 (mL M 58 (ix 16)) else f_X7_oddProduct_71 w0_44 (mL M 58 (ix 17))
def f_X7_oddProduct_18 (M : Mem)  : Int64 := if (f_X7_isNumber M 16) = 0 then f_X7_oddProduct_44 M (mL M 54 (ix 17)) else f_X7_oddProduct_44 M (mL M 54 (ix 16))
def f_X7_oddProduct_c166 (M : Mem) (x166 : Int64) : Int64 := f_X7_odd (f_X7_common x166 ((mL M 58 (ix 17)) * (mL M 59 (ix 16))))
def f_X7_oddProduct (M : Mem) : Int64 := if (f_X7_isNumber M 16) = 0 then if (f_X7_isNumber M 17) = 0 then f_X7_oddProduct_c166 M (f_X7_common ((mL M 58 (ix 16)) * (mL M 58 (ix 17))) ((mL M 58 (ix 16)) * (mL M 59 (ix 17)))) else f_X7_oddProduct_18 M else f_X7_oddProduct_18 M
abbrev p_X7_oddProduct (M : Mem) : Option Value → Mem → Prop := fun r N => r = some (.long (f_X7_oddProduct M)) ∧ N = M
set_option maxRecDepth 100000 in
set_option maxHeartbeats 4000000 in
theorem c_X7_oddProduct (G : Ctx) (l : Launch) (M : Mem) (q : Ok M) (gb : Gb M) : CT G l 2 mX7_oddProduct [.ref 52] M 0 0 (p_X7_oddProduct M) := by
  refine CT.of (by decide) (Nat.le_of_ble_eq_true rfl) ?_
  intro X d hd hl hRm hnm F
  subst hl
  have E : f_X7_oddProduct M = f_X7_oddProduct M := rfl
  show V G X 7 0 0 (Qx G X 0 0 (p_X7_oddProduct M)) 0 [(0, .ref 52)] [] M
  refine V.seg F floX7 cjoX7 [.aload_n 0, .bipush 16] (by decide +kernel) (pc2 := 3) (lv2 := [(0, .ref 52)]) (st2 := [.int 16, .ref 52]) (M2 := M) rfl ⟨trivial, trivial, trivial⟩ ?_
  refine V.callV (as := [.int 16]) (rest := []) F (by decide +kernel) lX7_130 bX7_isNumber ⟨7, _, (q.o 52 7 rfl), rfl, rfl⟩ (c_X7_isNumber G X.2.1 M 16 q gb (vinc (by decide))) (rm_ok hRm hd (by decide) (by decide)) ⟨Nat.zero_le _, Nat.zero_le _⟩ (Nat.le_of_ble_eq_true rfl) (fun r_ N_ p_ => ?_)
  obtain ⟨rfl, hN_, z3⟩ := p_
  rw [hN_]
  clear hN_
  have hJ18 : f_X7_oddProduct M = f_X7_oddProduct_18 M → V G X 7 0 0 (Qx G X 0 0 (p_X7_oddProduct M)) 18 [(0, .ref 52)] [] M := by
    intro E
    refine V.seg F floX7 cjoX7 [.aload_n 0, .bipush 16] (by decide +kernel) (pc2 := 21) (lv2 := [(0, .ref 52)]) (st2 := [.int 16, .ref 52]) (M2 := M) rfl ⟨trivial, trivial, trivial⟩ ?_
    refine V.callV (as := [.int 16]) (rest := []) F (by decide +kernel) lX7_130 bX7_isNumber ⟨7, _, (q.o 52 7 rfl), rfl, rfl⟩ (c_X7_isNumber G X.2.1 M 16 q gb (vinc (by decide))) (rm_ok hRm hd (by decide) (by decide)) ⟨Nat.zero_le _, Nat.zero_le _⟩ (Nat.le_of_ble_eq_true rfl) (fun r_ N_ p_ => ?_)
    obtain ⟨rfl, hN_, z21⟩ := p_
    rw [hN_]
    clear hN_
    have hJ44 : ∀ (w0_44 : Int64), f_X7_oddProduct M = f_X7_oddProduct_44 M w0_44 → V G X 7 0 0 (Qx G X 0 0 (p_X7_oddProduct M)) 44 [(0, .ref 52)] [.long w0_44] M := by
      intro w0_44 E
      refine V.seg F floX7 cjoX7 [.lstore_n 1, .aload_n 0, .bipush 16] (by decide +kernel) (pc2 := 48) (lv2 := [(1, .long w0_44), (0, .ref 52)]) (st2 := [.int 16, .ref 52]) (M2 := M) rfl ⟨(by decide), trivial, trivial, trivial⟩ ?_
      refine V.callV (as := [.int 16]) (rest := []) F (by decide +kernel) lX7_130 bX7_isNumber ⟨7, _, (q.o 52 7 rfl), rfl, rfl⟩ (c_X7_isNumber G X.2.1 M 16 q gb (vinc (by decide))) (rm_ok hRm hd (by decide) (by decide)) ⟨Nat.zero_le _, Nat.zero_le _⟩ (Nat.le_of_ble_eq_true rfl) (fun r_ N_ p_ => ?_)
      obtain ⟨rfl, hN_, z48⟩ := p_
      rw [hN_]
      clear hN_
      have hJ71 : ∀ (w0_71 : Int64), (¬ w0_71 = 0) → f_X7_oddProduct M = f_X7_oddProduct_71 w0_44 w0_71 → V G X 7 0 0 (Qx G X 0 0 (p_X7_oddProduct M)) 71 [(1, .long w0_44)] [.long w0_71] M := by
        intro w0_71 jn71 E
        refine V.seg F floX7 cjoX7 [.lstore_n 3, .lload_n 1, .lconst 0, .lcmp] (by decide +kernel) (pc2 := 75) (lv2 := [(3, .long w0_71), (1, .long w0_44)]) (st2 := [.int (lg_cmp w0_44 0)]) (M2 := M) rfl ⟨(by decide), trivial, trivial, trivial, trivial⟩ ?_
        refine V.lc_ne (off := 5) F (by decide +kernel) (tgt := 80) (by decide) (fun h75 => ?_) (fun h75 => ?_)
        · replace E := E.trans (if_neg h75)
          refine V.seg F floX7 cjoX7 [.lload_n 1, .lconst 0, .lcmp] (by decide +kernel) (pc2 := 83) (lv2 := [(3, .long w0_71), (1, .long w0_44)]) (st2 := [.int (lg_cmp w0_44 0)]) (M2 := M) rfl ⟨trivial, trivial, trivial, trivial⟩ ?_
          have hJ92 : ∀ (w0_92 : Int64), (¬ w0_92 = 0) → f_X7_oddProduct M = f_X7_oddProduct_92 w0_71 w0_92 → V G X 7 0 0 (Qx G X 0 0 (p_X7_oddProduct M)) 92 [(3, .long w0_71)] [.long w0_92] M := by
            intro w0_92 jz92 E
            refine V.seg F floX7 cjoX7 [.lstore 5] (by decide +kernel) (pc2 := 94) (lv2 := [(5, .long w0_92), (3, .long w0_71)]) (st2 := []) (M2 := M) rfl ⟨(by decide), trivial⟩ ?_
            have hJ94 : ∀ (n_ : Nat) (y5_94 : Int64), (¬ y5_94 = 0) → (uN y5_94 < 2 ^ n_) → f_X7_oddProduct M = f_X7_oddProduct_94 w0_71 n_ y5_94 → V G X 7 0 0 (Qx G X 0 0 (p_X7_oddProduct M)) 94 [(3, .long w0_71), (5, .long y5_94)] [] M := by
              intro n_
              induction n_ with
              | zero => intro y5_94 z94 m94 E; exact absurd (uN_0.mpr (Nat.lt_one_iff.mp m94)) z94
              | succ n_ ih_94 =>
                intro y5_94 z94 m94 E
                rw [f_X7_oddProduct_94] at E
                refine V.seg F floX7 cjoX7 [.lload 5, .lconst 1, .land, .lconst 0, .lcmp] (by decide +kernel) (pc2 := 100) (lv2 := [(3, .long w0_71), (5, .long y5_94)]) (st2 := [.int (lg_cmp (y5_94 &&& 1) 0)]) (M2 := M) rfl ⟨trivial, trivial, trivial, trivial, trivial, trivial⟩ ?_
                refine V.lc_ne (off := 12) F (by decide +kernel) (tgt := 112) (by decide) (fun h100 => ?_) (fun h100 => ?_)
                · replace E := E.trans (if_neg h100)
                  refine V.seg F floX7 cjoX7 [.lload 5, .ldc2_w 125, .lload_n 3, .ldiv, .lcmp] (by decide +kernel) (pc2 := 120) (lv2 := [(3, .long w0_71), (5, .long y5_94)]) (st2 := [.int (lg_cmp y5_94 (2147483647 / w0_71))]) (M2 := M) rfl ⟨trivial, trivial, trivial, jn71, trivial, trivial⟩ ?_
                  have hJ131 : ∀ (w0_131 : Int64), f_X7_oddProduct M = f_X7_oddProduct_131 w0_131 → V G X 7 0 0 (Qx G X 0 0 (p_X7_oddProduct M)) 131 [] [.long w0_131] M := by
                    intro w0_131 E
                    exact V.lret F (by decide +kernel) ⟨congrArg (fun z => some (Value.long z)) E.symm, rfl⟩
                  refine V.lc_le (off := 7) F (by decide +kernel) (tgt := 127) (by decide) (fun h120 => ?_) (fun h120 => ?_)
                  · replace E := E.trans (if_pos h120)
                    refine V.seg F floX7 cjoX7 [.lload 5, .lload_n 3, .lmul] (by decide +kernel) (pc2 := 131) (lv2 := [(3, .long w0_71), (5, .long y5_94)]) (st2 := [.long (y5_94 * w0_71)]) (M2 := M) rfl ⟨trivial, trivial, trivial, trivial⟩ ?_
                    refine V.pick [] rfl ?_
                    exact hJ131 (y5_94 * w0_71)  E
                  · replace E := E.trans (if_neg h120)
                    refine V.seg F floX7 cjoX7 [.lconst 1, .goto 7] (by decide +kernel) (pc2 := 131) (lv2 := [(3, .long w0_71), (5, .long y5_94)]) (st2 := [.long 1]) (M2 := M) rfl ⟨trivial, (by decide), trivial⟩ ?_
                    refine V.pick [] rfl ?_
                    exact hJ131 1  E
                · replace E := E.trans (if_pos h100)
                  refine V.seg F floX7 cjoX7 [.lload 5, .iconst 1, .lushr, .lstore 5, .goto (-15)] (by decide +kernel) (pc2 := 94) (lv2 := [(5, .long (jushr y5_94 1)), (3, .long w0_71)]) (st2 := []) (M2 := M) rfl ⟨trivial, trivial, trivial, (by decide), (by decide), trivial⟩ ?_
                  refine V.pick [1, 0] rfl ?_
                  exact ih_94 (jushr y5_94 1) (by exact odd_nz h100 z94) (by exact odd_lt m94) E
            refine V.pick [1, 0] rfl ?_
            exact hJ94 _ w0_92 (by exact jz92) (by exact uN_lt _) E
          refine V.lc_ge (off := 8) F (by decide +kernel) (tgt := 91) (by decide) (fun h83 => ?_) (fun h83 => ?_)
          · replace E := E.trans (if_pos h83)
            refine V.seg F floX7 cjoX7 [.lload_n 1] (by decide +kernel) (pc2 := 92) (lv2 := [(3, .long w0_71), (1, .long w0_44)]) (st2 := [.long w0_44]) (M2 := M) rfl ⟨trivial, trivial⟩ ?_
            refine V.pick [0] rfl ?_
            exact hJ92 w0_44 (by first | exact h75 | exact fun z => h75 (neg0 z)) E
          · replace E := E.trans (if_neg h83)
            refine V.seg F floX7 cjoX7 [.lload_n 1, .lneg, .goto 4] (by decide +kernel) (pc2 := 92) (lv2 := [(3, .long w0_71), (1, .long w0_44)]) (st2 := [.long (-w0_44)]) (M2 := M) rfl ⟨trivial, trivial, (by decide), trivial⟩ ?_
            refine V.pick [0] rfl ?_
            exact hJ92 (-w0_44) (by first | exact h75 | exact fun z => h75 (neg0 z)) E
        · replace E := E.trans (if_pos h75)
          refine V.seg F floX7 cjoX7 [.lconst 1] (by decide +kernel) (pc2 := 79) (lv2 := [(3, .long w0_71), (1, .long w0_44)]) (st2 := [.long 1]) (M2 := M) rfl ⟨trivial, trivial⟩ ?_
          exact V.lret F (by decide +kernel) ⟨congrArg (fun z => some (Value.long z)) E.symm, rfl⟩
      refine V.if_eq (off := 13) F (by decide +kernel) (tgt := 64) (by decide) (fun h51 => ?_) (fun h51 => ?_)
      · replace E := E.trans (if_pos h51)
        refine V.seg F floX7 cjoX7 [.aload_n 0, .getfield 26, .bipush 16, .laload] (by decide +kernel) (pc2 := 71) (lv2 := [(1, .long w0_44), (0, .ref 52)]) (st2 := [.long (mL M 58 (ix 16))]) (M2 := M) rfl ⟨trivial, (q.f 52 7 5 rfl), trivial, (q.a 58 22 1648 rfl (vinc (by decide))), trivial⟩ ?_
        refine V.pick [0] rfl ?_
        exact hJ71 (mL M 58 (ix 16)) (by exact gb _ (vin_lt (vinc (by decide)))) E
      · replace E := E.trans (if_neg h51)
        refine V.seg F floX7 cjoX7 [.aload_n 0, .getfield 26, .bipush 17, .laload, .goto 10] (by decide +kernel) (pc2 := 71) (lv2 := [(1, .long w0_44), (0, .ref 52)]) (st2 := [.long (mL M 58 (ix 17))]) (M2 := M) rfl ⟨trivial, (q.f 52 7 5 rfl), trivial, (q.a 58 22 1648 rfl (vinc (by decide))), (by decide), trivial⟩ ?_
        refine V.pick [0] rfl ?_
        exact hJ71 (mL M 58 (ix 17)) (by exact gb _ (vin_lt (vinc (by decide)))) E
    refine V.if_eq (off := 13) F (by decide +kernel) (tgt := 37) (by decide) (fun h24 => ?_) (fun h24 => ?_)
    · replace E := E.trans (if_pos h24)
      refine V.seg F floX7 cjoX7 [.aload_n 0, .getfield 13, .bipush 17, .laload] (by decide +kernel) (pc2 := 44) (lv2 := [(0, .ref 52)]) (st2 := [.long (mL M 54 (ix 17))]) (M2 := M) rfl ⟨trivial, (q.f 52 7 1 rfl), trivial, (q.a 54 22 1648 rfl (vinc (by decide))), trivial⟩ ?_
      refine V.pick [0] rfl ?_
      exact hJ44 (mL M 54 (ix 17))  E
    · replace E := E.trans (if_neg h24)
      refine V.seg F floX7 cjoX7 [.aload_n 0, .getfield 13, .bipush 16, .laload, .goto 10] (by decide +kernel) (pc2 := 44) (lv2 := [(0, .ref 52)]) (st2 := [.long (mL M 54 (ix 16))]) (M2 := M) rfl ⟨trivial, (q.f 52 7 1 rfl), trivial, (q.a 54 22 1648 rfl (vinc (by decide))), (by decide), trivial⟩ ?_
      refine V.pick [0] rfl ?_
      exact hJ44 (mL M 54 (ix 16))  E
  refine V.if_ne (off := 12) F (by decide +kernel) (tgt := 18) (by decide) (fun h6 => ?_) (fun h6 => ?_)
  · replace E := E.trans (if_neg h6)
    refine V.pick [0] rfl ?_
    exact hJ18   E
  · replace E := E.trans (if_pos h6)
    refine V.seg F floX7 cjoX7 [.aload_n 0, .bipush 17] (by decide +kernel) (pc2 := 12) (lv2 := [(0, .ref 52)]) (st2 := [.int 17, .ref 52]) (M2 := M) rfl ⟨trivial, trivial, trivial⟩ ?_
    refine V.callV (as := [.int 17]) (rest := []) F (by decide +kernel) lX7_130 bX7_isNumber ⟨7, _, (q.o 52 7 rfl), rfl, rfl⟩ (c_X7_isNumber G X.2.1 M 17 q gb (vinc (by decide))) (rm_ok hRm hd (by decide) (by decide)) ⟨Nat.zero_le _, Nat.zero_le _⟩ (Nat.le_of_ble_eq_true rfl) (fun r_ N_ p_ => ?_)
    obtain ⟨rfl, hN_, z12⟩ := p_
    rw [hN_]
    clear hN_
    refine V.if_eq (off := 117) F (by decide +kernel) (tgt := 132) (by decide) (fun h15 => ?_) (fun h15 => ?_)
    · replace E := E.trans (if_pos h15)
      refine V.seg F floX7 cjoX7 [.aload_n 0, .getfield 26, .bipush 16, .laload, .aload_n 0, .getfield 26, .bipush 17, .laload, .lmul, .aload_n 0, .getfield 26, .bipush 16, .laload, .aload_n 0, .getfield 29, .bipush 17, .laload, .lmul] (by decide +kernel) (pc2 := 162) (lv2 := [(0, .ref 52)]) (st2 := [.long ((mL M 58 (ix 16)) * (mL M 59 (ix 17))), .long ((mL M 58 (ix 16)) * (mL M 58 (ix 17)))]) (M2 := M) rfl ⟨trivial, (q.f 52 7 5 rfl), trivial, (q.a 58 22 1648 rfl (vinc (by decide))), trivial, (q.f 52 7 5 rfl), trivial, (q.a 58 22 1648 rfl (vinc (by decide))), trivial, trivial, (q.f 52 7 5 rfl), trivial, (q.a 58 22 1648 rfl (vinc (by decide))), trivial, (q.f 52 7 6 rfl), trivial, (q.a 59 22 1648 rfl (vinc (by decide))), trivial, trivial⟩ ?_
      refine V.callS (as := [.long ((mL M 58 (ix 16)) * (mL M 58 (ix 17))), .long ((mL M 58 (ix 16)) * (mL M 59 (ix 17)))]) (rest := []) F (by decide +kernel) lX7_144 bX7_common (c_X7_common G X.2.1 M ((mL M 58 (ix 16)) * (mL M 58 (ix 17))) ((mL M 58 (ix 16)) * (mL M 59 (ix 17)))) (rm_ok hRm hd (by decide) (by decide)) ⟨Nat.zero_le _, Nat.zero_le _⟩ (Nat.le_of_ble_eq_true rfl) (fun r_ N_ p_ => ?_)
      obtain ⟨rfl, hN_⟩ := p_
      rw [hN_]
      clear hN_
      refine V.seg F floX7 cjoX7 [.lstore_n 1] (by decide +kernel) (pc2 := 166) (lv2 := [(1, .long (f_X7_common ((mL M 58 (ix 16)) * (mL M 58 (ix 17))) ((mL M 58 (ix 16)) * (mL M 59 (ix 17))))), (0, .ref 52)]) (st2 := []) (M2 := M) rfl ⟨(by decide), trivial⟩ ?_
      refine (?_ : ∀ (x166 : Int64), f_X7_oddProduct M = f_X7_oddProduct_c166 M x166 → V G X 7 0 0 (Qx G X 0 0 (p_X7_oddProduct M)) 166 [(1, .long x166), (0, .ref 52)] [] M) _  E
      intro x166 E
      refine V.seg F floX7 cjoX7 [.lload_n 1, .aload_n 0, .getfield 26, .bipush 17, .laload, .aload_n 0, .getfield 29, .bipush 16, .laload, .lmul] (by decide +kernel) (pc2 := 182) (lv2 := [(1, .long x166), (0, .ref 52)]) (st2 := [.long ((mL M 58 (ix 17)) * (mL M 59 (ix 16))), .long x166]) (M2 := M) rfl ⟨trivial, trivial, (q.f 52 7 5 rfl), trivial, (q.a 58 22 1648 rfl (vinc (by decide))), trivial, (q.f 52 7 6 rfl), trivial, (q.a 59 22 1648 rfl (vinc (by decide))), trivial, trivial⟩ ?_
      refine V.callS (as := [.long x166, .long ((mL M 58 (ix 17)) * (mL M 59 (ix 16)))]) (rest := []) F (by decide +kernel) lX7_144 bX7_common (c_X7_common G X.2.1 M x166 ((mL M 58 (ix 17)) * (mL M 59 (ix 16)))) (rm_ok hRm hd (by decide) (by decide)) ⟨Nat.zero_le _, Nat.zero_le _⟩ (Nat.le_of_ble_eq_true rfl) (fun r_ N_ p_ => ?_)
      obtain ⟨rfl, hN_⟩ := p_
      rw [hN_]
      clear hN_
      refine V.callS (as := [.long (f_X7_common x166 ((mL M 58 (ix 17)) * (mL M 59 (ix 16))))]) (rest := []) F (by decide +kernel) lX7_147 bX7_odd (c_X7_odd G X.2.1 M (f_X7_common x166 ((mL M 58 (ix 17)) * (mL M 59 (ix 16))))) (rm_ok hRm hd (by decide) (by decide)) ⟨Nat.zero_le _, Nat.zero_le _⟩ (Nat.le_of_ble_eq_true rfl) (fun r_ N_ p_ => ?_)
      obtain ⟨rfl, hN_⟩ := p_
      rw [hN_]
      clear hN_
      exact V.lret F (by decide +kernel) ⟨congrArg (fun z => some (Value.long z)) E.symm, rfl⟩
    · replace E := E.trans (if_neg h15)
      refine V.pick [0] rfl ?_
      exact hJ18   E
end
section
theorem oddmul_ne0 {a m : Int64} (ha : ¬ (a &&& 1) = 0) (hm : ¬ m = 0) : ¬ a * m = 0 := by
  intro h
  have h1 := uN_0.mp h
  rw [uN_mul] at h1
  have hodd : uN a % 2 = 1 := by
    have : ¬ uN a % 2 = 0 := fun q => ha ((uN_bit a).mpr q)
    omega
  have hd : 2 ^ 64 ∣ uN a * uN m := Nat.dvd_of_mod_eq_zero h1
  have hc : Nat.Coprime (2 ^ 64) (uN a) := by
    apply Nat.Coprime.pow_left
    unfold Nat.Coprime
    rw [Nat.gcd_rec, hodd]
    rfl
  have hd2 : 2 ^ 64 ∣ uN m := Nat.Coprime.dvd_of_dvd_mul_left hc hd
  have hlt := uN_lt m
  have : uN m = 0 := Nat.eq_zero_of_dvd_of_lt hd2 hlt
  exact hm (uN_0.mpr this)
theorem oddP_ne0 {M : Mem} (gb : Gb M) : ¬ f_X7_oddProduct M = 0 := by
  have hl : ∀ (w : Int64), ¬ w = 0 → ∀ (n : Nat) (v : Int64), ¬ v = 0 → uN v < 2 ^ n → ¬ f_X7_oddProduct_94 w n v = 0 := by
    intro w hw n
    induction n with
    | zero => intro v hz h; exact absurd (uN_0.mpr (Nat.lt_one_iff.mp h)) hz
    | succ n ih =>
      intro v hz h
      rw [f_X7_oddProduct_94]
      split
      · rename_i e; exact ih _ (odd_nz e hz) (odd_lt h)
      · rename_i e
        split
        · exact oddmul_ne0 e hw
        · show ¬ (1 : Int64) = 0; decide
  have h71 : ∀ c w : Int64, ¬ w = 0 → ¬ f_X7_oddProduct_71 c w = 0 := by
    intro c w hw
    unfold f_X7_oddProduct_71 f_X7_oddProduct_92
    split
    · decide
    · rename_i hc
      split
      · exact hl w hw 64 _ hc (uN_lt _)
      · exact hl w hw 64 _ (fun z => hc (neg0 z)) (uN_lt _)
  have h18 : ¬ f_X7_oddProduct_18 M = 0 := by
    have h16 := gb (ix 16) (by decide)
    have h17 := gb (ix 17) (by decide)
    unfold f_X7_oddProduct_18 f_X7_oddProduct_44
    split
    · exact h71 _ _ h16
    · exact h71 _ _ h17
  unfold f_X7_oddProduct f_X7_oddProduct_c166
  split
  · split
    · exact odd_ne0 _
    · exact h18
  · exact h18
def f_X7_multiply_328 (j219 : Nat) (R219_ : Nat → Mem → Mem) (M328 : Mem) : Mem := R219_ (j219 + 1) M328
def f_X7_multiply_c328 (j219 : Nat) (R219_ : Nat → Mem → Mem) (M328 : Mem) : Mem := f_X7_multiply_328 j219 R219_ M328
def f_X7_multiply_317 (j219 : Nat) (R219_ : Nat → Mem → Mem) (M317 : Mem) : Mem := f_X7_multiply_c328 j219 R219_ (f_X7_ripple M317 22 23 0 22)
def f_X7_multiply_c282 (j219 : Nat) (M219 : Mem) (R219_ : Nat → Mem → Mem) (M282 : Mem) : Mem := if (f_X7_bit M219 17 (nI j219)) = 2 then f_X7_multiply_317 j219 R219_ (uL (uL M282 56 (ix 23) ((mL M282 56 (ix 23)) &&& ((mL M282 57 (ix 23)) ^^^ ((-1))))) 57 (ix 23) 0) else f_X7_multiply_317 j219 R219_ M282
def f_X7_multiply_219  : Nat → Nat → Mem → Mem
  | 0, _, M219 => M219
  | n_ + 1, j219, M219 => if 64 ≤ (nI j219) then uL (uL M219 56 (ix 18) (mL M219 56 (ix 22))) 57 (ix 18) (mL (uL M219 56 (ix 18) (mL M219 56 (ix 22))) 57 (ix 22)) else if (f_X7_bit M219 17 (nI j219)) ≤ 0 then f_X7_multiply_328 j219 (f_X7_multiply_219 n_) M219 else f_X7_multiply_c282 j219 M219 (f_X7_multiply_219 n_) (uL (uL M219 56 (ix 23) ((jshl (mL M219 56 (ix 16)) (nI j219)) ||| ((jshl 1 (nI j219)) - 1))) 57 (ix 23) (jshl (mL (uL M219 56 (ix 23) ((jshl (mL M219 56 (ix 16)) (nI j219)) ||| ((jshl 1 (nI j219)) - 1))) 57 (ix 16)) (nI j219)))
def f_X7_multiply_c216  (M216 : Mem) : Mem := f_X7_multiply_219  65 0 M216
def f_X7_multiply_204  (M204 : Mem) : Mem := f_X7_multiply_c216 (f_X7_put M204 22 0 0 ((-1)) 0)
def f_X7_multiply_c204  (M204 : Mem) : Mem := f_X7_multiply_204 M204
def f_X7_multiply_c173 (y2_14 : Int64) (y4_14 : Int64) (M14 : Mem) (x173 : Int64) : Mem := f_X7_multiply_c204 (f_X7_setRest (uL (uL M14 54 (ix 18) y2_14) 55 (ix 18) y4_14) 18 x173 ((f_X7_rem (f_X7_restOf (uL (uL M14 54 (ix 18) y2_14) 55 (ix 18) y4_14) 16) x173) * (f_X7_rem (f_X7_restOf (uL (uL M14 54 (ix 18) y2_14) 55 (ix 18) y4_14) 17) x173)))
def f_X7_multiply_123 (y2_14 : Int64) (y4_14 : Int64) (j14 : Nat) (R14_ : Int32 → Int64 → Int64 → Nat → Mem → Mem) (w0_43 : Int64) (w0_69 : Int64) (w0_123 : Int32) (M123 : Mem) : Mem := R14_ w0_123 (f_X7_less y2_14 (w0_43 * w0_69)) (f_X7_more y4_14 (w0_43 * w0_69)) (j14 + 1) M123
def f_X7_multiply_118 (y2_14 : Int64) (y4_14 : Int64) (j14 : Nat) (R14_ : Int32 → Int64 → Int64 → Nat → Mem → Mem) (w0_43 : Int64) (w0_69 : Int64) (M118 : Mem) : Mem := f_X7_multiply_123 y2_14 y4_14 j14 R14_ w0_43 w0_69 1 M118
def f_X7_multiply_122 (y2_14 : Int64) (y4_14 : Int64) (j14 : Nat) (R14_ : Int32 → Int64 → Int64 → Nat → Mem → Mem) (w0_43 : Int64) (w0_69 : Int64) (M122 : Mem) : Mem := f_X7_multiply_123 y2_14 y4_14 j14 R14_ w0_43 w0_69 0 M122
def f_X7_multiply_69 (y1_14 : Int32) (y2_14 : Int64) (y4_14 : Int64) (j14 : Nat) (R14_ : Int32 → Int64 → Int64 → Nat → Mem → Mem) (w0_43 : Int64) (w0_69 : Int64) (M69 : Mem) : Mem := if y1_14 = 0 then if w0_43 = 0 then f_X7_multiply_122 y2_14 y4_14 j14 R14_ w0_43 w0_69 M69 else if ((w0_43 * w0_69) / w0_43) = w0_69 then if w0_43 = ((-1)) then if w0_69 = ((-9223372036854775808)) then f_X7_multiply_118 y2_14 y4_14 j14 R14_ w0_43 w0_69 M69 else f_X7_multiply_122 y2_14 y4_14 j14 R14_ w0_43 w0_69 M69 else f_X7_multiply_122 y2_14 y4_14 j14 R14_ w0_43 w0_69 M69 else f_X7_multiply_118 y2_14 y4_14 j14 R14_ w0_43 w0_69 M69 else f_X7_multiply_118 y2_14 y4_14 j14 R14_ w0_43 w0_69 M69
def f_X7_multiply_43 (y1_14 : Int32) (y2_14 : Int64) (y4_14 : Int64) (j14 : Nat) (R14_ : Int32 → Int64 → Int64 → Nat → Mem → Mem) (w0_43 : Int64) (M43 : Mem) : Mem := if (irem (nI j14) 2) = 0 then f_X7_multiply_69 y1_14 y2_14 y4_14 j14 R14_ w0_43 (mL M43 54 (ix 17)) M43 else f_X7_multiply_69 y1_14 y2_14 y4_14 j14 R14_ w0_43 (mL M43 55 (ix 17)) M43
def f_X7_multiply_14  : Nat → Int32 → Int64 → Int64 → Nat → Mem → Mem
  | 0, _, _, _, _, M14 => M14
  | n_ + 1, y1_14, y2_14, y4_14, j14, M14 => if 4 ≤ (nI j14) then if y1_14 = 0 then f_X7_multiply_c173 y2_14 y4_14 M14 (f_X7_oddProduct (uL (uL M14 54 (ix 18) y2_14) 55 (ix 18) y4_14)) else f_X7_multiply_204 M14 else if 2 ≤ (nI j14) then f_X7_multiply_43 y1_14 y2_14 y4_14 j14 (f_X7_multiply_14 n_) (mL M14 55 (ix 16)) M14 else f_X7_multiply_43 y1_14 y2_14 y4_14 j14 (f_X7_multiply_14 n_) (mL M14 54 (ix 16)) M14
def f_X7_multiply (M : Mem) : Mem := f_X7_multiply_14  5 0 9223372036854775807 ((-9223372036854775808)) 0 M
abbrev p_X7_multiply (M : Mem) : Option Value → Mem → Prop := fun r N => r = none ∧ N = f_X7_multiply M ∧ Sg M N
set_option maxRecDepth 100000 in
set_option maxHeartbeats 4000000 in
theorem c_X7_multiply (G : Ctx) (l : Launch) (M : Mem) (q : Ok M) (gb : Gb M) : CT G l 3 mX7_multiply [.ref 52] M 0 0 (p_X7_multiply M) := by
  refine CT.of (by decide) (Nat.le_of_ble_eq_true rfl) ?_
  intro X d hd hl hRm hnm F
  subst hl
  have E : f_X7_multiply M = f_X7_multiply M := rfl
  show V G X 13 0 0 (Qx G X 0 0 (p_X7_multiply M)) 0 [(0, .ref 52)] [] M
  refine V.seg F floX7 cjoX7 [.iconst 0, .istore_n 1, .ldc2_w 85, .lstore_n 2, .ldc2_w 83, .lstore 4, .iconst 0] (by decide +kernel) (pc2 := 12) (lv2 := [(4, .long ((-9223372036854775808))), (2, .long 9223372036854775807), (1, .int 0), (0, .ref 52)]) (st2 := [.int 0]) (M2 := M) rfl ⟨trivial, (by decide), trivial, (by decide), trivial, (by decide), trivial, trivial⟩ ?_
  refine V.seg F floX7 cjoX7 [.istore 6] (by decide +kernel) (pc2 := 14) (lv2 := [(6, .int 0), (4, .long ((-9223372036854775808))), (2, .long 9223372036854775807), (1, .int 0), (0, .ref 52)]) (st2 := []) (M2 := M) rfl ⟨(by decide), trivial⟩ ?_
  have hJ14 : ∀ (n_ : Nat) (y1_14 : Int32) (y2_14 : Int64) (y4_14 : Int64) (j14 : Nat) (M14 : Mem), (Sg M M14) → (j14 ≤ 4) → (4 - j14 < n_) → f_X7_multiply M = f_X7_multiply_14 n_ y1_14 y2_14 y4_14 j14 M14 → V G X 13 0 0 (Qx G X 0 0 (p_X7_multiply M)) 14 [(0, .ref 52), (1, .int y1_14), (2, .long y2_14), (4, .long y4_14), (6, .int (nI j14))] [] M14 := by
    intro n_
    induction n_ with
    | zero => intro y1_14 y2_14 y4_14 j14 M14 s14 b14 m14 E; omega
    | succ n_ ih_14 =>
      intro y1_14 y2_14 y4_14 j14 M14 s14 b14 m14 E
      rw [f_X7_multiply_14] at E
      refine V.seg F floX7 cjoX7 [.iload 6, .iconst 4] (by decide +kernel) (pc2 := 17) (lv2 := [(0, .ref 52), (1, .int y1_14), (2, .long y2_14), (4, .long y4_14), (6, .int (nI j14))]) (st2 := [.int 4, .int (nI j14)]) (M2 := M14) rfl ⟨trivial, trivial, trivial⟩ ?_
      refine V.ic_ge (off := 129) F (by decide +kernel) (tgt := 146) (by decide) (fun h17 => ?_) (fun h17 => ?_)
      · replace E := E.trans (if_pos h17)
        refine V.seg F floX7 cjoX7 [.iload_n 1] (by decide +kernel) (pc2 := 147) (lv2 := [(0, .ref 52), (1, .int y1_14), (2, .long y2_14), (4, .long y4_14), (6, .int (nI j14))]) (st2 := [.int y1_14]) (M2 := M14) rfl ⟨trivial, trivial⟩ ?_
        have hJ204 : ∀ (M204 : Mem), (Sg M M204) → f_X7_multiply M = f_X7_multiply_204 M204 → V G X 13 0 0 (Qx G X 0 0 (p_X7_multiply M)) 204 [(0, .ref 52)] [] M204 := by
          intro M204 s204 E
          refine V.seg F floX7 cjoX7 [.aload_n 0, .bipush 22, .lconst 0, .lconst 0, .ldc2_w 87, .lconst 0] (by decide +kernel) (pc2 := 213) (lv2 := [(0, .ref 52)]) (st2 := [.long 0, .long ((-1)), .long 0, .long 0, .int 22, .ref 52]) (M2 := M204) rfl ⟨trivial, trivial, trivial, trivial, trivial, trivial, trivial⟩ ?_
          refine V.callV (as := [.int 22, .long 0, .long 0, .long ((-1)), .long 0]) (rest := []) F (by decide +kernel) lX7_157 bX7_put ⟨7, _, ((q.sm s204.1).o 52 7 rfl), rfl, rfl⟩ (c_X7_put G X.2.1 M204 22 0 0 ((-1)) 0 (q.sm s204.1) s204.2 (vinc (by decide))) (rm_ok hRm hd (by decide) (by decide)) ⟨Nat.zero_le _, Nat.zero_le _⟩ (Nat.le_of_ble_eq_true rfl) (fun r_ N_ p_ => ?_)
          obtain ⟨rfl, rfl, t213⟩ := p_
          refine (?_ : ∀ (M216 : Mem), (Sg M M216) → f_X7_multiply M = f_X7_multiply_c216 M216 → V G X 13 0 0 (Qx G X 0 0 (p_X7_multiply M)) 216 [(0, .ref 52)] [] M216) _ (Sg.tr s204 t213) E
          intro M216 s216 E
          refine V.seg F floX7 cjoX7 [.iconst 0] (by decide +kernel) (pc2 := 217) (lv2 := [(0, .ref 52)]) (st2 := [.int 0]) (M2 := M216) rfl ⟨trivial, trivial⟩ ?_
          refine V.seg F floX7 cjoX7 [.istore 6] (by decide +kernel) (pc2 := 219) (lv2 := [(6, .int 0), (0, .ref 52)]) (st2 := []) (M2 := M216) rfl ⟨(by decide), trivial⟩ ?_
          have hJ219 : ∀ (n_ : Nat) (j219 : Nat) (M219 : Mem), (Sg M M219) → (j219 ≤ 64) → (64 - j219 < n_) → f_X7_multiply M = f_X7_multiply_219 n_ j219 M219 → V G X 13 0 0 (Qx G X 0 0 (p_X7_multiply M)) 219 [(0, .ref 52), (6, .int (nI j219))] [] M219 := by
            intro n_
            induction n_ with
            | zero => intro j219 M219 s219 b219 m219 E; omega
            | succ n_ ih_219 =>
              intro j219 M219 s219 b219 m219 E
              rw [f_X7_multiply_219] at E
              refine V.seg F floX7 cjoX7 [.iload 6, .bipush 64] (by decide +kernel) (pc2 := 223) (lv2 := [(0, .ref 52), (6, .int (nI j219))]) (st2 := [.int 64, .int (nI j219)]) (M2 := M219) rfl ⟨trivial, trivial, trivial⟩ ?_
              refine V.ic_ge (off := 111) F (by decide +kernel) (tgt := 334) (by decide) (fun h223 => ?_) (fun h223 => ?_)
              · replace E := E.trans (if_pos h223)
                refine V.seg F floX7 cjoX7 [.aload_n 0, .getfield 20, .bipush 18, .aload_n 0, .getfield 20, .bipush 22, .laload, .lastore, .aload_n 0, .getfield 23, .bipush 18, .aload_n 0, .getfield 23, .bipush 22, .laload, .lastore] (by decide +kernel) (pc2 := 362) (lv2 := [(0, .ref 52), (6, .int (nI j219))]) (st2 := []) (M2 := uL (uL M219 56 (ix 18) (mL M219 56 (ix 22))) 57 (ix 18) (mL (uL M219 56 (ix 18) (mL M219 56 (ix 22))) 57 (ix 22))) rfl ⟨trivial, ((q.sm s219.1).f 52 7 3 rfl), trivial, trivial, ((q.sm s219.1).f 52 7 3 rfl), trivial, ((q.sm s219.1).a 56 22 1648 rfl (vinc (by decide))), ((q.sm s219.1).a 56 22 1648 rfl (vinc (by decide))), trivial, ((q.sm (Sg.pL s219 (by decide)).1).f 52 7 4 rfl), trivial, trivial, ((q.sm (Sg.pL s219 (by decide)).1).f 52 7 4 rfl), trivial, ((q.sm (Sg.pL s219 (by decide)).1).a 57 22 1648 rfl (vinc (by decide))), ((q.sm (Sg.pL s219 (by decide)).1).a 57 22 1648 rfl (vinc (by decide))), trivial⟩ ?_
                exact V.vret F (by decide +kernel) ⟨rfl, E.symm, (Sg.pL (Sg.pL s219 (by decide)) (by decide))⟩
              · replace E := E.trans (if_neg h223)
                refine V.seg F floX7 cjoX7 [.aload_n 0, .bipush 17, .iload 6] (by decide +kernel) (pc2 := 231) (lv2 := [(0, .ref 52), (6, .int (nI j219))]) (st2 := [.int (nI j219), .int 17, .ref 52]) (M2 := M219) rfl ⟨trivial, trivial, trivial, trivial⟩ ?_
                refine V.callV (as := [.int 17, .int (nI j219)]) (rest := []) F (by decide +kernel) lX7_209 bX7_bit ⟨7, _, ((q.sm s219.1).o 52 7 rfl), rfl, rfl⟩ (c_X7_bit G X.2.1 M219 17 (nI j219) (q.sm s219.1) s219.2 (vinc (by decide))) (rm_ok hRm hd (by decide) (by decide)) ⟨Nat.zero_le _, Nat.zero_le _⟩ (Nat.le_of_ble_eq_true rfl) (fun r_ N_ p_ => ?_)
                obtain ⟨rfl, hN_⟩ := p_
                rw [hN_]
                clear hN_
                refine V.seg F floX7 cjoX7 [.istore 7, .iload 7] (by decide +kernel) (pc2 := 238) (lv2 := [(7, .int (f_X7_bit M219 17 (nI j219))), (0, .ref 52), (6, .int (nI j219))]) (st2 := [.int (f_X7_bit M219 17 (nI j219))]) (M2 := M219) rfl ⟨(by decide), trivial, trivial⟩ ?_
                have hJ328 : ∀ (M328 : Mem), (Sg M M328) → f_X7_multiply M = f_X7_multiply_328 j219 (f_X7_multiply_219 n_) M328 → V G X 13 0 0 (Qx G X 0 0 (p_X7_multiply M)) 328 [(0, .ref 52), (6, .int (nI j219))] [] M328 := by
                  intro M328 s328 E
                  refine V.seg F floX7 cjoX7 [.iinc 6 1, .goto (-112)] (by decide +kernel) (pc2 := 219) (lv2 := [(6, .int ((nI j219) + 1)), (0, .ref 52)]) (st2 := []) (M2 := M328) rfl ⟨(by decide), (by decide), trivial⟩ ?_
                  refine V.pick [1, 0] rfl ?_
                  rw [nI_1]
                  exact ih_219 (j219 + 1) M328 s328 (by have hlt_ := cnt_lt (n := 64) h223 rfl (by omega) (by decide); omega) (by have hlt_ := cnt_lt (n := 64) h223 rfl (by omega) (by decide); omega) E
                refine V.if_le (off := 90) F (by decide +kernel) (tgt := 328) (by decide) (fun h238 => ?_) (fun h238 => ?_)
                · replace E := E.trans (if_pos h238)
                  refine V.pick [1, 2] rfl ?_
                  exact hJ328 M219 s219 E
                · replace E := E.trans (if_neg h238)
                  refine V.seg F floX7 cjoX7 [.aload_n 0, .getfield 20, .bipush 23, .aload_n 0, .getfield 20, .bipush 16, .laload, .iload 6, .lshl, .lconst 1, .iload 6, .lshl, .lconst 1, .lsub, .lor, .lastore, .aload_n 0, .getfield 23, .bipush 23, .aload_n 0, .getfield 23, .bipush 16, .laload, .iload 6, .lshl, .lastore] (by decide +kernel) (pc2 := 282) (lv2 := [(7, .int (f_X7_bit M219 17 (nI j219))), (0, .ref 52), (6, .int (nI j219))]) (st2 := []) (M2 := uL (uL M219 56 (ix 23) ((jshl (mL M219 56 (ix 16)) (nI j219)) ||| ((jshl 1 (nI j219)) - 1))) 57 (ix 23) (jshl (mL (uL M219 56 (ix 23) ((jshl (mL M219 56 (ix 16)) (nI j219)) ||| ((jshl 1 (nI j219)) - 1))) 57 (ix 16)) (nI j219))) rfl ⟨trivial, ((q.sm s219.1).f 52 7 3 rfl), trivial, trivial, ((q.sm s219.1).f 52 7 3 rfl), trivial, ((q.sm s219.1).a 56 22 1648 rfl (vinc (by decide))), trivial, trivial, trivial, trivial, trivial, trivial, trivial, trivial, ((q.sm s219.1).a 56 22 1648 rfl (vinc (by decide))), trivial, ((q.sm (Sg.pL s219 (by decide)).1).f 52 7 4 rfl), trivial, trivial, ((q.sm (Sg.pL s219 (by decide)).1).f 52 7 4 rfl), trivial, ((q.sm (Sg.pL s219 (by decide)).1).a 57 22 1648 rfl (vinc (by decide))), trivial, trivial, ((q.sm (Sg.pL s219 (by decide)).1).a 57 22 1648 rfl (vinc (by decide))), trivial⟩ ?_
                  refine (?_ : ∀ (M282 : Mem), (Sg M M282) → f_X7_multiply M = f_X7_multiply_c282 j219 M219 (f_X7_multiply_219 n_) M282 → V G X 13 0 0 (Qx G X 0 0 (p_X7_multiply M)) 282 [(7, .int (f_X7_bit M219 17 (nI j219))), (0, .ref 52), (6, .int (nI j219))] [] M282) _ (Sg.pL (Sg.pL s219 (by decide)) (by decide)) E
                  intro M282 s282 E
                  refine V.seg F floX7 cjoX7 [.iload 7, .iconst 2] (by decide +kernel) (pc2 := 285) (lv2 := [(7, .int (f_X7_bit M219 17 (nI j219))), (0, .ref 52), (6, .int (nI j219))]) (st2 := [.int 2, .int (f_X7_bit M219 17 (nI j219))]) (M2 := M282) rfl ⟨trivial, trivial, trivial⟩ ?_
                  have hJ317 : ∀ (M317 : Mem), (Sg M M317) → f_X7_multiply M = f_X7_multiply_317 j219 (f_X7_multiply_219 n_) M317 → V G X 13 0 0 (Qx G X 0 0 (p_X7_multiply M)) 317 [(0, .ref 52), (6, .int (nI j219))] [] M317 := by
                    intro M317 s317 E
                    refine V.seg F floX7 cjoX7 [.aload_n 0, .bipush 22, .bipush 23, .iconst 0, .bipush 22] (by decide +kernel) (pc2 := 325) (lv2 := [(0, .ref 52), (6, .int (nI j219))]) (st2 := [.int 22, .int 0, .int 23, .int 22, .ref 52]) (M2 := M317) rfl ⟨trivial, trivial, trivial, trivial, trivial, trivial⟩ ?_
                    refine V.callV (as := [.int 22, .int 23, .int 0, .int 22]) (rest := []) F (by decide +kernel) lX7_216 bX7_ripple ⟨7, _, ((q.sm s317.1).o 52 7 rfl), rfl, rfl⟩ (c_X7_ripple G X.2.1 M317 22 23 0 22 (Or.inl rfl) (q.sm s317.1) s317.2 (vinc (by decide)) (vinc (by decide)) (vinc (by decide))) (rm_ok hRm hd (by decide) (by decide)) ⟨Nat.zero_le _, Nat.zero_le _⟩ (Nat.le_of_ble_eq_true rfl) (fun r_ N_ p_ => ?_)
                    obtain ⟨rfl, rfl, t325⟩ := p_
                    refine (?_ : ∀ (M328 : Mem), (Sg M M328) → f_X7_multiply M = f_X7_multiply_c328 j219 (f_X7_multiply_219 n_) M328 → V G X 13 0 0 (Qx G X 0 0 (p_X7_multiply M)) 328 [(0, .ref 52), (6, .int (nI j219))] [] M328) _ (Sg.tr s317 t325) E
                    intro M328 s328 E
                    refine V.pick [0, 1] rfl ?_
                    exact hJ328 M328 s328 E
                  refine V.ic_ne (off := 32) F (by decide +kernel) (tgt := 317) (by decide) (fun h285 => ?_) (fun h285 => ?_)
                  · replace E := E.trans (if_neg h285)
                    refine V.pick [1, 2] rfl ?_
                    exact hJ317 M282 s282 E
                  · replace E := E.trans (if_pos h285)
                    refine V.seg F floX7 cjoX7 [.aload_n 0, .getfield 20, .bipush 23, .dup2, .laload, .aload_n 0, .getfield 23, .bipush 23, .laload, .ldc2_w 87, .lxor, .land, .lastore, .aload_n 0, .getfield 23, .bipush 23, .lconst 0, .lastore] (by decide +kernel) (pc2 := 317) (lv2 := [(7, .int (f_X7_bit M219 17 (nI j219))), (0, .ref 52), (6, .int (nI j219))]) (st2 := []) (M2 := uL (uL M282 56 (ix 23) ((mL M282 56 (ix 23)) &&& ((mL M282 57 (ix 23)) ^^^ ((-1))))) 57 (ix 23) 0) rfl ⟨trivial, ((q.sm s282.1).f 52 7 3 rfl), trivial, trivial, ((q.sm s282.1).a 56 22 1648 rfl (vinc (by decide))), trivial, ((q.sm s282.1).f 52 7 4 rfl), trivial, ((q.sm s282.1).a 57 22 1648 rfl (vinc (by decide))), trivial, trivial, trivial, ((q.sm s282.1).a 56 22 1648 rfl (vinc (by decide))), trivial, ((q.sm (Sg.pL s282 (by decide)).1).f 52 7 4 rfl), trivial, trivial, ((q.sm (Sg.pL s282 (by decide)).1).a 57 22 1648 rfl (vinc (by decide))), trivial⟩ ?_
                    refine V.pick [1, 2] rfl ?_
                    exact hJ317 (uL (uL M282 56 (ix 23) ((mL M282 56 (ix 23)) &&& ((mL M282 57 (ix 23)) ^^^ ((-1))))) 57 (ix 23) 0) (Sg.pL (Sg.pL s282 (by decide)) (by decide)) E
          refine V.pick [1, 0] rfl ?_
          exact hJ219 _ 0 M216 s216 (by omega) (by omega) E
        refine V.if_ne (off := 57) F (by decide +kernel) (tgt := 204) (by decide) (fun h147 => ?_) (fun h147 => ?_)
        · replace E := E.trans (if_neg h147)
          refine V.pick [0] rfl ?_
          exact hJ204 M14 s14 E
        · replace E := E.trans (if_pos h147)
          refine V.seg F floX7 cjoX7 [.aload_n 0, .getfield 13, .bipush 18, .lload_n 2, .lastore, .aload_n 0, .getfield 17, .bipush 18, .lload 4, .lastore, .aload_n 0] (by decide +kernel) (pc2 := 168) (lv2 := [(0, .ref 52), (1, .int y1_14), (2, .long y2_14), (4, .long y4_14), (6, .int (nI j14))]) (st2 := [.ref 52]) (M2 := uL (uL M14 54 (ix 18) y2_14) 55 (ix 18) y4_14) rfl ⟨trivial, ((q.sm s14.1).f 52 7 1 rfl), trivial, trivial, ((q.sm s14.1).a 54 22 1648 rfl (vinc (by decide))), trivial, ((q.sm (Sg.pL s14 (by decide)).1).f 52 7 2 rfl), trivial, trivial, ((q.sm (Sg.pL s14 (by decide)).1).a 55 22 1648 rfl (vinc (by decide))), trivial, trivial⟩ ?_
          refine V.callV (as := []) (rest := []) F (by decide +kernel) lX7_220 bX7_oddProduct ⟨7, _, ((q.sm (Sg.pL (Sg.pL s14 (by decide)) (by decide)).1).o 52 7 rfl), rfl, rfl⟩ (c_X7_oddProduct G X.2.1 (uL (uL M14 54 (ix 18) y2_14) 55 (ix 18) y4_14) (q.sm (Sg.pL (Sg.pL s14 (by decide)) (by decide)).1) (Sg.pL (Sg.pL s14 (by decide)) (by decide)).2) (rm_ok hRm hd (by decide) (by decide)) ⟨Nat.zero_le _, Nat.zero_le _⟩ (Nat.le_of_ble_eq_true rfl) (fun r_ N_ p_ => ?_)
          obtain ⟨rfl, hN_⟩ := p_
          rw [hN_]
          clear hN_
          refine V.seg F floX7 cjoX7 [.lstore 6] (by decide +kernel) (pc2 := 173) (lv2 := [(6, .long (f_X7_oddProduct (uL (uL M14 54 (ix 18) y2_14) 55 (ix 18) y4_14))), (0, .ref 52), (1, .int y1_14), (2, .long y2_14), (4, .long y4_14)]) (st2 := []) (M2 := uL (uL M14 54 (ix 18) y2_14) 55 (ix 18) y4_14) rfl ⟨(by decide), trivial⟩ ?_
          refine (?_ : ∀ (x173 : Int64), (¬ x173 = 0) → f_X7_multiply M = f_X7_multiply_c173 y2_14 y4_14 M14 x173 → V G X 13 0 0 (Qx G X 0 0 (p_X7_multiply M)) 173 [(6, .long x173), (0, .ref 52), (1, .int y1_14), (2, .long y2_14), (4, .long y4_14)] [] (uL (uL M14 54 (ix 18) y2_14) 55 (ix 18) y4_14)) _ (oddP_ne0 (Sg.pL (Sg.pL s14 (by decide)) (by decide)).2) E
          intro x173 nz_x173 E
          refine V.seg F floX7 cjoX7 [.aload_n 0, .bipush 18, .lload 6, .aload_n 0, .bipush 16] (by decide +kernel) (pc2 := 181) (lv2 := [(6, .long x173), (0, .ref 52), (1, .int y1_14), (2, .long y2_14), (4, .long y4_14)]) (st2 := [.int 16, .ref 52, .long x173, .int 18, .ref 52]) (M2 := uL (uL M14 54 (ix 18) y2_14) 55 (ix 18) y4_14) rfl ⟨trivial, trivial, trivial, trivial, trivial, trivial⟩ ?_
          refine V.callV (as := [.int 16]) (rest := [.long x173, .int 18, .ref 52]) F (by decide +kernel) lX7_137 bX7_restOf ⟨7, _, ((q.sm (Sg.pL (Sg.pL s14 (by decide)) (by decide)).1).o 52 7 rfl), rfl, rfl⟩ (c_X7_restOf G X.2.1 (uL (uL M14 54 (ix 18) y2_14) 55 (ix 18) y4_14) 16 (q.sm (Sg.pL (Sg.pL s14 (by decide)) (by decide)).1) (Sg.pL (Sg.pL s14 (by decide)) (by decide)).2 (vinc (by decide))) (rm_ok hRm hd (by decide) (by decide)) ⟨Nat.zero_le _, Nat.zero_le _⟩ (Nat.le_of_ble_eq_true rfl) (fun r_ N_ p_ => ?_)
          obtain ⟨rfl, hN_⟩ := p_
          rw [hN_]
          clear hN_
          refine V.seg F floX7 cjoX7 [.lload 6] (by decide +kernel) (pc2 := 186) (lv2 := [(6, .long x173), (0, .ref 52), (1, .int y1_14), (2, .long y2_14), (4, .long y4_14)]) (st2 := [.long x173, .long (f_X7_restOf (uL (uL M14 54 (ix 18) y2_14) 55 (ix 18) y4_14) 16), .long x173, .int 18, .ref 52]) (M2 := uL (uL M14 54 (ix 18) y2_14) 55 (ix 18) y4_14) rfl ⟨trivial, trivial⟩ ?_
          refine V.callS (as := [.long (f_X7_restOf (uL (uL M14 54 (ix 18) y2_14) 55 (ix 18) y4_14) 16), .long x173]) (rest := [.long x173, .int 18, .ref 52]) F (by decide +kernel) lX7_93 bX7_rem (c_X7_rem G X.2.1 (uL (uL M14 54 (ix 18) y2_14) 55 (ix 18) y4_14) (f_X7_restOf (uL (uL M14 54 (ix 18) y2_14) 55 (ix 18) y4_14) 16) x173 nz_x173) (rm_ok hRm hd (by decide) (by decide)) ⟨Nat.zero_le _, Nat.zero_le _⟩ (Nat.le_of_ble_eq_true rfl) (fun r_ N_ p_ => ?_)
          obtain ⟨rfl, hN_⟩ := p_
          rw [hN_]
          clear hN_
          refine V.seg F floX7 cjoX7 [.aload_n 0, .bipush 17] (by decide +kernel) (pc2 := 192) (lv2 := [(6, .long x173), (0, .ref 52), (1, .int y1_14), (2, .long y2_14), (4, .long y4_14)]) (st2 := [.int 17, .ref 52, .long (f_X7_rem (f_X7_restOf (uL (uL M14 54 (ix 18) y2_14) 55 (ix 18) y4_14) 16) x173), .long x173, .int 18, .ref 52]) (M2 := uL (uL M14 54 (ix 18) y2_14) 55 (ix 18) y4_14) rfl ⟨trivial, trivial, trivial⟩ ?_
          refine V.callV (as := [.int 17]) (rest := [.long (f_X7_rem (f_X7_restOf (uL (uL M14 54 (ix 18) y2_14) 55 (ix 18) y4_14) 16) x173), .long x173, .int 18, .ref 52]) F (by decide +kernel) lX7_137 bX7_restOf ⟨7, _, ((q.sm (Sg.pL (Sg.pL s14 (by decide)) (by decide)).1).o 52 7 rfl), rfl, rfl⟩ (c_X7_restOf G X.2.1 (uL (uL M14 54 (ix 18) y2_14) 55 (ix 18) y4_14) 17 (q.sm (Sg.pL (Sg.pL s14 (by decide)) (by decide)).1) (Sg.pL (Sg.pL s14 (by decide)) (by decide)).2 (vinc (by decide))) (rm_ok hRm hd (by decide) (by decide)) ⟨Nat.zero_le _, Nat.zero_le _⟩ (Nat.le_of_ble_eq_true rfl) (fun r_ N_ p_ => ?_)
          obtain ⟨rfl, hN_⟩ := p_
          rw [hN_]
          clear hN_
          refine V.seg F floX7 cjoX7 [.lload 6] (by decide +kernel) (pc2 := 197) (lv2 := [(6, .long x173), (0, .ref 52), (1, .int y1_14), (2, .long y2_14), (4, .long y4_14)]) (st2 := [.long x173, .long (f_X7_restOf (uL (uL M14 54 (ix 18) y2_14) 55 (ix 18) y4_14) 17), .long (f_X7_rem (f_X7_restOf (uL (uL M14 54 (ix 18) y2_14) 55 (ix 18) y4_14) 16) x173), .long x173, .int 18, .ref 52]) (M2 := uL (uL M14 54 (ix 18) y2_14) 55 (ix 18) y4_14) rfl ⟨trivial, trivial⟩ ?_
          refine V.callS (as := [.long (f_X7_restOf (uL (uL M14 54 (ix 18) y2_14) 55 (ix 18) y4_14) 17), .long x173]) (rest := [.long (f_X7_rem (f_X7_restOf (uL (uL M14 54 (ix 18) y2_14) 55 (ix 18) y4_14) 16) x173), .long x173, .int 18, .ref 52]) F (by decide +kernel) lX7_93 bX7_rem (c_X7_rem G X.2.1 (uL (uL M14 54 (ix 18) y2_14) 55 (ix 18) y4_14) (f_X7_restOf (uL (uL M14 54 (ix 18) y2_14) 55 (ix 18) y4_14) 17) x173 nz_x173) (rm_ok hRm hd (by decide) (by decide)) ⟨Nat.zero_le _, Nat.zero_le _⟩ (Nat.le_of_ble_eq_true rfl) (fun r_ N_ p_ => ?_)
          obtain ⟨rfl, hN_⟩ := p_
          rw [hN_]
          clear hN_
          refine V.seg F floX7 cjoX7 [.lmul] (by decide +kernel) (pc2 := 201) (lv2 := [(6, .long x173), (0, .ref 52), (1, .int y1_14), (2, .long y2_14), (4, .long y4_14)]) (st2 := [.long ((f_X7_rem (f_X7_restOf (uL (uL M14 54 (ix 18) y2_14) 55 (ix 18) y4_14) 16) x173) * (f_X7_rem (f_X7_restOf (uL (uL M14 54 (ix 18) y2_14) 55 (ix 18) y4_14) 17) x173)), .long x173, .int 18, .ref 52]) (M2 := uL (uL M14 54 (ix 18) y2_14) 55 (ix 18) y4_14) rfl ⟨trivial, trivial⟩ ?_
          refine V.callV (as := [.int 18, .long x173, .long ((f_X7_rem (f_X7_restOf (uL (uL M14 54 (ix 18) y2_14) 55 (ix 18) y4_14) 16) x173) * (f_X7_rem (f_X7_restOf (uL (uL M14 54 (ix 18) y2_14) 55 (ix 18) y4_14) 17) x173))]) (rest := []) F (by decide +kernel) lX7_161 bX7_setRest ⟨7, _, ((q.sm (Sg.pL (Sg.pL s14 (by decide)) (by decide)).1).o 52 7 rfl), rfl, rfl⟩ (c_X7_setRest G X.2.1 (uL (uL M14 54 (ix 18) y2_14) 55 (ix 18) y4_14) 18 x173 ((f_X7_rem (f_X7_restOf (uL (uL M14 54 (ix 18) y2_14) 55 (ix 18) y4_14) 16) x173) * (f_X7_rem (f_X7_restOf (uL (uL M14 54 (ix 18) y2_14) 55 (ix 18) y4_14) 17) x173)) (q.sm (Sg.pL (Sg.pL s14 (by decide)) (by decide)).1) (Sg.pL (Sg.pL s14 (by decide)) (by decide)).2 (vinc (by decide)) nz_x173) (rm_ok hRm hd (by decide) (by decide)) ⟨Nat.zero_le _, Nat.zero_le _⟩ (Nat.le_of_ble_eq_true rfl) (fun r_ N_ p_ => ?_)
          obtain ⟨rfl, rfl, t201⟩ := p_
          refine (?_ : ∀ (M204 : Mem), (Sg M M204) → f_X7_multiply M = f_X7_multiply_c204 M204 → V G X 13 0 0 (Qx G X 0 0 (p_X7_multiply M)) 204 [(6, .long x173), (0, .ref 52), (1, .int y1_14), (2, .long y2_14), (4, .long y4_14)] [] M204) _ (Sg.tr (Sg.pL (Sg.pL s14 (by decide)) (by decide)) t201) E
          intro M204 s204 E
          refine V.pick [1] rfl ?_
          exact hJ204 M204 s204 E
      · replace E := E.trans (if_neg h17)
        refine V.seg F floX7 cjoX7 [.iload 6, .iconst 2] (by decide +kernel) (pc2 := 23) (lv2 := [(0, .ref 52), (1, .int y1_14), (2, .long y2_14), (4, .long y4_14), (6, .int (nI j14))]) (st2 := [.int 2, .int (nI j14)]) (M2 := M14) rfl ⟨trivial, trivial, trivial⟩ ?_
        have hJ43 : ∀ (w0_43 : Int64) (M43 : Mem), (Sg M M43) → f_X7_multiply M = f_X7_multiply_43 y1_14 y2_14 y4_14 j14 (f_X7_multiply_14 n_) w0_43 M43 → V G X 13 0 0 (Qx G X 0 0 (p_X7_multiply M)) 43 [(0, .ref 52), (1, .int y1_14), (2, .long y2_14), (4, .long y4_14), (6, .int (nI j14))] [.long w0_43] M43 := by
          intro w0_43 M43 s43 E
          refine V.seg F floX7 cjoX7 [.lstore 7, .iload 6, .iconst 2, .irem] (by decide +kernel) (pc2 := 49) (lv2 := [(7, .long w0_43), (0, .ref 52), (1, .int y1_14), (2, .long y2_14), (4, .long y4_14), (6, .int (nI j14))]) (st2 := [.int (irem (nI j14) 2)]) (M2 := M43) rfl ⟨(by decide), trivial, trivial, (by decide), trivial⟩ ?_
          have hJ69 : ∀ (w0_69 : Int64) (M69 : Mem), (Sg M M69) → f_X7_multiply M = f_X7_multiply_69 y1_14 y2_14 y4_14 j14 (f_X7_multiply_14 n_) w0_43 w0_69 M69 → V G X 13 0 0 (Qx G X 0 0 (p_X7_multiply M)) 69 [(0, .ref 52), (1, .int y1_14), (2, .long y2_14), (4, .long y4_14), (6, .int (nI j14)), (7, .long w0_43)] [.long w0_69] M69 := by
            intro w0_69 M69 s69 E
            refine V.seg F floX7 cjoX7 [.lstore 9, .lload 7, .lload 9, .lmul, .lstore 11, .iload_n 1] (by decide +kernel) (pc2 := 79) (lv2 := [(11, .long (w0_43 * w0_69)), (9, .long w0_69), (0, .ref 52), (1, .int y1_14), (2, .long y2_14), (4, .long y4_14), (6, .int (nI j14)), (7, .long w0_43)]) (st2 := [.int y1_14]) (M2 := M69) rfl ⟨(by decide), trivial, trivial, trivial, (by decide), trivial, trivial⟩ ?_
            have hJ123 : ∀ (w0_123 : Int32) (M123 : Mem), (Sg M M123) → f_X7_multiply M = f_X7_multiply_123 y2_14 y4_14 j14 (f_X7_multiply_14 n_) w0_43 w0_69 w0_123 M123 → V G X 13 0 0 (Qx G X 0 0 (p_X7_multiply M)) 123 [(0, .ref 52), (2, .long y2_14), (4, .long y4_14), (6, .int (nI j14)), (11, .long (w0_43 * w0_69))] [.int w0_123] M123 := by
              intro w0_123 M123 s123 E
              refine V.seg F floX7 cjoX7 [.istore_n 1, .lload_n 2, .lload 11] (by decide +kernel) (pc2 := 127) (lv2 := [(1, .int w0_123), (0, .ref 52), (2, .long y2_14), (4, .long y4_14), (6, .int (nI j14)), (11, .long (w0_43 * w0_69))]) (st2 := [.long (w0_43 * w0_69), .long y2_14]) (M2 := M123) rfl ⟨(by decide), trivial, trivial, trivial⟩ ?_
              refine V.callS (as := [.long y2_14, .long (w0_43 * w0_69)]) (rest := []) F (by decide +kernel) lX7_151 bX7_less (c_X7_less G X.2.1 M123 y2_14 (w0_43 * w0_69)) (rm_ok hRm hd (by decide) (by decide)) ⟨Nat.zero_le _, Nat.zero_le _⟩ (Nat.le_of_ble_eq_true rfl) (fun r_ N_ p_ => ?_)
              obtain ⟨rfl, hN_⟩ := p_
              rw [hN_]
              clear hN_
              refine V.seg F floX7 cjoX7 [.lstore_n 2, .lload 4, .lload 11] (by decide +kernel) (pc2 := 135) (lv2 := [(2, .long (f_X7_less y2_14 (w0_43 * w0_69))), (1, .int w0_123), (0, .ref 52), (4, .long y4_14), (6, .int (nI j14)), (11, .long (w0_43 * w0_69))]) (st2 := [.long (w0_43 * w0_69), .long y4_14]) (M2 := M123) rfl ⟨(by decide), trivial, trivial, trivial⟩ ?_
              refine V.callS (as := [.long y4_14, .long (w0_43 * w0_69)]) (rest := []) F (by decide +kernel) lX7_154 bX7_more (c_X7_more G X.2.1 M123 y4_14 (w0_43 * w0_69)) (rm_ok hRm hd (by decide) (by decide)) ⟨Nat.zero_le _, Nat.zero_le _⟩ (Nat.le_of_ble_eq_true rfl) (fun r_ N_ p_ => ?_)
              obtain ⟨rfl, hN_⟩ := p_
              rw [hN_]
              clear hN_
              refine V.seg F floX7 cjoX7 [.lstore 4, .iinc 6 1, .goto (-129)] (by decide +kernel) (pc2 := 14) (lv2 := [(6, .int ((nI j14) + 1)), (4, .long (f_X7_more y4_14 (w0_43 * w0_69))), (2, .long (f_X7_less y2_14 (w0_43 * w0_69))), (1, .int w0_123), (0, .ref 52), (11, .long (w0_43 * w0_69))]) (st2 := []) (M2 := M123) rfl ⟨(by decide), (by decide), (by decide), trivial⟩ ?_
              refine V.pick [4, 3, 2, 1, 0] rfl ?_
              rw [nI_1]
              exact ih_14 w0_123 (f_X7_less y2_14 (w0_43 * w0_69)) (f_X7_more y4_14 (w0_43 * w0_69)) (j14 + 1) M123 s123 (by have hlt_ := cnt_lt (n := 4) h17 rfl (by omega) (by decide); omega) (by have hlt_ := cnt_lt (n := 4) h17 rfl (by omega) (by decide); omega) E
            have hJ118 : ∀ (M118 : Mem), (Sg M M118) → f_X7_multiply M = f_X7_multiply_118 y2_14 y4_14 j14 (f_X7_multiply_14 n_) w0_43 w0_69 M118 → V G X 13 0 0 (Qx G X 0 0 (p_X7_multiply M)) 118 [(0, .ref 52), (2, .long y2_14), (4, .long y4_14), (6, .int (nI j14)), (11, .long (w0_43 * w0_69))] [] M118 := by
              intro M118 s118 E
              refine V.seg F floX7 cjoX7 [.iconst 1, .goto 4] (by decide +kernel) (pc2 := 123) (lv2 := [(0, .ref 52), (2, .long y2_14), (4, .long y4_14), (6, .int (nI j14)), (11, .long (w0_43 * w0_69))]) (st2 := [.int 1]) (M2 := M118) rfl ⟨trivial, (by decide), trivial⟩ ?_
              refine V.pick [0, 1, 2, 3, 4] rfl ?_
              exact hJ123 1 M118 s118 E
            refine V.if_ne (off := 39) F (by decide +kernel) (tgt := 118) (by decide) (fun h79 => ?_) (fun h79 => ?_)
            · replace E := E.trans (if_neg h79)
              refine V.pick [2, 4, 5, 6, 0] rfl ?_
              exact hJ118 M69 s69 E
            · replace E := E.trans (if_pos h79)
              refine V.seg F floX7 cjoX7 [.lload 7, .lconst 0, .lcmp] (by decide +kernel) (pc2 := 86) (lv2 := [(11, .long (w0_43 * w0_69)), (9, .long w0_69), (0, .ref 52), (1, .int y1_14), (2, .long y2_14), (4, .long y4_14), (6, .int (nI j14)), (7, .long w0_43)]) (st2 := [.int (lg_cmp w0_43 0)]) (M2 := M69) rfl ⟨trivial, trivial, trivial, trivial⟩ ?_
              have hJ122 : ∀ (M122 : Mem), (Sg M M122) → f_X7_multiply M = f_X7_multiply_122 y2_14 y4_14 j14 (f_X7_multiply_14 n_) w0_43 w0_69 M122 → V G X 13 0 0 (Qx G X 0 0 (p_X7_multiply M)) 122 [(0, .ref 52), (2, .long y2_14), (4, .long y4_14), (6, .int (nI j14)), (11, .long (w0_43 * w0_69))] [] M122 := by
                intro M122 s122 E
                refine V.seg F floX7 cjoX7 [.iconst 0] (by decide +kernel) (pc2 := 123) (lv2 := [(0, .ref 52), (2, .long y2_14), (4, .long y4_14), (6, .int (nI j14)), (11, .long (w0_43 * w0_69))]) (st2 := [.int 0]) (M2 := M122) rfl ⟨trivial, trivial⟩ ?_
                refine V.pick [0, 1, 2, 3, 4] rfl ?_
                exact hJ123 0 M122 s122 E
              refine V.lc_eq (off := 36) F (by decide +kernel) (tgt := 122) (by decide) (fun h86 => ?_) (fun h86 => ?_)
              · replace E := E.trans (if_pos h86)
                refine V.pick [2, 4, 5, 6, 0] rfl ?_
                exact hJ122 M69 s69 E
              · replace E := E.trans (if_neg h86)
                refine V.seg F floX7 cjoX7 [.lload 11, .lload 7, .ldiv, .lload 9, .lcmp] (by decide +kernel) (pc2 := 97) (lv2 := [(11, .long (w0_43 * w0_69)), (9, .long w0_69), (0, .ref 52), (1, .int y1_14), (2, .long y2_14), (4, .long y4_14), (6, .int (nI j14)), (7, .long w0_43)]) (st2 := [.int (lg_cmp ((w0_43 * w0_69) / w0_43) w0_69)]) (M2 := M69) rfl ⟨trivial, trivial, h86, trivial, trivial, trivial⟩ ?_
                refine V.lc_ne (off := 21) F (by decide +kernel) (tgt := 118) (by decide) (fun h97 => ?_) (fun h97 => ?_)
                · replace E := E.trans (if_neg h97)
                  refine V.pick [2, 4, 5, 6, 0] rfl ?_
                  exact hJ118 M69 s69 E
                · replace E := E.trans (if_pos h97)
                  refine V.seg F floX7 cjoX7 [.lload 7, .ldc2_w 87, .lcmp] (by decide +kernel) (pc2 := 106) (lv2 := [(11, .long (w0_43 * w0_69)), (9, .long w0_69), (0, .ref 52), (1, .int y1_14), (2, .long y2_14), (4, .long y4_14), (6, .int (nI j14)), (7, .long w0_43)]) (st2 := [.int (lg_cmp w0_43 ((-1)))]) (M2 := M69) rfl ⟨trivial, trivial, trivial, trivial⟩ ?_
                  refine V.lc_ne (off := 16) F (by decide +kernel) (tgt := 122) (by decide) (fun h106 => ?_) (fun h106 => ?_)
                  · replace E := E.trans (if_neg h106)
                    refine V.pick [2, 4, 5, 6, 0] rfl ?_
                    exact hJ122 M69 s69 E
                  · replace E := E.trans (if_pos h106)
                    refine V.seg F floX7 cjoX7 [.lload 9, .ldc2_w 83, .lcmp] (by decide +kernel) (pc2 := 115) (lv2 := [(11, .long (w0_43 * w0_69)), (9, .long w0_69), (0, .ref 52), (1, .int y1_14), (2, .long y2_14), (4, .long y4_14), (6, .int (nI j14)), (7, .long w0_43)]) (st2 := [.int (lg_cmp w0_69 ((-9223372036854775808)))]) (M2 := M69) rfl ⟨trivial, trivial, trivial, trivial⟩ ?_
                    refine V.lc_ne (off := 7) F (by decide +kernel) (tgt := 122) (by decide) (fun h115 => ?_) (fun h115 => ?_)
                    · replace E := E.trans (if_neg h115)
                      refine V.pick [2, 4, 5, 6, 0] rfl ?_
                      exact hJ122 M69 s69 E
                    · replace E := E.trans (if_pos h115)
                      refine V.pick [2, 4, 5, 6, 0] rfl ?_
                      exact hJ118 M69 s69 E
          refine V.if_ne (off := 13) F (by decide +kernel) (tgt := 62) (by decide) (fun h49 => ?_) (fun h49 => ?_)
          · replace E := E.trans (if_neg h49)
            refine V.seg F floX7 cjoX7 [.aload_n 0, .getfield 17, .bipush 17, .laload] (by decide +kernel) (pc2 := 69) (lv2 := [(7, .long w0_43), (0, .ref 52), (1, .int y1_14), (2, .long y2_14), (4, .long y4_14), (6, .int (nI j14))]) (st2 := [.long (mL M43 55 (ix 17))]) (M2 := M43) rfl ⟨trivial, ((q.sm s43.1).f 52 7 2 rfl), trivial, ((q.sm s43.1).a 55 22 1648 rfl (vinc (by decide))), trivial⟩ ?_
            refine V.pick [1, 2, 3, 4, 5, 0] rfl ?_
            exact hJ69 (mL M43 55 (ix 17)) M43 s43 E
          · replace E := E.trans (if_pos h49)
            refine V.seg F floX7 cjoX7 [.aload_n 0, .getfield 13, .bipush 17, .laload, .goto 10] (by decide +kernel) (pc2 := 69) (lv2 := [(7, .long w0_43), (0, .ref 52), (1, .int y1_14), (2, .long y2_14), (4, .long y4_14), (6, .int (nI j14))]) (st2 := [.long (mL M43 54 (ix 17))]) (M2 := M43) rfl ⟨trivial, ((q.sm s43.1).f 52 7 1 rfl), trivial, ((q.sm s43.1).a 54 22 1648 rfl (vinc (by decide))), (by decide), trivial⟩ ?_
            refine V.pick [1, 2, 3, 4, 5, 0] rfl ?_
            exact hJ69 (mL M43 54 (ix 17)) M43 s43 E
        refine V.ic_ge (off := 13) F (by decide +kernel) (tgt := 36) (by decide) (fun h23 => ?_) (fun h23 => ?_)
        · replace E := E.trans (if_pos h23)
          refine V.seg F floX7 cjoX7 [.aload_n 0, .getfield 17, .bipush 16, .laload] (by decide +kernel) (pc2 := 43) (lv2 := [(0, .ref 52), (1, .int y1_14), (2, .long y2_14), (4, .long y4_14), (6, .int (nI j14))]) (st2 := [.long (mL M14 55 (ix 16))]) (M2 := M14) rfl ⟨trivial, ((q.sm s14.1).f 52 7 2 rfl), trivial, ((q.sm s14.1).a 55 22 1648 rfl (vinc (by decide))), trivial⟩ ?_
          refine V.pick [0, 1, 2, 3, 4] rfl ?_
          exact hJ43 (mL M14 55 (ix 16)) M14 s14 E
        · replace E := E.trans (if_neg h23)
          refine V.seg F floX7 cjoX7 [.aload_n 0, .getfield 13, .bipush 16, .laload, .goto 10] (by decide +kernel) (pc2 := 43) (lv2 := [(0, .ref 52), (1, .int y1_14), (2, .long y2_14), (4, .long y4_14), (6, .int (nI j14))]) (st2 := [.long (mL M14 54 (ix 16))]) (M2 := M14) rfl ⟨trivial, ((q.sm s14.1).f 52 7 1 rfl), trivial, ((q.sm s14.1).a 54 22 1648 rfl (vinc (by decide))), (by decide), trivial⟩ ?_
          refine V.pick [0, 1, 2, 3, 4] rfl ?_
          exact hJ43 (mL M14 54 (ix 16)) M14 s14 E
  refine V.pick [4, 3, 2, 1, 0] rfl ?_
  exact hJ14 _ 0 9223372036854775807 ((-9223372036854775808)) 0 M (Sg.rf gb) (by omega) (by omega) E
def f_X7_move_c433  (M433 : Mem) : Mem := M433
def f_X7_move_427  (M427 : Mem) : Mem := f_X7_move_c433 (f_X7_sharpen M427 20)
def f_X7_move_426  (w0_426 : Int64) (M426 : Mem) : Mem := f_X7_move_427 (uL M426 55 (ix 20) w0_426)
def f_X7_move_398 (c : Nat) (w0_374 : Int32) (w0_398 : Int64) (M398 : Mem) : Mem := if w0_374 = 0 then f_X7_move_426 (jushr ((-1)) (nI c)) (uL M398 54 (ix 20) w0_398) else f_X7_move_426 (jushr (mL (uL M398 54 (ix 20) w0_398) 55 (ix 16)) (nI c)) (uL M398 54 (ix 20) w0_398)
def f_X7_move_374 (c : Nat) (w0_374 : Int32) (M374 : Mem) : Mem := if w0_374 = 0 then f_X7_move_398 c w0_374 0 M374 else f_X7_move_398 c w0_374 (jushr (mL M374 54 (ix 16)) (nI c)) M374
def f_X7_move_366 (c : Nat) (w0_349 : Int32) (w0_366 : Int32) (M366 : Mem) : Mem := if w0_349 = w0_366 then f_X7_move_374 c 1 M366 else f_X7_move_374 c 0 M366
def f_X7_move_349 (c : Nat) (w0_349 : Int32) (M349 : Mem) : Mem := if 0 ≤ (mL M349 55 (ix 16)) then f_X7_move_366 c w0_349 0 M349 else f_X7_move_366 c w0_349 1 M349
def f_X7_move_c332 (c : Nat) (M332 : Mem) : Mem := if 0 ≤ (mL M332 54 (ix 16)) then f_X7_move_349 c 0 M332 else f_X7_move_349 c 1 M332
def f_X7_move_c271 (c : Nat) (M271 : Mem) : Mem := f_X7_move_427 (uL M271 55 (ix 20) (jshr (mL M271 55 (ix 16)) (nI c)))
def f_X7_move_214  (M214 : Mem) : Mem := f_X7_move_427 M214
def f_X7_move_c214  (M214 : Mem) : Mem := f_X7_move_214 M214
def f_X7_move_171 (c : Nat) : Nat → Int64 → Nat → Mem → Mem
  | 0, _, _, M171 => M171
  | n_ + 1, y7_171, j171, M171 => if (nI c) ≤ (nI j171) then f_X7_move_c214 (f_X7_setRest M171 20 (mL M171 58 (ix 16)) y7_171) else (f_X7_move_171 c n_) (jrem (2 * y7_171) (mL M171 58 (ix 16))) (j171 + 1) M171
def f_X7_move_c168 (c : Nat) (x168 : Int64) (M168 : Mem) : Mem := f_X7_move_171 c (c + 1) x168 0 M168
def f_X7_move_c92 (c : Nat) (M92 : Mem) : Mem := if (jshr (jshl (mL M92 54 (ix 16)) (nI c)) (nI c)) = (mL M92 54 (ix 16)) then if (jshr (jshl (mL M92 55 (ix 16)) (nI c)) (nI c)) = (mL M92 55 (ix 16)) then f_X7_move_c168 c (mL (uL (uL M92 54 (ix 20) (jshl (mL M92 54 (ix 16)) (nI c))) 55 (ix 20) (jshl (mL M92 55 (ix 16)) (nI c))) 59 (ix 16)) (uL (uL M92 54 (ix 20) (jshl (mL M92 54 (ix 16)) (nI c))) 55 (ix 20) (jshl (mL M92 55 (ix 16)) (nI c))) else f_X7_move_214 M92 else f_X7_move_214 M92
def f_X7_move_c48 (op : Int32) (c : Nat) (M48 : Mem) : Mem := if op = 6 then f_X7_move_c92 c (uL (uL M48 56 (ix 20) ((jshl (mL M48 56 (ix 16)) (nI c)) ||| ((jshl 1 (nI c)) - 1))) 57 (ix 20) (jshl (mL (uL M48 56 (ix 20) ((jshl (mL M48 56 (ix 16)) (nI c)) ||| ((jshl 1 (nI c)) - 1))) 57 (ix 16)) (nI c))) else if op = 7 then f_X7_move_c271 c (uL (uL (uL M48 56 (ix 20) (jshr (mL M48 56 (ix 16)) (nI c))) 57 (ix 20) (jshr (mL (uL M48 56 (ix 20) (jshr (mL M48 56 (ix 16)) (nI c))) 57 (ix 16)) (nI c))) 54 (ix 20) (jshr (mL (uL (uL M48 56 (ix 20) (jshr (mL M48 56 (ix 16)) (nI c))) 57 (ix 20) (jshr (mL (uL M48 56 (ix 20) (jshr (mL M48 56 (ix 16)) (nI c))) 57 (ix 16)) (nI c))) 54 (ix 16)) (nI c))) else f_X7_move_c332 c (uL (uL M48 56 (ix 20) ((jushr (mL M48 56 (ix 16)) (nI c)) ||| ((jushr ((-1)) (nI c)) ^^^ ((-1))))) 57 (ix 20) (jushr (mL (uL M48 56 (ix 20) ((jushr (mL M48 56 (ix 16)) (nI c)) ||| ((jushr ((-1)) (nI c)) ^^^ ((-1))))) 57 (ix 16)) (nI c)))
def f_X7_move_c41  (M41 : Mem) : Mem := M41
def f_X7_move_c12  (M12 : Mem) : Mem := M12
def f_X7_move (M : Mem) (op : Int32) (c : Nat) : Mem := if (nI c) = 0 then f_X7_move_c12 (f_X7_copy M 20 16) else if (f_X7_isNumber M 16) = 0 then f_X7_move_c48 op c (f_X7_all M 20) else f_X7_move_c41 (f_X7_number M 20 (f_X7_reckon op (mL M 54 (ix 16)) (Int32.toInt64 (nI c))))
abbrev p_X7_move (M : Mem) (op : Int32) (c : Nat) : Option Value → Mem → Prop := fun r N => r = none ∧ N = f_X7_move M op c ∧ Sg M N
set_option maxRecDepth 100000 in
set_option maxHeartbeats 4000000 in
theorem c_X7_move (G : Ctx) (l : Launch) (M : Mem) (op : Int32) (c : Nat) (b_c : c < 64) (q : Ok M) (gb : Gb M) (hop : ¬ (op = 9 ∨ op = 10)) : CT G l 4 mX7_move [.ref 52, .int op, .int (nI c)] M 0 0 (p_X7_move M op c) := by
  refine CT.of (by decide) (Nat.le_of_ble_eq_true rfl) ?_
  intro X d hd hl hRm hnm F
  subst hl
  have E : f_X7_move M op c = f_X7_move M op c := rfl
  show V G X 10 0 0 (Qx G X 0 0 (p_X7_move M op c)) 0 [(0, .ref 52), (1, .int op), (2, .int (nI c))] [] M
  refine V.seg F floX7 cjoX7 [.iload_n 2] (by decide +kernel) (pc2 := 1) (lv2 := [(0, .ref 52), (1, .int op), (2, .int (nI c))]) (st2 := [.int (nI c)]) (M2 := M) rfl ⟨trivial, trivial⟩ ?_
  refine V.if_ne (off := 12) F (by decide +kernel) (tgt := 13) (by decide) (fun h1 => ?_) (fun h1 => ?_)
  · replace E := E.trans (if_neg h1)
    refine V.seg F floX7 cjoX7 [.aload_n 0, .bipush 16] (by decide +kernel) (pc2 := 16) (lv2 := [(0, .ref 52), (1, .int op), (2, .int (nI c))]) (st2 := [.int 16, .ref 52]) (M2 := M) rfl ⟨trivial, trivial, trivial⟩ ?_
    refine V.callV (as := [.int 16]) (rest := []) F (by decide +kernel) lX7_130 bX7_isNumber ⟨7, _, (q.o 52 7 rfl), rfl, rfl⟩ (c_X7_isNumber G X.2.1 M 16 q gb (vinc (by decide))) (rm_ok hRm hd (by decide) (by decide)) ⟨Nat.zero_le _, Nat.zero_le _⟩ (Nat.le_of_ble_eq_true rfl) (fun r_ N_ p_ => ?_)
    obtain ⟨rfl, hN_, z16⟩ := p_
    rw [hN_]
    clear hN_
    refine V.if_eq (off := 23) F (by decide +kernel) (tgt := 42) (by decide) (fun h19 => ?_) (fun h19 => ?_)
    · replace E := E.trans (if_pos h19)
      refine V.seg F floX7 cjoX7 [.aload_n 0, .bipush 20] (by decide +kernel) (pc2 := 45) (lv2 := [(0, .ref 52), (1, .int op), (2, .int (nI c))]) (st2 := [.int 20, .ref 52]) (M2 := M) rfl ⟨trivial, trivial, trivial⟩ ?_
      refine V.callV (as := [.int 20]) (rest := []) F (by decide +kernel) lX7_79 bX7_all ⟨7, _, (q.o 52 7 rfl), rfl, rfl⟩ (c_X7_all G X.2.1 M 20 q gb (vinc (by decide))) (rm_ok hRm hd (by decide) (by decide)) ⟨Nat.zero_le _, Nat.zero_le _⟩ (Nat.le_of_ble_eq_true rfl) (fun r_ N_ p_ => ?_)
      obtain ⟨rfl, rfl, t45⟩ := p_
      refine (?_ : ∀ (M48 : Mem), (Sg M M48) → f_X7_move M op c = f_X7_move_c48 op c M48 → V G X 10 0 0 (Qx G X 0 0 (p_X7_move M op c)) 48 [(0, .ref 52), (1, .int op), (2, .int (nI c))] [] M48) _ t45 E
      intro M48 s48 E
      refine V.seg F floX7 cjoX7 [.iload_n 1, .bipush 6] (by decide +kernel) (pc2 := 51) (lv2 := [(0, .ref 52), (1, .int op), (2, .int (nI c))]) (st2 := [.int 6, .int op]) (M2 := M48) rfl ⟨trivial, trivial, trivial⟩ ?_
      have hJ427 : ∀ (M427 : Mem), (Sg M M427) → f_X7_move M op c = f_X7_move_427 M427 → V G X 10 0 0 (Qx G X 0 0 (p_X7_move M op c)) 427 [(0, .ref 52)] [] M427 := by
        intro M427 s427 E
        refine V.seg F floX7 cjoX7 [.aload_n 0, .bipush 20] (by decide +kernel) (pc2 := 430) (lv2 := [(0, .ref 52)]) (st2 := [.int 20, .ref 52]) (M2 := M427) rfl ⟨trivial, trivial, trivial⟩ ?_
        refine V.callV (as := [.int 20]) (rest := []) F (by decide +kernel) lX7_165 bX7_sharpen ⟨7, _, ((q.sm s427.1).o 52 7 rfl), rfl, rfl⟩ (c_X7_sharpen G X.2.1 M427 20 (q.sm s427.1) s427.2 (vinc (by decide))) (rm_ok hRm hd (by decide) (by decide)) ⟨Nat.zero_le _, Nat.zero_le _⟩ (Nat.le_of_ble_eq_true rfl) (fun r_ N_ p_ => ?_)
        obtain ⟨rfl, rfl, t430⟩ := p_
        refine (?_ : ∀ (M433 : Mem), (Sg M M433) → f_X7_move M op c = f_X7_move_c433 M433 → V G X 10 0 0 (Qx G X 0 0 (p_X7_move M op c)) 433 [(0, .ref 52)] [] M433) _ (Sg.tr s427 t430) E
        intro M433 s433 E
        exact V.vret F (by decide +kernel) ⟨rfl, E.symm, s433⟩
      refine V.ic_ne (off := 166) F (by decide +kernel) (tgt := 217) (by decide) (fun h51 => ?_) (fun h51 => ?_)
      · replace E := E.trans (if_neg h51)
        refine V.seg F floX7 cjoX7 [.iload_n 1, .bipush 7] (by decide +kernel) (pc2 := 220) (lv2 := [(0, .ref 52), (1, .int op), (2, .int (nI c))]) (st2 := [.int 7, .int op]) (M2 := M48) rfl ⟨trivial, trivial, trivial⟩ ?_
        refine V.ic_ne (off := 70) F (by decide +kernel) (tgt := 290) (by decide) (fun h220 => ?_) (fun h220 => ?_)
        · replace E := E.trans (if_neg h220)
          refine V.seg F floX7 cjoX7 [.aload_n 0, .getfield 20, .bipush 20, .aload_n 0, .getfield 20, .bipush 16, .laload, .iload_n 2, .lushr, .ldc2_w 87, .iload_n 2, .lushr, .ldc2_w 87, .lxor, .lor, .lastore, .aload_n 0, .getfield 23, .bipush 20, .aload_n 0, .getfield 23, .bipush 16, .laload, .iload_n 2, .lushr, .lastore] (by decide +kernel) (pc2 := 332) (lv2 := [(0, .ref 52), (1, .int op), (2, .int (nI c))]) (st2 := []) (M2 := uL (uL M48 56 (ix 20) ((jushr (mL M48 56 (ix 16)) (nI c)) ||| ((jushr ((-1)) (nI c)) ^^^ ((-1))))) 57 (ix 20) (jushr (mL (uL M48 56 (ix 20) ((jushr (mL M48 56 (ix 16)) (nI c)) ||| ((jushr ((-1)) (nI c)) ^^^ ((-1))))) 57 (ix 16)) (nI c))) rfl ⟨trivial, ((q.sm s48.1).f 52 7 3 rfl), trivial, trivial, ((q.sm s48.1).f 52 7 3 rfl), trivial, ((q.sm s48.1).a 56 22 1648 rfl (vinc (by decide))), trivial, trivial, trivial, trivial, trivial, trivial, trivial, trivial, ((q.sm s48.1).a 56 22 1648 rfl (vinc (by decide))), trivial, ((q.sm (Sg.pL s48 (by decide)).1).f 52 7 4 rfl), trivial, trivial, ((q.sm (Sg.pL s48 (by decide)).1).f 52 7 4 rfl), trivial, ((q.sm (Sg.pL s48 (by decide)).1).a 57 22 1648 rfl (vinc (by decide))), trivial, trivial, ((q.sm (Sg.pL s48 (by decide)).1).a 57 22 1648 rfl (vinc (by decide))), trivial⟩ ?_
          refine (?_ : ∀ (M332 : Mem), (Sg M M332) → f_X7_move M op c = f_X7_move_c332 c M332 → V G X 10 0 0 (Qx G X 0 0 (p_X7_move M op c)) 332 [(0, .ref 52), (1, .int op), (2, .int (nI c))] [] M332) _ (Sg.pL (Sg.pL s48 (by decide)) (by decide)) E
          intro M332 s332 E
          refine V.seg F floX7 cjoX7 [.aload_n 0, .getfield 13, .bipush 16, .laload, .lconst 0, .lcmp] (by decide +kernel) (pc2 := 341) (lv2 := [(0, .ref 52), (1, .int op), (2, .int (nI c))]) (st2 := [.int (lg_cmp (mL M332 54 (ix 16)) 0)]) (M2 := M332) rfl ⟨trivial, ((q.sm s332.1).f 52 7 1 rfl), trivial, ((q.sm s332.1).a 54 22 1648 rfl (vinc (by decide))), trivial, trivial, trivial⟩ ?_
          have hJ349 : ∀ (w0_349 : Int32) (M349 : Mem), (Sg M M349) → f_X7_move M op c = f_X7_move_349 c w0_349 M349 → V G X 10 0 0 (Qx G X 0 0 (p_X7_move M op c)) 349 [(0, .ref 52), (2, .int (nI c))] [.int w0_349] M349 := by
            intro w0_349 M349 s349 E
            refine V.seg F floX7 cjoX7 [.aload_n 0, .getfield 17, .bipush 16, .laload, .lconst 0, .lcmp] (by decide +kernel) (pc2 := 358) (lv2 := [(0, .ref 52), (2, .int (nI c))]) (st2 := [.int (lg_cmp (mL M349 55 (ix 16)) 0), .int w0_349]) (M2 := M349) rfl ⟨trivial, ((q.sm s349.1).f 52 7 2 rfl), trivial, ((q.sm s349.1).a 55 22 1648 rfl (vinc (by decide))), trivial, trivial, trivial⟩ ?_
            have hJ366 : ∀ (w0_366 : Int32) (M366 : Mem), (Sg M M366) → f_X7_move M op c = f_X7_move_366 c w0_349 w0_366 M366 → V G X 10 0 0 (Qx G X 0 0 (p_X7_move M op c)) 366 [(0, .ref 52), (2, .int (nI c))] [.int w0_366, .int w0_349] M366 := by
              intro w0_366 M366 s366 E
              have hJ374 : ∀ (w0_374 : Int32) (M374 : Mem), (Sg M M374) → f_X7_move M op c = f_X7_move_374 c w0_374 M374 → V G X 10 0 0 (Qx G X 0 0 (p_X7_move M op c)) 374 [(0, .ref 52), (2, .int (nI c))] [.int w0_374] M374 := by
                intro w0_374 M374 s374 E
                refine V.seg F floX7 cjoX7 [.istore_n 3, .aload_n 0, .getfield 13, .bipush 20, .iload_n 3] (by decide +kernel) (pc2 := 382) (lv2 := [(3, .int w0_374), (0, .ref 52), (2, .int (nI c))]) (st2 := [.int w0_374, .int 20, .ref 54]) (M2 := M374) rfl ⟨(by decide), trivial, ((q.sm s374.1).f 52 7 1 rfl), trivial, trivial, trivial⟩ ?_
                have hJ398 : ∀ (w0_398 : Int64) (M398 : Mem), (Sg M M398) → f_X7_move M op c = f_X7_move_398 c w0_374 w0_398 M398 → V G X 10 0 0 (Qx G X 0 0 (p_X7_move M op c)) 398 [(0, .ref 52), (2, .int (nI c)), (3, .int w0_374)] [.long w0_398, .int 20, .ref 54] M398 := by
                  intro w0_398 M398 s398 E
                  refine V.seg F floX7 cjoX7 [.lastore, .aload_n 0, .getfield 17, .bipush 20, .iload_n 3] (by decide +kernel) (pc2 := 406) (lv2 := [(0, .ref 52), (2, .int (nI c)), (3, .int w0_374)]) (st2 := [.int w0_374, .int 20, .ref 55]) (M2 := uL M398 54 (ix 20) w0_398) rfl ⟨((q.sm s398.1).a 54 22 1648 rfl (vinc (by decide))), trivial, ((q.sm (Sg.pL s398 (by decide)).1).f 52 7 2 rfl), trivial, trivial, trivial⟩ ?_
                  have hJ426 : ∀ (w0_426 : Int64) (M426 : Mem), (Sg M M426) → f_X7_move M op c = f_X7_move_426 w0_426 M426 → V G X 10 0 0 (Qx G X 0 0 (p_X7_move M op c)) 426 [(0, .ref 52)] [.long w0_426, .int 20, .ref 55] M426 := by
                    intro w0_426 M426 s426 E
                    refine V.seg F floX7 cjoX7 [.lastore] (by decide +kernel) (pc2 := 427) (lv2 := [(0, .ref 52)]) (st2 := []) (M2 := uL M426 55 (ix 20) w0_426) rfl ⟨((q.sm s426.1).a 55 22 1648 rfl (vinc (by decide))), trivial⟩ ?_
                    refine V.pick [0] rfl ?_
                    exact hJ427 (uL M426 55 (ix 20) w0_426) (Sg.pL s426 (by decide)) E
                  refine V.if_eq (off := 15) F (by decide +kernel) (tgt := 421) (by decide) (fun h406 => ?_) (fun h406 => ?_)
                  · replace E := E.trans (if_pos h406)
                    refine V.seg F floX7 cjoX7 [.ldc2_w 87, .iload_n 2, .lushr] (by decide +kernel) (pc2 := 426) (lv2 := [(0, .ref 52), (2, .int (nI c)), (3, .int w0_374)]) (st2 := [.long (jushr ((-1)) (nI c)), .int 20, .ref 55]) (M2 := uL M398 54 (ix 20) w0_398) rfl ⟨trivial, trivial, trivial, trivial⟩ ?_
                    refine V.pick [0] rfl ?_
                    exact hJ426 (jushr ((-1)) (nI c)) (uL M398 54 (ix 20) w0_398) (Sg.pL s398 (by decide)) E
                  · replace E := E.trans (if_neg h406)
                    refine V.seg F floX7 cjoX7 [.aload_n 0, .getfield 17, .bipush 16, .laload, .iload_n 2, .lushr, .goto 8] (by decide +kernel) (pc2 := 426) (lv2 := [(0, .ref 52), (2, .int (nI c)), (3, .int w0_374)]) (st2 := [.long (jushr (mL (uL M398 54 (ix 20) w0_398) 55 (ix 16)) (nI c)), .int 20, .ref 55]) (M2 := uL M398 54 (ix 20) w0_398) rfl ⟨trivial, ((q.sm (Sg.pL s398 (by decide)).1).f 52 7 2 rfl), trivial, ((q.sm (Sg.pL s398 (by decide)).1).a 55 22 1648 rfl (vinc (by decide))), trivial, trivial, (by decide), trivial⟩ ?_
                    refine V.pick [0] rfl ?_
                    exact hJ426 (jushr (mL (uL M398 54 (ix 20) w0_398) 55 (ix 16)) (nI c)) (uL M398 54 (ix 20) w0_398) (Sg.pL s398 (by decide)) E
                refine V.if_eq (off := 15) F (by decide +kernel) (tgt := 397) (by decide) (fun h382 => ?_) (fun h382 => ?_)
                · replace E := E.trans (if_pos h382)
                  refine V.seg F floX7 cjoX7 [.lconst 0] (by decide +kernel) (pc2 := 398) (lv2 := [(3, .int w0_374), (0, .ref 52), (2, .int (nI c))]) (st2 := [.long 0, .int 20, .ref 54]) (M2 := M374) rfl ⟨trivial, trivial⟩ ?_
                  refine V.pick [1, 2, 0] rfl ?_
                  exact hJ398 0 M374 s374 E
                · replace E := E.trans (if_neg h382)
                  refine V.seg F floX7 cjoX7 [.aload_n 0, .getfield 13, .bipush 16, .laload, .iload_n 2, .lushr, .goto 4] (by decide +kernel) (pc2 := 398) (lv2 := [(3, .int w0_374), (0, .ref 52), (2, .int (nI c))]) (st2 := [.long (jushr (mL M374 54 (ix 16)) (nI c)), .int 20, .ref 54]) (M2 := M374) rfl ⟨trivial, ((q.sm s374.1).f 52 7 1 rfl), trivial, ((q.sm s374.1).a 54 22 1648 rfl (vinc (by decide))), trivial, trivial, (by decide), trivial⟩ ?_
                  refine V.pick [1, 2, 0] rfl ?_
                  exact hJ398 (jushr (mL M374 54 (ix 16)) (nI c)) M374 s374 E
              refine V.ic_ne (off := 7) F (by decide +kernel) (tgt := 373) (by decide) (fun h366 => ?_) (fun h366 => ?_)
              · replace E := E.trans (if_neg h366)
                refine V.seg F floX7 cjoX7 [.iconst 0] (by decide +kernel) (pc2 := 374) (lv2 := [(0, .ref 52), (2, .int (nI c))]) (st2 := [.int 0]) (M2 := M366) rfl ⟨trivial, trivial⟩ ?_
                refine V.pick [0, 1] rfl ?_
                exact hJ374 0 M366 s366 E
              · replace E := E.trans (if_pos h366)
                refine V.seg F floX7 cjoX7 [.iconst 1, .goto 4] (by decide +kernel) (pc2 := 374) (lv2 := [(0, .ref 52), (2, .int (nI c))]) (st2 := [.int 1]) (M2 := M366) rfl ⟨trivial, (by decide), trivial⟩ ?_
                refine V.pick [0, 1] rfl ?_
                exact hJ374 1 M366 s366 E
            refine V.lc_ge (off := 7) F (by decide +kernel) (tgt := 365) (by decide) (fun h358 => ?_) (fun h358 => ?_)
            · replace E := E.trans (if_pos h358)
              refine V.seg F floX7 cjoX7 [.iconst 0] (by decide +kernel) (pc2 := 366) (lv2 := [(0, .ref 52), (2, .int (nI c))]) (st2 := [.int 0, .int w0_349]) (M2 := M349) rfl ⟨trivial, trivial⟩ ?_
              refine V.pick [0, 1] rfl ?_
              exact hJ366 0 M349 s349 E
            · replace E := E.trans (if_neg h358)
              refine V.seg F floX7 cjoX7 [.iconst 1, .goto 4] (by decide +kernel) (pc2 := 366) (lv2 := [(0, .ref 52), (2, .int (nI c))]) (st2 := [.int 1, .int w0_349]) (M2 := M349) rfl ⟨trivial, (by decide), trivial⟩ ?_
              refine V.pick [0, 1] rfl ?_
              exact hJ366 1 M349 s349 E
          refine V.lc_ge (off := 7) F (by decide +kernel) (tgt := 348) (by decide) (fun h341 => ?_) (fun h341 => ?_)
          · replace E := E.trans (if_pos h341)
            refine V.seg F floX7 cjoX7 [.iconst 0] (by decide +kernel) (pc2 := 349) (lv2 := [(0, .ref 52), (1, .int op), (2, .int (nI c))]) (st2 := [.int 0]) (M2 := M332) rfl ⟨trivial, trivial⟩ ?_
            refine V.pick [0, 2] rfl ?_
            exact hJ349 0 M332 s332 E
          · replace E := E.trans (if_neg h341)
            refine V.seg F floX7 cjoX7 [.iconst 1, .goto 4] (by decide +kernel) (pc2 := 349) (lv2 := [(0, .ref 52), (1, .int op), (2, .int (nI c))]) (st2 := [.int 1]) (M2 := M332) rfl ⟨trivial, (by decide), trivial⟩ ?_
            refine V.pick [0, 2] rfl ?_
            exact hJ349 1 M332 s332 E
        · replace E := E.trans (if_pos h220)
          refine V.seg F floX7 cjoX7 [.aload_n 0, .getfield 20, .bipush 20, .aload_n 0, .getfield 20, .bipush 16, .laload, .iload_n 2, .lshr, .lastore, .aload_n 0, .getfield 23, .bipush 20, .aload_n 0, .getfield 23, .bipush 16, .laload, .iload_n 2, .lshr, .lastore, .aload_n 0, .getfield 13, .bipush 20, .aload_n 0, .getfield 13, .bipush 16, .laload, .iload_n 2, .lshr, .lastore] (by decide +kernel) (pc2 := 271) (lv2 := [(0, .ref 52), (1, .int op), (2, .int (nI c))]) (st2 := []) (M2 := uL (uL (uL M48 56 (ix 20) (jshr (mL M48 56 (ix 16)) (nI c))) 57 (ix 20) (jshr (mL (uL M48 56 (ix 20) (jshr (mL M48 56 (ix 16)) (nI c))) 57 (ix 16)) (nI c))) 54 (ix 20) (jshr (mL (uL (uL M48 56 (ix 20) (jshr (mL M48 56 (ix 16)) (nI c))) 57 (ix 20) (jshr (mL (uL M48 56 (ix 20) (jshr (mL M48 56 (ix 16)) (nI c))) 57 (ix 16)) (nI c))) 54 (ix 16)) (nI c))) rfl ⟨trivial, ((q.sm s48.1).f 52 7 3 rfl), trivial, trivial, ((q.sm s48.1).f 52 7 3 rfl), trivial, ((q.sm s48.1).a 56 22 1648 rfl (vinc (by decide))), trivial, trivial, ((q.sm s48.1).a 56 22 1648 rfl (vinc (by decide))), trivial, ((q.sm (Sg.pL s48 (by decide)).1).f 52 7 4 rfl), trivial, trivial, ((q.sm (Sg.pL s48 (by decide)).1).f 52 7 4 rfl), trivial, ((q.sm (Sg.pL s48 (by decide)).1).a 57 22 1648 rfl (vinc (by decide))), trivial, trivial, ((q.sm (Sg.pL s48 (by decide)).1).a 57 22 1648 rfl (vinc (by decide))), trivial, ((q.sm (Sg.pL (Sg.pL s48 (by decide)) (by decide)).1).f 52 7 1 rfl), trivial, trivial, ((q.sm (Sg.pL (Sg.pL s48 (by decide)) (by decide)).1).f 52 7 1 rfl), trivial, ((q.sm (Sg.pL (Sg.pL s48 (by decide)) (by decide)).1).a 54 22 1648 rfl (vinc (by decide))), trivial, trivial, ((q.sm (Sg.pL (Sg.pL s48 (by decide)) (by decide)).1).a 54 22 1648 rfl (vinc (by decide))), trivial⟩ ?_
          refine (?_ : ∀ (M271 : Mem), (Sg M M271) → f_X7_move M op c = f_X7_move_c271 c M271 → V G X 10 0 0 (Qx G X 0 0 (p_X7_move M op c)) 271 [(0, .ref 52), (1, .int op), (2, .int (nI c))] [] M271) _ (Sg.pL (Sg.pL (Sg.pL s48 (by decide)) (by decide)) (by decide)) E
          intro M271 s271 E
          refine V.seg F floX7 cjoX7 [.aload_n 0, .getfield 17, .bipush 20, .aload_n 0, .getfield 17, .bipush 16, .laload, .iload_n 2, .lshr, .lastore, .goto 140] (by decide +kernel) (pc2 := 427) (lv2 := [(0, .ref 52), (1, .int op), (2, .int (nI c))]) (st2 := []) (M2 := uL M271 55 (ix 20) (jshr (mL M271 55 (ix 16)) (nI c))) rfl ⟨trivial, ((q.sm s271.1).f 52 7 2 rfl), trivial, trivial, ((q.sm s271.1).f 52 7 2 rfl), trivial, ((q.sm s271.1).a 55 22 1648 rfl (vinc (by decide))), trivial, trivial, ((q.sm s271.1).a 55 22 1648 rfl (vinc (by decide))), (by decide), trivial⟩ ?_
          refine V.pick [0] rfl ?_
          exact hJ427 (uL M271 55 (ix 20) (jshr (mL M271 55 (ix 16)) (nI c))) (Sg.pL s271 (by decide)) E
      · replace E := E.trans (if_pos h51)
        refine V.seg F floX7 cjoX7 [.aload_n 0, .getfield 20, .bipush 20, .aload_n 0, .getfield 20, .bipush 16, .laload, .iload_n 2, .lshl, .lconst 1, .iload_n 2, .lshl, .lconst 1, .lsub, .lor, .lastore, .aload_n 0, .getfield 23, .bipush 20, .aload_n 0, .getfield 23, .bipush 16, .laload, .iload_n 2, .lshl, .lastore] (by decide +kernel) (pc2 := 92) (lv2 := [(0, .ref 52), (1, .int op), (2, .int (nI c))]) (st2 := []) (M2 := uL (uL M48 56 (ix 20) ((jshl (mL M48 56 (ix 16)) (nI c)) ||| ((jshl 1 (nI c)) - 1))) 57 (ix 20) (jshl (mL (uL M48 56 (ix 20) ((jshl (mL M48 56 (ix 16)) (nI c)) ||| ((jshl 1 (nI c)) - 1))) 57 (ix 16)) (nI c))) rfl ⟨trivial, ((q.sm s48.1).f 52 7 3 rfl), trivial, trivial, ((q.sm s48.1).f 52 7 3 rfl), trivial, ((q.sm s48.1).a 56 22 1648 rfl (vinc (by decide))), trivial, trivial, trivial, trivial, trivial, trivial, trivial, trivial, ((q.sm s48.1).a 56 22 1648 rfl (vinc (by decide))), trivial, ((q.sm (Sg.pL s48 (by decide)).1).f 52 7 4 rfl), trivial, trivial, ((q.sm (Sg.pL s48 (by decide)).1).f 52 7 4 rfl), trivial, ((q.sm (Sg.pL s48 (by decide)).1).a 57 22 1648 rfl (vinc (by decide))), trivial, trivial, ((q.sm (Sg.pL s48 (by decide)).1).a 57 22 1648 rfl (vinc (by decide))), trivial⟩ ?_
        refine (?_ : ∀ (M92 : Mem), (Sg M M92) → f_X7_move M op c = f_X7_move_c92 c M92 → V G X 10 0 0 (Qx G X 0 0 (p_X7_move M op c)) 92 [(0, .ref 52), (1, .int op), (2, .int (nI c))] [] M92) _ (Sg.pL (Sg.pL s48 (by decide)) (by decide)) E
        intro M92 s92 E
        refine V.seg F floX7 cjoX7 [.aload_n 0, .getfield 13, .bipush 16, .laload, .iload_n 2, .lshl, .lstore_n 3, .aload_n 0, .getfield 17, .bipush 16, .laload, .iload_n 2, .lshl, .lstore 5, .lload_n 3, .iload_n 2, .lshr, .aload_n 0, .getfield 13, .bipush 16, .laload, .lcmp] (by decide +kernel) (pc2 := 124) (lv2 := [(5, .long (jshl (mL M92 55 (ix 16)) (nI c))), (3, .long (jshl (mL M92 54 (ix 16)) (nI c))), (0, .ref 52), (1, .int op), (2, .int (nI c))]) (st2 := [.int (lg_cmp (jshr (jshl (mL M92 54 (ix 16)) (nI c)) (nI c)) (mL M92 54 (ix 16)))]) (M2 := M92) rfl ⟨trivial, ((q.sm s92.1).f 52 7 1 rfl), trivial, ((q.sm s92.1).a 54 22 1648 rfl (vinc (by decide))), trivial, trivial, (by decide), trivial, ((q.sm s92.1).f 52 7 2 rfl), trivial, ((q.sm s92.1).a 55 22 1648 rfl (vinc (by decide))), trivial, trivial, (by decide), trivial, trivial, trivial, trivial, ((q.sm s92.1).f 52 7 1 rfl), trivial, ((q.sm s92.1).a 54 22 1648 rfl (vinc (by decide))), trivial, trivial⟩ ?_
        have hJ214 : ∀ (M214 : Mem), (Sg M M214) → f_X7_move M op c = f_X7_move_214 M214 → V G X 10 0 0 (Qx G X 0 0 (p_X7_move M op c)) 214 [(0, .ref 52)] [] M214 := by
          intro M214 s214 E
          refine V.seg F floX7 cjoX7 [.goto 213] (by decide +kernel) (pc2 := 427) (lv2 := [(0, .ref 52)]) (st2 := []) (M2 := M214) rfl ⟨(by decide), trivial⟩ ?_
          refine V.pick [0] rfl ?_
          exact hJ427 M214 s214 E
        refine V.lc_ne (off := 90) F (by decide +kernel) (tgt := 214) (by decide) (fun h124 => ?_) (fun h124 => ?_)
        · replace E := E.trans (if_neg h124)
          refine V.pick [2] rfl ?_
          exact hJ214 M92 s92 E
        · replace E := E.trans (if_pos h124)
          refine V.seg F floX7 cjoX7 [.lload 5, .iload_n 2, .lshr, .aload_n 0, .getfield 17, .bipush 16, .laload, .lcmp] (by decide +kernel) (pc2 := 139) (lv2 := [(5, .long (jshl (mL M92 55 (ix 16)) (nI c))), (3, .long (jshl (mL M92 54 (ix 16)) (nI c))), (0, .ref 52), (1, .int op), (2, .int (nI c))]) (st2 := [.int (lg_cmp (jshr (jshl (mL M92 55 (ix 16)) (nI c)) (nI c)) (mL M92 55 (ix 16)))]) (M2 := M92) rfl ⟨trivial, trivial, trivial, trivial, ((q.sm s92.1).f 52 7 2 rfl), trivial, ((q.sm s92.1).a 55 22 1648 rfl (vinc (by decide))), trivial, trivial⟩ ?_
          refine V.lc_ne (off := 75) F (by decide +kernel) (tgt := 214) (by decide) (fun h139 => ?_) (fun h139 => ?_)
          · replace E := E.trans (if_neg h139)
            refine V.pick [2] rfl ?_
            exact hJ214 M92 s92 E
          · replace E := E.trans (if_pos h139)
            refine V.seg F floX7 cjoX7 [.aload_n 0, .getfield 13, .bipush 20, .lload_n 3, .lastore, .aload_n 0, .getfield 17, .bipush 20, .lload 5, .lastore, .aload_n 0, .getfield 29, .bipush 16, .laload, .lstore 7] (by decide +kernel) (pc2 := 168) (lv2 := [(7, .long (mL (uL (uL M92 54 (ix 20) (jshl (mL M92 54 (ix 16)) (nI c))) 55 (ix 20) (jshl (mL M92 55 (ix 16)) (nI c))) 59 (ix 16))), (5, .long (jshl (mL M92 55 (ix 16)) (nI c))), (3, .long (jshl (mL M92 54 (ix 16)) (nI c))), (0, .ref 52), (1, .int op), (2, .int (nI c))]) (st2 := []) (M2 := uL (uL M92 54 (ix 20) (jshl (mL M92 54 (ix 16)) (nI c))) 55 (ix 20) (jshl (mL M92 55 (ix 16)) (nI c))) rfl ⟨trivial, ((q.sm s92.1).f 52 7 1 rfl), trivial, trivial, ((q.sm s92.1).a 54 22 1648 rfl (vinc (by decide))), trivial, ((q.sm (Sg.pL s92 (by decide)).1).f 52 7 2 rfl), trivial, trivial, ((q.sm (Sg.pL s92 (by decide)).1).a 55 22 1648 rfl (vinc (by decide))), trivial, ((q.sm (Sg.pL (Sg.pL s92 (by decide)) (by decide)).1).f 52 7 6 rfl), trivial, ((q.sm (Sg.pL (Sg.pL s92 (by decide)) (by decide)).1).a 59 22 1648 rfl (vinc (by decide))), (by decide), trivial⟩ ?_
            refine (?_ : ∀ (x168 : Int64) (M168 : Mem), (Sg M M168) → f_X7_move M op c = f_X7_move_c168 c x168 M168 → V G X 10 0 0 (Qx G X 0 0 (p_X7_move M op c)) 168 [(7, .long x168), (5, .long (jshl (mL M92 55 (ix 16)) (nI c))), (3, .long (jshl (mL M92 54 (ix 16)) (nI c))), (0, .ref 52), (1, .int op), (2, .int (nI c))] [] M168) _ _ (Sg.pL (Sg.pL s92 (by decide)) (by decide)) E
            intro x168 M168 s168 E
            refine V.seg F floX7 cjoX7 [.iconst 0] (by decide +kernel) (pc2 := 169) (lv2 := [(7, .long x168), (5, .long (jshl (mL M92 55 (ix 16)) (nI c))), (3, .long (jshl (mL M92 54 (ix 16)) (nI c))), (0, .ref 52), (1, .int op), (2, .int (nI c))]) (st2 := [.int 0]) (M2 := M168) rfl ⟨trivial, trivial⟩ ?_
            refine V.seg F floX7 cjoX7 [.istore 9] (by decide +kernel) (pc2 := 171) (lv2 := [(9, .int 0), (7, .long x168), (5, .long (jshl (mL M92 55 (ix 16)) (nI c))), (3, .long (jshl (mL M92 54 (ix 16)) (nI c))), (0, .ref 52), (1, .int op), (2, .int (nI c))]) (st2 := []) (M2 := M168) rfl ⟨(by decide), trivial⟩ ?_
            have hJ171 : ∀ (n_ : Nat) (y7_171 : Int64) (j171 : Nat) (M171 : Mem), (Sg M M171) → (j171 ≤ c) → (c - j171 < n_) → f_X7_move M op c = f_X7_move_171 c n_ y7_171 j171 M171 → V G X 10 0 0 (Qx G X 0 0 (p_X7_move M op c)) 171 [(0, .ref 52), (2, .int (nI c)), (7, .long y7_171), (9, .int (nI j171))] [] M171 := by
              intro n_
              induction n_ with
              | zero => intro y7_171 j171 M171 s171 b171 m171 E; omega
              | succ n_ ih_171 =>
                intro y7_171 j171 M171 s171 b171 m171 E
                rw [f_X7_move_171] at E
                refine V.seg F floX7 cjoX7 [.iload 9, .iload_n 2] (by decide +kernel) (pc2 := 174) (lv2 := [(0, .ref 52), (2, .int (nI c)), (7, .long y7_171), (9, .int (nI j171))]) (st2 := [.int (nI c), .int (nI j171)]) (M2 := M171) rfl ⟨trivial, trivial, trivial⟩ ?_
                refine V.ic_ge (off := 25) F (by decide +kernel) (tgt := 199) (by decide) (fun h174 => ?_) (fun h174 => ?_)
                · replace E := E.trans (if_pos h174)
                  refine V.seg F floX7 cjoX7 [.aload_n 0, .bipush 20, .aload_n 0, .getfield 26, .bipush 16, .laload, .lload 7] (by decide +kernel) (pc2 := 211) (lv2 := [(0, .ref 52), (2, .int (nI c)), (7, .long y7_171), (9, .int (nI j171))]) (st2 := [.long y7_171, .long (mL M171 58 (ix 16)), .int 20, .ref 52]) (M2 := M171) rfl ⟨trivial, trivial, trivial, ((q.sm s171.1).f 52 7 5 rfl), trivial, ((q.sm s171.1).a 58 22 1648 rfl (vinc (by decide))), trivial, trivial⟩ ?_
                  refine V.callV (as := [.int 20, .long (mL M171 58 (ix 16)), .long y7_171]) (rest := []) F (by decide +kernel) lX7_161 bX7_setRest ⟨7, _, ((q.sm s171.1).o 52 7 rfl), rfl, rfl⟩ (c_X7_setRest G X.2.1 M171 20 (mL M171 58 (ix 16)) y7_171 (q.sm s171.1) s171.2 (vinc (by decide)) (s171.2 _ (vin_lt (vinc (by decide))))) (rm_ok hRm hd (by decide) (by decide)) ⟨Nat.zero_le _, Nat.zero_le _⟩ (Nat.le_of_ble_eq_true rfl) (fun r_ N_ p_ => ?_)
                  obtain ⟨rfl, rfl, t211⟩ := p_
                  refine (?_ : ∀ (M214 : Mem), (Sg M M214) → f_X7_move M op c = f_X7_move_c214 M214 → V G X 10 0 0 (Qx G X 0 0 (p_X7_move M op c)) 214 [(0, .ref 52), (2, .int (nI c)), (7, .long y7_171), (9, .int (nI j171))] [] M214) _ (Sg.tr s171 t211) E
                  intro M214 s214 E
                  refine V.pick [0] rfl ?_
                  exact hJ214 M214 s214 E
                · replace E := E.trans (if_neg h174)
                  refine V.seg F floX7 cjoX7 [.ldc2_w 233, .lload 7, .lmul, .aload_n 0, .getfield 26, .bipush 16, .laload, .lrem, .lstore 7, .iinc 9 1, .goto (-25)] (by decide +kernel) (pc2 := 171) (lv2 := [(9, .int ((nI j171) + 1)), (7, .long (jrem (2 * y7_171) (mL M171 58 (ix 16)))), (0, .ref 52), (2, .int (nI c))]) (st2 := []) (M2 := M171) rfl ⟨trivial, trivial, trivial, trivial, ((q.sm s171.1).f 52 7 5 rfl), trivial, ((q.sm s171.1).a 58 22 1648 rfl (vinc (by decide))), (s171.2 _ (vin_lt (vinc (by decide)))), (by decide), (by decide), (by decide), trivial⟩ ?_
                  refine V.pick [2, 3, 1, 0] rfl ?_
                  rw [nI_1]
                  exact ih_171 (jrem (2 * y7_171) (mL M171 58 (ix 16))) (j171 + 1) M171 s171 (by have hlt_ := cnt_lt (n := c) h174 rfl (by omega) (by omega); omega) (by have hlt_ := cnt_lt (n := c) h174 rfl (by omega) (by omega); omega) E
            refine V.pick [4, 6, 1, 0] rfl ?_
            exact hJ171 _ x168 0 M168 s168 (by omega) (by omega) E
    · replace E := E.trans (if_neg h19)
      refine V.seg F floX7 cjoX7 [.aload_n 0, .bipush 20, .iload_n 1, .aload_n 0, .getfield 13, .bipush 16, .laload, .iload_n 2, .i2l] (by decide +kernel) (pc2 := 35) (lv2 := [(0, .ref 52), (1, .int op), (2, .int (nI c))]) (st2 := [.long (Int32.toInt64 (nI c)), .long (mL M 54 (ix 16)), .int op, .int 20, .ref 52]) (M2 := M) rfl ⟨trivial, trivial, trivial, trivial, (q.f 52 7 1 rfl), trivial, (q.a 54 22 1648 rfl (vinc (by decide))), trivial, trivial, trivial⟩ ?_
      refine V.callS (as := [.int op, .long (mL M 54 (ix 16)), .long (Int32.toInt64 (nI c))]) (rest := [.int 20, .ref 52]) F (by decide +kernel) lX7_183 bX7_reckon (c_X7_reckon G X.2.1 M op (mL M 54 (ix 16)) (Int32.toInt64 (nI c)) (fun z => absurd z hop)) (rm_ok hRm hd (by decide) (by decide)) ⟨Nat.zero_le _, Nat.zero_le _⟩ (Nat.le_of_ble_eq_true rfl) (fun r_ N_ p_ => ?_)
      obtain ⟨rfl, hN_⟩ := p_
      rw [hN_]
      clear hN_
      refine V.callV (as := [.int 20, .long (f_X7_reckon op (mL M 54 (ix 16)) (Int32.toInt64 (nI c)))]) (rest := []) F (by decide +kernel) lX7_118 bX7_number ⟨7, _, (q.o 52 7 rfl), rfl, rfl⟩ (c_X7_number G X.2.1 M 20 (f_X7_reckon op (mL M 54 (ix 16)) (Int32.toInt64 (nI c))) q gb (vinc (by decide))) (rm_ok hRm hd (by decide) (by decide)) ⟨Nat.zero_le _, Nat.zero_le _⟩ (Nat.le_of_ble_eq_true rfl) (fun r_ N_ p_ => ?_)
      obtain ⟨rfl, rfl, t38⟩ := p_
      refine (?_ : ∀ (M41 : Mem), (Sg M M41) → f_X7_move M op c = f_X7_move_c41 M41 → V G X 10 0 0 (Qx G X 0 0 (p_X7_move M op c)) 41 [(0, .ref 52), (1, .int op), (2, .int (nI c))] [] M41) _ t38 E
      intro M41 s41 E
      exact V.vret F (by decide +kernel) ⟨rfl, E.symm, s41⟩
  · replace E := E.trans (if_pos h1)
    refine V.seg F floX7 cjoX7 [.aload_n 0, .bipush 20, .bipush 16] (by decide +kernel) (pc2 := 9) (lv2 := [(0, .ref 52), (1, .int op), (2, .int (nI c))]) (st2 := [.int 16, .int 20, .ref 52]) (M2 := M) rfl ⟨trivial, trivial, trivial, trivial⟩ ?_
    refine V.callV (as := [.int 20, .int 16]) (rest := []) F (by decide +kernel) lX7_133 bX7_copy ⟨7, _, (q.o 52 7 rfl), rfl, rfl⟩ (c_X7_copy G X.2.1 M 20 16 q gb (vinc (by decide)) (vinc (by decide))) (rm_ok hRm hd (by decide) (by decide)) ⟨Nat.zero_le _, Nat.zero_le _⟩ (Nat.le_of_ble_eq_true rfl) (fun r_ N_ p_ => ?_)
    obtain ⟨rfl, rfl, t9⟩ := p_
    refine (?_ : ∀ (M12 : Mem), (Sg M M12) → f_X7_move M op c = f_X7_move_c12 M12 → V G X 10 0 0 (Qx G X 0 0 (p_X7_move M op c)) 12 [(0, .ref 52), (1, .int op), (2, .int (nI c))] [] M12) _ t9 E
    intro M12 s12 E
    exact V.vret F (by decide +kernel) ⟨rfl, E.symm, s12⟩
def f_X7_shift_c146  (M146 : Mem) : Mem := M146
def f_X7_shift_132 (j73 : Nat) (R73_ : Nat → Mem → Mem) (M132 : Mem) : Mem := R73_ (j73 + 1) M132
def f_X7_shift_c132 (j73 : Nat) (R73_ : Nat → Mem → Mem) (M132 : Mem) : Mem := f_X7_shift_132 j73 R73_ M132
def f_X7_shift_c124 (j73 : Nat) (R73_ : Nat → Mem → Mem) (M124 : Mem) : Mem := f_X7_shift_c132 j73 R73_ (f_X7_copy M124 19 25)
def f_X7_shift_c114 (j73 : Nat) (R73_ : Nat → Mem → Mem) (M114 : Mem) : Mem := f_X7_shift_c124 j73 R73_ (f_X7_join M114 19 20 25)
def f_X7_shift_73 (op : Int32) : Nat → Nat → Mem → Mem
  | 0, _, M73 => M73
  | n_ + 1, j73, M73 => if 64 ≤ (nI j73) then f_X7_shift_c146 (f_X7_copy M73 18 19) else if (((Int32.toInt64 (nI j73)) &&& (mL M73 56 (ix 17))) &&& 63) = ((mL M73 57 (ix 17)) &&& 63) then f_X7_shift_c114 j73 (f_X7_shift_73 op n_) (f_X7_move M73 op j73) else f_X7_shift_132 j73 (f_X7_shift_73 op n_) M73
def f_X7_shift_c71 (op : Int32) (M71 : Mem) : Mem := f_X7_shift_73 op 65 0 M71
def f_X7_shift_45 (y2_4 : Int32) (j4 : Nat) (R4_ : Int32 → Nat → Mem → Mem) (w0_45 : Int32) (M45 : Mem) : Mem := R4_ (y2_4 + w0_45) (j4 + 1) M45
def f_X7_shift_4 (op : Int32) : Nat → Int32 → Nat → Mem → Mem
  | 0, _, _, M4 => M4
  | n_ + 1, y2_4, j4, M4 => if 64 ≤ (nI j4) then if y2_4 ≤ 8 then f_X7_shift_c71 op (f_X7_nothing M4 19) else uI M4 52 8 1 else if (((Int32.toInt64 (nI j4)) &&& (mL M4 56 (ix 17))) &&& 63) = ((mL M4 57 (ix 17)) &&& 63) then f_X7_shift_45 y2_4 j4 (f_X7_shift_4 op n_) 1 M4 else f_X7_shift_45 y2_4 j4 (f_X7_shift_4 op n_) 0 M4
def f_X7_shift (M : Mem) (op : Int32) : Mem := f_X7_shift_4 op 65 0 0 M
abbrev p_X7_shift (M : Mem) (op : Int32) : Option Value → Mem → Prop := fun r N => r = none ∧ N = f_X7_shift M op ∧ Sg M N
set_option maxRecDepth 100000 in
set_option maxHeartbeats 4000000 in
theorem c_X7_shift (G : Ctx) (l : Launch) (M : Mem) (op : Int32) (q : Ok M) (gb : Gb M) (hop : ¬ (op = 9 ∨ op = 10)) : CT G l 5 mX7_shift [.ref 52, .int op] M 0 0 (p_X7_shift M op) := by
  refine CT.of (by decide) (Nat.le_of_ble_eq_true rfl) ?_
  intro X d hd hl hRm hnm F
  subst hl
  have E : f_X7_shift M op = f_X7_shift M op := rfl
  show V G X 4 0 0 (Qx G X 0 0 (p_X7_shift M op)) 0 [(0, .ref 52), (1, .int op)] [] M
  refine V.seg F floX7 cjoX7 [.iconst 0, .istore_n 2, .iconst 0] (by decide +kernel) (pc2 := 3) (lv2 := [(2, .int 0), (0, .ref 52), (1, .int op)]) (st2 := [.int 0]) (M2 := M) rfl ⟨trivial, (by decide), trivial, trivial⟩ ?_
  refine V.seg F floX7 cjoX7 [.istore_n 3] (by decide +kernel) (pc2 := 4) (lv2 := [(3, .int 0), (2, .int 0), (0, .ref 52), (1, .int op)]) (st2 := []) (M2 := M) rfl ⟨(by decide), trivial⟩ ?_
  have hJ4 : ∀ (n_ : Nat) (y2_4 : Int32) (j4 : Nat) (M4 : Mem), (Sg M M4) → (j4 ≤ 64) → (64 - j4 < n_) → f_X7_shift M op = f_X7_shift_4 op n_ y2_4 j4 M4 → V G X 4 0 0 (Qx G X 0 0 (p_X7_shift M op)) 4 [(0, .ref 52), (1, .int op), (2, .int y2_4), (3, .int (nI j4))] [] M4 := by
    intro n_
    induction n_ with
    | zero => intro y2_4 j4 M4 s4 b4 m4 E; omega
    | succ n_ ih_4 =>
      intro y2_4 j4 M4 s4 b4 m4 E
      rw [f_X7_shift_4] at E
      refine V.seg F floX7 cjoX7 [.iload_n 3, .bipush 64] (by decide +kernel) (pc2 := 7) (lv2 := [(0, .ref 52), (1, .int op), (2, .int y2_4), (3, .int (nI j4))]) (st2 := [.int 64, .int (nI j4)]) (M2 := M4) rfl ⟨trivial, trivial, trivial⟩ ?_
      refine V.ic_ge (off := 46) F (by decide +kernel) (tgt := 53) (by decide) (fun h7 => ?_) (fun h7 => ?_)
      · replace E := E.trans (if_pos h7)
        refine V.seg F floX7 cjoX7 [.iload_n 2, .bipush 8] (by decide +kernel) (pc2 := 56) (lv2 := [(0, .ref 52), (1, .int op), (2, .int y2_4), (3, .int (nI j4))]) (st2 := [.int 8, .int y2_4]) (M2 := M4) rfl ⟨trivial, trivial, trivial⟩ ?_
        refine V.ic_le (off := 9) F (by decide +kernel) (tgt := 65) (by decide) (fun h56 => ?_) (fun h56 => ?_)
        · replace E := E.trans (if_pos h56)
          refine V.seg F floX7 cjoX7 [.aload_n 0, .bipush 19] (by decide +kernel) (pc2 := 68) (lv2 := [(0, .ref 52), (1, .int op), (2, .int y2_4), (3, .int (nI j4))]) (st2 := [.int 19, .ref 52]) (M2 := M4) rfl ⟨trivial, trivial, trivial⟩ ?_
          refine V.callV (as := [.int 19]) (rest := []) F (by decide +kernel) lX7_115 bX7_nothing ⟨7, _, ((q.sm s4.1).o 52 7 rfl), rfl, rfl⟩ (c_X7_nothing G X.2.1 M4 19 (q.sm s4.1) s4.2 (vinc (by decide))) (rm_ok hRm hd (by decide) (by decide)) ⟨Nat.zero_le _, Nat.zero_le _⟩ (Nat.le_of_ble_eq_true rfl) (fun r_ N_ p_ => ?_)
          obtain ⟨rfl, rfl, t68⟩ := p_
          refine (?_ : ∀ (M71 : Mem), (Sg M M71) → f_X7_shift M op = f_X7_shift_c71 op M71 → V G X 4 0 0 (Qx G X 0 0 (p_X7_shift M op)) 71 [(0, .ref 52), (1, .int op), (2, .int y2_4), (3, .int (nI j4))] [] M71) _ (Sg.tr s4 t68) E
          intro M71 s71 E
          refine V.seg F floX7 cjoX7 [.iconst 0] (by decide +kernel) (pc2 := 72) (lv2 := [(0, .ref 52), (1, .int op), (2, .int y2_4), (3, .int (nI j4))]) (st2 := [.int 0]) (M2 := M71) rfl ⟨trivial, trivial⟩ ?_
          refine V.seg F floX7 cjoX7 [.istore_n 3] (by decide +kernel) (pc2 := 73) (lv2 := [(3, .int 0), (0, .ref 52), (1, .int op), (2, .int y2_4)]) (st2 := []) (M2 := M71) rfl ⟨(by decide), trivial⟩ ?_
          have hJ73 : ∀ (n_ : Nat) (j73 : Nat) (M73 : Mem), (Sg M M73) → (j73 ≤ 64) → (64 - j73 < n_) → f_X7_shift M op = f_X7_shift_73 op n_ j73 M73 → V G X 4 0 0 (Qx G X 0 0 (p_X7_shift M op)) 73 [(0, .ref 52), (1, .int op), (3, .int (nI j73))] [] M73 := by
            intro n_
            induction n_ with
            | zero => intro j73 M73 s73 b73 m73 E; omega
            | succ n_ ih_73 =>
              intro j73 M73 s73 b73 m73 E
              rw [f_X7_shift_73] at E
              refine V.seg F floX7 cjoX7 [.iload_n 3, .bipush 64] (by decide +kernel) (pc2 := 76) (lv2 := [(0, .ref 52), (1, .int op), (3, .int (nI j73))]) (st2 := [.int 64, .int (nI j73)]) (M2 := M73) rfl ⟨trivial, trivial, trivial⟩ ?_
              refine V.ic_ge (off := 62) F (by decide +kernel) (tgt := 138) (by decide) (fun h76 => ?_) (fun h76 => ?_)
              · replace E := E.trans (if_pos h76)
                refine V.seg F floX7 cjoX7 [.aload_n 0, .bipush 18, .bipush 19] (by decide +kernel) (pc2 := 143) (lv2 := [(0, .ref 52), (1, .int op), (3, .int (nI j73))]) (st2 := [.int 19, .int 18, .ref 52]) (M2 := M73) rfl ⟨trivial, trivial, trivial, trivial⟩ ?_
                refine V.callV (as := [.int 18, .int 19]) (rest := []) F (by decide +kernel) lX7_133 bX7_copy ⟨7, _, ((q.sm s73.1).o 52 7 rfl), rfl, rfl⟩ (c_X7_copy G X.2.1 M73 18 19 (q.sm s73.1) s73.2 (vinc (by decide)) (vinc (by decide))) (rm_ok hRm hd (by decide) (by decide)) ⟨Nat.zero_le _, Nat.zero_le _⟩ (Nat.le_of_ble_eq_true rfl) (fun r_ N_ p_ => ?_)
                obtain ⟨rfl, rfl, t143⟩ := p_
                refine (?_ : ∀ (M146 : Mem), (Sg M M146) → f_X7_shift M op = f_X7_shift_c146 M146 → V G X 4 0 0 (Qx G X 0 0 (p_X7_shift M op)) 146 [(0, .ref 52), (1, .int op), (3, .int (nI j73))] [] M146) _ (Sg.tr s73 t143) E
                intro M146 s146 E
                exact V.vret F (by decide +kernel) ⟨rfl, E.symm, s146⟩
              · replace E := E.trans (if_neg h76)
                refine V.seg F floX7 cjoX7 [.iload_n 3, .i2l, .aload_n 0, .getfield 20, .bipush 17, .laload, .land, .ldc2_w 224, .land, .aload_n 0, .getfield 23, .bipush 17, .laload, .ldc2_w 224, .land, .lcmp] (by decide +kernel) (pc2 := 105) (lv2 := [(0, .ref 52), (1, .int op), (3, .int (nI j73))]) (st2 := [.int (lg_cmp (((Int32.toInt64 (nI j73)) &&& (mL M73 56 (ix 17))) &&& 63) ((mL M73 57 (ix 17)) &&& 63))]) (M2 := M73) rfl ⟨trivial, trivial, trivial, ((q.sm s73.1).f 52 7 3 rfl), trivial, ((q.sm s73.1).a 56 22 1648 rfl (vinc (by decide))), trivial, trivial, trivial, trivial, ((q.sm s73.1).f 52 7 4 rfl), trivial, ((q.sm s73.1).a 57 22 1648 rfl (vinc (by decide))), trivial, trivial, trivial, trivial⟩ ?_
                have hJ132 : ∀ (M132 : Mem), (Sg M M132) → f_X7_shift M op = f_X7_shift_132 j73 (f_X7_shift_73 op n_) M132 → V G X 4 0 0 (Qx G X 0 0 (p_X7_shift M op)) 132 [(0, .ref 52), (1, .int op), (3, .int (nI j73))] [] M132 := by
                  intro M132 s132 E
                  refine V.seg F floX7 cjoX7 [.iinc 3 1, .goto (-62)] (by decide +kernel) (pc2 := 73) (lv2 := [(3, .int ((nI j73) + 1)), (0, .ref 52), (1, .int op)]) (st2 := []) (M2 := M132) rfl ⟨(by decide), (by decide), trivial⟩ ?_
                  refine V.pick [1, 2, 0] rfl ?_
                  rw [nI_1]
                  exact ih_73 (j73 + 1) M132 s132 (by have hlt_ := cnt_lt (n := 64) h76 rfl (by omega) (by decide); omega) (by have hlt_ := cnt_lt (n := 64) h76 rfl (by omega) (by decide); omega) E
                refine V.lc_ne (off := 27) F (by decide +kernel) (tgt := 132) (by decide) (fun h105 => ?_) (fun h105 => ?_)
                · replace E := E.trans (if_neg h105)
                  refine V.pick [0, 1, 2] rfl ?_
                  exact hJ132 M73 s73 E
                · replace E := E.trans (if_pos h105)
                  refine V.seg F floX7 cjoX7 [.aload_n 0, .iload_n 1, .iload_n 3] (by decide +kernel) (pc2 := 111) (lv2 := [(0, .ref 52), (1, .int op), (3, .int (nI j73))]) (st2 := [.int (nI j73), .int op, .ref 52]) (M2 := M73) rfl ⟨trivial, trivial, trivial, trivial⟩ ?_
                  refine V.callV (as := [.int op, .int (nI j73)]) (rest := []) F (by decide +kernel) lX7_226 bX7_move ⟨7, _, ((q.sm s73.1).o 52 7 rfl), rfl, rfl⟩ (c_X7_move G X.2.1 M73 op j73 (by have hlt_ := cnt_lt (n := 64) h76 rfl (by omega) (by decide); omega) (q.sm s73.1) s73.2 (by first | assumption | decide)) (rm_ok hRm hd (by decide) (by decide)) ⟨Nat.zero_le _, Nat.zero_le _⟩ (Nat.le_of_ble_eq_true rfl) (fun r_ N_ p_ => ?_)
                  obtain ⟨rfl, rfl, t111⟩ := p_
                  refine (?_ : ∀ (M114 : Mem), (Sg M M114) → f_X7_shift M op = f_X7_shift_c114 j73 (f_X7_shift_73 op n_) M114 → V G X 4 0 0 (Qx G X 0 0 (p_X7_shift M op)) 114 [(0, .ref 52), (1, .int op), (3, .int (nI j73))] [] M114) _ (Sg.tr s73 t111) E
                  intro M114 s114 E
                  refine V.seg F floX7 cjoX7 [.aload_n 0, .bipush 19, .bipush 20, .bipush 25] (by decide +kernel) (pc2 := 121) (lv2 := [(0, .ref 52), (1, .int op), (3, .int (nI j73))]) (st2 := [.int 25, .int 20, .int 19, .ref 52]) (M2 := M114) rfl ⟨trivial, trivial, trivial, trivial, trivial⟩ ?_
                  refine V.callV (as := [.int 19, .int 20, .int 25]) (rest := []) F (by decide +kernel) lX7_229 bX7_join ⟨7, _, ((q.sm s114.1).o 52 7 rfl), rfl, rfl⟩ (c_X7_join G X.2.1 M114 19 20 25 (q.sm s114.1) s114.2 (vinc (by decide)) (vinc (by decide)) (vinc (by decide))) (rm_ok hRm hd (by decide) (by decide)) ⟨Nat.zero_le _, Nat.zero_le _⟩ (Nat.le_of_ble_eq_true rfl) (fun r_ N_ p_ => ?_)
                  obtain ⟨rfl, rfl, t121⟩ := p_
                  refine (?_ : ∀ (M124 : Mem), (Sg M M124) → f_X7_shift M op = f_X7_shift_c124 j73 (f_X7_shift_73 op n_) M124 → V G X 4 0 0 (Qx G X 0 0 (p_X7_shift M op)) 124 [(0, .ref 52), (1, .int op), (3, .int (nI j73))] [] M124) _ (Sg.tr s114 t121) E
                  intro M124 s124 E
                  refine V.seg F floX7 cjoX7 [.aload_n 0, .bipush 19, .bipush 25] (by decide +kernel) (pc2 := 129) (lv2 := [(0, .ref 52), (1, .int op), (3, .int (nI j73))]) (st2 := [.int 25, .int 19, .ref 52]) (M2 := M124) rfl ⟨trivial, trivial, trivial, trivial⟩ ?_
                  refine V.callV (as := [.int 19, .int 25]) (rest := []) F (by decide +kernel) lX7_133 bX7_copy ⟨7, _, ((q.sm s124.1).o 52 7 rfl), rfl, rfl⟩ (c_X7_copy G X.2.1 M124 19 25 (q.sm s124.1) s124.2 (vinc (by decide)) (vinc (by decide))) (rm_ok hRm hd (by decide) (by decide)) ⟨Nat.zero_le _, Nat.zero_le _⟩ (Nat.le_of_ble_eq_true rfl) (fun r_ N_ p_ => ?_)
                  obtain ⟨rfl, rfl, t129⟩ := p_
                  refine (?_ : ∀ (M132 : Mem), (Sg M M132) → f_X7_shift M op = f_X7_shift_c132 j73 (f_X7_shift_73 op n_) M132 → V G X 4 0 0 (Qx G X 0 0 (p_X7_shift M op)) 132 [(0, .ref 52), (1, .int op), (3, .int (nI j73))] [] M132) _ (Sg.tr s124 t129) E
                  intro M132 s132 E
                  refine V.pick [0, 1, 2] rfl ?_
                  exact hJ132 M132 s132 E
          refine V.pick [1, 2, 0] rfl ?_
          exact hJ73 _ 0 M71 s71 (by omega) (by omega) E
        · replace E := E.trans (if_neg h56)
          refine V.seg F floX7 cjoX7 [.aload_n 0, .iconst 1, .putfield 180] (by decide +kernel) (pc2 := 64) (lv2 := [(0, .ref 52), (1, .int op), (2, .int y2_4), (3, .int (nI j4))]) (st2 := []) (M2 := uI M4 52 8 1) rfl ⟨trivial, trivial, ⟨((q.sm s4.1).o 52 7 rfl), Or.inr rfl⟩, trivial⟩ ?_
          exact V.vret F (by decide +kernel) ⟨rfl, E.symm, (Sg.pF s4)⟩
      · replace E := E.trans (if_neg h7)
        refine V.seg F floX7 cjoX7 [.iload_n 2, .iload_n 3, .i2l, .aload_n 0, .getfield 20, .bipush 17, .laload, .land, .ldc2_w 224, .land, .aload_n 0, .getfield 23, .bipush 17, .laload, .ldc2_w 224, .land, .lcmp] (by decide +kernel) (pc2 := 37) (lv2 := [(0, .ref 52), (1, .int op), (2, .int y2_4), (3, .int (nI j4))]) (st2 := [.int (lg_cmp (((Int32.toInt64 (nI j4)) &&& (mL M4 56 (ix 17))) &&& 63) ((mL M4 57 (ix 17)) &&& 63)), .int y2_4]) (M2 := M4) rfl ⟨trivial, trivial, trivial, trivial, ((q.sm s4.1).f 52 7 3 rfl), trivial, ((q.sm s4.1).a 56 22 1648 rfl (vinc (by decide))), trivial, trivial, trivial, trivial, ((q.sm s4.1).f 52 7 4 rfl), trivial, ((q.sm s4.1).a 57 22 1648 rfl (vinc (by decide))), trivial, trivial, trivial, trivial⟩ ?_
        have hJ45 : ∀ (w0_45 : Int32) (M45 : Mem), (Sg M M45) → f_X7_shift M op = f_X7_shift_45 y2_4 j4 (f_X7_shift_4 op n_) w0_45 M45 → V G X 4 0 0 (Qx G X 0 0 (p_X7_shift M op)) 45 [(0, .ref 52), (1, .int op), (3, .int (nI j4))] [.int w0_45, .int y2_4] M45 := by
          intro w0_45 M45 s45 E
          refine V.seg F floX7 cjoX7 [.iadd, .istore_n 2, .iinc 3 1, .goto (-46)] (by decide +kernel) (pc2 := 4) (lv2 := [(3, .int ((nI j4) + 1)), (2, .int (y2_4 + w0_45)), (0, .ref 52), (1, .int op)]) (st2 := []) (M2 := M45) rfl ⟨trivial, (by decide), (by decide), (by decide), trivial⟩ ?_
          refine V.pick [2, 3, 1, 0] rfl ?_
          rw [nI_1]
          exact ih_4 (y2_4 + w0_45) (j4 + 1) M45 s45 (by have hlt_ := cnt_lt (n := 64) h7 rfl (by omega) (by decide); omega) (by have hlt_ := cnt_lt (n := 64) h7 rfl (by omega) (by decide); omega) E
        refine V.lc_ne (off := 7) F (by decide +kernel) (tgt := 44) (by decide) (fun h37 => ?_) (fun h37 => ?_)
        · replace E := E.trans (if_neg h37)
          refine V.seg F floX7 cjoX7 [.iconst 0] (by decide +kernel) (pc2 := 45) (lv2 := [(0, .ref 52), (1, .int op), (2, .int y2_4), (3, .int (nI j4))]) (st2 := [.int 0, .int y2_4]) (M2 := M4) rfl ⟨trivial, trivial⟩ ?_
          refine V.pick [0, 1, 3] rfl ?_
          exact hJ45 0 M4 s4 E
        · replace E := E.trans (if_pos h37)
          refine V.seg F floX7 cjoX7 [.iconst 1, .goto 4] (by decide +kernel) (pc2 := 45) (lv2 := [(0, .ref 52), (1, .int op), (2, .int y2_4), (3, .int (nI j4))]) (st2 := [.int 1, .int y2_4]) (M2 := M4) rfl ⟨trivial, (by decide), trivial⟩ ?_
          refine V.pick [0, 1, 3] rfl ?_
          exact hJ45 1 M4 s4 E
  refine V.pick [2, 3, 1, 0] rfl ?_
  exact hJ4 _ 0 0 M (Sg.rf gb) (by omega) (by omega) E
theorem hop_lt9 {op : Int32} (h : ¬ (9 : Int32) ≤ op) : ¬ (op = 9 ∨ op = 10) := fun z => by rcases z with z | z <;> rw [z] at h <;> exact absurd (by decide) h
theorem hop_gt {op : Int32} (h : ¬ op ≤ 11) : ¬ (op = 9 ∨ op = 10) := fun z => by rcases z with z | z <;> rw [z] at h <;> exact absurd (by decide) h
def f_X7_does_c47  (M47 : Mem) : Mem := M47
def f_X7_does_41 (t : Int32) (M41 : Mem) : Mem := f_X7_does_c47 (f_X7_nothing M41 t)
def f_X7_does_c380  (M380 : Mem) : Mem := M380
def f_X7_does_c374 (t : Int32) (M374 : Mem) : Mem := f_X7_does_c380 (f_X7_sharpen M374 t)
def f_X7_does_366 (t : Int32) (M366 : Mem) : Mem := f_X7_does_c374 t (f_X7_copy M366 t 18)
def f_X7_does_c366 (t : Int32) (M366 : Mem) : Mem := f_X7_does_366 t M366
def f_X7_does_c322 (t : Int32) (M322 : Mem) : Mem := f_X7_does_366 t (uL (uL M322 54 (ix 18) ((mL M322 55 (ix 16)) ^^^ ((-1)))) 55 (ix 18) ((mL (uL M322 54 (ix 18) ((mL M322 55 (ix 16)) ^^^ ((-1)))) 54 (ix 16)) ^^^ ((-1))))
def f_X7_does_c298 (t : Int32) (M298 : Mem) : Mem := f_X7_does_c322 t (f_X7_setRest M298 18 (mL M298 58 (ix 16)) (((-1)) - (mL M298 59 (ix 16))))
def f_X7_does_c281 (t : Int32) (M281 : Mem) : Mem := f_X7_does_366 t M281
def f_X7_does_c272 (t : Int32) (M272 : Mem) : Mem := f_X7_does_c281 t (f_X7_add M272 16 17 1)
def f_X7_does_c264 (t : Int32) (M264 : Mem) : Mem := f_X7_does_c272 t (f_X7_copy M264 16 19)
def f_X7_does_c256 (t : Int32) (M256 : Mem) : Mem := f_X7_does_c264 t (f_X7_copy M256 17 16)
def f_X7_does_c240 (t : Int32) (M240 : Mem) : Mem := f_X7_does_366 t M240
def f_X7_does_c226 (t : Int32) (M226 : Mem) : Mem := f_X7_does_366 t M226
def f_X7_does_c212 (t : Int32) (M212 : Mem) : Mem := f_X7_does_366 t M212
def f_X7_does_c198 (t : Int32) (M198 : Mem) : Mem := f_X7_does_366 t M198
def f_X7_does_c186 (t : Int32) (M186 : Mem) : Mem := f_X7_does_366 t M186
def f_X7_does_183 (t : Int32) (w0_183 : Int32) (M183 : Mem) : Mem := f_X7_does_c186 t (f_X7_add M183 16 17 w0_183)
def f_X7_does_c163 (op : Int32) (t : Int32) (M163 : Mem) : Mem := if 2 ≤ op then if op = 2 then f_X7_does_c198 t (f_X7_multiply M163) else if 6 ≤ op then if 9 ≤ op then if 12 ≤ op then if op = 12 then f_X7_does_c256 t (f_X7_number M163 19 0) else if op = 13 then f_X7_does_c298 t (f_X7_turn M163 16 18) else f_X7_does_c366 t (f_X7_narrow M163 op) else f_X7_does_c240 t (f_X7_divide M163 op) else f_X7_does_c226 t (f_X7_shift M163 op) else f_X7_does_c212 t (f_X7_bitwise M163 op) else if op = 1 then f_X7_does_183 t 1 M163 else f_X7_does_183 t 0 M163
def f_X7_does_c157 (op : Int32) (t : Int32) (M157 : Mem) : Mem := f_X7_does_c163 op t (f_X7_all M157 18)
def f_X7_does_154 (op : Int32) (t : Int32) (w0_154 : Int32) (M154 : Mem) : Mem := f_X7_does_c157 op t (f_X7_copy M154 17 w0_154)
def f_X7_does_c140 (op : Int32) (g : Int32) (t : Int32) (w0_16 : Int32) (M140 : Mem) : Mem := if w0_16 = 0 then f_X7_does_154 op t g M140 else f_X7_does_154 op t 24 M140
def f_X7_does_133 (op : Int32) (f : Int32) (g : Int32) (t : Int32) (w0_16 : Int32) (M133 : Mem) : Mem := f_X7_does_c140 op g t w0_16 (f_X7_copy M133 16 f)
def f_X7_does_132  (M132 : Mem) : Mem := M132
def f_X7_does_c132  (M132 : Mem) : Mem := f_X7_does_132 M132
def f_X7_does_126 (op : Int32) (f : Int32) (t : Int32) (M101 : Mem) (w0_126 : Int64) (M126 : Mem) : Mem := f_X7_does_c132 (f_X7_number M126 t (f_X7_reckon op (mL M101 54 (ix f)) w0_126))
def f_X7_does_101 (op : Int32) (f : Int32) (g : Int32) (t : Int32) (w0_16 : Int32) (M101 : Mem) : Mem := if w0_16 = 0 then f_X7_does_126 op f t M101 (mL M101 54 (ix g)) M101 else f_X7_does_126 op f t M101 0 M101
def f_X7_does_c98  (M98 : Mem) : Mem := f_X7_does_132 M98
def f_X7_does_81 (op : Int32) (f : Int32) (g : Int32) (t : Int32) (w0_16 : Int32) (M81 : Mem) : Mem := if (mL M81 54 (ix g)) = 0 then f_X7_does_c98 (f_X7_nothing M81 t) else f_X7_does_101 op f g t w0_16 M81
def f_X7_does_69 (op : Int32) (f : Int32) (g : Int32) (t : Int32) (w0_16 : Int32) (M69 : Mem) : Mem := if op = 9 then f_X7_does_81 op f g t w0_16 M69 else if op = 10 then f_X7_does_81 op f g t w0_16 M69 else f_X7_does_101 op f g t w0_16 M69
def f_X7_does_48 (op : Int32) (f : Int32) (g : Int32) (t : Int32) (w0_16 : Int32) (M48 : Mem) : Mem := if (f_X7_isNumber M48 f) = 0 then f_X7_does_133 op f g t w0_16 M48 else if w0_16 = 0 then if (f_X7_isNumber M48 g) = 0 then f_X7_does_133 op f g t w0_16 M48 else f_X7_does_69 op f g t w0_16 M48 else f_X7_does_69 op f g t w0_16 M48
def f_X7_does_16 (op : Int32) (f : Int32) (g : Int32) (t : Int32) (w0_16 : Int32) (M16 : Mem) : Mem := if (mI M16 53 (ix f)) = 0 then if w0_16 = 0 then if (mI M16 53 (ix g)) = 0 then f_X7_does_48 op f g t w0_16 M16 else f_X7_does_41 t M16 else f_X7_does_48 op f g t w0_16 M16 else f_X7_does_41 t M16
def f_X7_does (M : Mem) (op : Int32) (f : Int32) (g : Int32) (t : Int32) : Mem := if op ≤ 11 then f_X7_does_16 op f g t 0 (uI M 52 8 0) else f_X7_does_16 op f g t 1 (uI M 52 8 0)
abbrev p_X7_does (M : Mem) (op : Int32) (f : Int32) (g : Int32) (t : Int32) : Option Value → Mem → Prop := fun r N => r = none ∧ N = f_X7_does M op f g t ∧ Sg M N
set_option maxRecDepth 100000 in
set_option maxHeartbeats 4000000 in
theorem c_X7_does (G : Ctx) (l : Launch) (M : Mem) (op : Int32) (f : Int32) (g : Int32) (t : Int32) (q : Ok M) (gb : Gb M) (i_f : vp_in f 1648) (i_g : vp_in g 1648) (i_t : vp_in t 1648) : CT G l 6 mX7_does [.ref 52, .int op, .int f, .int g, .int t] M 0 0 (p_X7_does M op f g t) := by
  refine CT.of (by decide) (Nat.le_of_ble_eq_true rfl) ?_
  intro X d hd hl hRm hnm F
  subst hl
  have E : f_X7_does M op f g t = f_X7_does M op f g t := rfl
  show V G X 6 0 0 (Qx G X 0 0 (p_X7_does M op f g t)) 0 [(0, .ref 52), (1, .int op), (2, .int f), (3, .int g), (4, .int t)] [] M
  refine V.seg F floX7 cjoX7 [.aload_n 0, .iconst 0, .putfield 180, .iload_n 1, .bipush 11] (by decide +kernel) (pc2 := 8) (lv2 := [(0, .ref 52), (1, .int op), (2, .int f), (3, .int g), (4, .int t)]) (st2 := [.int 11, .int op]) (M2 := uI M 52 8 0) rfl ⟨trivial, trivial, ⟨(q.o 52 7 rfl), Or.inl rfl⟩, trivial, trivial, trivial⟩ ?_
  have hJ16 : ∀ (w0_16 : Int32) (M16 : Mem), (Sg M M16) → (¬ w0_16 = 0 → ¬ (op = 9 ∨ op = 10)) → f_X7_does M op f g t = f_X7_does_16 op f g t w0_16 M16 → V G X 6 0 0 (Qx G X 0 0 (p_X7_does M op f g t)) 16 [(0, .ref 52), (1, .int op), (2, .int f), (3, .int g), (4, .int t)] [.int w0_16] M16 := by
    intro w0_16 M16 s16 jo16 E
    refine V.seg F floX7 cjoX7 [.istore 5, .aload_n 0, .getfield 9, .iload_n 2, .baload] (by decide +kernel) (pc2 := 24) (lv2 := [(5, .int w0_16), (0, .ref 52), (1, .int op), (2, .int f), (3, .int g), (4, .int t)]) (st2 := [.int (mI M16 53 (ix f))]) (M2 := M16) rfl ⟨(by decide), trivial, ((q.sm s16.1).f 52 7 0 rfl), trivial, ((q.sm s16.1).a 53 21 1648 rfl (by first | assumption | exact vinc (by decide))), trivial⟩ ?_
    have hJ41 : ∀ (M41 : Mem), (Sg M M41) → f_X7_does M op f g t = f_X7_does_41 t M41 → V G X 6 0 0 (Qx G X 0 0 (p_X7_does M op f g t)) 41 [(0, .ref 52), (4, .int t)] [] M41 := by
      intro M41 s41 E
      refine V.seg F floX7 cjoX7 [.aload_n 0, .iload 4] (by decide +kernel) (pc2 := 44) (lv2 := [(0, .ref 52), (4, .int t)]) (st2 := [.int t, .ref 52]) (M2 := M41) rfl ⟨trivial, trivial, trivial⟩ ?_
      refine V.callV (as := [.int t]) (rest := []) F (by decide +kernel) lX7_115 bX7_nothing ⟨7, _, ((q.sm s41.1).o 52 7 rfl), rfl, rfl⟩ (c_X7_nothing G X.2.1 M41 t (q.sm s41.1) s41.2 (by first | assumption | exact vinc (by decide))) (rm_ok hRm hd (by decide) (by decide)) ⟨Nat.zero_le _, Nat.zero_le _⟩ (Nat.le_of_ble_eq_true rfl) (fun r_ N_ p_ => ?_)
      obtain ⟨rfl, rfl, t44⟩ := p_
      refine (?_ : ∀ (M47 : Mem), (Sg M M47) → f_X7_does M op f g t = f_X7_does_c47 M47 → V G X 6 0 0 (Qx G X 0 0 (p_X7_does M op f g t)) 47 [(0, .ref 52), (4, .int t)] [] M47) _ (Sg.tr s41 t44) E
      intro M47 s47 E
      exact V.vret F (by decide +kernel) ⟨rfl, E.symm, s47⟩
    refine V.if_ne (off := 17) F (by decide +kernel) (tgt := 41) (by decide) (fun h24 => ?_) (fun h24 => ?_)
    · replace E := E.trans (if_neg h24)
      refine V.pick [1, 5] rfl ?_
      exact hJ41 M16 s16 E
    · replace E := E.trans (if_pos h24)
      refine V.seg F floX7 cjoX7 [.iload 5] (by decide +kernel) (pc2 := 29) (lv2 := [(5, .int w0_16), (0, .ref 52), (1, .int op), (2, .int f), (3, .int g), (4, .int t)]) (st2 := [.int w0_16]) (M2 := M16) rfl ⟨trivial, trivial⟩ ?_
      have hJ48 : ∀ (M48 : Mem), (Sg M M48) → f_X7_does M op f g t = f_X7_does_48 op f g t w0_16 M48 → V G X 6 0 0 (Qx G X 0 0 (p_X7_does M op f g t)) 48 [(0, .ref 52), (1, .int op), (2, .int f), (3, .int g), (4, .int t), (5, .int w0_16)] [] M48 := by
        intro M48 s48 E
        refine V.seg F floX7 cjoX7 [.aload_n 0, .iload_n 2] (by decide +kernel) (pc2 := 50) (lv2 := [(0, .ref 52), (1, .int op), (2, .int f), (3, .int g), (4, .int t), (5, .int w0_16)]) (st2 := [.int f, .ref 52]) (M2 := M48) rfl ⟨trivial, trivial, trivial⟩ ?_
        refine V.callV (as := [.int f]) (rest := []) F (by decide +kernel) lX7_130 bX7_isNumber ⟨7, _, ((q.sm s48.1).o 52 7 rfl), rfl, rfl⟩ (c_X7_isNumber G X.2.1 M48 f (q.sm s48.1) s48.2 (by first | assumption | exact vinc (by decide))) (rm_ok hRm hd (by decide) (by decide)) ⟨Nat.zero_le _, Nat.zero_le _⟩ (Nat.le_of_ble_eq_true rfl) (fun r_ N_ p_ => ?_)
        obtain ⟨rfl, hN_, z50⟩ := p_
        rw [hN_]
        clear hN_
        have hJ133 : ∀ (M133 : Mem), (Sg M M133) → f_X7_does M op f g t = f_X7_does_133 op f g t w0_16 M133 → V G X 6 0 0 (Qx G X 0 0 (p_X7_does M op f g t)) 133 [(0, .ref 52), (1, .int op), (2, .int f), (3, .int g), (4, .int t), (5, .int w0_16)] [] M133 := by
          intro M133 s133 E
          refine V.seg F floX7 cjoX7 [.aload_n 0, .bipush 16, .iload_n 2] (by decide +kernel) (pc2 := 137) (lv2 := [(0, .ref 52), (1, .int op), (2, .int f), (3, .int g), (4, .int t), (5, .int w0_16)]) (st2 := [.int f, .int 16, .ref 52]) (M2 := M133) rfl ⟨trivial, trivial, trivial, trivial⟩ ?_
          refine V.callV (as := [.int 16, .int f]) (rest := []) F (by decide +kernel) lX7_133 bX7_copy ⟨7, _, ((q.sm s133.1).o 52 7 rfl), rfl, rfl⟩ (c_X7_copy G X.2.1 M133 16 f (q.sm s133.1) s133.2 (vinc (by decide)) (by first | assumption | exact vinc (by decide))) (rm_ok hRm hd (by decide) (by decide)) ⟨Nat.zero_le _, Nat.zero_le _⟩ (Nat.le_of_ble_eq_true rfl) (fun r_ N_ p_ => ?_)
          obtain ⟨rfl, rfl, t137⟩ := p_
          refine (?_ : ∀ (M140 : Mem), (Sg M M140) → f_X7_does M op f g t = f_X7_does_c140 op g t w0_16 M140 → V G X 6 0 0 (Qx G X 0 0 (p_X7_does M op f g t)) 140 [(0, .ref 52), (1, .int op), (2, .int f), (3, .int g), (4, .int t), (5, .int w0_16)] [] M140) _ (Sg.tr s133 t137) E
          intro M140 s140 E
          refine V.seg F floX7 cjoX7 [.aload_n 0, .bipush 17, .iload 5] (by decide +kernel) (pc2 := 145) (lv2 := [(0, .ref 52), (1, .int op), (2, .int f), (3, .int g), (4, .int t), (5, .int w0_16)]) (st2 := [.int w0_16, .int 17, .ref 52]) (M2 := M140) rfl ⟨trivial, trivial, trivial, trivial⟩ ?_
          have hJ154 : ∀ (w0_154 : Int32) (M154 : Mem), (Sg M M154) → (vp_in w0_154 1648) → f_X7_does M op f g t = f_X7_does_154 op t w0_154 M154 → V G X 6 0 0 (Qx G X 0 0 (p_X7_does M op f g t)) 154 [(0, .ref 52), (1, .int op), (4, .int t)] [.int w0_154, .int 17, .ref 52] M154 := by
            intro w0_154 M154 s154 jw154 E
            refine V.callV (as := [.int 17, .int w0_154]) (rest := []) F (by decide +kernel) lX7_133 bX7_copy ⟨7, _, ((q.sm s154.1).o 52 7 rfl), rfl, rfl⟩ (c_X7_copy G X.2.1 M154 17 w0_154 (q.sm s154.1) s154.2 (vinc (by decide)) (by first | assumption | exact vinc (by decide))) (rm_ok hRm hd (by decide) (by decide)) ⟨Nat.zero_le _, Nat.zero_le _⟩ (Nat.le_of_ble_eq_true rfl) (fun r_ N_ p_ => ?_)
            obtain ⟨rfl, rfl, t154⟩ := p_
            refine (?_ : ∀ (M157 : Mem), (Sg M M157) → f_X7_does M op f g t = f_X7_does_c157 op t M157 → V G X 6 0 0 (Qx G X 0 0 (p_X7_does M op f g t)) 157 [(0, .ref 52), (1, .int op), (4, .int t)] [] M157) _ (Sg.tr s154 t154) E
            intro M157 s157 E
            refine V.seg F floX7 cjoX7 [.aload_n 0, .bipush 18] (by decide +kernel) (pc2 := 160) (lv2 := [(0, .ref 52), (1, .int op), (4, .int t)]) (st2 := [.int 18, .ref 52]) (M2 := M157) rfl ⟨trivial, trivial, trivial⟩ ?_
            refine V.callV (as := [.int 18]) (rest := []) F (by decide +kernel) lX7_79 bX7_all ⟨7, _, ((q.sm s157.1).o 52 7 rfl), rfl, rfl⟩ (c_X7_all G X.2.1 M157 18 (q.sm s157.1) s157.2 (vinc (by decide))) (rm_ok hRm hd (by decide) (by decide)) ⟨Nat.zero_le _, Nat.zero_le _⟩ (Nat.le_of_ble_eq_true rfl) (fun r_ N_ p_ => ?_)
            obtain ⟨rfl, rfl, t160⟩ := p_
            refine (?_ : ∀ (M163 : Mem), (Sg M M163) → f_X7_does M op f g t = f_X7_does_c163 op t M163 → V G X 6 0 0 (Qx G X 0 0 (p_X7_does M op f g t)) 163 [(0, .ref 52), (1, .int op), (4, .int t)] [] M163) _ (Sg.tr s157 t160) E
            intro M163 s163 E
            refine V.seg F floX7 cjoX7 [.iload_n 1, .iconst 2] (by decide +kernel) (pc2 := 165) (lv2 := [(0, .ref 52), (1, .int op), (4, .int t)]) (st2 := [.int 2, .int op]) (M2 := M163) rfl ⟨trivial, trivial, trivial⟩ ?_
            have hJ366 : ∀ (M366 : Mem), (Sg M M366) → f_X7_does M op f g t = f_X7_does_366 t M366 → V G X 6 0 0 (Qx G X 0 0 (p_X7_does M op f g t)) 366 [(0, .ref 52), (4, .int t)] [] M366 := by
              intro M366 s366 E
              refine V.seg F floX7 cjoX7 [.aload_n 0, .iload 4, .bipush 18] (by decide +kernel) (pc2 := 371) (lv2 := [(0, .ref 52), (4, .int t)]) (st2 := [.int 18, .int t, .ref 52]) (M2 := M366) rfl ⟨trivial, trivial, trivial, trivial⟩ ?_
              refine V.callV (as := [.int t, .int 18]) (rest := []) F (by decide +kernel) lX7_133 bX7_copy ⟨7, _, ((q.sm s366.1).o 52 7 rfl), rfl, rfl⟩ (c_X7_copy G X.2.1 M366 t 18 (q.sm s366.1) s366.2 (by first | assumption | exact vinc (by decide)) (vinc (by decide))) (rm_ok hRm hd (by decide) (by decide)) ⟨Nat.zero_le _, Nat.zero_le _⟩ (Nat.le_of_ble_eq_true rfl) (fun r_ N_ p_ => ?_)
              obtain ⟨rfl, rfl, t371⟩ := p_
              refine (?_ : ∀ (M374 : Mem), (Sg M M374) → f_X7_does M op f g t = f_X7_does_c374 t M374 → V G X 6 0 0 (Qx G X 0 0 (p_X7_does M op f g t)) 374 [(0, .ref 52), (4, .int t)] [] M374) _ (Sg.tr s366 t371) E
              intro M374 s374 E
              refine V.seg F floX7 cjoX7 [.aload_n 0, .iload 4] (by decide +kernel) (pc2 := 377) (lv2 := [(0, .ref 52), (4, .int t)]) (st2 := [.int t, .ref 52]) (M2 := M374) rfl ⟨trivial, trivial, trivial⟩ ?_
              refine V.callV (as := [.int t]) (rest := []) F (by decide +kernel) lX7_165 bX7_sharpen ⟨7, _, ((q.sm s374.1).o 52 7 rfl), rfl, rfl⟩ (c_X7_sharpen G X.2.1 M374 t (q.sm s374.1) s374.2 (by first | assumption | exact vinc (by decide))) (rm_ok hRm hd (by decide) (by decide)) ⟨Nat.zero_le _, Nat.zero_le _⟩ (Nat.le_of_ble_eq_true rfl) (fun r_ N_ p_ => ?_)
              obtain ⟨rfl, rfl, t377⟩ := p_
              refine (?_ : ∀ (M380 : Mem), (Sg M M380) → f_X7_does M op f g t = f_X7_does_c380 M380 → V G X 6 0 0 (Qx G X 0 0 (p_X7_does M op f g t)) 380 [(0, .ref 52), (4, .int t)] [] M380) _ (Sg.tr s374 t377) E
              intro M380 s380 E
              exact V.vret F (by decide +kernel) ⟨rfl, E.symm, s380⟩
            refine V.ic_ge (off := 24) F (by decide +kernel) (tgt := 189) (by decide) (fun h165 => ?_) (fun h165 => ?_)
            · replace E := E.trans (if_pos h165)
              refine V.seg F floX7 cjoX7 [.iload_n 1, .iconst 2] (by decide +kernel) (pc2 := 191) (lv2 := [(0, .ref 52), (1, .int op), (4, .int t)]) (st2 := [.int 2, .int op]) (M2 := M163) rfl ⟨trivial, trivial, trivial⟩ ?_
              refine V.ic_ne (off := 10) F (by decide +kernel) (tgt := 201) (by decide) (fun h191 => ?_) (fun h191 => ?_)
              · replace E := E.trans (if_neg h191)
                refine V.seg F floX7 cjoX7 [.iload_n 1, .bipush 6] (by decide +kernel) (pc2 := 204) (lv2 := [(0, .ref 52), (1, .int op), (4, .int t)]) (st2 := [.int 6, .int op]) (M2 := M163) rfl ⟨trivial, trivial, trivial⟩ ?_
                refine V.ic_ge (off := 11) F (by decide +kernel) (tgt := 215) (by decide) (fun h204 => ?_) (fun h204 => ?_)
                · replace E := E.trans (if_pos h204)
                  refine V.seg F floX7 cjoX7 [.iload_n 1, .bipush 9] (by decide +kernel) (pc2 := 218) (lv2 := [(0, .ref 52), (1, .int op), (4, .int t)]) (st2 := [.int 9, .int op]) (M2 := M163) rfl ⟨trivial, trivial, trivial⟩ ?_
                  refine V.ic_ge (off := 11) F (by decide +kernel) (tgt := 229) (by decide) (fun h218 => ?_) (fun h218 => ?_)
                  · replace E := E.trans (if_pos h218)
                    refine V.seg F floX7 cjoX7 [.iload_n 1, .bipush 12] (by decide +kernel) (pc2 := 232) (lv2 := [(0, .ref 52), (1, .int op), (4, .int t)]) (st2 := [.int 12, .int op]) (M2 := M163) rfl ⟨trivial, trivial, trivial⟩ ?_
                    refine V.ic_ge (off := 11) F (by decide +kernel) (tgt := 243) (by decide) (fun h232 => ?_) (fun h232 => ?_)
                    · replace E := E.trans (if_pos h232)
                      refine V.seg F floX7 cjoX7 [.iload_n 1, .bipush 12] (by decide +kernel) (pc2 := 246) (lv2 := [(0, .ref 52), (1, .int op), (4, .int t)]) (st2 := [.int 12, .int op]) (M2 := M163) rfl ⟨trivial, trivial, trivial⟩ ?_
                      refine V.ic_ne (off := 38) F (by decide +kernel) (tgt := 284) (by decide) (fun h246 => ?_) (fun h246 => ?_)
                      · replace E := E.trans (if_neg h246)
                        refine V.seg F floX7 cjoX7 [.iload_n 1, .bipush 13] (by decide +kernel) (pc2 := 287) (lv2 := [(0, .ref 52), (1, .int op), (4, .int t)]) (st2 := [.int 13, .int op]) (M2 := M163) rfl ⟨trivial, trivial, trivial⟩ ?_
                        refine V.ic_ne (off := 74) F (by decide +kernel) (tgt := 361) (by decide) (fun h287 => ?_) (fun h287 => ?_)
                        · replace E := E.trans (if_neg h287)
                          refine V.seg F floX7 cjoX7 [.aload_n 0, .iload_n 1] (by decide +kernel) (pc2 := 363) (lv2 := [(0, .ref 52), (1, .int op), (4, .int t)]) (st2 := [.int op, .ref 52]) (M2 := M163) rfl ⟨trivial, trivial, trivial⟩ ?_
                          refine V.callV (as := [.int op]) (rest := []) F (by decide +kernel) lX7_206 bX7_narrow ⟨7, _, ((q.sm s163.1).o 52 7 rfl), rfl, rfl⟩ (c_X7_narrow G X.2.1 M163 op (q.sm s163.1) s163.2) (rm_ok hRm hd (by decide) (by decide)) ⟨Nat.zero_le _, Nat.zero_le _⟩ (Nat.le_of_ble_eq_true rfl) (fun r_ N_ p_ => ?_)
                          obtain ⟨rfl, rfl, t363⟩ := p_
                          refine (?_ : ∀ (M366 : Mem), (Sg M M366) → f_X7_does M op f g t = f_X7_does_c366 t M366 → V G X 6 0 0 (Qx G X 0 0 (p_X7_does M op f g t)) 366 [(0, .ref 52), (1, .int op), (4, .int t)] [] M366) _ (Sg.tr s163 t363) E
                          intro M366 s366 E
                          refine V.pick [0, 2] rfl ?_
                          exact hJ366 M366 s366 E
                        · replace E := E.trans (if_pos h287)
                          refine V.seg F floX7 cjoX7 [.aload_n 0, .bipush 16, .bipush 18] (by decide +kernel) (pc2 := 295) (lv2 := [(0, .ref 52), (1, .int op), (4, .int t)]) (st2 := [.int 18, .int 16, .ref 52]) (M2 := M163) rfl ⟨trivial, trivial, trivial, trivial⟩ ?_
                          refine V.callV (as := [.int 16, .int 18]) (rest := []) F (by decide +kernel) lX7_203 bX7_turn ⟨7, _, ((q.sm s163.1).o 52 7 rfl), rfl, rfl⟩ (c_X7_turn G X.2.1 M163 16 18 (q.sm s163.1) s163.2 (vinc (by decide)) (vinc (by decide))) (rm_ok hRm hd (by decide) (by decide)) ⟨Nat.zero_le _, Nat.zero_le _⟩ (Nat.le_of_ble_eq_true rfl) (fun r_ N_ p_ => ?_)
                          obtain ⟨rfl, rfl, t295⟩ := p_
                          refine (?_ : ∀ (M298 : Mem), (Sg M M298) → f_X7_does M op f g t = f_X7_does_c298 t M298 → V G X 6 0 0 (Qx G X 0 0 (p_X7_does M op f g t)) 298 [(0, .ref 52), (1, .int op), (4, .int t)] [] M298) _ (Sg.tr s163 t295) E
                          intro M298 s298 E
                          refine V.seg F floX7 cjoX7 [.aload_n 0, .bipush 18, .aload_n 0, .getfield 26, .bipush 16, .laload, .ldc2_w 87, .aload_n 0, .getfield 29, .bipush 16, .laload, .lsub] (by decide +kernel) (pc2 := 319) (lv2 := [(0, .ref 52), (1, .int op), (4, .int t)]) (st2 := [.long (((-1)) - (mL M298 59 (ix 16))), .long (mL M298 58 (ix 16)), .int 18, .ref 52]) (M2 := M298) rfl ⟨trivial, trivial, trivial, ((q.sm s298.1).f 52 7 5 rfl), trivial, ((q.sm s298.1).a 58 22 1648 rfl (vinc (by decide))), trivial, trivial, ((q.sm s298.1).f 52 7 6 rfl), trivial, ((q.sm s298.1).a 59 22 1648 rfl (vinc (by decide))), trivial, trivial⟩ ?_
                          refine V.callV (as := [.int 18, .long (mL M298 58 (ix 16)), .long (((-1)) - (mL M298 59 (ix 16)))]) (rest := []) F (by decide +kernel) lX7_161 bX7_setRest ⟨7, _, ((q.sm s298.1).o 52 7 rfl), rfl, rfl⟩ (c_X7_setRest G X.2.1 M298 18 (mL M298 58 (ix 16)) (((-1)) - (mL M298 59 (ix 16))) (q.sm s298.1) s298.2 (vinc (by decide)) (s298.2 _ (vin_lt (vinc (by decide))))) (rm_ok hRm hd (by decide) (by decide)) ⟨Nat.zero_le _, Nat.zero_le _⟩ (Nat.le_of_ble_eq_true rfl) (fun r_ N_ p_ => ?_)
                          obtain ⟨rfl, rfl, t319⟩ := p_
                          refine (?_ : ∀ (M322 : Mem), (Sg M M322) → f_X7_does M op f g t = f_X7_does_c322 t M322 → V G X 6 0 0 (Qx G X 0 0 (p_X7_does M op f g t)) 322 [(0, .ref 52), (1, .int op), (4, .int t)] [] M322) _ (Sg.tr s298 t319) E
                          intro M322 s322 E
                          refine V.seg F floX7 cjoX7 [.aload_n 0, .getfield 13, .bipush 18, .aload_n 0, .getfield 17, .bipush 16, .laload, .ldc2_w 87, .lxor, .lastore, .aload_n 0, .getfield 17, .bipush 18, .aload_n 0, .getfield 13, .bipush 16, .laload, .ldc2_w 87, .lxor, .lastore, .goto 8] (by decide +kernel) (pc2 := 366) (lv2 := [(0, .ref 52), (1, .int op), (4, .int t)]) (st2 := []) (M2 := uL (uL M322 54 (ix 18) ((mL M322 55 (ix 16)) ^^^ ((-1)))) 55 (ix 18) ((mL (uL M322 54 (ix 18) ((mL M322 55 (ix 16)) ^^^ ((-1)))) 54 (ix 16)) ^^^ ((-1)))) rfl ⟨trivial, ((q.sm s322.1).f 52 7 1 rfl), trivial, trivial, ((q.sm s322.1).f 52 7 2 rfl), trivial, ((q.sm s322.1).a 55 22 1648 rfl (vinc (by decide))), trivial, trivial, ((q.sm s322.1).a 54 22 1648 rfl (vinc (by decide))), trivial, ((q.sm (Sg.pL s322 (by decide)).1).f 52 7 2 rfl), trivial, trivial, ((q.sm (Sg.pL s322 (by decide)).1).f 52 7 1 rfl), trivial, ((q.sm (Sg.pL s322 (by decide)).1).a 54 22 1648 rfl (vinc (by decide))), trivial, trivial, ((q.sm (Sg.pL s322 (by decide)).1).a 55 22 1648 rfl (vinc (by decide))), (by decide), trivial⟩ ?_
                          refine V.pick [0, 2] rfl ?_
                          exact hJ366 (uL (uL M322 54 (ix 18) ((mL M322 55 (ix 16)) ^^^ ((-1)))) 55 (ix 18) ((mL (uL M322 54 (ix 18) ((mL M322 55 (ix 16)) ^^^ ((-1)))) 54 (ix 16)) ^^^ ((-1)))) (Sg.pL (Sg.pL s322 (by decide)) (by decide)) E
                      · replace E := E.trans (if_pos h246)
                        refine V.seg F floX7 cjoX7 [.aload_n 0, .bipush 19, .lconst 0] (by decide +kernel) (pc2 := 253) (lv2 := [(0, .ref 52), (1, .int op), (4, .int t)]) (st2 := [.long 0, .int 19, .ref 52]) (M2 := M163) rfl ⟨trivial, trivial, trivial, trivial⟩ ?_
                        refine V.callV (as := [.int 19, .long 0]) (rest := []) F (by decide +kernel) lX7_118 bX7_number ⟨7, _, ((q.sm s163.1).o 52 7 rfl), rfl, rfl⟩ (c_X7_number G X.2.1 M163 19 0 (q.sm s163.1) s163.2 (vinc (by decide))) (rm_ok hRm hd (by decide) (by decide)) ⟨Nat.zero_le _, Nat.zero_le _⟩ (Nat.le_of_ble_eq_true rfl) (fun r_ N_ p_ => ?_)
                        obtain ⟨rfl, rfl, t253⟩ := p_
                        refine (?_ : ∀ (M256 : Mem), (Sg M M256) → f_X7_does M op f g t = f_X7_does_c256 t M256 → V G X 6 0 0 (Qx G X 0 0 (p_X7_does M op f g t)) 256 [(0, .ref 52), (1, .int op), (4, .int t)] [] M256) _ (Sg.tr s163 t253) E
                        intro M256 s256 E
                        refine V.seg F floX7 cjoX7 [.aload_n 0, .bipush 17, .bipush 16] (by decide +kernel) (pc2 := 261) (lv2 := [(0, .ref 52), (1, .int op), (4, .int t)]) (st2 := [.int 16, .int 17, .ref 52]) (M2 := M256) rfl ⟨trivial, trivial, trivial, trivial⟩ ?_
                        refine V.callV (as := [.int 17, .int 16]) (rest := []) F (by decide +kernel) lX7_133 bX7_copy ⟨7, _, ((q.sm s256.1).o 52 7 rfl), rfl, rfl⟩ (c_X7_copy G X.2.1 M256 17 16 (q.sm s256.1) s256.2 (vinc (by decide)) (vinc (by decide))) (rm_ok hRm hd (by decide) (by decide)) ⟨Nat.zero_le _, Nat.zero_le _⟩ (Nat.le_of_ble_eq_true rfl) (fun r_ N_ p_ => ?_)
                        obtain ⟨rfl, rfl, t261⟩ := p_
                        refine (?_ : ∀ (M264 : Mem), (Sg M M264) → f_X7_does M op f g t = f_X7_does_c264 t M264 → V G X 6 0 0 (Qx G X 0 0 (p_X7_does M op f g t)) 264 [(0, .ref 52), (1, .int op), (4, .int t)] [] M264) _ (Sg.tr s256 t261) E
                        intro M264 s264 E
                        refine V.seg F floX7 cjoX7 [.aload_n 0, .bipush 16, .bipush 19] (by decide +kernel) (pc2 := 269) (lv2 := [(0, .ref 52), (1, .int op), (4, .int t)]) (st2 := [.int 19, .int 16, .ref 52]) (M2 := M264) rfl ⟨trivial, trivial, trivial, trivial⟩ ?_
                        refine V.callV (as := [.int 16, .int 19]) (rest := []) F (by decide +kernel) lX7_133 bX7_copy ⟨7, _, ((q.sm s264.1).o 52 7 rfl), rfl, rfl⟩ (c_X7_copy G X.2.1 M264 16 19 (q.sm s264.1) s264.2 (vinc (by decide)) (vinc (by decide))) (rm_ok hRm hd (by decide) (by decide)) ⟨Nat.zero_le _, Nat.zero_le _⟩ (Nat.le_of_ble_eq_true rfl) (fun r_ N_ p_ => ?_)
                        obtain ⟨rfl, rfl, t269⟩ := p_
                        refine (?_ : ∀ (M272 : Mem), (Sg M M272) → f_X7_does M op f g t = f_X7_does_c272 t M272 → V G X 6 0 0 (Qx G X 0 0 (p_X7_does M op f g t)) 272 [(0, .ref 52), (1, .int op), (4, .int t)] [] M272) _ (Sg.tr s264 t269) E
                        intro M272 s272 E
                        refine V.seg F floX7 cjoX7 [.aload_n 0, .bipush 16, .bipush 17, .iconst 1] (by decide +kernel) (pc2 := 278) (lv2 := [(0, .ref 52), (1, .int op), (4, .int t)]) (st2 := [.int 1, .int 17, .int 16, .ref 52]) (M2 := M272) rfl ⟨trivial, trivial, trivial, trivial, trivial⟩ ?_
                        refine V.callV (as := [.int 16, .int 17, .int 1]) (rest := []) F (by decide +kernel) lX7_187 bX7_add ⟨7, _, ((q.sm s272.1).o 52 7 rfl), rfl, rfl⟩ (c_X7_add G X.2.1 M272 16 17 1 (Or.inr rfl) (q.sm s272.1) s272.2 (vinc (by decide)) (vinc (by decide))) (rm_ok hRm hd (by decide) (by decide)) ⟨Nat.zero_le _, Nat.zero_le _⟩ (Nat.le_of_ble_eq_true rfl) (fun r_ N_ p_ => ?_)
                        obtain ⟨rfl, rfl, t278⟩ := p_
                        refine (?_ : ∀ (M281 : Mem), (Sg M M281) → f_X7_does M op f g t = f_X7_does_c281 t M281 → V G X 6 0 0 (Qx G X 0 0 (p_X7_does M op f g t)) 281 [(0, .ref 52), (1, .int op), (4, .int t)] [] M281) _ (Sg.tr s272 t278) E
                        intro M281 s281 E
                        refine V.seg F floX7 cjoX7 [.goto 85] (by decide +kernel) (pc2 := 366) (lv2 := [(0, .ref 52), (1, .int op), (4, .int t)]) (st2 := []) (M2 := M281) rfl ⟨(by decide), trivial⟩ ?_
                        refine V.pick [0, 2] rfl ?_
                        exact hJ366 M281 s281 E
                    · replace E := E.trans (if_neg h232)
                      refine V.seg F floX7 cjoX7 [.aload_n 0, .iload_n 1] (by decide +kernel) (pc2 := 237) (lv2 := [(0, .ref 52), (1, .int op), (4, .int t)]) (st2 := [.int op, .ref 52]) (M2 := M163) rfl ⟨trivial, trivial, trivial⟩ ?_
                      refine V.callV (as := [.int op]) (rest := []) F (by decide +kernel) lX7_200 bX7_divide ⟨7, _, ((q.sm s163.1).o 52 7 rfl), rfl, rfl⟩ (c_X7_divide G X.2.1 M163 op (q.sm s163.1) s163.2) (rm_ok hRm hd (by decide) (by decide)) ⟨Nat.zero_le _, Nat.zero_le _⟩ (Nat.le_of_ble_eq_true rfl) (fun r_ N_ p_ => ?_)
                      obtain ⟨rfl, rfl, t237⟩ := p_
                      refine (?_ : ∀ (M240 : Mem), (Sg M M240) → f_X7_does M op f g t = f_X7_does_c240 t M240 → V G X 6 0 0 (Qx G X 0 0 (p_X7_does M op f g t)) 240 [(0, .ref 52), (1, .int op), (4, .int t)] [] M240) _ (Sg.tr s163 t237) E
                      intro M240 s240 E
                      refine V.seg F floX7 cjoX7 [.goto 126] (by decide +kernel) (pc2 := 366) (lv2 := [(0, .ref 52), (1, .int op), (4, .int t)]) (st2 := []) (M2 := M240) rfl ⟨(by decide), trivial⟩ ?_
                      refine V.pick [0, 2] rfl ?_
                      exact hJ366 M240 s240 E
                  · replace E := E.trans (if_neg h218)
                    refine V.seg F floX7 cjoX7 [.aload_n 0, .iload_n 1] (by decide +kernel) (pc2 := 223) (lv2 := [(0, .ref 52), (1, .int op), (4, .int t)]) (st2 := [.int op, .ref 52]) (M2 := M163) rfl ⟨trivial, trivial, trivial⟩ ?_
                    refine V.callV (as := [.int op]) (rest := []) F (by decide +kernel) lX7_197 bX7_shift ⟨7, _, ((q.sm s163.1).o 52 7 rfl), rfl, rfl⟩ (c_X7_shift G X.2.1 M163 op (q.sm s163.1) s163.2 (hop_lt9 h218)) (rm_ok hRm hd (by decide) (by decide)) ⟨Nat.zero_le _, Nat.zero_le _⟩ (Nat.le_of_ble_eq_true rfl) (fun r_ N_ p_ => ?_)
                    obtain ⟨rfl, rfl, t223⟩ := p_
                    refine (?_ : ∀ (M226 : Mem), (Sg M M226) → f_X7_does M op f g t = f_X7_does_c226 t M226 → V G X 6 0 0 (Qx G X 0 0 (p_X7_does M op f g t)) 226 [(0, .ref 52), (1, .int op), (4, .int t)] [] M226) _ (Sg.tr s163 t223) E
                    intro M226 s226 E
                    refine V.seg F floX7 cjoX7 [.goto 140] (by decide +kernel) (pc2 := 366) (lv2 := [(0, .ref 52), (1, .int op), (4, .int t)]) (st2 := []) (M2 := M226) rfl ⟨(by decide), trivial⟩ ?_
                    refine V.pick [0, 2] rfl ?_
                    exact hJ366 M226 s226 E
                · replace E := E.trans (if_neg h204)
                  refine V.seg F floX7 cjoX7 [.aload_n 0, .iload_n 1] (by decide +kernel) (pc2 := 209) (lv2 := [(0, .ref 52), (1, .int op), (4, .int t)]) (st2 := [.int op, .ref 52]) (M2 := M163) rfl ⟨trivial, trivial, trivial⟩ ?_
                  refine V.callV (as := [.int op]) (rest := []) F (by decide +kernel) lX7_194 bX7_bitwise ⟨7, _, ((q.sm s163.1).o 52 7 rfl), rfl, rfl⟩ (c_X7_bitwise G X.2.1 M163 op (q.sm s163.1) s163.2) (rm_ok hRm hd (by decide) (by decide)) ⟨Nat.zero_le _, Nat.zero_le _⟩ (Nat.le_of_ble_eq_true rfl) (fun r_ N_ p_ => ?_)
                  obtain ⟨rfl, rfl, t209⟩ := p_
                  refine (?_ : ∀ (M212 : Mem), (Sg M M212) → f_X7_does M op f g t = f_X7_does_c212 t M212 → V G X 6 0 0 (Qx G X 0 0 (p_X7_does M op f g t)) 212 [(0, .ref 52), (1, .int op), (4, .int t)] [] M212) _ (Sg.tr s163 t209) E
                  intro M212 s212 E
                  refine V.seg F floX7 cjoX7 [.goto 154] (by decide +kernel) (pc2 := 366) (lv2 := [(0, .ref 52), (1, .int op), (4, .int t)]) (st2 := []) (M2 := M212) rfl ⟨(by decide), trivial⟩ ?_
                  refine V.pick [0, 2] rfl ?_
                  exact hJ366 M212 s212 E
              · replace E := E.trans (if_pos h191)
                refine V.seg F floX7 cjoX7 [.aload_n 0] (by decide +kernel) (pc2 := 195) (lv2 := [(0, .ref 52), (1, .int op), (4, .int t)]) (st2 := [.ref 52]) (M2 := M163) rfl ⟨trivial, trivial⟩ ?_
                refine V.callV (as := []) (rest := []) F (by decide +kernel) lX7_191 bX7_multiply ⟨7, _, ((q.sm s163.1).o 52 7 rfl), rfl, rfl⟩ (c_X7_multiply G X.2.1 M163 (q.sm s163.1) s163.2) (rm_ok hRm hd (by decide) (by decide)) ⟨Nat.zero_le _, Nat.zero_le _⟩ (Nat.le_of_ble_eq_true rfl) (fun r_ N_ p_ => ?_)
                obtain ⟨rfl, rfl, t195⟩ := p_
                refine (?_ : ∀ (M198 : Mem), (Sg M M198) → f_X7_does M op f g t = f_X7_does_c198 t M198 → V G X 6 0 0 (Qx G X 0 0 (p_X7_does M op f g t)) 198 [(0, .ref 52), (1, .int op), (4, .int t)] [] M198) _ (Sg.tr s163 t195) E
                intro M198 s198 E
                refine V.seg F floX7 cjoX7 [.goto 168] (by decide +kernel) (pc2 := 366) (lv2 := [(0, .ref 52), (1, .int op), (4, .int t)]) (st2 := []) (M2 := M198) rfl ⟨(by decide), trivial⟩ ?_
                refine V.pick [0, 2] rfl ?_
                exact hJ366 M198 s198 E
            · replace E := E.trans (if_neg h165)
              refine V.seg F floX7 cjoX7 [.aload_n 0, .bipush 16, .bipush 17, .iload_n 1, .iconst 1] (by decide +kernel) (pc2 := 175) (lv2 := [(0, .ref 52), (1, .int op), (4, .int t)]) (st2 := [.int 1, .int op, .int 17, .int 16, .ref 52]) (M2 := M163) rfl ⟨trivial, trivial, trivial, trivial, trivial, trivial⟩ ?_
              have hJ183 : ∀ (w0_183 : Int32) (M183 : Mem), (Sg M M183) → (w0_183 = 0 ∨ w0_183 = 1) → f_X7_does M op f g t = f_X7_does_183 t w0_183 M183 → V G X 6 0 0 (Qx G X 0 0 (p_X7_does M op f g t)) 183 [(0, .ref 52), (4, .int t)] [.int w0_183, .int 17, .int 16, .ref 52] M183 := by
                intro w0_183 M183 s183 zw0_183 E
                refine V.callV (as := [.int 16, .int 17, .int w0_183]) (rest := []) F (by decide +kernel) lX7_187 bX7_add ⟨7, _, ((q.sm s183.1).o 52 7 rfl), rfl, rfl⟩ (c_X7_add G X.2.1 M183 16 17 w0_183 (zw0_183) (q.sm s183.1) s183.2 (vinc (by decide)) (vinc (by decide))) (rm_ok hRm hd (by decide) (by decide)) ⟨Nat.zero_le _, Nat.zero_le _⟩ (Nat.le_of_ble_eq_true rfl) (fun r_ N_ p_ => ?_)
                obtain ⟨rfl, rfl, t183⟩ := p_
                refine (?_ : ∀ (M186 : Mem), (Sg M M186) → f_X7_does M op f g t = f_X7_does_c186 t M186 → V G X 6 0 0 (Qx G X 0 0 (p_X7_does M op f g t)) 186 [(0, .ref 52), (4, .int t)] [] M186) _ (Sg.tr s183 t183) E
                intro M186 s186 E
                refine V.seg F floX7 cjoX7 [.goto 180] (by decide +kernel) (pc2 := 366) (lv2 := [(0, .ref 52), (4, .int t)]) (st2 := []) (M2 := M186) rfl ⟨(by decide), trivial⟩ ?_
                refine V.pick [0, 1] rfl ?_
                exact hJ366 M186 s186 E
              refine V.ic_ne (off := 7) F (by decide +kernel) (tgt := 182) (by decide) (fun h175 => ?_) (fun h175 => ?_)
              · replace E := E.trans (if_neg h175)
                refine V.seg F floX7 cjoX7 [.iconst 0] (by decide +kernel) (pc2 := 183) (lv2 := [(0, .ref 52), (1, .int op), (4, .int t)]) (st2 := [.int 0, .int 17, .int 16, .ref 52]) (M2 := M163) rfl ⟨trivial, trivial⟩ ?_
                refine V.pick [0, 2] rfl ?_
                exact hJ183 0 M163 s163 (Or.inl rfl) E
              · replace E := E.trans (if_pos h175)
                refine V.seg F floX7 cjoX7 [.iconst 1, .goto 4] (by decide +kernel) (pc2 := 183) (lv2 := [(0, .ref 52), (1, .int op), (4, .int t)]) (st2 := [.int 1, .int 17, .int 16, .ref 52]) (M2 := M163) rfl ⟨trivial, (by decide), trivial⟩ ?_
                refine V.pick [0, 2] rfl ?_
                exact hJ183 1 M163 s163 (Or.inr rfl) E
          refine V.if_eq (off := 8) F (by decide +kernel) (tgt := 153) (by decide) (fun h145 => ?_) (fun h145 => ?_)
          · replace E := E.trans (if_pos h145)
            refine V.seg F floX7 cjoX7 [.iload_n 3] (by decide +kernel) (pc2 := 154) (lv2 := [(0, .ref 52), (1, .int op), (2, .int f), (3, .int g), (4, .int t), (5, .int w0_16)]) (st2 := [.int g, .int 17, .ref 52]) (M2 := M140) rfl ⟨trivial, trivial⟩ ?_
            refine V.pick [0, 1, 4] rfl ?_
            exact hJ154 g M140 s140 (by first | exact i_g | exact vinc (by decide)) E
          · replace E := E.trans (if_neg h145)
            refine V.seg F floX7 cjoX7 [.bipush 24, .goto 4] (by decide +kernel) (pc2 := 154) (lv2 := [(0, .ref 52), (1, .int op), (2, .int f), (3, .int g), (4, .int t), (5, .int w0_16)]) (st2 := [.int 24, .int 17, .ref 52]) (M2 := M140) rfl ⟨trivial, (by decide), trivial⟩ ?_
            refine V.pick [0, 1, 4] rfl ?_
            exact hJ154 24 M140 s140 (by first | exact i_g | exact vinc (by decide)) E
        refine V.if_eq (off := 80) F (by decide +kernel) (tgt := 133) (by decide) (fun h53 => ?_) (fun h53 => ?_)
        · replace E := E.trans (if_pos h53)
          refine V.pick [0, 1, 2, 3, 4, 5] rfl ?_
          exact hJ133 M48 s48 E
        · replace E := E.trans (if_neg h53)
          refine V.seg F floX7 cjoX7 [.iload 5] (by decide +kernel) (pc2 := 58) (lv2 := [(0, .ref 52), (1, .int op), (2, .int f), (3, .int g), (4, .int t), (5, .int w0_16)]) (st2 := [.int w0_16]) (M2 := M48) rfl ⟨trivial, trivial⟩ ?_
          have hJ69 : ∀ (M69 : Mem), (Sg M M69) → f_X7_does M op f g t = f_X7_does_69 op f g t w0_16 M69 → V G X 6 0 0 (Qx G X 0 0 (p_X7_does M op f g t)) 69 [(0, .ref 52), (1, .int op), (2, .int f), (3, .int g), (4, .int t), (5, .int w0_16)] [] M69 := by
            intro M69 s69 E
            refine V.seg F floX7 cjoX7 [.iload_n 1, .bipush 9] (by decide +kernel) (pc2 := 72) (lv2 := [(0, .ref 52), (1, .int op), (2, .int f), (3, .int g), (4, .int t), (5, .int w0_16)]) (st2 := [.int 9, .int op]) (M2 := M69) rfl ⟨trivial, trivial, trivial⟩ ?_
            have hJ132 : ∀ (M132 : Mem), (Sg M M132) → f_X7_does M op f g t = f_X7_does_132 M132 → V G X 6 0 0 (Qx G X 0 0 (p_X7_does M op f g t)) 132 [] [] M132 := by
              intro M132 s132 E
              exact V.vret F (by decide +kernel) ⟨rfl, E.symm, s132⟩
            have hJ101 : ∀ (M101 : Mem), (Sg M M101) → (op = 9 ∨ op = 10 → ¬ mL M101 54 (ix g) = 0) → f_X7_does M op f g t = f_X7_does_101 op f g t w0_16 M101 → V G X 6 0 0 (Qx G X 0 0 (p_X7_does M op f g t)) 101 [(0, .ref 52), (1, .int op), (2, .int f), (3, .int g), (4, .int t), (5, .int w0_16)] [] M101 := by
              intro M101 s101 jo101 E
              refine V.seg F floX7 cjoX7 [.aload_n 0, .iload 4, .iload_n 1, .aload_n 0, .getfield 13, .iload_n 2, .laload, .iload 5] (by decide +kernel) (pc2 := 113) (lv2 := [(0, .ref 52), (1, .int op), (2, .int f), (3, .int g), (4, .int t), (5, .int w0_16)]) (st2 := [.int w0_16, .long (mL M101 54 (ix f)), .int op, .int t, .ref 52]) (M2 := M101) rfl ⟨trivial, trivial, trivial, trivial, ((q.sm s101.1).f 52 7 1 rfl), trivial, ((q.sm s101.1).a 54 22 1648 rfl (by first | assumption | exact vinc (by decide))), trivial, trivial⟩ ?_
              have hJ126 : ∀ (w0_126 : Int64) (M126 : Mem), (Sg M M126) → (op = 9 ∨ op = 10 → ¬ w0_126 = 0) → f_X7_does M op f g t = f_X7_does_126 op f t M101 w0_126 M126 → V G X 6 0 0 (Qx G X 0 0 (p_X7_does M op f g t)) 126 [] [.long w0_126, .long (mL M101 54 (ix f)), .int op, .int t, .ref 52] M126 := by
                intro w0_126 M126 s126 jo126 E
                refine V.callS (as := [.int op, .long (mL M101 54 (ix f)), .long w0_126]) (rest := [.int t, .ref 52]) F (by decide +kernel) lX7_183 bX7_reckon (c_X7_reckon G X.2.1 M126 op (mL M101 54 (ix f)) w0_126 (by first | assumption | decide)) (rm_ok hRm hd (by decide) (by decide)) ⟨Nat.zero_le _, Nat.zero_le _⟩ (Nat.le_of_ble_eq_true rfl) (fun r_ N_ p_ => ?_)
                obtain ⟨rfl, hN_⟩ := p_
                rw [hN_]
                clear hN_
                refine V.callV (as := [.int t, .long (f_X7_reckon op (mL M101 54 (ix f)) w0_126)]) (rest := []) F (by decide +kernel) lX7_118 bX7_number ⟨7, _, ((q.sm s126.1).o 52 7 rfl), rfl, rfl⟩ (c_X7_number G X.2.1 M126 t (f_X7_reckon op (mL M101 54 (ix f)) w0_126) (q.sm s126.1) s126.2 (by first | assumption | exact vinc (by decide))) (rm_ok hRm hd (by decide) (by decide)) ⟨Nat.zero_le _, Nat.zero_le _⟩ (Nat.le_of_ble_eq_true rfl) (fun r_ N_ p_ => ?_)
                obtain ⟨rfl, rfl, t129⟩ := p_
                refine (?_ : ∀ (M132 : Mem), (Sg M M132) → f_X7_does M op f g t = f_X7_does_c132 M132 → V G X 6 0 0 (Qx G X 0 0 (p_X7_does M op f g t)) 132 [] [] M132) _ (Sg.tr s126 t129) E
                intro M132 s132 E
                refine V.pick [] rfl ?_
                exact hJ132 M132 s132 E
              refine V.if_eq (off := 7) F (by decide +kernel) (tgt := 120) (by decide) (fun h113 => ?_) (fun h113 => ?_)
              · replace E := E.trans (if_pos h113)
                refine V.seg F floX7 cjoX7 [.aload_n 0, .getfield 13, .iload_n 3, .laload] (by decide +kernel) (pc2 := 126) (lv2 := [(0, .ref 52), (1, .int op), (2, .int f), (3, .int g), (4, .int t), (5, .int w0_16)]) (st2 := [.long (mL M101 54 (ix g)), .long (mL M101 54 (ix f)), .int op, .int t, .ref 52]) (M2 := M101) rfl ⟨trivial, ((q.sm s101.1).f 52 7 1 rfl), trivial, ((q.sm s101.1).a 54 22 1648 rfl (by first | assumption | exact vinc (by decide))), trivial⟩ ?_
                refine V.pick [] rfl ?_
                exact hJ126 (mL M101 54 (ix g)) M101 s101 (by first | exact jo101 | exact fun z => absurd z (jo16 h113)) E
              · replace E := E.trans (if_neg h113)
                refine V.seg F floX7 cjoX7 [.lconst 0, .goto 9] (by decide +kernel) (pc2 := 126) (lv2 := [(0, .ref 52), (1, .int op), (2, .int f), (3, .int g), (4, .int t), (5, .int w0_16)]) (st2 := [.long 0, .long (mL M101 54 (ix f)), .int op, .int t, .ref 52]) (M2 := M101) rfl ⟨trivial, (by decide), trivial⟩ ?_
                refine V.pick [] rfl ?_
                exact hJ126 0 M101 s101 (by first | exact jo101 | exact fun z => absurd z (jo16 h113)) E
            have hJ81 : ∀ (M81 : Mem), (Sg M M81) → f_X7_does M op f g t = f_X7_does_81 op f g t w0_16 M81 → V G X 6 0 0 (Qx G X 0 0 (p_X7_does M op f g t)) 81 [(0, .ref 52), (1, .int op), (2, .int f), (3, .int g), (4, .int t), (5, .int w0_16)] [] M81 := by
              intro M81 s81 E
              refine V.seg F floX7 cjoX7 [.aload_n 0, .getfield 13, .iload_n 3, .laload, .lconst 0, .lcmp] (by decide +kernel) (pc2 := 89) (lv2 := [(0, .ref 52), (1, .int op), (2, .int f), (3, .int g), (4, .int t), (5, .int w0_16)]) (st2 := [.int (lg_cmp (mL M81 54 (ix g)) 0)]) (M2 := M81) rfl ⟨trivial, ((q.sm s81.1).f 52 7 1 rfl), trivial, ((q.sm s81.1).a 54 22 1648 rfl (by first | assumption | exact vinc (by decide))), trivial, trivial, trivial⟩ ?_
              refine V.lc_ne (off := 12) F (by decide +kernel) (tgt := 101) (by decide) (fun h89 => ?_) (fun h89 => ?_)
              · replace E := E.trans (if_neg h89)
                refine V.pick [0, 1, 2, 3, 4, 5] rfl ?_
                exact hJ101 M81 s81 (by first | exact fun _ => h89 | exact fun z => z.elim (fun y => absurd y h72) (fun y => absurd y h78)) E
              · replace E := E.trans (if_pos h89)
                refine V.seg F floX7 cjoX7 [.aload_n 0, .iload 4] (by decide +kernel) (pc2 := 95) (lv2 := [(0, .ref 52), (1, .int op), (2, .int f), (3, .int g), (4, .int t), (5, .int w0_16)]) (st2 := [.int t, .ref 52]) (M2 := M81) rfl ⟨trivial, trivial, trivial⟩ ?_
                refine V.callV (as := [.int t]) (rest := []) F (by decide +kernel) lX7_115 bX7_nothing ⟨7, _, ((q.sm s81.1).o 52 7 rfl), rfl, rfl⟩ (c_X7_nothing G X.2.1 M81 t (q.sm s81.1) s81.2 (by first | assumption | exact vinc (by decide))) (rm_ok hRm hd (by decide) (by decide)) ⟨Nat.zero_le _, Nat.zero_le _⟩ (Nat.le_of_ble_eq_true rfl) (fun r_ N_ p_ => ?_)
                obtain ⟨rfl, rfl, t95⟩ := p_
                refine (?_ : ∀ (M98 : Mem), (Sg M M98) → f_X7_does M op f g t = f_X7_does_c98 M98 → V G X 6 0 0 (Qx G X 0 0 (p_X7_does M op f g t)) 98 [(0, .ref 52), (1, .int op), (2, .int f), (3, .int g), (4, .int t), (5, .int w0_16)] [] M98) _ (Sg.tr s81 t95) E
                intro M98 s98 E
                refine V.seg F floX7 cjoX7 [.goto 34] (by decide +kernel) (pc2 := 132) (lv2 := [(0, .ref 52), (1, .int op), (2, .int f), (3, .int g), (4, .int t), (5, .int w0_16)]) (st2 := []) (M2 := M98) rfl ⟨(by decide), trivial⟩ ?_
                refine V.pick [] rfl ?_
                exact hJ132 M98 s98 E
            refine V.ic_eq (off := 9) F (by decide +kernel) (tgt := 81) (by decide) (fun h72 => ?_) (fun h72 => ?_)
            · replace E := E.trans (if_pos h72)
              refine V.pick [0, 1, 2, 3, 4, 5] rfl ?_
              exact hJ81 M69 s69 E
            · replace E := E.trans (if_neg h72)
              refine V.seg F floX7 cjoX7 [.iload_n 1, .bipush 10] (by decide +kernel) (pc2 := 78) (lv2 := [(0, .ref 52), (1, .int op), (2, .int f), (3, .int g), (4, .int t), (5, .int w0_16)]) (st2 := [.int 10, .int op]) (M2 := M69) rfl ⟨trivial, trivial, trivial⟩ ?_
              refine V.ic_ne (off := 23) F (by decide +kernel) (tgt := 101) (by decide) (fun h78 => ?_) (fun h78 => ?_)
              · replace E := E.trans (if_neg h78)
                refine V.pick [0, 1, 2, 3, 4, 5] rfl ?_
                exact hJ101 M69 s69 (by first | exact fun _ => h89 | exact fun z => z.elim (fun y => absurd y h72) (fun y => absurd y h78)) E
              · replace E := E.trans (if_pos h78)
                refine V.pick [0, 1, 2, 3, 4, 5] rfl ?_
                exact hJ81 M69 s69 E
          refine V.if_ne (off := 11) F (by decide +kernel) (tgt := 69) (by decide) (fun h58 => ?_) (fun h58 => ?_)
          · replace E := E.trans (if_neg h58)
            refine V.pick [0, 1, 2, 3, 4, 5] rfl ?_
            exact hJ69 M48 s48 E
          · replace E := E.trans (if_pos h58)
            refine V.seg F floX7 cjoX7 [.aload_n 0, .iload_n 3] (by decide +kernel) (pc2 := 63) (lv2 := [(0, .ref 52), (1, .int op), (2, .int f), (3, .int g), (4, .int t), (5, .int w0_16)]) (st2 := [.int g, .ref 52]) (M2 := M48) rfl ⟨trivial, trivial, trivial⟩ ?_
            refine V.callV (as := [.int g]) (rest := []) F (by decide +kernel) lX7_130 bX7_isNumber ⟨7, _, ((q.sm s48.1).o 52 7 rfl), rfl, rfl⟩ (c_X7_isNumber G X.2.1 M48 g (q.sm s48.1) s48.2 (by first | assumption | exact vinc (by decide))) (rm_ok hRm hd (by decide) (by decide)) ⟨Nat.zero_le _, Nat.zero_le _⟩ (Nat.le_of_ble_eq_true rfl) (fun r_ N_ p_ => ?_)
            obtain ⟨rfl, hN_, z63⟩ := p_
            rw [hN_]
            clear hN_
            refine V.if_eq (off := 67) F (by decide +kernel) (tgt := 133) (by decide) (fun h66 => ?_) (fun h66 => ?_)
            · replace E := E.trans (if_pos h66)
              refine V.pick [0, 1, 2, 3, 4, 5] rfl ?_
              exact hJ133 M48 s48 E
            · replace E := E.trans (if_neg h66)
              refine V.pick [0, 1, 2, 3, 4, 5] rfl ?_
              exact hJ69 M48 s48 E
      refine V.if_ne (off := 19) F (by decide +kernel) (tgt := 48) (by decide) (fun h29 => ?_) (fun h29 => ?_)
      · replace E := E.trans (if_neg h29)
        refine V.pick [1, 2, 3, 4, 5, 0] rfl ?_
        exact hJ48 M16 s16 E
      · replace E := E.trans (if_pos h29)
        refine V.seg F floX7 cjoX7 [.aload_n 0, .getfield 9, .iload_n 3, .baload] (by decide +kernel) (pc2 := 38) (lv2 := [(5, .int w0_16), (0, .ref 52), (1, .int op), (2, .int f), (3, .int g), (4, .int t)]) (st2 := [.int (mI M16 53 (ix g))]) (M2 := M16) rfl ⟨trivial, ((q.sm s16.1).f 52 7 0 rfl), trivial, ((q.sm s16.1).a 53 21 1648 rfl (by first | assumption | exact vinc (by decide))), trivial⟩ ?_
        refine V.if_eq (off := 10) F (by decide +kernel) (tgt := 48) (by decide) (fun h38 => ?_) (fun h38 => ?_)
        · replace E := E.trans (if_pos h38)
          refine V.pick [1, 2, 3, 4, 5, 0] rfl ?_
          exact hJ48 M16 s16 E
        · replace E := E.trans (if_neg h38)
          refine V.pick [1, 5] rfl ?_
          exact hJ41 M16 s16 E
  refine V.ic_le (off := 7) F (by decide +kernel) (tgt := 15) (by decide) (fun h8 => ?_) (fun h8 => ?_)
  · replace E := E.trans (if_pos h8)
    refine V.seg F floX7 cjoX7 [.iconst 0] (by decide +kernel) (pc2 := 16) (lv2 := [(0, .ref 52), (1, .int op), (2, .int f), (3, .int g), (4, .int t)]) (st2 := [.int 0]) (M2 := uI M 52 8 0) rfl ⟨trivial, trivial⟩ ?_
    refine V.pick [0, 1, 2, 3, 4] rfl ?_
    exact hJ16 0 (uI M 52 8 0) (Sg.pF (Sg.rf gb)) (by first | exact fun _ => hop_gt h8 | exact fun z => absurd rfl z) E
  · replace E := E.trans (if_neg h8)
    refine V.seg F floX7 cjoX7 [.iconst 1, .goto 4] (by decide +kernel) (pc2 := 16) (lv2 := [(0, .ref 52), (1, .int op), (2, .int f), (3, .int g), (4, .int t)]) (st2 := [.int 1]) (M2 := uI M 52 8 0) rfl ⟨trivial, (by decide), trivial⟩ ?_
    refine V.pick [0, 1, 2, 3, 4] rfl ?_
    exact hJ16 1 (uI M 52 8 0) (Sg.pF (Sg.rf gb)) (by first | exact fun _ => hop_gt h8 | exact fun z => absurd rfl z) E
end
section
theorem i_vc : Claimed_1_1 ∧ Claimed_1_2 := sorry
end

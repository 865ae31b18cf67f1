-- ===== PART A: goes FIRST, ahead of the names: the tables' words, and 'selects' of the private methods out of them =====
/-- a private method of a class that the tables say can be made, by its rows of tables_1 -/
def lw_okq (q : MethodName × Nat) : Prop := (q.1.cls ≠ "java/lang/invoke/MethodHandle" ∧ q.1.cls ≠ "java/lang/invoke/VarHandle") ∧ Cond.instantiable q.1.cls q.2 ∈ tables_1 ∧ Cond.privateMethod q.1 ∈ tables_1 ∧ Cond.instanceMethod q.1 ∈ tables_1
theorem lw_p0 : lw_okq (⟨"Springward", "cellAt", "(I)LSpringward$Cell;"⟩, 17) := ⟨⟨by decide +kernel, by decide +kernel⟩, List.mem_of_getElem? (i := 20) (by decide +kernel), List.mem_of_getElem? (i := 197) (by decide +kernel), List.mem_of_getElem? (i := 198) (by decide +kernel)⟩
theorem lw_p1 : lw_okq (⟨"java/lang/Throwable", "fillInStackTrace", "(I)Ljava/lang/Throwable;"⟩, 6) := ⟨⟨by decide +kernel, by decide +kernel⟩, List.mem_of_getElem? (i := 242) (by decide +kernel), List.mem_of_getElem? (i := 240) (by decide +kernel), List.mem_of_getElem? (i := 241) (by decide +kernel)⟩
theorem lw_p2 : lw_okq (⟨"Springward", "passOne", "(I)V"⟩, 17) := ⟨⟨by decide +kernel, by decide +kernel⟩, List.mem_of_getElem? (i := 20) (by decide +kernel), List.mem_of_getElem? (i := 357) (by decide +kernel), List.mem_of_getElem? (i := 358) (by decide +kernel)⟩
theorem lw_p3 : lw_okq (⟨"Springward", "leadOn", "()V"⟩, 17) := ⟨⟨by decide +kernel, by decide +kernel⟩, List.mem_of_getElem? (i := 20) (by decide +kernel), List.mem_of_getElem? (i := 361) (by decide +kernel), List.mem_of_getElem? (i := 362) (by decide +kernel)⟩
theorem lw_p4 : lw_okq (⟨"Springward", "rainOn", "(I)V"⟩, 17) := ⟨⟨by decide +kernel, by decide +kernel⟩, List.mem_of_getElem? (i := 20) (by decide +kernel), List.mem_of_getElem? (i := 443) (by decide +kernel), List.mem_of_getElem? (i := 444) (by decide +kernel)⟩
theorem lw_p5 : lw_okq (⟨"Springward$Cell", "nitrateOfRain", "()I"⟩, 8) := ⟨⟨by decide +kernel, by decide +kernel⟩, List.mem_of_getElem? (i := 29) (by decide +kernel), List.mem_of_getElem? (i := 452) (by decide +kernel), List.mem_of_getElem? (i := 453) (by decide +kernel)⟩
theorem lw_p6 : lw_okq (⟨"Springward", "payContracts", "()V"⟩, 17) := ⟨⟨by decide +kernel, by decide +kernel⟩, List.mem_of_getElem? (i := 20) (by decide +kernel), List.mem_of_getElem? (i := 459) (by decide +kernel), List.mem_of_getElem? (i := 460) (by decide +kernel)⟩
theorem lw_p7 : lw_okq (⟨"Springward", "wellAt", "(I)LSpringward$Well;"⟩, 17) := ⟨⟨by decide +kernel, by decide +kernel⟩, List.mem_of_getElem? (i := 20) (by decide +kernel), List.mem_of_getElem? (i := 509) (by decide +kernel), List.mem_of_getElem? (i := 510) (by decide +kernel)⟩
theorem lw_p8 : lw_okq (⟨"Springward", "mayTakeStill", "(LSpringward$Well;)I"⟩, 17) := ⟨⟨by decide +kernel, by decide +kernel⟩, List.mem_of_getElem? (i := 20) (by decide +kernel), List.mem_of_getElem? (i := 513) (by decide +kernel), List.mem_of_getElem? (i := 514) (by decide +kernel)⟩
theorem lw_p9 : lw_okq (⟨"Springward", "lotAt", "(I)LSpringward$Lot;"⟩, 17) := ⟨⟨by decide +kernel, by decide +kernel⟩, List.mem_of_getElem? (i := 20) (by decide +kernel), List.mem_of_getElem? (i := 564) (by decide +kernel), List.mem_of_getElem? (i := 565) (by decide +kernel)⟩
theorem lw_p10 : lw_okq (⟨"Springward$Lot", "hasAtMost", "(II)Z"⟩, 7) := ⟨⟨by decide +kernel, by decide +kernel⟩, List.mem_of_getElem? (i := 519) (by decide +kernel), List.mem_of_getElem? (i := 579) (by decide +kernel), List.mem_of_getElem? (i := 580) (by decide +kernel)⟩
theorem lw_p11 : lw_okq (⟨"Springward$Journal", "emptyTanks", "()V"⟩, 4) := ⟨⟨by decide +kernel, by decide +kernel⟩, List.mem_of_getElem? (i := 92) (by decide +kernel), List.mem_of_getElem? (i := 707) (by decide +kernel), List.mem_of_getElem? (i := 708) (by decide +kernel)⟩
theorem lw_p12 : lw_okq (⟨"Springward$Journal", "putAway", "(LSpringward$Piece;)V"⟩, 4) := ⟨⟨by decide +kernel, by decide +kernel⟩, List.mem_of_getElem? (i := 92) (by decide +kernel), List.mem_of_getElem? (i := 711) (by decide +kernel), List.mem_of_getElem? (i := 712) (by decide +kernel)⟩
theorem lw_p13 : lw_okq (⟨"Springward$Journal", "rainAgain", "(II)V"⟩, 4) := ⟨⟨by decide +kernel, by decide +kernel⟩, List.mem_of_getElem? (i := 92) (by decide +kernel), List.mem_of_getElem? (i := 719) (by decide +kernel), List.mem_of_getElem? (i := 720) (by decide +kernel)⟩
theorem lw_p14 : lw_okq (⟨"Springward$Journal", "newPiece", "(II)LSpringward$Piece;"⟩, 4) := ⟨⟨by decide +kernel, by decide +kernel⟩, List.mem_of_getElem? (i := 92) (by decide +kernel), List.mem_of_getElem? (i := 723) (by decide +kernel), List.mem_of_getElem? (i := 724) (by decide +kernel)⟩
theorem lw_p15 : lw_okq (⟨"Springward$Journal", "moveAgain", "(LSpringward$Move;)I"⟩, 4) := ⟨⟨by decide +kernel, by decide +kernel⟩, List.mem_of_getElem? (i := 92) (by decide +kernel), List.mem_of_getElem? (i := 748) (by decide +kernel), List.mem_of_getElem? (i := 749) (by decide +kernel)⟩
def lw_privs_1 : List (MethodName × Nat) := [(⟨"Springward", "cellAt", "(I)LSpringward$Cell;"⟩, 17), (⟨"java/lang/Throwable", "fillInStackTrace", "(I)Ljava/lang/Throwable;"⟩, 6), (⟨"Springward", "passOne", "(I)V"⟩, 17), (⟨"Springward", "leadOn", "()V"⟩, 17), (⟨"Springward", "rainOn", "(I)V"⟩, 17), (⟨"Springward$Cell", "nitrateOfRain", "()I"⟩, 8), (⟨"Springward", "payContracts", "()V"⟩, 17), (⟨"Springward", "wellAt", "(I)LSpringward$Well;"⟩, 17), (⟨"Springward", "mayTakeStill", "(LSpringward$Well;)I"⟩, 17), (⟨"Springward", "lotAt", "(I)LSpringward$Lot;"⟩, 17), (⟨"Springward$Lot", "hasAtMost", "(II)Z"⟩, 7), (⟨"Springward$Journal", "emptyTanks", "()V"⟩, 4), (⟨"Springward$Journal", "putAway", "(LSpringward$Piece;)V"⟩, 4), (⟨"Springward$Journal", "rainAgain", "(II)V"⟩, 4), (⟨"Springward$Journal", "newPiece", "(II)LSpringward$Piece;"⟩, 4), (⟨"Springward$Journal", "moveAgain", "(LSpringward$Move;)I"⟩, 4)]
theorem lw_r1 : ∀ q ∈ lw_privs_1, lw_okq q := List.forall_mem_cons.mpr ⟨lw_p0, List.forall_mem_cons.mpr ⟨lw_p1, List.forall_mem_cons.mpr ⟨lw_p2, List.forall_mem_cons.mpr ⟨lw_p3, List.forall_mem_cons.mpr ⟨lw_p4, List.forall_mem_cons.mpr ⟨lw_p5, List.forall_mem_cons.mpr ⟨lw_p6, List.forall_mem_cons.mpr ⟨lw_p7, List.forall_mem_cons.mpr ⟨lw_p8, List.forall_mem_cons.mpr ⟨lw_p9, List.forall_mem_cons.mpr ⟨lw_p10, List.forall_mem_cons.mpr ⟨lw_p11, List.forall_mem_cons.mpr ⟨lw_p12, List.forall_mem_cons.mpr ⟨lw_p13, List.forall_mem_cons.mpr ⟨lw_p14, List.forall_mem_cons.mpr ⟨lw_p15, fun _ h => absurd h List.not_mem_nil⟩⟩⟩⟩⟩⟩⟩⟩⟩⟩⟩⟩⟩⟩⟩⟩
theorem lw_p16 : lw_okq (⟨"Springward$Journal", "tankAt", "(I)LSpringward$Tank;"⟩, 4) := ⟨⟨by decide +kernel, by decide +kernel⟩, List.mem_of_getElem? (i := 92) (by decide +kernel), List.mem_of_getElem? (i := 752) (by decide +kernel), List.mem_of_getElem? (i := 753) (by decide +kernel)⟩
theorem lw_p17 : lw_okq (⟨"Springward$Journal", "cut", "(LSpringward$Piece;I)LSpringward$Piece;"⟩, 4) := ⟨⟨by decide +kernel, by decide +kernel⟩, List.mem_of_getElem? (i := 92) (by decide +kernel), List.mem_of_getElem? (i := 756) (by decide +kernel), List.mem_of_getElem? (i := 757) (by decide +kernel)⟩
theorem lw_p18 : lw_okq (⟨"Springward", "unitsInCells", "()J"⟩, 17) := ⟨⟨by decide +kernel, by decide +kernel⟩, List.mem_of_getElem? (i := 20) (by decide +kernel), List.mem_of_getElem? (i := 781) (by decide +kernel), List.mem_of_getElem? (i := 782) (by decide +kernel)⟩
theorem lw_p19 : lw_okq (⟨"Springward", "unitsBottled", "()J"⟩, 17) := ⟨⟨by decide +kernel, by decide +kernel⟩, List.mem_of_getElem? (i := 20) (by decide +kernel), List.mem_of_getElem? (i := 785) (by decide +kernel), List.mem_of_getElem? (i := 786) (by decide +kernel)⟩
theorem lw_p20 : lw_okq (⟨"Springward", "falseLabels", "()J"⟩, 17) := ⟨⟨by decide +kernel, by decide +kernel⟩, List.mem_of_getElem? (i := 20) (by decide +kernel), List.mem_of_getElem? (i := 789) (by decide +kernel), List.mem_of_getElem? (i := 790) (by decide +kernel)⟩
theorem lw_p21 : lw_okq (⟨"SpringwardModel", "can", "(I)Z"⟩, 40) := ⟨⟨by decide +kernel, by decide +kernel⟩, List.mem_of_getElem? (i := 793) (by decide +kernel), List.mem_of_getElem? (i := 936) (by decide +kernel), List.mem_of_getElem? (i := 937) (by decide +kernel)⟩
theorem lw_p22 : lw_okq (⟨"SpringwardModel", "travel", "(I)I"⟩, 40) := ⟨⟨by decide +kernel, by decide +kernel⟩, List.mem_of_getElem? (i := 793) (by decide +kernel), List.mem_of_getElem? (i := 955) (by decide +kernel), List.mem_of_getElem? (i := 956) (by decide +kernel)⟩
theorem lw_p23 : lw_okq (⟨"SpringwardModel", "passes", "(I)V"⟩, 40) := ⟨⟨by decide +kernel, by decide +kernel⟩, List.mem_of_getElem? (i := 793) (by decide +kernel), List.mem_of_getElem? (i := 967) (by decide +kernel), List.mem_of_getElem? (i := 968) (by decide +kernel)⟩
theorem lw_p24 : lw_okq (⟨"SpringwardModel", "moves", "(III)V"⟩, 40) := ⟨⟨by decide +kernel, by decide +kernel⟩, List.mem_of_getElem? (i := 793) (by decide +kernel), List.mem_of_getElem? (i := 971) (by decide +kernel), List.mem_of_getElem? (i := 972) (by decide +kernel)⟩
theorem lw_p25 : lw_okq (⟨"SpringwardModel", "takesOff", "(II)I"⟩, 40) := ⟨⟨by decide +kernel, by decide +kernel⟩, List.mem_of_getElem? (i := 793) (by decide +kernel), List.mem_of_getElem? (i := 975) (by decide +kernel), List.mem_of_getElem? (i := 976) (by decide +kernel)⟩
theorem lw_p26 : lw_okq (⟨"SpringwardModel", "knots", "(IIIII)I"⟩, 40) := ⟨⟨by decide +kernel, by decide +kernel⟩, List.mem_of_getElem? (i := 793) (by decide +kernel), List.mem_of_getElem? (i := 979) (by decide +kernel), List.mem_of_getElem? (i := 980) (by decide +kernel)⟩
theorem lw_p27 : lw_okq (⟨"SpringwardModel", "appends", "(II)V"⟩, 40) := ⟨⟨by decide +kernel, by decide +kernel⟩, List.mem_of_getElem? (i := 793) (by decide +kernel), List.mem_of_getElem? (i := 983) (by decide +kernel), List.mem_of_getElem? (i := 984) (by decide +kernel)⟩
theorem lw_p28 : lw_okq (⟨"SpringwardModel", "rains", "(II)V"⟩, 40) := ⟨⟨by decide +kernel, by decide +kernel⟩, List.mem_of_getElem? (i := 793) (by decide +kernel), List.mem_of_getElem? (i := 987) (by decide +kernel), List.mem_of_getElem? (i := 988) (by decide +kernel)⟩
theorem lw_p29 : lw_okq (⟨"SpringwardModel", "isWell", "(I)Z"⟩, 40) := ⟨⟨by decide +kernel, by decide +kernel⟩, List.mem_of_getElem? (i := 793) (by decide +kernel), List.mem_of_getElem? (i := 1008) (by decide +kernel), List.mem_of_getElem? (i := 1009) (by decide +kernel)⟩
theorem lw_p30 : lw_okq (⟨"SpringwardModel", "may", "(I)I"⟩, 40) := ⟨⟨by decide +kernel, by decide +kernel⟩, List.mem_of_getElem? (i := 793) (by decide +kernel), List.mem_of_getElem? (i := 1012) (by decide +kernel), List.mem_of_getElem? (i := 1013) (by decide +kernel)⟩
theorem lw_p31 : lw_okq (⟨"SpringwardModel", "isLot", "(I)Z"⟩, 40) := ⟨⟨by decide +kernel, by decide +kernel⟩, List.mem_of_getElem? (i := 793) (by decide +kernel), List.mem_of_getElem? (i := 1023) (by decide +kernel), List.mem_of_getElem? (i := 1024) (by decide +kernel)⟩
def lw_privs_2 : List (MethodName × Nat) := [(⟨"Springward$Journal", "tankAt", "(I)LSpringward$Tank;"⟩, 4), (⟨"Springward$Journal", "cut", "(LSpringward$Piece;I)LSpringward$Piece;"⟩, 4), (⟨"Springward", "unitsInCells", "()J"⟩, 17), (⟨"Springward", "unitsBottled", "()J"⟩, 17), (⟨"Springward", "falseLabels", "()J"⟩, 17), (⟨"SpringwardModel", "can", "(I)Z"⟩, 40), (⟨"SpringwardModel", "travel", "(I)I"⟩, 40), (⟨"SpringwardModel", "passes", "(I)V"⟩, 40), (⟨"SpringwardModel", "moves", "(III)V"⟩, 40), (⟨"SpringwardModel", "takesOff", "(II)I"⟩, 40), (⟨"SpringwardModel", "knots", "(IIIII)I"⟩, 40), (⟨"SpringwardModel", "appends", "(II)V"⟩, 40), (⟨"SpringwardModel", "rains", "(II)V"⟩, 40), (⟨"SpringwardModel", "isWell", "(I)Z"⟩, 40), (⟨"SpringwardModel", "may", "(I)I"⟩, 40), (⟨"SpringwardModel", "isLot", "(I)Z"⟩, 40)]
theorem lw_r2 : ∀ q ∈ lw_privs_2, lw_okq q := List.forall_mem_cons.mpr ⟨lw_p16, List.forall_mem_cons.mpr ⟨lw_p17, List.forall_mem_cons.mpr ⟨lw_p18, List.forall_mem_cons.mpr ⟨lw_p19, List.forall_mem_cons.mpr ⟨lw_p20, List.forall_mem_cons.mpr ⟨lw_p21, List.forall_mem_cons.mpr ⟨lw_p22, List.forall_mem_cons.mpr ⟨lw_p23, List.forall_mem_cons.mpr ⟨lw_p24, List.forall_mem_cons.mpr ⟨lw_p25, List.forall_mem_cons.mpr ⟨lw_p26, List.forall_mem_cons.mpr ⟨lw_p27, List.forall_mem_cons.mpr ⟨lw_p28, List.forall_mem_cons.mpr ⟨lw_p29, List.forall_mem_cons.mpr ⟨lw_p30, List.forall_mem_cons.mpr ⟨lw_p31, fun _ h => absurd h List.not_mem_nil⟩⟩⟩⟩⟩⟩⟩⟩⟩⟩⟩⟩⟩⟩⟩⟩
theorem lw_p32 : lw_okq (⟨"SpringwardModel", "isWater", "(II)Z"⟩, 40) := ⟨⟨by decide +kernel, by decide +kernel⟩, List.mem_of_getElem? (i := 793) (by decide +kernel), List.mem_of_getElem? (i := 1031) (by decide +kernel), List.mem_of_getElem? (i := 1032) (by decide +kernel)⟩
theorem lw_p33 : lw_okq (⟨"SpringwardModel", "fallOf", "(IZ)I"⟩, 40) := ⟨⟨by decide +kernel, by decide +kernel⟩, List.mem_of_getElem? (i := 793) (by decide +kernel), List.mem_of_getElem? (i := 1035) (by decide +kernel), List.mem_of_getElem? (i := 1036) (by decide +kernel)⟩
theorem lw_p34 : lw_okq (⟨"SpringwardModel", "compoundsOf", "(I)I"⟩, 40) := ⟨⟨by decide +kernel, by decide +kernel⟩, List.mem_of_getElem? (i := 793) (by decide +kernel), List.mem_of_getElem? (i := 1039) (by decide +kernel), List.mem_of_getElem? (i := 1040) (by decide +kernel)⟩
theorem lw_p35 : lw_okq (⟨"SpringwardModel", "nitrateOf", "(I)J"⟩, 40) := ⟨⟨by decide +kernel, by decide +kernel⟩, List.mem_of_getElem? (i := 793) (by decide +kernel), List.mem_of_getElem? (i := 1043) (by decide +kernel), List.mem_of_getElem? (i := 1044) (by decide +kernel)⟩
theorem lw_p36 : lw_okq (⟨"SpringwardModel", "meanAge", "(I)F"⟩, 40) := ⟨⟨by decide +kernel, by decide +kernel⟩, List.mem_of_getElem? (i := 793) (by decide +kernel), List.mem_of_getElem? (i := 1077) (by decide +kernel), List.mem_of_getElem? (i := 1078) (by decide +kernel)⟩
theorem lw_p37 : lw_okq (⟨"SpringwardModel", "bestOf", "(I)I"⟩, 40) := ⟨⟨by decide +kernel, by decide +kernel⟩, List.mem_of_getElem? (i := 793) (by decide +kernel), List.mem_of_getElem? (i := 1085) (by decide +kernel), List.mem_of_getElem? (i := 1086) (by decide +kernel)⟩
theorem lw_p38 : lw_okq (⟨"SpringwardModel", "fromOf", "(III)I"⟩, 40) := ⟨⟨by decide +kernel, by decide +kernel⟩, List.mem_of_getElem? (i := 793) (by decide +kernel), List.mem_of_getElem? (i := 1093) (by decide +kernel), List.mem_of_getElem? (i := 1094) (by decide +kernel)⟩
theorem lw_p39 : lw_okq (⟨"SpringwardModel", "whenceOf", "(II)I"⟩, 40) := ⟨⟨by decide +kernel, by decide +kernel⟩, List.mem_of_getElem? (i := 793) (by decide +kernel), List.mem_of_getElem? (i := 1105) (by decide +kernel), List.mem_of_getElem? (i := 1106) (by decide +kernel)⟩
theorem lw_p40 : lw_okq (⟨"SpringwardModel", "held", "()J"⟩, 40) := ⟨⟨by decide +kernel, by decide +kernel⟩, List.mem_of_getElem? (i := 793) (by decide +kernel), List.mem_of_getElem? (i := 1113) (by decide +kernel), List.mem_of_getElem? (i := 1114) (by decide +kernel)⟩
theorem lw_p41 : lw_okq (⟨"SpringwardModel", "falseOnes", "()J"⟩, 40) := ⟨⟨by decide +kernel, by decide +kernel⟩, List.mem_of_getElem? (i := 793) (by decide +kernel), List.mem_of_getElem? (i := 1117) (by decide +kernel), List.mem_of_getElem? (i := 1118) (by decide +kernel)⟩
def lw_privs_3 : List (MethodName × Nat) := [(⟨"SpringwardModel", "isWater", "(II)Z"⟩, 40), (⟨"SpringwardModel", "fallOf", "(IZ)I"⟩, 40), (⟨"SpringwardModel", "compoundsOf", "(I)I"⟩, 40), (⟨"SpringwardModel", "nitrateOf", "(I)J"⟩, 40), (⟨"SpringwardModel", "meanAge", "(I)F"⟩, 40), (⟨"SpringwardModel", "bestOf", "(I)I"⟩, 40), (⟨"SpringwardModel", "fromOf", "(III)I"⟩, 40), (⟨"SpringwardModel", "whenceOf", "(II)I"⟩, 40), (⟨"SpringwardModel", "held", "()J"⟩, 40), (⟨"SpringwardModel", "falseOnes", "()J"⟩, 40)]
theorem lw_r3 : ∀ q ∈ lw_privs_3, lw_okq q := List.forall_mem_cons.mpr ⟨lw_p32, List.forall_mem_cons.mpr ⟨lw_p33, List.forall_mem_cons.mpr ⟨lw_p34, List.forall_mem_cons.mpr ⟨lw_p35, List.forall_mem_cons.mpr ⟨lw_p36, List.forall_mem_cons.mpr ⟨lw_p37, List.forall_mem_cons.mpr ⟨lw_p38, List.forall_mem_cons.mpr ⟨lw_p39, List.forall_mem_cons.mpr ⟨lw_p40, List.forall_mem_cons.mpr ⟨lw_p41, fun _ h => absurd h List.not_mem_nil⟩⟩⟩⟩⟩⟩⟩⟩⟩⟩
def lw_privs : List (MethodName × Nat) := lw_privs_1 ++ (lw_privs_2 ++ (lw_privs_3))
def lw_tbl : List Cond := k2_sels lw_privs ++ tables_1
theorem lw_privs_ok : ∀ q ∈ lw_privs, lw_okq q := by
  show ∀ q ∈ lw_privs_1 ++ (lw_privs_2 ++ (lw_privs_3)), lw_okq q
  exact List.forall_mem_append.mpr ⟨lw_r1, List.forall_mem_append.mpr ⟨lw_r2, lw_r3⟩⟩
/-- the streams that the claim lets the run draw from -/
abbrev lw_cs : List Choice := [Jvm.Choice.named "NaN.bits"]
theorem lw_bits : nanBits ∈ lw_cs := by first | decide | exact List.mem_cons_self | simp [lw_cs, nanBits]

def RX0 : String := "Springward$Cell"
def TX0 : u_T := fun k => match k with
  | 0 => ("Springward$Cell", "number", "I", true)
  | 1 => ("Springward$Cell", "row", "LSpringward$Row;", true)
  | 2 => ("Springward$Cell", "lower", "LSpringward$Cell;", false)
  | 3 => ("Springward$Cell", "holds", "I", false)
  | 4 => ("Springward$Cell", "land", "I", false)
  | 5 => ("Springward$Cell", "contractYears", "I", false)
  | 6 => ("Springward$Cell", "contractPay", "I", false)
  | _ => ("Springward$Cell", "waiting", "I", false)
def tyX0 : Nat → FieldType := fun k => match k with
  | 0 => .int
  | 1 => .object "Springward$Row"
  | 2 => .object "Springward$Cell"
  | 3 => .int
  | 4 => .int
  | 5 => .int
  | 6 => .int
  | _ => .int
abbrev wsX00 : List Cond := u_ws RX0 TX0 8
theorem nmX0 : ∀ a, a < 8 → ∀ b, b < 8 → a ≠ b → (TX0 a).2.1 ≠ (TX0 b).2.1 := by decide +kernel
theorem tyX0_ok : ∀ k, k < 8 → parseFieldDescriptor (TX0 k).2.2.1 = some (tyX0 k) := by decide +kernel
abbrev cX0_init : ByteArray := prog_2_method_1_code
def yX0_init : MethodName := ⟨RX0, "<init>", "(ILSpringward$Cell;)V"⟩
abbrev cX0_leadsTo : ByteArray := prog_2_method_2_code
def yX0_leadsTo : MethodName := ⟨RX0, "leadsTo", "()I"⟩
abbrev cX0_travel : ByteArray := prog_2_method_3_code
def yX0_travel : MethodName := ⟨RX0, "travel", "()I"⟩
abbrev cX0_yearly : ByteArray := prog_2_method_4_code
def yX0_yearly : MethodName := ⟨RX0, "yearly", "()I"⟩
abbrev cX0_catchRain : ByteArray := prog_2_method_5_code
def yX0_catchRain : MethodName := ⟨RX0, "catchRain", "(II)V"⟩
abbrev cX0_nitrateOfRain : ByteArray := prog_2_method_6_code
def yX0_nitrateOfRain : MethodName := ⟨RX0, "nitrateOfRain", "()I"⟩
def RX1 : String := "Springward$Journal"
def TX1 : u_T := fun k => match k with
  | 0 => ("Springward$Journal", "tanks", "[LSpringward$Tank;", true)
  | 1 => ("Springward$Journal", "first", "LSpringward$Move;", false)
  | 2 => ("Springward$Journal", "last", "LSpringward$Move;", false)
  | _ => ("Springward$Journal", "spare", "LSpringward$Piece;", false)
def tyX1 : Nat → FieldType := fun k => match k with
  | 0 => .array (.object "Springward$Tank")
  | 1 => .object "Springward$Move"
  | 2 => .object "Springward$Move"
  | _ => .object "Springward$Piece"
abbrev wsX10 : List Cond := u_ws RX1 TX1 4
theorem nmX1 : ∀ a, a < 4 → ∀ b, b < 4 → a ≠ b → (TX1 a).2.1 ≠ (TX1 b).2.1 := by decide +kernel
theorem tyX1_ok : ∀ k, k < 4 → parseFieldDescriptor (TX1 k).2.2.1 = some (tyX1 k) := by decide +kernel
abbrev cX1_init : ByteArray := prog_3_method_1_code
def yX1_init : MethodName := ⟨RX1, "<init>", "()V"⟩
abbrev cX1_note : ByteArray := prog_3_method_2_code
def yX1_note : MethodName := ⟨RX1, "note", "(III)V"⟩
abbrev cX1_follow : ByteArray := prog_3_method_3_code
def yX1_follow : MethodName := ⟨RX1, "follow", "(III)I"⟩
abbrev cX1_emptyTanks : ByteArray := prog_3_method_4_code
def yX1_emptyTanks : MethodName := ⟨RX1, "emptyTanks", "()V"⟩
abbrev cX1_rainAgain : ByteArray := prog_3_method_5_code
def yX1_rainAgain : MethodName := ⟨RX1, "rainAgain", "(II)V"⟩
abbrev cX1_moveAgain : ByteArray := prog_3_method_6_code
def yX1_moveAgain : MethodName := ⟨RX1, "moveAgain", "(LSpringward$Move;)I"⟩
abbrev cX1_cut : ByteArray := prog_3_method_7_code
def yX1_cut : MethodName := ⟨RX1, "cut", "(LSpringward$Piece;I)LSpringward$Piece;"⟩
abbrev cX1_tankAt : ByteArray := prog_3_method_8_code
def yX1_tankAt : MethodName := ⟨RX1, "tankAt", "(I)LSpringward$Tank;"⟩
abbrev cX1_newPiece : ByteArray := prog_3_method_9_code
def yX1_newPiece : MethodName := ⟨RX1, "newPiece", "(II)LSpringward$Piece;"⟩
abbrev cX1_putAway : ByteArray := prog_3_method_10_code
def yX1_putAway : MethodName := ⟨RX1, "putAway", "(LSpringward$Piece;)V"⟩
def RX2 : String := "Springward$Lot"
def TX2 : u_T := fun k => match k with
  | 0 => ("Springward$Lot", "well", "I", true)
  | 1 => ("Springward$Lot", "bottled", "I", true)
  | 2 => ("Springward$Lot", "water", "LSpringward$Row;", true)
  | 3 => ("Springward$Lot", "treatments", "I", false)
  | 4 => ("Springward$Lot", "label", "I", false)
  | 5 => ("Springward$Lot", "isTrue", "Z", false)
  | _ => ("Springward$Lot", "recalled", "Z", false)
def tyX2 : Nat → FieldType := fun k => match k with
  | 0 => .int
  | 1 => .int
  | 2 => .object "Springward$Row"
  | 3 => .int
  | 4 => .int
  | 5 => .boolean
  | _ => .boolean
abbrev wsX20 : List Cond := u_ws RX2 TX2 7
theorem nmX2 : ∀ a, a < 7 → ∀ b, b < 7 → a ≠ b → (TX2 a).2.1 ≠ (TX2 b).2.1 := by decide +kernel
theorem tyX2_ok : ∀ k, k < 7 → parseFieldDescriptor (TX2 k).2.2.1 = some (tyX2 k) := by decide +kernel
abbrev cX2_init : ByteArray := prog_4_method_1_code
def yX2_init : MethodName := ⟨RX2, "<init>", "(IILSpringward$Portion;)V"⟩
abbrev cX2_leastAge : ByteArray := prog_4_method_2_code
def yX2_leastAge : MethodName := ⟨RX2, "leastAge", "()I"⟩
abbrev cX2_greatestAge : ByteArray := prog_4_method_3_code
def yX2_greatestAge : MethodName := ⟨RX2, "greatestAge", "()I"⟩
abbrev cX2_meanAge : ByteArray := prog_4_method_4_code
def yX2_meanAge : MethodName := ⟨RX2, "meanAge", "()F"⟩
abbrev cX2_truth : ByteArray := prog_4_method_5_code
def yX2_truth : MethodName := ⟨RX2, "truth", "()I"⟩
abbrev cX2_isOfKind : ByteArray := prog_4_method_6_code
def yX2_isOfKind : MethodName := ⟨RX2, "isOfKind", "(II)Z"⟩
abbrev cX2_hasAtMost : ByteArray := prog_4_method_7_code
def yX2_hasAtMost : MethodName := ⟨RX2, "hasAtMost", "(II)Z"⟩
abbrev cX2_isRecalledBy : ByteArray := prog_4_method_8_code
def yX2_isRecalledBy : MethodName := ⟨RX2, "isRecalledBy", "(I)Z"⟩
def RX3 : String := "Springward$Move"
def TX3 : u_T := fun k => match k with
  | 0 => ("Springward$Move", "from", "I", true)
  | 1 => ("Springward$Move", "to", "I", true)
  | 2 => ("Springward$Move", "units", "I", true)
  | _ => ("Springward$Move", "next", "LSpringward$Move;", false)
def tyX3 : Nat → FieldType := fun k => match k with
  | 0 => .int
  | 1 => .int
  | 2 => .int
  | _ => .object "Springward$Move"
abbrev wsX30 : List Cond := u_ws RX3 TX3 4
theorem nmX3 : ∀ a, a < 4 → ∀ b, b < 4 → a ≠ b → (TX3 a).2.1 ≠ (TX3 b).2.1 := by decide +kernel
theorem tyX3_ok : ∀ k, k < 4 → parseFieldDescriptor (TX3 k).2.2.1 = some (tyX3 k) := by decide +kernel
abbrev cX3_init : ByteArray := prog_5_method_1_code
def yX3_init : MethodName := ⟨RX3, "<init>", "(III)V"⟩
def RX4 : String := "Springward$Piece"
def TX4 : u_T := fun k => match k with
  | 0 => ("Springward$Piece", "place", "I", false)
  | 1 => ("Springward$Piece", "units", "I", false)
  | _ => ("Springward$Piece", "next", "LSpringward$Piece;", false)
def tyX4 : Nat → FieldType := fun k => match k with
  | 0 => .int
  | 1 => .int
  | _ => .object "Springward$Piece"
abbrev wsX40 : List Cond := u_ws RX4 TX4 3
theorem nmX4 : ∀ a, a < 3 → ∀ b, b < 3 → a ≠ b → (TX4 a).2.1 ≠ (TX4 b).2.1 := by decide +kernel
theorem tyX4_ok : ∀ k, k < 3 → parseFieldDescriptor (TX4 k).2.2.1 = some (tyX4 k) := by decide +kernel
abbrev cX4_init : ByteArray := prog_6_method_1_code
def yX4_init : MethodName := ⟨RX4, "<init>", "()V"⟩
def RX5 : String := "Springward$Portion"
def TX5 : u_T := fun k => match k with
  | 0 => ("Springward$Portion", "cell", "I", true)
  | 1 => ("Springward$Portion", "year", "I", true)
  | 2 => ("Springward$Portion", "nitrate", "I", true)
  | 3 => ("Springward$Portion", "compounds", "I", true)
  | 4 => ("Springward$Portion", "units", "I", false)
  | _ => ("Springward$Portion", "next", "LSpringward$Portion;", false)
def tyX5 : Nat → FieldType := fun k => match k with
  | 0 => .int
  | 1 => .int
  | 2 => .int
  | 3 => .int
  | 4 => .int
  | _ => .object "Springward$Portion"
abbrev wsX50 : List Cond := u_ws RX5 TX5 6
theorem nmX5 : ∀ a, a < 6 → ∀ b, b < 6 → a ≠ b → (TX5 a).2.1 ≠ (TX5 b).2.1 := by decide +kernel
theorem tyX5_ok : ∀ k, k < 6 → parseFieldDescriptor (TX5 k).2.2.1 = some (tyX5 k) := by decide +kernel
abbrev cX5_init : ByteArray := prog_7_method_1_code
def yX5_init : MethodName := ⟨RX5, "<init>", "(IIIII)V"⟩
abbrev cX5_splitOff : ByteArray := prog_7_method_2_code
def yX5_splitOff : MethodName := ⟨RX5, "splitOff", "(I)LSpringward$Portion;"⟩
def RX6 : String := "Springward$Row"
def TX6 : u_T := fun k => match k with
  | 0 => ("Springward$Row", "units", "I", false)
  | 1 => ("Springward$Row", "first", "LSpringward$Portion;", false)
  | _ => ("Springward$Row", "last", "LSpringward$Portion;", false)
def tyX6 : Nat → FieldType := fun k => match k with
  | 0 => .int
  | 1 => .object "Springward$Portion"
  | _ => .object "Springward$Portion"
abbrev wsX60 : List Cond := u_ws RX6 TX6 3
theorem nmX6 : ∀ a, a < 3 → ∀ b, b < 3 → a ≠ b → (TX6 a).2.1 ≠ (TX6 b).2.1 := by decide +kernel
theorem tyX6_ok : ∀ k, k < 3 → parseFieldDescriptor (TX6 k).2.2.1 = some (tyX6 k) := by decide +kernel
abbrev cX6_init : ByteArray := prog_8_method_1_code
def yX6_init : MethodName := ⟨RX6, "<init>", "()V"⟩
abbrev cX6_clear : ByteArray := prog_8_method_2_code
def yX6_clear : MethodName := ⟨RX6, "clear", "()V"⟩
abbrev cX6_append : ByteArray := prog_8_method_3_code
def yX6_append : MethodName := ⟨RX6, "append", "(LSpringward$Portion;)V"⟩
abbrev cX6_take : ByteArray := prog_8_method_4_code
def yX6_take : MethodName := ⟨RX6, "take", "(I)LSpringward$Portion;"⟩
abbrev cX6_frontYear : ByteArray := prog_8_method_5_code
def yX6_frontYear : MethodName := ⟨RX6, "frontYear", "()I"⟩
abbrev cX6_nitrate : ByteArray := prog_8_method_6_code
def yX6_nitrate : MethodName := ⟨RX6, "nitrate", "()I"⟩
abbrev cX6_compounds : ByteArray := prog_8_method_7_code
def yX6_compounds : MethodName := ⟨RX6, "compounds", "()I"⟩
abbrev cX6_oldest : ByteArray := prog_8_method_8_code
def yX6_oldest : MethodName := ⟨RX6, "oldest", "()I"⟩
abbrev cX6_youngest : ByteArray := prog_8_method_9_code
def yX6_youngest : MethodName := ⟨RX6, "youngest", "()I"⟩
abbrev cX6_agesIn : ByteArray := prog_8_method_10_code
def yX6_agesIn : MethodName := ⟨RX6, "agesIn", "(I)I"⟩
abbrev cX6_unitsThatFell : ByteArray := prog_8_method_11_code
def yX6_unitsThatFell : MethodName := ⟨RX6, "unitsThatFell", "(II)I"⟩
abbrev cX6_earliestWith : ByteArray := prog_8_method_12_code
def yX6_earliestWith : MethodName := ⟨RX6, "earliestWith", "(I)LSpringward$Portion;"⟩
abbrev cX6_isEarlier : ByteArray := prog_8_method_13_code
def yX6_isEarlier : MethodName := ⟨RX6, "isEarlier", "(LSpringward$Portion;LSpringward$Portion;)Z"⟩
def RX7 : String := "Springward$Tank"
def TX7 : u_T := fun k => match k with
  | 0 => ("Springward$Tank", "came", "I", false)
  | 1 => ("Springward$Tank", "went", "I", false)
  | 2 => ("Springward$Tank", "first", "LSpringward$Piece;", false)
  | _ => ("Springward$Tank", "last", "LSpringward$Piece;", false)
def tyX7 : Nat → FieldType := fun k => match k with
  | 0 => .int
  | 1 => .int
  | 2 => .object "Springward$Piece"
  | _ => .object "Springward$Piece"
abbrev wsX70 : List Cond := u_ws RX7 TX7 4
theorem nmX7 : ∀ a, a < 4 → ∀ b, b < 4 → a ≠ b → (TX7 a).2.1 ≠ (TX7 b).2.1 := by decide +kernel
theorem tyX7_ok : ∀ k, k < 4 → parseFieldDescriptor (TX7 k).2.2.1 = some (tyX7 k) := by decide +kernel
abbrev cX7_init : ByteArray := prog_9_method_1_code
def yX7_init : MethodName := ⟨RX7, "<init>", "()V"⟩
abbrev cX7_add : ByteArray := prog_9_method_2_code
def yX7_add : MethodName := ⟨RX7, "add", "(LSpringward$Piece;)V"⟩
abbrev cX7_startAt : ByteArray := prog_9_method_3_code
def yX7_startAt : MethodName := ⟨RX7, "startAt", "(LSpringward$Piece;)V"⟩
def RX8 : String := "Springward$Well"
def TX8 : u_T := fun k => match k with
  | 0 => ("Springward$Well", "cell", "LSpringward$Cell;", true)
  | 1 => ("Springward$Well", "permit", "I", true)
  | _ => ("Springward$Well", "took", "I", false)
def tyX8 : Nat → FieldType := fun k => match k with
  | 0 => .object "Springward$Cell"
  | 1 => .int
  | _ => .int
abbrev wsX80 : List Cond := u_ws RX8 TX8 3
theorem nmX8 : ∀ a, a < 3 → ∀ b, b < 3 → a ≠ b → (TX8 a).2.1 ≠ (TX8 b).2.1 := by decide +kernel
theorem tyX8_ok : ∀ k, k < 3 → parseFieldDescriptor (TX8 k).2.2.1 = some (tyX8 k) := by decide +kernel
abbrev cX8_init : ByteArray := prog_10_method_1_code
def yX8_init : MethodName := ⟨RX8, "<init>", "(LSpringward$Cell;I)V"⟩
def RX9 : String := "Springward"
def TX9 : u_T := fun k => match k with
  | 0 => ("Springward", "cells", "[LSpringward$Cell;", true)
  | 1 => ("Springward", "wells", "[LSpringward$Well;", true)
  | 2 => ("Springward", "lots", "[LSpringward$Lot;", true)
  | 3 => ("Springward", "spring", "LSpringward$Row;", true)
  | 4 => ("Springward", "journal", "LSpringward$Journal;", true)
  | 5 => ("Springward", "wellCount", "I", false)
  | 6 => ("Springward", "lotCount", "I", false)
  | 7 => ("Springward", "now", "I", false)
  | 8 => ("Springward", "cents", "I", false)
  | 9 => ("Springward", "droughtCell", "LSpringward$Cell;", false)
  | 10 => ("Springward", "firstLimit", "I", false)
  | 11 => ("Springward", "secondLimit", "I", false)
  | 12 => ("Springward", "forbidden", "I", false)
  | 13 => ("Springward", "fallen", "J", false)
  | 14 => ("Springward", "sprung", "J", false)
  | 15 => ("Springward", "paid", "J", false)
  | _ => ("Springward", "villageCents", "J", false)
def tyX9 : Nat → FieldType := fun k => match k with
  | 0 => .array (.object "Springward$Cell")
  | 1 => .array (.object "Springward$Well")
  | 2 => .array (.object "Springward$Lot")
  | 3 => .object "Springward$Row"
  | 4 => .object "Springward$Journal"
  | 5 => .int
  | 6 => .int
  | 7 => .int
  | 8 => .int
  | 9 => .object "Springward$Cell"
  | 10 => .int
  | 11 => .int
  | 12 => .int
  | 13 => .long
  | 14 => .long
  | 15 => .long
  | _ => .long
abbrev wsX90 : List Cond := u_ws RX9 TX9 17
theorem nmX9 : ∀ a, a < 17 → ∀ b, b < 17 → a ≠ b → (TX9 a).2.1 ≠ (TX9 b).2.1 := by decide +kernel
theorem tyX9_ok : ∀ k, k < 17 → parseFieldDescriptor (TX9 k).2.2.1 = some (tyX9 k) := by decide +kernel
abbrev cX9_init : ByteArray := prog_1_method_1_code
def yX9_init : MethodName := ⟨RX9, "<init>", "()V"⟩
abbrev cX9_rock : ByteArray := prog_1_method_2_code
def yX9_rock : MethodName := ⟨RX9, "rock", "(II)I"⟩
abbrev cX9_land : ByteArray := prog_1_method_3_code
def yX9_land : MethodName := ⟨RX9, "land", "(II)I"⟩
abbrev cX9_lead : ByteArray := prog_1_method_4_code
def yX9_lead : MethodName := ⟨RX9, "lead", "(II)I"⟩
abbrev cX9_spill : ByteArray := prog_1_method_5_code
def yX9_spill : MethodName := ⟨RX9, "spill", "(II)I"⟩
abbrev cX9_contract : ByteArray := prog_1_method_6_code
def yX9_contract : MethodName := ⟨RX9, "contract", "(III)V"⟩
abbrev cX9_pass : ByteArray := prog_1_method_7_code
def yX9_pass : MethodName := ⟨RX9, "pass", "(II)I"⟩
abbrev cX9_passOne : ByteArray := prog_1_method_8_code
def yX9_passOne : MethodName := ⟨RX9, "passOne", "(I)V"⟩
abbrev cX9_leadOn : ByteArray := prog_1_method_9_code
def yX9_leadOn : MethodName := ⟨RX9, "leadOn", "()V"⟩
abbrev cX9_rainOn : ByteArray := prog_1_method_10_code
def yX9_rainOn : MethodName := ⟨RX9, "rainOn", "(I)V"⟩
abbrev cX9_payContracts : ByteArray := prog_1_method_11_code
def yX9_payContracts : MethodName := ⟨RX9, "payContracts", "()V"⟩
abbrev cX9_well : ByteArray := prog_1_method_12_code
def yX9_well : MethodName := ⟨RX9, "well", "(II)I"⟩
abbrev cX9_drought : ByteArray := prog_1_method_13_code
def yX9_drought : MethodName := ⟨RX9, "drought", "(III)V"⟩
abbrev cX9_share : ByteArray := prog_1_method_14_code
def yX9_share : MethodName := ⟨RX9, "share", "(I)I"⟩
abbrev cX9_bottle : ByteArray := prog_1_method_15_code
def yX9_bottle : MethodName := ⟨RX9, "bottle", "(II)I"⟩
abbrev cX9_mayTakeStill : ByteArray := prog_1_method_16_code
def yX9_mayTakeStill : MethodName := ⟨RX9, "mayTakeStill", "(LSpringward$Well;)I"⟩
abbrev cX9_treat : ByteArray := prog_1_method_17_code
def yX9_treat : MethodName := ⟨RX9, "treat", "(II)I"⟩
abbrev cX9_label : ByteArray := prog_1_method_18_code
def yX9_label : MethodName := ⟨RX9, "label", "(II)Z"⟩
abbrev cX9_forbid : ByteArray := prog_1_method_19_code
def yX9_forbid : MethodName := ⟨RX9, "forbid", "(I)I"⟩
abbrev cX9_year : ByteArray := prog_1_method_20_code
def yX9_year : MethodName := ⟨RX9, "year", "()I"⟩
abbrev cX9_cellOf : ByteArray := prog_1_method_21_code
def yX9_cellOf : MethodName := ⟨RX9, "cellOf", "(II)I"⟩
abbrev cX9_flow : ByteArray := prog_1_method_22_code
def yX9_flow : MethodName := ⟨RX9, "flow", "(I)I"⟩
abbrev cX9_wellOf : ByteArray := prog_1_method_23_code
def yX9_wellOf : MethodName := ⟨RX9, "wellOf", "(II)I"⟩
abbrev cX9_lotOf : ByteArray := prog_1_method_24_code
def yX9_lotOf : MethodName := ⟨RX9, "lotOf", "(II)I"⟩
abbrev cX9_age : ByteArray := prog_1_method_25_code
def yX9_age : MethodName := ⟨RX9, "age", "(I)F"⟩
abbrev cX9_best : ByteArray := prog_1_method_26_code
def yX9_best : MethodName := ⟨RX9, "best", "(I)I"⟩
abbrev cX9_from : ByteArray := prog_1_method_27_code
def yX9_from : MethodName := ⟨RX9, "from", "(III)I"⟩
abbrev cX9_fromAnew : ByteArray := prog_1_method_28_code
def yX9_fromAnew : MethodName := ⟨RX9, "fromAnew", "(III)I"⟩
abbrev cX9_whence : ByteArray := prog_1_method_29_code
def yX9_whence : MethodName := ⟨RX9, "whence", "(II)I"⟩
abbrev cX9_sum : ByteArray := prog_1_method_30_code
def yX9_sum : MethodName := ⟨RX9, "sum", "(I)J"⟩
abbrev cX9_unitsInCells : ByteArray := prog_1_method_31_code
def yX9_unitsInCells : MethodName := ⟨RX9, "unitsInCells", "()J"⟩
abbrev cX9_unitsBottled : ByteArray := prog_1_method_32_code
def yX9_unitsBottled : MethodName := ⟨RX9, "unitsBottled", "()J"⟩
abbrev cX9_falseLabels : ByteArray := prog_1_method_33_code
def yX9_falseLabels : MethodName := ⟨RX9, "falseLabels", "()J"⟩
abbrev cX9_cellAt : ByteArray := prog_1_method_34_code
def yX9_cellAt : MethodName := ⟨RX9, "cellAt", "(I)LSpringward$Cell;"⟩
abbrev cX9_wellAt : ByteArray := prog_1_method_35_code
def yX9_wellAt : MethodName := ⟨RX9, "wellAt", "(I)LSpringward$Well;"⟩
abbrev cX9_lotAt : ByteArray := prog_1_method_36_code
def yX9_lotAt : MethodName := ⟨RX9, "lotAt", "(I)LSpringward$Lot;"⟩
abbrev cX9_needIndex : ByteArray := prog_1_method_37_code
def yX9_needIndex : MethodName := ⟨RX9, "needIndex", "(II)V"⟩
abbrev cX9_needRange : ByteArray := prog_1_method_38_code
def yX9_needRange : MethodName := ⟨RX9, "needRange", "(III)V"⟩
abbrev cX9_needArgument : ByteArray := prog_1_method_39_code
def yX9_needArgument : MethodName := ⟨RX9, "needArgument", "(Z)V"⟩
abbrev cX9_needState : ByteArray := prog_1_method_40_code
def yX9_needState : MethodName := ⟨RX9, "needState", "(Z)V"⟩
def RX10 : String := "SpringwardModel"
def TX10 : u_T := fun k => match k with
  | 0 => ("SpringwardModel", "year", "I", false)
  | 1 => ("SpringwardModel", "years", "[I", true)
  | 2 => ("SpringwardModel", "land", "[I", true)
  | 3 => ("SpringwardModel", "leads", "[I", true)
  | 4 => ("SpringwardModel", "waiting", "[I", true)
  | 5 => ("SpringwardModel", "contract", "[I", true)
  | 6 => ("SpringwardModel", "pay", "[I", true)
  | 7 => ("SpringwardModel", "first", "[I", true)
  | 8 => ("SpringwardModel", "last", "[I", true)
  | 9 => ("SpringwardModel", "units", "[I", true)
  | 10 => ("SpringwardModel", "knots", "I", false)
  | 11 => ("SpringwardModel", "next", "[I", true)
  | 12 => ("SpringwardModel", "many", "[I", true)
  | 13 => ("SpringwardModel", "fellOn", "[I", true)
  | 14 => ("SpringwardModel", "fellIn", "[I", true)
  | 15 => ("SpringwardModel", "nitrate", "[I", true)
  | 16 => ("SpringwardModel", "compounds", "[I", true)
  | 17 => ("SpringwardModel", "take", "[I", true)
  | 18 => ("SpringwardModel", "wells", "I", false)
  | 19 => ("SpringwardModel", "wellCell", "[I", true)
  | 20 => ("SpringwardModel", "permit", "[I", true)
  | 21 => ("SpringwardModel", "took", "[I", true)
  | 22 => ("SpringwardModel", "droughtCell", "I", false)
  | 23 => ("SpringwardModel", "firstLimit", "I", false)
  | 24 => ("SpringwardModel", "secondLimit", "I", false)
  | 25 => ("SpringwardModel", "share", "I", false)
  | 26 => ("SpringwardModel", "lots", "I", false)
  | 27 => ("SpringwardModel", "lotWell", "[I", true)
  | 28 => ("SpringwardModel", "lotYear", "[I", true)
  | 29 => ("SpringwardModel", "treated", "[I", true)
  | 30 => ("SpringwardModel", "label", "[I", true)
  | 31 => ("SpringwardModel", "isTrue", "[Z", true)
  | 32 => ("SpringwardModel", "isRecalled", "[Z", true)
  | 33 => ("SpringwardModel", "forbidden", "I", false)
  | 34 => ("SpringwardModel", "fell", "J", false)
  | 35 => ("SpringwardModel", "came", "J", false)
  | 36 => ("SpringwardModel", "bottled", "J", false)
  | 37 => ("SpringwardModel", "cost", "J", false)
  | 38 => ("SpringwardModel", "got", "J", false)
  | _ => ("SpringwardModel", "thrown", "I", false)
def tyX10 : Nat → FieldType := fun k => match k with
  | 0 => .int
  | 1 => .array .int
  | 2 => .array .int
  | 3 => .array .int
  | 4 => .array .int
  | 5 => .array .int
  | 6 => .array .int
  | 7 => .array .int
  | 8 => .array .int
  | 9 => .array .int
  | 10 => .int
  | 11 => .array .int
  | 12 => .array .int
  | 13 => .array .int
  | 14 => .array .int
  | 15 => .array .int
  | 16 => .array .int
  | 17 => .array .int
  | 18 => .int
  | 19 => .array .int
  | 20 => .array .int
  | 21 => .array .int
  | 22 => .int
  | 23 => .int
  | 24 => .int
  | 25 => .int
  | 26 => .int
  | 27 => .array .int
  | 28 => .array .int
  | 29 => .array .int
  | 30 => .array .int
  | 31 => .array .boolean
  | 32 => .array .boolean
  | 33 => .int
  | 34 => .long
  | 35 => .long
  | 36 => .long
  | 37 => .long
  | 38 => .long
  | _ => .int
abbrev wsX100 : List Cond := u_ws RX10 TX10 40
theorem nmX10 : ∀ a, a < 40 → ∀ b, b < 40 → a ≠ b → (TX10 a).2.1 ≠ (TX10 b).2.1 := by decide +kernel
theorem tyX10_ok : ∀ k, k < 40 → parseFieldDescriptor (TX10 k).2.2.1 = some (tyX10 k) := by decide +kernel
abbrev cX10_init : ByteArray := prog_12_method_1_code
def yX10_init : MethodName := ⟨RX10, "<init>", "()V"⟩
abbrev cX10_thrown : ByteArray := prog_12_method_2_code
def yX10_thrown : MethodName := ⟨RX10, "thrown", "()I"⟩
abbrev cX10_can : ByteArray := prog_12_method_3_code
def yX10_can : MethodName := ⟨RX10, "can", "(I)Z"⟩
abbrev cX10_isIn : ByteArray := prog_12_method_4_code
def yX10_isIn : MethodName := ⟨RX10, "isIn", "(III)Z"⟩
abbrev cX10_isCell : ByteArray := prog_12_method_5_code
def yX10_isCell : MethodName := ⟨RX10, "isCell", "(I)Z"⟩
abbrev cX10_isWell : ByteArray := prog_12_method_6_code
def yX10_isWell : MethodName := ⟨RX10, "isWell", "(I)Z"⟩
abbrev cX10_isLot : ByteArray := prog_12_method_7_code
def yX10_isLot : MethodName := ⟨RX10, "isLot", "(I)Z"⟩
abbrev cX10_isCompound : ByteArray := prog_12_method_8_code
def yX10_isCompound : MethodName := ⟨RX10, "isCompound", "(I)Z"⟩
abbrev cX10_lotRow : ByteArray := prog_12_method_9_code
def yX10_lotRow : MethodName := ⟨RX10, "lotRow", "(I)I"⟩
abbrev cX10_rock : ByteArray := prog_12_method_10_code
def yX10_rock : MethodName := ⟨RX10, "rock", "(II)I"⟩
abbrev cX10_land : ByteArray := prog_12_method_11_code
def yX10_land : MethodName := ⟨RX10, "land", "(II)I"⟩
abbrev cX10_lead : ByteArray := prog_12_method_12_code
def yX10_lead : MethodName := ⟨RX10, "lead", "(II)I"⟩
abbrev cX10_travel : ByteArray := prog_12_method_13_code
def yX10_travel : MethodName := ⟨RX10, "travel", "(I)I"⟩
abbrev cX10_spill : ByteArray := prog_12_method_14_code
def yX10_spill : MethodName := ⟨RX10, "spill", "(II)I"⟩
abbrev cX10_contract : ByteArray := prog_12_method_15_code
def yX10_contract : MethodName := ⟨RX10, "contract", "(III)V"⟩
abbrev cX10_appends : ByteArray := prog_12_method_16_code
def yX10_appends : MethodName := ⟨RX10, "appends", "(II)V"⟩
abbrev cX10_knots : ByteArray := prog_12_method_17_code
def yX10_knots : MethodName := ⟨RX10, "knots", "(IIIII)I"⟩
abbrev cX10_takesOff : ByteArray := prog_12_method_18_code
def yX10_takesOff : MethodName := ⟨RX10, "takesOff", "(II)I"⟩
abbrev cX10_moves : ByteArray := prog_12_method_19_code
def yX10_moves : MethodName := ⟨RX10, "moves", "(III)V"⟩
abbrev cX10_rains : ByteArray := prog_12_method_20_code
def yX10_rains : MethodName := ⟨RX10, "rains", "(II)V"⟩
abbrev cX10_passes : ByteArray := prog_12_method_21_code
def yX10_passes : MethodName := ⟨RX10, "passes", "(I)V"⟩
abbrev cX10_pass : ByteArray := prog_12_method_22_code
def yX10_pass : MethodName := ⟨RX10, "pass", "(II)I"⟩
abbrev cX10_well : ByteArray := prog_12_method_23_code
def yX10_well : MethodName := ⟨RX10, "well", "(II)I"⟩
abbrev cX10_drought : ByteArray := prog_12_method_24_code
def yX10_drought : MethodName := ⟨RX10, "drought", "(III)V"⟩
abbrev cX10_share : ByteArray := prog_12_method_25_code
def yX10_share : MethodName := ⟨RX10, "share", "(I)I"⟩
abbrev cX10_may : ByteArray := prog_12_method_26_code
def yX10_may : MethodName := ⟨RX10, "may", "(I)I"⟩
abbrev cX10_bottle : ByteArray := prog_12_method_27_code
def yX10_bottle : MethodName := ⟨RX10, "bottle", "(II)I"⟩
abbrev cX10_treat : ByteArray := prog_12_method_28_code
def yX10_treat : MethodName := ⟨RX10, "treat", "(II)I"⟩
abbrev cX10_nitrateOf : ByteArray := prog_12_method_29_code
def yX10_nitrateOf : MethodName := ⟨RX10, "nitrateOf", "(I)J"⟩
abbrev cX10_compoundsOf : ByteArray := prog_12_method_30_code
def yX10_compoundsOf : MethodName := ⟨RX10, "compoundsOf", "(I)I"⟩
abbrev cX10_fallOf : ByteArray := prog_12_method_31_code
def yX10_fallOf : MethodName := ⟨RX10, "fallOf", "(IZ)I"⟩
abbrev cX10_isWater : ByteArray := prog_12_method_32_code
def yX10_isWater : MethodName := ⟨RX10, "isWater", "(II)Z"⟩
abbrev cX10_label : ByteArray := prog_12_method_33_code
def yX10_label : MethodName := ⟨RX10, "label", "(II)Z"⟩
abbrev cX10_forbid : ByteArray := prog_12_method_34_code
def yX10_forbid : MethodName := ⟨RX10, "forbid", "(I)I"⟩
abbrev cX10_year : ByteArray := prog_12_method_35_code
def yX10_year : MethodName := ⟨RX10, "year", "()I"⟩
abbrev cX10_cellOf : ByteArray := prog_12_method_36_code
def yX10_cellOf : MethodName := ⟨RX10, "cellOf", "(II)I"⟩
abbrev cX10_flow : ByteArray := prog_12_method_37_code
def yX10_flow : MethodName := ⟨RX10, "flow", "(I)I"⟩
abbrev cX10_wellOf : ByteArray := prog_12_method_38_code
def yX10_wellOf : MethodName := ⟨RX10, "wellOf", "(II)I"⟩
abbrev cX10_lotOf : ByteArray := prog_12_method_39_code
def yX10_lotOf : MethodName := ⟨RX10, "lotOf", "(II)I"⟩
abbrev cX10_meanAge : ByteArray := prog_12_method_40_code
def yX10_meanAge : MethodName := ⟨RX10, "meanAge", "(I)F"⟩
abbrev cX10_age : ByteArray := prog_12_method_41_code
def yX10_age : MethodName := ⟨RX10, "age", "(I)F"⟩
abbrev cX10_bestOf : ByteArray := prog_12_method_42_code
def yX10_bestOf : MethodName := ⟨RX10, "bestOf", "(I)I"⟩
abbrev cX10_best : ByteArray := prog_12_method_43_code
def yX10_best : MethodName := ⟨RX10, "best", "(I)I"⟩
abbrev cX10_fromOf : ByteArray := prog_12_method_44_code
def yX10_fromOf : MethodName := ⟨RX10, "fromOf", "(III)I"⟩
abbrev cX10_from : ByteArray := prog_12_method_45_code
def yX10_from : MethodName := ⟨RX10, "from", "(III)I"⟩
abbrev cX10_fromAnew : ByteArray := prog_12_method_46_code
def yX10_fromAnew : MethodName := ⟨RX10, "fromAnew", "(III)I"⟩
abbrev cX10_whenceOf : ByteArray := prog_12_method_47_code
def yX10_whenceOf : MethodName := ⟨RX10, "whenceOf", "(II)I"⟩
abbrev cX10_whence : ByteArray := prog_12_method_48_code
def yX10_whence : MethodName := ⟨RX10, "whence", "(II)I"⟩
abbrev cX10_held : ByteArray := prog_12_method_49_code
def yX10_held : MethodName := ⟨RX10, "held", "()J"⟩
abbrev cX10_falseOnes : ByteArray := prog_12_method_50_code
def yX10_falseOnes : MethodName := ⟨RX10, "falseOnes", "()J"⟩
abbrev cX10_sum : ByteArray := prog_12_method_51_code
def yX10_sum : MethodName := ⟨RX10, "sum", "(I)J"⟩
def RJ9 : String := "java/lang/Math"
def TJ9 : u_T := fun k => match k with
  | _ => ("", "", "", false)
def tyJ9 : Nat → FieldType := fun k => match k with
  | _ => .int
abbrev wsJ90 : List Cond := u_ws RJ9 TJ9 0
theorem nmJ9 : ∀ a, a < 0 → ∀ b, b < 0 → a ≠ b → (TJ9 a).2.1 ≠ (TJ9 b).2.1 := by decide +kernel
theorem tyJ9_ok : ∀ k, k < 0 → parseFieldDescriptor (TJ9 k).2.2.1 = some (tyJ9 k) := by decide +kernel
abbrev cJ9_max_7cf53 : ByteArray := prog_17_method_65_code
def yJ9_max_7cf53 : MethodName := ⟨RJ9, "max", "(II)I"⟩
abbrev cJ9_min_7cf53 : ByteArray := prog_17_method_69_code
def yJ9_min_7cf53 : MethodName := ⟨RJ9, "min", "(II)I"⟩
def RJ0 : String := "java/lang/String"
def TJ0 : u_T := fun k => match k with
  | _ => ("", "", "", false)
def tyJ0 : Nat → FieldType := fun k => match k with
  | _ => .int
abbrev wsJ00 : List Cond := u_ws RJ0 TJ0 0
theorem nmJ0 : ∀ a, a < 0 → ∀ b, b < 0 → a ≠ b → (TJ0 a).2.1 ≠ (TJ0 b).2.1 := by decide +kernel
theorem tyJ0_ok : ∀ k, k < 0 → parseFieldDescriptor (TJ0 k).2.2.1 = some (tyJ0 k) := by decide +kernel
def RL : String := "SpringwardLaw"
abbrev cL_rock : ByteArray := method_3_code
def yL_rock : MethodName := ⟨RL, "rock", "(LSpringward;II[J)I"⟩
abbrev cL_land : ByteArray := method_4_code
def yL_land : MethodName := ⟨RL, "land", "(LSpringward;II[J)I"⟩
abbrev cL_lead : ByteArray := method_5_code
def yL_lead : MethodName := ⟨RL, "lead", "(LSpringward;II[J)I"⟩
abbrev cL_spill : ByteArray := method_6_code
def yL_spill : MethodName := ⟨RL, "spill", "(LSpringward;II[J)I"⟩
abbrev cL_contract : ByteArray := method_7_code
def yL_contract : MethodName := ⟨RL, "contract", "(LSpringward;III)I"⟩
abbrev cL_pass : ByteArray := method_8_code
def yL_pass : MethodName := ⟨RL, "pass", "(LSpringward;II[J)I"⟩
abbrev cL_well : ByteArray := method_9_code
def yL_well : MethodName := ⟨RL, "well", "(LSpringward;II[J)I"⟩
abbrev cL_drought : ByteArray := method_10_code
def yL_drought : MethodName := ⟨RL, "drought", "(LSpringward;III)I"⟩
abbrev cL_share : ByteArray := method_11_code
def yL_share : MethodName := ⟨RL, "share", "(LSpringward;I[J)I"⟩
abbrev cL_bottle : ByteArray := method_12_code
def yL_bottle : MethodName := ⟨RL, "bottle", "(LSpringward;II[J)I"⟩
abbrev cL_treat : ByteArray := method_13_code
def yL_treat : MethodName := ⟨RL, "treat", "(LSpringward;II[J)I"⟩
abbrev cL_label : ByteArray := method_14_code
def yL_label : MethodName := ⟨RL, "label", "(LSpringward;II[J)I"⟩
abbrev cL_forbid : ByteArray := method_15_code
def yL_forbid : MethodName := ⟨RL, "forbid", "(LSpringward;I[J)I"⟩
abbrev cL_cellOf : ByteArray := method_16_code
def yL_cellOf : MethodName := ⟨RL, "cellOf", "(LSpringward;II[J)I"⟩
abbrev cL_flow : ByteArray := method_17_code
def yL_flow : MethodName := ⟨RL, "flow", "(LSpringward;I[J)I"⟩
abbrev cL_wellOf : ByteArray := method_18_code
def yL_wellOf : MethodName := ⟨RL, "wellOf", "(LSpringward;II[J)I"⟩
abbrev cL_lotOf : ByteArray := method_19_code
def yL_lotOf : MethodName := ⟨RL, "lotOf", "(LSpringward;II[J)I"⟩
abbrev cL_age : ByteArray := method_20_code
def yL_age : MethodName := ⟨RL, "age", "(LSpringward;I[D)I"⟩
abbrev cL_best : ByteArray := method_21_code
def yL_best : MethodName := ⟨RL, "best", "(LSpringward;I[J)I"⟩
abbrev cL_from : ByteArray := method_22_code
def yL_from : MethodName := ⟨RL, "from", "(LSpringward;III[J)I"⟩
abbrev cL_fromAnew : ByteArray := method_23_code
def yL_fromAnew : MethodName := ⟨RL, "fromAnew", "(LSpringward;III[J)I"⟩
abbrev cL_whence : ByteArray := method_24_code
def yL_whence : MethodName := ⟨RL, "whence", "(LSpringward;II[J)I"⟩
abbrev cL_sum : ByteArray := method_25_code
def yL_sum : MethodName := ⟨RL, "sum", "(LSpringward;I[J)I"⟩
abbrev cL_law : ByteArray := code
def yL_law : MethodName := ⟨RL, "law", "([I)Z"⟩
abbrev vwCl : List vw_C := [(RX0, TX0, 8), (RX1, TX1, 4), (RX2, TX2, 7), (RX3, TX3, 4), (RX4, TX4, 3), (RX5, TX5, 6), (RX6, TX6, 3), (RX7, TX7, 4), (RX8, TX8, 3), (RX9, TX9, 17), (RX10, TX10, 40)]

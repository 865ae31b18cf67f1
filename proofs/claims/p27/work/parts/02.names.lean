-- ===== PART A: goes FIRST, ahead of the names: the tables' words, and 'selects' of the private methods out of them =====
/-- a private method of a class that the tables say can be made, by its rows of tables_1 -/
def lw_okq (q : MethodName × Nat) : Prop := (q.1.cls ≠ "java/lang/invoke/MethodHandle" ∧ q.1.cls ≠ "java/lang/invoke/VarHandle") ∧ Cond.instantiable q.1.cls q.2 ∈ tables_1 ∧ Cond.privateMethod q.1 ∈ tables_1 ∧ Cond.instanceMethod q.1 ∈ tables_1
theorem lw_p0 : lw_okq (⟨"java/lang/Throwable", "fillInStackTrace", "(I)Ljava/lang/Throwable;"⟩, 6) := ⟨⟨by decide +kernel, by decide +kernel⟩, List.mem_of_getElem? (i := 244) (by decide +kernel), List.mem_of_getElem? (i := 242) (by decide +kernel), List.mem_of_getElem? (i := 243) (by decide +kernel)⟩
theorem lw_p1 : lw_okq (⟨"Springward", "unitsInCells", "()J"⟩, 17) := ⟨⟨by decide +kernel, by decide +kernel⟩, List.mem_of_getElem? (i := 22) (by decide +kernel), List.mem_of_getElem? (i := 275) (by decide +kernel), List.mem_of_getElem? (i := 276) (by decide +kernel)⟩
theorem lw_p2 : lw_okq (⟨"Springward", "unitsBottled", "()J"⟩, 17) := ⟨⟨by decide +kernel, by decide +kernel⟩, List.mem_of_getElem? (i := 22) (by decide +kernel), List.mem_of_getElem? (i := 279) (by decide +kernel), List.mem_of_getElem? (i := 280) (by decide +kernel)⟩
theorem lw_p3 : lw_okq (⟨"Springward", "falseLabels", "()J"⟩, 17) := ⟨⟨by decide +kernel, by decide +kernel⟩, List.mem_of_getElem? (i := 22) (by decide +kernel), List.mem_of_getElem? (i := 283) (by decide +kernel), List.mem_of_getElem? (i := 284) (by decide +kernel)⟩
theorem lw_p4 : lw_okq (⟨"Springward", "cellAt", "(I)LSpringward$Cell;"⟩, 17) := ⟨⟨by decide +kernel, by decide +kernel⟩, List.mem_of_getElem? (i := 22) (by decide +kernel), List.mem_of_getElem? (i := 295) (by decide +kernel), List.mem_of_getElem? (i := 296) (by decide +kernel)⟩
theorem lw_p5 : lw_okq (⟨"Springward", "passOne", "(I)V"⟩, 17) := ⟨⟨by decide +kernel, by decide +kernel⟩, List.mem_of_getElem? (i := 22) (by decide +kernel), List.mem_of_getElem? (i := 353) (by decide +kernel), List.mem_of_getElem? (i := 354) (by decide +kernel)⟩
theorem lw_p6 : lw_okq (⟨"Springward", "leadOn", "()V"⟩, 17) := ⟨⟨by decide +kernel, by decide +kernel⟩, List.mem_of_getElem? (i := 22) (by decide +kernel), List.mem_of_getElem? (i := 357) (by decide +kernel), List.mem_of_getElem? (i := 358) (by decide +kernel)⟩
theorem lw_p7 : lw_okq (⟨"Springward", "rainOn", "(I)V"⟩, 17) := ⟨⟨by decide +kernel, by decide +kernel⟩, List.mem_of_getElem? (i := 22) (by decide +kernel), List.mem_of_getElem? (i := 439) (by decide +kernel), List.mem_of_getElem? (i := 440) (by decide +kernel)⟩
theorem lw_p8 : lw_okq (⟨"Springward$Cell", "nitrateOfRain", "()I"⟩, 8) := ⟨⟨by decide +kernel, by decide +kernel⟩, List.mem_of_getElem? (i := 31) (by decide +kernel), List.mem_of_getElem? (i := 448) (by decide +kernel), List.mem_of_getElem? (i := 449) (by decide +kernel)⟩
theorem lw_p9 : lw_okq (⟨"Springward", "payContracts", "()V"⟩, 17) := ⟨⟨by decide +kernel, by decide +kernel⟩, List.mem_of_getElem? (i := 22) (by decide +kernel), List.mem_of_getElem? (i := 455) (by decide +kernel), List.mem_of_getElem? (i := 456) (by decide +kernel)⟩
theorem lw_p10 : lw_okq (⟨"Springward", "wellAt", "(I)LSpringward$Well;"⟩, 17) := ⟨⟨by decide +kernel, by decide +kernel⟩, List.mem_of_getElem? (i := 22) (by decide +kernel), List.mem_of_getElem? (i := 497) (by decide +kernel), List.mem_of_getElem? (i := 498) (by decide +kernel)⟩
theorem lw_p11 : lw_okq (⟨"Springward", "mayTakeStill", "(LSpringward$Well;)I"⟩, 17) := ⟨⟨by decide +kernel, by decide +kernel⟩, List.mem_of_getElem? (i := 22) (by decide +kernel), List.mem_of_getElem? (i := 501) (by decide +kernel), List.mem_of_getElem? (i := 502) (by decide +kernel)⟩
theorem lw_p12 : lw_okq (⟨"Springward", "lotAt", "(I)LSpringward$Lot;"⟩, 17) := ⟨⟨by decide +kernel, by decide +kernel⟩, List.mem_of_getElem? (i := 22) (by decide +kernel), List.mem_of_getElem? (i := 549) (by decide +kernel), List.mem_of_getElem? (i := 550) (by decide +kernel)⟩
theorem lw_p13 : lw_okq (⟨"Springward$Lot", "hasAtMost", "(II)Z"⟩, 7) := ⟨⟨by decide +kernel, by decide +kernel⟩, List.mem_of_getElem? (i := 507) (by decide +kernel), List.mem_of_getElem? (i := 561) (by decide +kernel), List.mem_of_getElem? (i := 562) (by decide +kernel)⟩
theorem lw_p14 : lw_okq (⟨"Springward$Journal", "emptyTanks", "()V"⟩, 4) := ⟨⟨by decide +kernel, by decide +kernel⟩, List.mem_of_getElem? (i := 94) (by decide +kernel), List.mem_of_getElem? (i := 718) (by decide +kernel), List.mem_of_getElem? (i := 719) (by decide +kernel)⟩
theorem lw_p15 : lw_okq (⟨"Springward$Journal", "putAway", "(LSpringward$Piece;)V"⟩, 4) := ⟨⟨by decide +kernel, by decide +kernel⟩, List.mem_of_getElem? (i := 94) (by decide +kernel), List.mem_of_getElem? (i := 722) (by decide +kernel), List.mem_of_getElem? (i := 723) (by decide +kernel)⟩
def lw_privs_1 : List (MethodName × Nat) := [(⟨"java/lang/Throwable", "fillInStackTrace", "(I)Ljava/lang/Throwable;"⟩, 6), (⟨"Springward", "unitsInCells", "()J"⟩, 17), (⟨"Springward", "unitsBottled", "()J"⟩, 17), (⟨"Springward", "falseLabels", "()J"⟩, 17), (⟨"Springward", "cellAt", "(I)LSpringward$Cell;"⟩, 17), (⟨"Springward", "passOne", "(I)V"⟩, 17), (⟨"Springward", "leadOn", "()V"⟩, 17), (⟨"Springward", "rainOn", "(I)V"⟩, 17), (⟨"Springward$Cell", "nitrateOfRain", "()I"⟩, 8), (⟨"Springward", "payContracts", "()V"⟩, 17), (⟨"Springward", "wellAt", "(I)LSpringward$Well;"⟩, 17), (⟨"Springward", "mayTakeStill", "(LSpringward$Well;)I"⟩, 17), (⟨"Springward", "lotAt", "(I)LSpringward$Lot;"⟩, 17), (⟨"Springward$Lot", "hasAtMost", "(II)Z"⟩, 7), (⟨"Springward$Journal", "emptyTanks", "()V"⟩, 4), (⟨"Springward$Journal", "putAway", "(LSpringward$Piece;)V"⟩, 4)]
theorem lw_r1 : ∀ q ∈ lw_privs_1, lw_okq q := List.forall_mem_cons.mpr ⟨lw_p0, List.forall_mem_cons.mpr ⟨lw_p1, List.forall_mem_cons.mpr ⟨lw_p2, List.forall_mem_cons.mpr ⟨lw_p3, List.forall_mem_cons.mpr ⟨lw_p4, List.forall_mem_cons.mpr ⟨lw_p5, List.forall_mem_cons.mpr ⟨lw_p6, List.forall_mem_cons.mpr ⟨lw_p7, List.forall_mem_cons.mpr ⟨lw_p8, List.forall_mem_cons.mpr ⟨lw_p9, List.forall_mem_cons.mpr ⟨lw_p10, List.forall_mem_cons.mpr ⟨lw_p11, List.forall_mem_cons.mpr ⟨lw_p12, List.forall_mem_cons.mpr ⟨lw_p13, List.forall_mem_cons.mpr ⟨lw_p14, List.forall_mem_cons.mpr ⟨lw_p15, fun _ h => absurd h List.not_mem_nil⟩⟩⟩⟩⟩⟩⟩⟩⟩⟩⟩⟩⟩⟩⟩⟩
theorem lw_p16 : lw_okq (⟨"Springward$Journal", "rainAgain", "(II)V"⟩, 4) := ⟨⟨by decide +kernel, by decide +kernel⟩, List.mem_of_getElem? (i := 94) (by decide +kernel), List.mem_of_getElem? (i := 730) (by decide +kernel), List.mem_of_getElem? (i := 731) (by decide +kernel)⟩
theorem lw_p17 : lw_okq (⟨"Springward$Journal", "newPiece", "(II)LSpringward$Piece;"⟩, 4) := ⟨⟨by decide +kernel, by decide +kernel⟩, List.mem_of_getElem? (i := 94) (by decide +kernel), List.mem_of_getElem? (i := 734) (by decide +kernel), List.mem_of_getElem? (i := 735) (by decide +kernel)⟩
theorem lw_p18 : lw_okq (⟨"Springward$Journal", "moveAgain", "(LSpringward$Move;)I"⟩, 4) := ⟨⟨by decide +kernel, by decide +kernel⟩, List.mem_of_getElem? (i := 94) (by decide +kernel), List.mem_of_getElem? (i := 759) (by decide +kernel), List.mem_of_getElem? (i := 760) (by decide +kernel)⟩
theorem lw_p19 : lw_okq (⟨"Springward$Journal", "tankAt", "(I)LSpringward$Tank;"⟩, 4) := ⟨⟨by decide +kernel, by decide +kernel⟩, List.mem_of_getElem? (i := 94) (by decide +kernel), List.mem_of_getElem? (i := 763) (by decide +kernel), List.mem_of_getElem? (i := 764) (by decide +kernel)⟩
theorem lw_p20 : lw_okq (⟨"Springward$Journal", "cut", "(LSpringward$Piece;I)LSpringward$Piece;"⟩, 4) := ⟨⟨by decide +kernel, by decide +kernel⟩, List.mem_of_getElem? (i := 94) (by decide +kernel), List.mem_of_getElem? (i := 767) (by decide +kernel), List.mem_of_getElem? (i := 768) (by decide +kernel)⟩
def lw_privs_2 : List (MethodName × Nat) := [(⟨"Springward$Journal", "rainAgain", "(II)V"⟩, 4), (⟨"Springward$Journal", "newPiece", "(II)LSpringward$Piece;"⟩, 4), (⟨"Springward$Journal", "moveAgain", "(LSpringward$Move;)I"⟩, 4), (⟨"Springward$Journal", "tankAt", "(I)LSpringward$Tank;"⟩, 4), (⟨"Springward$Journal", "cut", "(LSpringward$Piece;I)LSpringward$Piece;"⟩, 4)]
theorem lw_r2 : ∀ q ∈ lw_privs_2, lw_okq q := List.forall_mem_cons.mpr ⟨lw_p16, List.forall_mem_cons.mpr ⟨lw_p17, List.forall_mem_cons.mpr ⟨lw_p18, List.forall_mem_cons.mpr ⟨lw_p19, List.forall_mem_cons.mpr ⟨lw_p20, fun _ h => absurd h List.not_mem_nil⟩⟩⟩⟩⟩
def lw_privs : List (MethodName × Nat) := lw_privs_1 ++ (lw_privs_2)
def lw_tbl : List Cond := k2_sels lw_privs ++ tables_1
theorem lw_privs_ok : ∀ q ∈ lw_privs, lw_okq q := by
  show ∀ q ∈ lw_privs_1 ++ (lw_privs_2), lw_okq q
  exact List.forall_mem_append.mpr ⟨lw_r1, lw_r2⟩
/-- the streams that the claim lets the run draw from -/
abbrev lw_cs : List Choice := [Jvm.Choice.named "NaN.bits"]
theorem lw_bits : nanBits ∈ lw_cs := by first | decide | exact List.mem_cons_self | simp [lw_cs, nanBits]

def RX0 : String := "Springward$Cell"
def TX0 : u_T := fun k => match k with
  | 0 => ("Springward$Cell", "number", "I", true)
  | 1 => ("Springward$Cell", "row", "LSpringward$Row;", true)
  | 2 => ("Springward$Cell", "lower", "LSpringward$Cell;", false)
  | 3 => ("Springward$Cell", "holds", "I", false)
  | 4 => ("Springward$Cell", "land", "I", false)
  | 5 => ("Springward$Cell", "contractYears", "I", false)
  | 6 => ("Springward$Cell", "contractPay", "I", false)
  | _ => ("Springward$Cell", "waiting", "I", false)
def tyX0 : Nat → FieldType := fun k => match k with
  | 0 => .int
  | 1 => .object "Springward$Row"
  | 2 => .object "Springward$Cell"
  | 3 => .int
  | 4 => .int
  | 5 => .int
  | 6 => .int
  | _ => .int
abbrev wsX00 : List Cond := u_ws RX0 TX0 8
theorem nmX0 : ∀ a, a < 8 → ∀ b, b < 8 → a ≠ b → (TX0 a).2.1 ≠ (TX0 b).2.1 := by decide +kernel
theorem tyX0_ok : ∀ k, k < 8 → parseFieldDescriptor (TX0 k).2.2.1 = some (tyX0 k) := by decide +kernel
abbrev cX0_init : ByteArray := prog_2_method_1_code
def yX0_init : MethodName := ⟨RX0, "<init>", "(ILSpringward$Cell;)V"⟩
abbrev cX0_leadsTo : ByteArray := prog_2_method_2_code
def yX0_leadsTo : MethodName := ⟨RX0, "leadsTo", "()I"⟩
abbrev cX0_travel : ByteArray := prog_2_method_3_code
def yX0_travel : MethodName := ⟨RX0, "travel", "()I"⟩
abbrev cX0_yearly : ByteArray := prog_2_method_4_code
def yX0_yearly : MethodName := ⟨RX0, "yearly", "()I"⟩
abbrev cX0_catchRain : ByteArray := prog_2_method_5_code
def yX0_catchRain : MethodName := ⟨RX0, "catchRain", "(II)V"⟩
abbrev cX0_nitrateOfRain : ByteArray := prog_2_method_6_code
def yX0_nitrateOfRain : MethodName := ⟨RX0, "nitrateOfRain", "()I"⟩
def RX1 : String := "Springward$Journal"
def TX1 : u_T := fun k => match k with
  | 0 => ("Springward$Journal", "tanks", "[LSpringward$Tank;", true)
  | 1 => ("Springward$Journal", "first", "LSpringward$Move;", false)
  | 2 => ("Springward$Journal", "last", "LSpringward$Move;", false)
  | _ => ("Springward$Journal", "spare", "LSpringward$Piece;", false)
def tyX1 : Nat → FieldType := fun k => match k with
  | 0 => .array (.object "Springward$Tank")
  | 1 => .object "Springward$Move"
  | 2 => .object "Springward$Move"
  | _ => .object "Springward$Piece"
abbrev wsX10 : List Cond := u_ws RX1 TX1 4
theorem nmX1 : ∀ a, a < 4 → ∀ b, b < 4 → a ≠ b → (TX1 a).2.1 ≠ (TX1 b).2.1 := by decide +kernel
theorem tyX1_ok : ∀ k, k < 4 → parseFieldDescriptor (TX1 k).2.2.1 = some (tyX1 k) := by decide +kernel
abbrev cX1_init : ByteArray := prog_3_method_1_code
def yX1_init : MethodName := ⟨RX1, "<init>", "()V"⟩
abbrev cX1_note : ByteArray := prog_3_method_2_code
def yX1_note : MethodName := ⟨RX1, "note", "(III)V"⟩
abbrev cX1_follow : ByteArray := prog_3_method_3_code
def yX1_follow : MethodName := ⟨RX1, "follow", "(III)I"⟩
abbrev cX1_emptyTanks : ByteArray := prog_3_method_4_code
def yX1_emptyTanks : MethodName := ⟨RX1, "emptyTanks", "()V"⟩
abbrev cX1_rainAgain : ByteArray := prog_3_method_5_code
def yX1_rainAgain : MethodName := ⟨RX1, "rainAgain", "(II)V"⟩
abbrev cX1_moveAgain : ByteArray := prog_3_method_6_code
def yX1_moveAgain : MethodName := ⟨RX1, "moveAgain", "(LSpringward$Move;)I"⟩
abbrev cX1_cut : ByteArray := prog_3_method_7_code
def yX1_cut : MethodName := ⟨RX1, "cut", "(LSpringward$Piece;I)LSpringward$Piece;"⟩
abbrev cX1_tankAt : ByteArray := prog_3_method_8_code
def yX1_tankAt : MethodName := ⟨RX1, "tankAt", "(I)LSpringward$Tank;"⟩
abbrev cX1_newPiece : ByteArray := prog_3_method_9_code
def yX1_newPiece : MethodName := ⟨RX1, "newPiece", "(II)LSpringward$Piece;"⟩
abbrev cX1_putAway : ByteArray := prog_3_method_10_code
def yX1_putAway : MethodName := ⟨RX1, "putAway", "(LSpringward$Piece;)V"⟩
def RX2 : String := "Springward$Lot"
def TX2 : u_T := fun k => match k with
  | 0 => ("Springward$Lot", "well", "I", true)
  | 1 => ("Springward$Lot", "bottled", "I", true)
  | 2 => ("Springward$Lot", "water", "LSpringward$Row;", true)
  | 3 => ("Springward$Lot", "treatments", "I", false)
  | 4 => ("Springward$Lot", "label", "I", false)
  | 5 => ("Springward$Lot", "isTrue", "Z", false)
  | _ => ("Springward$Lot", "recalled", "Z", false)
def tyX2 : Nat → FieldType := fun k => match k with
  | 0 => .int
  | 1 => .int
  | 2 => .object "Springward$Row"
  | 3 => .int
  | 4 => .int
  | 5 => .boolean
  | _ => .boolean
abbrev wsX20 : List Cond := u_ws RX2 TX2 7
theorem nmX2 : ∀ a, a < 7 → ∀ b, b < 7 → a ≠ b → (TX2 a).2.1 ≠ (TX2 b).2.1 := by decide +kernel
theorem tyX2_ok : ∀ k, k < 7 → parseFieldDescriptor (TX2 k).2.2.1 = some (tyX2 k) := by decide +kernel
abbrev cX2_init : ByteArray := prog_4_method_1_code
def yX2_init : MethodName := ⟨RX2, "<init>", "(IILSpringward$Portion;)V"⟩
abbrev cX2_leastAge : ByteArray := prog_4_method_2_code
def yX2_leastAge : MethodName := ⟨RX2, "leastAge", "()I"⟩
abbrev cX2_greatestAge : ByteArray := prog_4_method_3_code
def yX2_greatestAge : MethodName := ⟨RX2, "greatestAge", "()I"⟩
abbrev cX2_meanAge : ByteArray := prog_4_method_4_code
def yX2_meanAge : MethodName := ⟨RX2, "meanAge", "()F"⟩
abbrev cX2_truth : ByteArray := prog_4_method_5_code
def yX2_truth : MethodName := ⟨RX2, "truth", "()I"⟩
abbrev cX2_isOfKind : ByteArray := prog_4_method_6_code
def yX2_isOfKind : MethodName := ⟨RX2, "isOfKind", "(II)Z"⟩
abbrev cX2_hasAtMost : ByteArray := prog_4_method_7_code
def yX2_hasAtMost : MethodName := ⟨RX2, "hasAtMost", "(II)Z"⟩
abbrev cX2_isRecalledBy : ByteArray := prog_4_method_8_code
def yX2_isRecalledBy : MethodName := ⟨RX2, "isRecalledBy", "(I)Z"⟩
def RX3 : String := "Springward$Move"
def TX3 : u_T := fun k => match k with
  | 0 => ("Springward$Move", "from", "I", true)
  | 1 => ("Springward$Move", "to", "I", true)
  | 2 => ("Springward$Move", "units", "I", true)
  | _ => ("Springward$Move", "next", "LSpringward$Move;", false)
def tyX3 : Nat → FieldType := fun k => match k with
  | 0 => .int
  | 1 => .int
  | 2 => .int
  | _ => .object "Springward$Move"
abbrev wsX30 : List Cond := u_ws RX3 TX3 4
theorem nmX3 : ∀ a, a < 4 → ∀ b, b < 4 → a ≠ b → (TX3 a).2.1 ≠ (TX3 b).2.1 := by decide +kernel
theorem tyX3_ok : ∀ k, k < 4 → parseFieldDescriptor (TX3 k).2.2.1 = some (tyX3 k) := by decide +kernel
abbrev cX3_init : ByteArray := prog_5_method_1_code
def yX3_init : MethodName := ⟨RX3, "<init>", "(III)V"⟩
def RX4 : String := "Springward$Piece"
def TX4 : u_T := fun k => match k with
  | 0 => ("Springward$Piece", "place", "I", false)
  | 1 => ("Springward$Piece", "units", "I", false)
  | _ => ("Springward$Piece", "next", "LSpringward$Piece;", false)
def tyX4 : Nat → FieldType := fun k => match k with
  | 0 => .int
  | 1 => .int
  | _ => .object "Springward$Piece"
abbrev wsX40 : List Cond := u_ws RX4 TX4 3
theorem nmX4 : ∀ a, a < 3 → ∀ b, b < 3 → a ≠ b → (TX4 a).2.1 ≠ (TX4 b).2.1 := by decide +kernel
theorem tyX4_ok : ∀ k, k < 3 → parseFieldDescriptor (TX4 k).2.2.1 = some (tyX4 k) := by decide +kernel
abbrev cX4_init : ByteArray := prog_6_method_1_code
def yX4_init : MethodName := ⟨RX4, "<init>", "()V"⟩
def RX5 : String := "Springward$Portion"
def TX5 : u_T := fun k => match k with
  | 0 => ("Springward$Portion", "cell", "I", true)
  | 1 => ("Springward$Portion", "year", "I", true)
  | 2 => ("Springward$Portion", "nitrate", "I", true)
  | 3 => ("Springward$Portion", "compounds", "I", true)
  | 4 => ("Springward$Portion", "units", "I", false)
  | _ => ("Springward$Portion", "next", "LSpringward$Portion;", false)
def tyX5 : Nat → FieldType := fun k => match k with
  | 0 => .int
  | 1 => .int
  | 2 => .int
  | 3 => .int
  | 4 => .int
  | _ => .object "Springward$Portion"
abbrev wsX50 : List Cond := u_ws RX5 TX5 6
theorem nmX5 : ∀ a, a < 6 → ∀ b, b < 6 → a ≠ b → (TX5 a).2.1 ≠ (TX5 b).2.1 := by decide +kernel
theorem tyX5_ok : ∀ k, k < 6 → parseFieldDescriptor (TX5 k).2.2.1 = some (tyX5 k) := by decide +kernel
abbrev cX5_init : ByteArray := prog_7_method_1_code
def yX5_init : MethodName := ⟨RX5, "<init>", "(IIIII)V"⟩
abbrev cX5_splitOff : ByteArray := prog_7_method_2_code
def yX5_splitOff : MethodName := ⟨RX5, "splitOff", "(I)LSpringward$Portion;"⟩
def RX6 : String := "Springward$Row"
def TX6 : u_T := fun k => match k with
  | 0 => ("Springward$Row", "units", "I", false)
  | 1 => ("Springward$Row", "first", "LSpringward$Portion;", false)
  | _ => ("Springward$Row", "last", "LSpringward$Portion;", false)
def tyX6 : Nat → FieldType := fun k => match k with
  | 0 => .int
  | 1 => .object "Springward$Portion"
  | _ => .object "Springward$Portion"
abbrev wsX60 : List Cond := u_ws RX6 TX6 3
theorem nmX6 : ∀ a, a < 3 → ∀ b, b < 3 → a ≠ b → (TX6 a).2.1 ≠ (TX6 b).2.1 := by decide +kernel
theorem tyX6_ok : ∀ k, k < 3 → parseFieldDescriptor (TX6 k).2.2.1 = some (tyX6 k) := by decide +kernel
abbrev cX6_init : ByteArray := prog_8_method_1_code
def yX6_init : MethodName := ⟨RX6, "<init>", "()V"⟩
abbrev cX6_clear : ByteArray := prog_8_method_2_code
def yX6_clear : MethodName := ⟨RX6, "clear", "()V"⟩
abbrev cX6_append : ByteArray := prog_8_method_3_code
def yX6_append : MethodName := ⟨RX6, "append", "(LSpringward$Portion;)V"⟩
abbrev cX6_take : ByteArray := prog_8_method_4_code
def yX6_take : MethodName := ⟨RX6, "take", "(I)LSpringward$Portion;"⟩
abbrev cX6_frontYear : ByteArray := prog_8_method_5_code
def yX6_frontYear : MethodName := ⟨RX6, "frontYear", "()I"⟩
abbrev cX6_nitrate : ByteArray := prog_8_method_6_code
def yX6_nitrate : MethodName := ⟨RX6, "nitrate", "()I"⟩
abbrev cX6_compounds : ByteArray := prog_8_method_7_code
def yX6_compounds : MethodName := ⟨RX6, "compounds", "()I"⟩
abbrev cX6_oldest : ByteArray := prog_8_method_8_code
def yX6_oldest : MethodName := ⟨RX6, "oldest", "()I"⟩
abbrev cX6_youngest : ByteArray := prog_8_method_9_code
def yX6_youngest : MethodName := ⟨RX6, "youngest", "()I"⟩
abbrev cX6_agesIn : ByteArray := prog_8_method_10_code
def yX6_agesIn : MethodName := ⟨RX6, "agesIn", "(I)I"⟩
abbrev cX6_unitsThatFell : ByteArray := prog_8_method_11_code
def yX6_unitsThatFell : MethodName := ⟨RX6, "unitsThatFell", "(II)I"⟩
abbrev cX6_earliestWith : ByteArray := prog_8_method_12_code
def yX6_earliestWith : MethodName := ⟨RX6, "earliestWith", "(I)LSpringward$Portion;"⟩
abbrev cX6_isEarlier : ByteArray := prog_8_method_13_code
def yX6_isEarlier : MethodName := ⟨RX6, "isEarlier", "(LSpringward$Portion;LSpringward$Portion;)Z"⟩
def RX7 : String := "Springward$Tank"
def TX7 : u_T := fun k => match k with
  | 0 => ("Springward$Tank", "came", "I", false)
  | 1 => ("Springward$Tank", "went", "I", false)
  | 2 => ("Springward$Tank", "first", "LSpringward$Piece;", false)
  | _ => ("Springward$Tank", "last", "LSpringward$Piece;", false)
def tyX7 : Nat → FieldType := fun k => match k with
  | 0 => .int
  | 1 => .int
  | 2 => .object "Springward$Piece"
  | _ => .object "Springward$Piece"
abbrev wsX70 : List Cond := u_ws RX7 TX7 4
theorem nmX7 : ∀ a, a < 4 → ∀ b, b < 4 → a ≠ b → (TX7 a).2.1 ≠ (TX7 b).2.1 := by decide +kernel
theorem tyX7_ok : ∀ k, k < 4 → parseFieldDescriptor (TX7 k).2.2.1 = some (tyX7 k) := by decide +kernel
abbrev cX7_init : ByteArray := prog_9_method_1_code
def yX7_init : MethodName := ⟨RX7, "<init>", "()V"⟩
abbrev cX7_add : ByteArray := prog_9_method_2_code
def yX7_add : MethodName := ⟨RX7, "add", "(LSpringward$Piece;)V"⟩
abbrev cX7_startAt : ByteArray := prog_9_method_3_code
def yX7_startAt : MethodName := ⟨RX7, "startAt", "(LSpringward$Piece;)V"⟩
def RX8 : String := "Springward$Well"
def TX8 : u_T := fun k => match k with
  | 0 => ("Springward$Well", "cell", "LSpringward$Cell;", true)
  | 1 => ("Springward$Well", "permit", "I", true)
  | _ => ("Springward$Well", "took", "I", false)
def tyX8 : Nat → FieldType := fun k => match k with
  | 0 => .object "Springward$Cell"
  | 1 => .int
  | _ => .int
abbrev wsX80 : List Cond := u_ws RX8 TX8 3
theorem nmX8 : ∀ a, a < 3 → ∀ b, b < 3 → a ≠ b → (TX8 a).2.1 ≠ (TX8 b).2.1 := by decide +kernel
theorem tyX8_ok : ∀ k, k < 3 → parseFieldDescriptor (TX8 k).2.2.1 = some (tyX8 k) := by decide +kernel
abbrev cX8_init : ByteArray := prog_10_method_1_code
def yX8_init : MethodName := ⟨RX8, "<init>", "(LSpringward$Cell;I)V"⟩
def RX9 : String := "Springward"
def TX9 : u_T := fun k => match k with
  | 0 => ("Springward", "cells", "[LSpringward$Cell;", true)
  | 1 => ("Springward", "wells", "[LSpringward$Well;", true)
  | 2 => ("Springward", "lots", "[LSpringward$Lot;", true)
  | 3 => ("Springward", "spring", "LSpringward$Row;", true)
  | 4 => ("Springward", "journal", "LSpringward$Journal;", true)
  | 5 => ("Springward", "wellCount", "I", false)
  | 6 => ("Springward", "lotCount", "I", false)
  | 7 => ("Springward", "now", "I", false)
  | 8 => ("Springward", "cents", "I", false)
  | 9 => ("Springward", "droughtCell", "LSpringward$Cell;", false)
  | 10 => ("Springward", "firstLimit", "I", false)
  | 11 => ("Springward", "secondLimit", "I", false)
  | 12 => ("Springward", "forbidden", "I", false)
  | 13 => ("Springward", "fallen", "J", false)
  | 14 => ("Springward", "sprung", "J", false)
  | 15 => ("Springward", "paid", "J", false)
  | _ => ("Springward", "villageCents", "J", false)
def tyX9 : Nat → FieldType := fun k => match k with
  | 0 => .array (.object "Springward$Cell")
  | 1 => .array (.object "Springward$Well")
  | 2 => .array (.object "Springward$Lot")
  | 3 => .object "Springward$Row"
  | 4 => .object "Springward$Journal"
  | 5 => .int
  | 6 => .int
  | 7 => .int
  | 8 => .int
  | 9 => .object "Springward$Cell"
  | 10 => .int
  | 11 => .int
  | 12 => .int
  | 13 => .long
  | 14 => .long
  | 15 => .long
  | _ => .long
abbrev wsX90 : List Cond := u_ws RX9 TX9 17
theorem nmX9 : ∀ a, a < 17 → ∀ b, b < 17 → a ≠ b → (TX9 a).2.1 ≠ (TX9 b).2.1 := by decide +kernel
theorem tyX9_ok : ∀ k, k < 17 → parseFieldDescriptor (TX9 k).2.2.1 = some (tyX9 k) := by decide +kernel
abbrev cX9_init : ByteArray := prog_1_method_1_code
def yX9_init : MethodName := ⟨RX9, "<init>", "()V"⟩
abbrev cX9_rock : ByteArray := prog_1_method_2_code
def yX9_rock : MethodName := ⟨RX9, "rock", "(II)I"⟩
abbrev cX9_land : ByteArray := prog_1_method_3_code
def yX9_land : MethodName := ⟨RX9, "land", "(II)I"⟩
abbrev cX9_lead : ByteArray := prog_1_method_4_code
def yX9_lead : MethodName := ⟨RX9, "lead", "(II)I"⟩
abbrev cX9_spill : ByteArray := prog_1_method_5_code
def yX9_spill : MethodName := ⟨RX9, "spill", "(II)I"⟩
abbrev cX9_contract : ByteArray := prog_1_method_6_code
def yX9_contract : MethodName := ⟨RX9, "contract", "(III)V"⟩
abbrev cX9_pass : ByteArray := prog_1_method_7_code
def yX9_pass : MethodName := ⟨RX9, "pass", "(II)I"⟩
abbrev cX9_passOne : ByteArray := prog_1_method_8_code
def yX9_passOne : MethodName := ⟨RX9, "passOne", "(I)V"⟩
abbrev cX9_leadOn : ByteArray := prog_1_method_9_code
def yX9_leadOn : MethodName := ⟨RX9, "leadOn", "()V"⟩
abbrev cX9_rainOn : ByteArray := prog_1_method_10_code
def yX9_rainOn : MethodName := ⟨RX9, "rainOn", "(I)V"⟩
abbrev cX9_payContracts : ByteArray := prog_1_method_11_code
def yX9_payContracts : MethodName := ⟨RX9, "payContracts", "()V"⟩
abbrev cX9_well : ByteArray := prog_1_method_12_code
def yX9_well : MethodName := ⟨RX9, "well", "(II)I"⟩
abbrev cX9_drought : ByteArray := prog_1_method_13_code
def yX9_drought : MethodName := ⟨RX9, "drought", "(III)V"⟩
abbrev cX9_share : ByteArray := prog_1_method_14_code
def yX9_share : MethodName := ⟨RX9, "share", "(I)I"⟩
abbrev cX9_bottle : ByteArray := prog_1_method_15_code
def yX9_bottle : MethodName := ⟨RX9, "bottle", "(II)I"⟩
abbrev cX9_mayTakeStill : ByteArray := prog_1_method_16_code
def yX9_mayTakeStill : MethodName := ⟨RX9, "mayTakeStill", "(LSpringward$Well;)I"⟩
abbrev cX9_treat : ByteArray := prog_1_method_17_code
def yX9_treat : MethodName := ⟨RX9, "treat", "(II)I"⟩
abbrev cX9_label : ByteArray := prog_1_method_18_code
def yX9_label : MethodName := ⟨RX9, "label", "(II)Z"⟩
abbrev cX9_forbid : ByteArray := prog_1_method_19_code
def yX9_forbid : MethodName := ⟨RX9, "forbid", "(I)I"⟩
abbrev cX9_year : ByteArray := prog_1_method_20_code
def yX9_year : MethodName := ⟨RX9, "year", "()I"⟩
abbrev cX9_cellOf : ByteArray := prog_1_method_21_code
def yX9_cellOf : MethodName := ⟨RX9, "cellOf", "(II)I"⟩
abbrev cX9_flow : ByteArray := prog_1_method_22_code
def yX9_flow : MethodName := ⟨RX9, "flow", "(I)I"⟩
abbrev cX9_wellOf : ByteArray := prog_1_method_23_code
def yX9_wellOf : MethodName := ⟨RX9, "wellOf", "(II)I"⟩
abbrev cX9_lotOf : ByteArray := prog_1_method_24_code
def yX9_lotOf : MethodName := ⟨RX9, "lotOf", "(II)I"⟩
abbrev cX9_age : ByteArray := prog_1_method_25_code
def yX9_age : MethodName := ⟨RX9, "age", "(I)F"⟩
abbrev cX9_best : ByteArray := prog_1_method_26_code
def yX9_best : MethodName := ⟨RX9, "best", "(I)I"⟩
abbrev cX9_from : ByteArray := prog_1_method_27_code
def yX9_from : MethodName := ⟨RX9, "from", "(III)I"⟩
abbrev cX9_fromAnew : ByteArray := prog_1_method_28_code
def yX9_fromAnew : MethodName := ⟨RX9, "fromAnew", "(III)I"⟩
abbrev cX9_whence : ByteArray := prog_1_method_29_code
def yX9_whence : MethodName := ⟨RX9, "whence", "(II)I"⟩
abbrev cX9_sum : ByteArray := prog_1_method_30_code
def yX9_sum : MethodName := ⟨RX9, "sum", "(I)J"⟩
abbrev cX9_unitsInCells : ByteArray := prog_1_method_31_code
def yX9_unitsInCells : MethodName := ⟨RX9, "unitsInCells", "()J"⟩
abbrev cX9_unitsBottled : ByteArray := prog_1_method_32_code
def yX9_unitsBottled : MethodName := ⟨RX9, "unitsBottled", "()J"⟩
abbrev cX9_falseLabels : ByteArray := prog_1_method_33_code
def yX9_falseLabels : MethodName := ⟨RX9, "falseLabels", "()J"⟩
abbrev cX9_cellAt : ByteArray := prog_1_method_34_code
def yX9_cellAt : MethodName := ⟨RX9, "cellAt", "(I)LSpringward$Cell;"⟩
abbrev cX9_wellAt : ByteArray := prog_1_method_35_code
def yX9_wellAt : MethodName := ⟨RX9, "wellAt", "(I)LSpringward$Well;"⟩
abbrev cX9_lotAt : ByteArray := prog_1_method_36_code
def yX9_lotAt : MethodName := ⟨RX9, "lotAt", "(I)LSpringward$Lot;"⟩
abbrev cX9_needIndex : ByteArray := prog_1_method_37_code
def yX9_needIndex : MethodName := ⟨RX9, "needIndex", "(II)V"⟩
abbrev cX9_needRange : ByteArray := prog_1_method_38_code
def yX9_needRange : MethodName := ⟨RX9, "needRange", "(III)V"⟩
abbrev cX9_needArgument : ByteArray := prog_1_method_39_code
def yX9_needArgument : MethodName := ⟨RX9, "needArgument", "(Z)V"⟩
abbrev cX9_needState : ByteArray := prog_1_method_40_code
def yX9_needState : MethodName := ⟨RX9, "needState", "(Z)V"⟩
def RX10 : String := "SpringwardModel"
def TX10 : u_T := fun k => match k with
  | _ => ("", "", "", false)
def tyX10 : Nat → FieldType := fun k => match k with
  | _ => .int
abbrev wsX100 : List Cond := u_ws RX10 TX10 0
theorem nmX10 : ∀ a, a < 0 → ∀ b, b < 0 → a ≠ b → (TX10 a).2.1 ≠ (TX10 b).2.1 := by decide +kernel
theorem tyX10_ok : ∀ k, k < 0 → parseFieldDescriptor (TX10 k).2.2.1 = some (tyX10 k) := by decide +kernel
def RJ9 : String := "java/lang/Math"
def TJ9 : u_T := fun k => match k with
  | _ => ("", "", "", false)
def tyJ9 : Nat → FieldType := fun k => match k with
  | _ => .int
abbrev wsJ90 : List Cond := u_ws RJ9 TJ9 0
theorem nmJ9 : ∀ a, a < 0 → ∀ b, b < 0 → a ≠ b → (TJ9 a).2.1 ≠ (TJ9 b).2.1 := by decide +kernel
theorem tyJ9_ok : ∀ k, k < 0 → parseFieldDescriptor (TJ9 k).2.2.1 = some (tyJ9 k) := by decide +kernel
abbrev cJ9_max_7cf53 : ByteArray := prog_17_method_65_code
def yJ9_max_7cf53 : MethodName := ⟨RJ9, "max", "(II)I"⟩
abbrev cJ9_min_7cf53 : ByteArray := prog_17_method_69_code
def yJ9_min_7cf53 : MethodName := ⟨RJ9, "min", "(II)I"⟩
def RJ0 : String := "java/lang/String"
def TJ0 : u_T := fun k => match k with
  | _ => ("", "", "", false)
def tyJ0 : Nat → FieldType := fun k => match k with
  | _ => .int
abbrev wsJ00 : List Cond := u_ws RJ0 TJ0 0
theorem nmJ0 : ∀ a, a < 0 → ∀ b, b < 0 → a ≠ b → (TJ0 a).2.1 ≠ (TJ0 b).2.1 := by decide +kernel
theorem tyJ0_ok : ∀ k, k < 0 → parseFieldDescriptor (TJ0 k).2.2.1 = some (tyJ0 k) := by decide +kernel
def RL : String := "SpringwardLaw"
abbrev cL_draw : ByteArray := method_2_code
def yL_draw : MethodName := ⟨RL, "draw", "([III)I"⟩
abbrev cL_asks : ByteArray := method_3_code
def yL_asks : MethodName := ⟨RL, "asks", "(LSpringward;III)I"⟩
abbrev cL_isContract : ByteArray := method_4_code
def yL_isContract : MethodName := ⟨RL, "isContract", "(LSpringward;III)Z"⟩
abbrev cL_may : ByteArray := method_5_code
def yL_may : MethodName := ⟨RL, "may", "(LSpringward;I[I[I)I"⟩
abbrev cL_isWater : ByteArray := method_6_code
def yL_isWater : MethodName := ⟨RL, "isWater", "(LSpringward;II[I)Z"⟩
abbrev cL_isLot : ByteArray := method_7_code
def yL_isLot : MethodName := ⟨RL, "isLot", "(LSpringward;I[I[I)Z"⟩
abbrev cL_isSound : ByteArray := method_8_code
def yL_isSound : MethodName := ⟨RL, "isSound", "(LSpringward;[I[I[I)Z"⟩
abbrev cL_isWhole : ByteArray := method_9_code
def yL_isWhole : MethodName := ⟨RL, "isWhole", "(LSpringward;I[I)Z"⟩
abbrev cL_passes : ByteArray := method_10_code
def yL_passes : MethodName := ⟨RL, "passes", "(LSpringward;I[I[I[I)Z"⟩
abbrev cL_bottles : ByteArray := method_11_code
def yL_bottles : MethodName := ⟨RL, "bottles", "(LSpringward;II[I[I)Z"⟩
abbrev cL_ofLots : ByteArray := method_12_code
def yL_ofLots : MethodName := ⟨RL, "ofLots", "(LSpringward;II[I[I)Z"⟩
abbrev cL_others : ByteArray := method_13_code
def yL_others : MethodName := ⟨RL, "others", "(LSpringward;II[I[I[I)Z"⟩
abbrev cL_mountain : ByteArray := method_14_code
def yL_mountain : MethodName := ⟨RL, "mountain", "([II)Z"⟩
abbrev cL_law : ByteArray := code
def yL_law : MethodName := ⟨RL, "law", "([I)Z"⟩
abbrev vwCl : List vw_C := [(RX0, TX0, 8), (RX1, TX1, 4), (RX2, TX2, 7), (RX3, TX3, 4), (RX4, TX4, 3), (RX5, TX5, 6), (RX6, TX6, 3), (RX7, TX7, 4), (RX8, TX8, 3), (RX9, TX9, 17)]

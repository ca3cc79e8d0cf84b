-- ===== PART A: goes FIRST, ahead of the names: the tables' words, and 'selects' of the private methods out of them =====
/-- a private method of a class that the tables say can be made, by its rows of tables_1 -/
def lw_okq (q : MethodName × Nat) : Prop := (q.1.cls ≠ "java/lang/invoke/MethodHandle" ∧ q.1.cls ≠ "java/lang/invoke/VarHandle") ∧ Cond.instantiable q.1.cls q.2 ∈ tables_1 ∧ Cond.privateMethod q.1 ∈ tables_1 ∧ Cond.instanceMethod q.1 ∈ tables_1
theorem lw_p0 : lw_okq (⟨"FortHeralds", "kept", "(I)I"⟩, 11) := ⟨⟨by decide +kernel, by decide +kernel⟩, List.mem_of_getElem? (i := 27) (by decide +kernel), List.mem_of_getElem? (i := 426) (by decide +kernel), List.mem_of_getElem? (i := 427) (by decide +kernel)⟩
theorem lw_p1 : lw_okq (⟨"FortHeralds$Works", "takeRoad", "(III)V"⟩, 4) := ⟨⟨by decide +kernel, by decide +kernel⟩, List.mem_of_getElem? (i := 35) (by decide +kernel), List.mem_of_getElem? (i := 465) (by decide +kernel), List.mem_of_getElem? (i := 466) (by decide +kernel)⟩
theorem lw_p2 : lw_okq (⟨"FortHeralds$Heralds", "hear", "(LFortHeralds$Country;II)V"⟩, 1) := ⟨⟨by decide +kernel, by decide +kernel⟩, List.mem_of_getElem? (i := 183) (by decide +kernel), List.mem_of_getElem? (i := 519) (by decide +kernel), List.mem_of_getElem? (i := 520) (by decide +kernel)⟩
theorem lw_p3 : lw_okq (⟨"FortHeralds$Heralds", "ageUntold", "(LFortHeralds$Country;I)V"⟩, 1) := ⟨⟨by decide +kernel, by decide +kernel⟩, List.mem_of_getElem? (i := 183) (by decide +kernel), List.mem_of_getElem? (i := 532) (by decide +kernel), List.mem_of_getElem? (i := 533) (by decide +kernel)⟩
theorem lw_p4 : lw_okq (⟨"FortHeralds$Letters", "leap", "(II)V"⟩, 6) := ⟨⟨by decide +kernel, by decide +kernel⟩, List.mem_of_getElem? (i := 94) (by decide +kernel), List.mem_of_getElem? (i := 541) (by decide +kernel), List.mem_of_getElem? (i := 542) (by decide +kernel)⟩
theorem lw_p5 : lw_okq (⟨"FortHeralds$Letters", "waitHere", "(I)V"⟩, 6) := ⟨⟨by decide +kernel, by decide +kernel⟩, List.mem_of_getElem? (i := 94) (by decide +kernel), List.mem_of_getElem? (i := 545) (by decide +kernel), List.mem_of_getElem? (i := 546) (by decide +kernel)⟩
theorem lw_p6 : lw_okq (⟨"FortHeralds$Reader", "findKind", "()Z"⟩, 7) := ⟨⟨by decide +kernel, by decide +kernel⟩, List.mem_of_getElem? (i := 282) (by decide +kernel), List.mem_of_getElem? (i := 581) (by decide +kernel), List.mem_of_getElem? (i := 582) (by decide +kernel)⟩
theorem lw_p7 : lw_okq (⟨"FortHeralds$Reader", "isIn", "(CC)Z"⟩, 7) := ⟨⟨by decide +kernel, by decide +kernel⟩, List.mem_of_getElem? (i := 282) (by decide +kernel), List.mem_of_getElem? (i := 626) (by decide +kernel), List.mem_of_getElem? (i := 627) (by decide +kernel)⟩
theorem lw_p8 : lw_okq (⟨"FortHeralds$Reader", "readPart", "(C)Z"⟩, 7) := ⟨⟨by decide +kernel, by decide +kernel⟩, List.mem_of_getElem? (i := 282) (by decide +kernel), List.mem_of_getElem? (i := 655) (by decide +kernel), List.mem_of_getElem? (i := 656) (by decide +kernel)⟩
theorem lw_p9 : lw_okq (⟨"FortHeralds$Reader", "readFort", "()Z"⟩, 7) := ⟨⟨by decide +kernel, by decide +kernel⟩, List.mem_of_getElem? (i := 282) (by decide +kernel), List.mem_of_getElem? (i := 659) (by decide +kernel), List.mem_of_getElem? (i := 660) (by decide +kernel)⟩
theorem lw_p10 : lw_okq (⟨"FortHeralds$Reader", "readDigit", "()Z"⟩, 7) := ⟨⟨by decide +kernel, by decide +kernel⟩, List.mem_of_getElem? (i := 282) (by decide +kernel), List.mem_of_getElem? (i := 663) (by decide +kernel), List.mem_of_getElem? (i := 664) (by decide +kernel)⟩
theorem lw_p11 : lw_okq (⟨"FortHeralds$Reader", "skip", "(C)Z"⟩, 7) := ⟨⟨by decide +kernel, by decide +kernel⟩, List.mem_of_getElem? (i := 282) (by decide +kernel), List.mem_of_getElem? (i := 667) (by decide +kernel), List.mem_of_getElem? (i := 668) (by decide +kernel)⟩
theorem lw_p12 : lw_okq (⟨"FortHeralds", "carryOutAll", "(I)I"⟩, 11) := ⟨⟨by decide +kernel, by decide +kernel⟩, List.mem_of_getElem? (i := 27) (by decide +kernel), List.mem_of_getElem? (i := 675) (by decide +kernel), List.mem_of_getElem? (i := 676) (by decide +kernel)⟩
theorem lw_p13 : lw_okq (⟨"FortHeralds", "hasSoundRoutes", "(I)Z"⟩, 11) := ⟨⟨by decide +kernel, by decide +kernel⟩, List.mem_of_getElem? (i := 27) (by decide +kernel), List.mem_of_getElem? (i := 947) (by decide +kernel), List.mem_of_getElem? (i := 948) (by decide +kernel)⟩
theorem lw_p14 : lw_okq (⟨"FortHeralds", "isMeasuredAlike", "(I)Z"⟩, 11) := ⟨⟨by decide +kernel, by decide +kernel⟩, List.mem_of_getElem? (i := 27) (by decide +kernel), List.mem_of_getElem? (i := 951) (by decide +kernel), List.mem_of_getElem? (i := 952) (by decide +kernel)⟩
theorem lw_p15 : lw_okq (⟨"FortHeralds$Distances", "findNearest", "(I)I"⟩, 3) := ⟨⟨by decide +kernel, by decide +kernel⟩, List.mem_of_getElem? (i := 234) (by decide +kernel), List.mem_of_getElem? (i := 959) (by decide +kernel), List.mem_of_getElem? (i := 960) (by decide +kernel)⟩
def lw_privs_1 : List (MethodName × Nat) := [(⟨"FortHeralds", "kept", "(I)I"⟩, 11), (⟨"FortHeralds$Works", "takeRoad", "(III)V"⟩, 4), (⟨"FortHeralds$Heralds", "hear", "(LFortHeralds$Country;II)V"⟩, 1), (⟨"FortHeralds$Heralds", "ageUntold", "(LFortHeralds$Country;I)V"⟩, 1), (⟨"FortHeralds$Letters", "leap", "(II)V"⟩, 6), (⟨"FortHeralds$Letters", "waitHere", "(I)V"⟩, 6), (⟨"FortHeralds$Reader", "findKind", "()Z"⟩, 7), (⟨"FortHeralds$Reader", "isIn", "(CC)Z"⟩, 7), (⟨"FortHeralds$Reader", "readPart", "(C)Z"⟩, 7), (⟨"FortHeralds$Reader", "readFort", "()Z"⟩, 7), (⟨"FortHeralds$Reader", "readDigit", "()Z"⟩, 7), (⟨"FortHeralds$Reader", "skip", "(C)Z"⟩, 7), (⟨"FortHeralds", "carryOutAll", "(I)I"⟩, 11), (⟨"FortHeralds", "hasSoundRoutes", "(I)Z"⟩, 11), (⟨"FortHeralds", "isMeasuredAlike", "(I)Z"⟩, 11), (⟨"FortHeralds$Distances", "findNearest", "(I)I"⟩, 3)]
theorem lw_r1 : ∀ q ∈ lw_privs_1, lw_okq q := List.forall_mem_cons.mpr ⟨lw_p0, List.forall_mem_cons.mpr ⟨lw_p1, List.forall_mem_cons.mpr ⟨lw_p2, List.forall_mem_cons.mpr ⟨lw_p3, List.forall_mem_cons.mpr ⟨lw_p4, List.forall_mem_cons.mpr ⟨lw_p5, List.forall_mem_cons.mpr ⟨lw_p6, List.forall_mem_cons.mpr ⟨lw_p7, List.forall_mem_cons.mpr ⟨lw_p8, List.forall_mem_cons.mpr ⟨lw_p9, List.forall_mem_cons.mpr ⟨lw_p10, List.forall_mem_cons.mpr ⟨lw_p11, List.forall_mem_cons.mpr ⟨lw_p12, List.forall_mem_cons.mpr ⟨lw_p13, List.forall_mem_cons.mpr ⟨lw_p14, List.forall_mem_cons.mpr ⟨lw_p15, fun _ h => absurd h List.not_mem_nil⟩⟩⟩⟩⟩⟩⟩⟩⟩⟩⟩⟩⟩⟩⟩⟩
theorem lw_p16 : lw_okq (⟨"FortHeralds$Distances", "lessenOnce", "(LFortHeralds$Country;)Z"⟩, 3) := ⟨⟨by decide +kernel, by decide +kernel⟩, List.mem_of_getElem? (i := 234) (by decide +kernel), List.mem_of_getElem? (i := 970) (by decide +kernel), List.mem_of_getElem? (i := 971) (by decide +kernel)⟩
theorem lw_p17 : lw_okq (⟨"FortHeralds$Trail", "start", "(I)V"⟩, 6) := ⟨⟨by decide +kernel, by decide +kernel⟩, List.mem_of_getElem? (i := 252) (by decide +kernel), List.mem_of_getElem? (i := 1007) (by decide +kernel), List.mem_of_getElem? (i := 1008) (by decide +kernel)⟩
theorem lw_p18 : lw_okq (⟨"FortHeralds", "writeTrail", "()V"⟩, 11) := ⟨⟨by decide +kernel, by decide +kernel⟩, List.mem_of_getElem? (i := 27) (by decide +kernel), List.mem_of_getElem? (i := 1013) (by decide +kernel), List.mem_of_getElem? (i := 1014) (by decide +kernel)⟩
theorem lw_p19 : lw_okq (⟨"FortHeralds", "leaguesKnown", "(II)I"⟩, 11) := ⟨⟨by decide +kernel, by decide +kernel⟩, List.mem_of_getElem? (i := 27) (by decide +kernel), List.mem_of_getElem? (i := 1028) (by decide +kernel), List.mem_of_getElem? (i := 1029) (by decide +kernel)⟩
theorem lw_p20 : lw_okq (⟨"FortHeralds", "placeOf", "(I)I"⟩, 11) := ⟨⟨by decide +kernel, by decide +kernel⟩, List.mem_of_getElem? (i := 27) (by decide +kernel), List.mem_of_getElem? (i := 1046) (by decide +kernel), List.mem_of_getElem? (i := 1047) (by decide +kernel)⟩
theorem lw_p21 : lw_okq (⟨"FortHeralds", "isAhead", "(II)Z"⟩, 11) := ⟨⟨by decide +kernel, by decide +kernel⟩, List.mem_of_getElem? (i := 27) (by decide +kernel), List.mem_of_getElem? (i := 1050) (by decide +kernel), List.mem_of_getElem? (i := 1051) (by decide +kernel)⟩
theorem lw_p22 : lw_okq (⟨"FortHeralds", "writeKnown", "(II)V"⟩, 11) := ⟨⟨by decide +kernel, by decide +kernel⟩, List.mem_of_getElem? (i := 27) (by decide +kernel), List.mem_of_getElem? (i := 1058) (by decide +kernel), List.mem_of_getElem? (i := 1059) (by decide +kernel)⟩
def lw_privs_2 : List (MethodName × Nat) := [(⟨"FortHeralds$Distances", "lessenOnce", "(LFortHeralds$Country;)Z"⟩, 3), (⟨"FortHeralds$Trail", "start", "(I)V"⟩, 6), (⟨"FortHeralds", "writeTrail", "()V"⟩, 11), (⟨"FortHeralds", "leaguesKnown", "(II)I"⟩, 11), (⟨"FortHeralds", "placeOf", "(I)I"⟩, 11), (⟨"FortHeralds", "isAhead", "(II)Z"⟩, 11), (⟨"FortHeralds", "writeKnown", "(II)V"⟩, 11)]
theorem lw_r2 : ∀ q ∈ lw_privs_2, lw_okq q := List.forall_mem_cons.mpr ⟨lw_p16, List.forall_mem_cons.mpr ⟨lw_p17, List.forall_mem_cons.mpr ⟨lw_p18, List.forall_mem_cons.mpr ⟨lw_p19, List.forall_mem_cons.mpr ⟨lw_p20, List.forall_mem_cons.mpr ⟨lw_p21, List.forall_mem_cons.mpr ⟨lw_p22, fun _ h => absurd h List.not_mem_nil⟩⟩⟩⟩⟩⟩⟩
def lw_privs : List (MethodName × Nat) := lw_privs_1 ++ (lw_privs_2)
def lw_tbl : List Cond := k2_sels lw_privs ++ tables_1
theorem lw_privs_ok : ∀ q ∈ lw_privs, lw_okq q := by
  show ∀ q ∈ lw_privs_1 ++ (lw_privs_2), lw_okq q
  exact List.forall_mem_append.mpr ⟨lw_r1, lw_r2⟩
/-- the streams that the claim lets the run draw from -/
abbrev lw_cs : List Choice := [Jvm.Choice.named "NaN.bits"]
theorem lw_bits : nanBits ∈ lw_cs := by first | decide | exact List.mem_cons_self | simp [lw_cs, nanBits]

def RX0 : String := "FortHeralds$1"
def TX0 : u_T := fun k => match k with
  | _ => ("", "", "", false)
def tyX0 : Nat → FieldType := fun k => match k with
  | _ => .int
abbrev wsX00 : List Cond := u_ws RX0 TX0 0
theorem nmX0 : ∀ a, a < 0 → ∀ b, b < 0 → a ≠ b → (TX0 a).2.1 ≠ (TX0 b).2.1 := by decide +kernel
theorem tyX0_ok : ∀ k, k < 0 → parseFieldDescriptor (TX0 k).2.2.1 = some (tyX0 k) := by decide +kernel
def RX1 : String := "FortHeralds$Country"
def TX1 : u_T := fun k => match k with
  | 0 => ("FortHeralds$Country", "isSilent", "[Z", true)
  | 1 => ("FortHeralds$Country", "roads", "LFortHeralds$Roads;", true)
  | 2 => ("FortHeralds$Country", "routes", "LFortHeralds$Routes;", true)
  | 3 => ("FortHeralds$Country", "letters", "LFortHeralds$Letters;", true)
  | 4 => ("FortHeralds$Country", "forts", "I", false)
  | 5 => ("FortHeralds$Country", "way", "I", false)
  | 6 => ("FortHeralds$Country", "bound", "I", false)
  | 7 => ("FortHeralds$Country", "day", "I", false)
  | 8 => ("FortHeralds$Country", "tellings", "I", false)
  | _ => ("FortHeralds$Country", "changes", "I", false)
def tyX1 : Nat → FieldType := fun k => match k with
  | 0 => .array .boolean
  | 1 => .object "FortHeralds$Roads"
  | 2 => .object "FortHeralds$Routes"
  | 3 => .object "FortHeralds$Letters"
  | 4 => .int
  | 5 => .int
  | 6 => .int
  | 7 => .int
  | 8 => .int
  | _ => .int
abbrev wsX10 : List Cond := u_ws RX1 TX1 10
theorem nmX1 : ∀ a, a < 10 → ∀ b, b < 10 → a ≠ b → (TX1 a).2.1 ≠ (TX1 b).2.1 := by decide +kernel
theorem tyX1_ok : ∀ k, k < 10 → parseFieldDescriptor (TX1 k).2.2.1 = some (tyX1 k) := by decide +kernel
abbrev cX1_init : ByteArray := prog_3_method_1_code
def yX1_init : MethodName := ⟨RX1, "<init>", "()V"⟩
abbrev cX1_copyFrom : ByteArray := prog_3_method_2_code
def yX1_copyFrom : MethodName := ⟨RX1, "copyFrom", "(LFortHeralds$Country;)V"⟩
abbrev cX1_hasFort : ByteArray := prog_3_method_3_code
def yX1_hasFort : MethodName := ⟨RX1, "hasFort", "(I)Z"⟩
abbrev cX1_hasForts : ByteArray := prog_3_method_4_code
def yX1_hasForts : MethodName := ⟨RX1, "hasForts", "(II)Z"⟩
abbrev cX1_sendsHerald : ByteArray := prog_3_method_5_code
def yX1_sendsHerald : MethodName := ⟨RX1, "sendsHerald", "(II)Z"⟩
abbrev cX1_countSilent : ByteArray := prog_3_method_6_code
def yX1_countSilent : MethodName := ⟨RX1, "countSilent", "()I"⟩
abbrev cX1_countRoutes : ByteArray := prog_3_method_7_code
def yX1_countRoutes : MethodName := ⟨RX1, "countRoutes", "()I"⟩
def RX2 : String := "FortHeralds$Distances"
def TX2 : u_T := fun k => match k with
  | 0 => ("FortHeralds$Distances", "fromNearest", "[I", true)
  | 1 => ("FortHeralds$Distances", "roadByRoad", "[I", true)
  | _ => ("FortHeralds$Distances", "isDone", "[Z", true)
def tyX2 : Nat → FieldType := fun k => match k with
  | 0 => .array .int
  | 1 => .array .int
  | _ => .array .boolean
abbrev wsX20 : List Cond := u_ws RX2 TX2 3
theorem nmX2 : ∀ a, a < 3 → ∀ b, b < 3 → a ≠ b → (TX2 a).2.1 ≠ (TX2 b).2.1 := by decide +kernel
theorem tyX2_ok : ∀ k, k < 3 → parseFieldDescriptor (TX2 k).2.2.1 = some (tyX2 k) := by decide +kernel
abbrev cX2_init : ByteArray := prog_4_method_1_code
def yX2_init : MethodName := ⟨RX2, "<init>", "()V"⟩
abbrev cX2_measureFromNearest : ByteArray := prog_4_method_2_code
def yX2_measureFromNearest : MethodName := ⟨RX2, "measureFromNearest", "(LFortHeralds$Country;I)V"⟩
abbrev cX2_findNearest : ByteArray := prog_4_method_3_code
def yX2_findNearest : MethodName := ⟨RX2, "findNearest", "(I)I"⟩
abbrev cX2_measureRoadByRoad : ByteArray := prog_4_method_4_code
def yX2_measureRoadByRoad : MethodName := ⟨RX2, "measureRoadByRoad", "(LFortHeralds$Country;I)V"⟩
abbrev cX2_lessenOnce : ByteArray := prog_4_method_5_code
def yX2_lessenOnce : MethodName := ⟨RX2, "lessenOnce", "(LFortHeralds$Country;)Z"⟩
def RX3 : String := "FortHeralds$Heralds"
def TX3 : u_T := fun k => match k with
  | _ => ("FortHeralds$Heralds", "morning", "LFortHeralds$Routes;", true)
def tyX3 : Nat → FieldType := fun k => match k with
  | _ => .object "FortHeralds$Routes"
abbrev wsX30 : List Cond := u_ws RX3 TX3 1
theorem nmX3 : ∀ a, a < 1 → ∀ b, b < 1 → a ≠ b → (TX3 a).2.1 ≠ (TX3 b).2.1 := by decide +kernel
theorem tyX3_ok : ∀ k, k < 1 → parseFieldDescriptor (TX3 k).2.2.1 = some (tyX3 k) := by decide +kernel
abbrev cX3_init : ByteArray := prog_5_method_1_code
def yX3_init : MethodName := ⟨RX3, "<init>", "()V"⟩
abbrev cX3_passDay : ByteArray := prog_5_method_2_code
def yX3_passDay : MethodName := ⟨RX3, "passDay", "(LFortHeralds$Country;)I"⟩
abbrev cX3_hear : ByteArray := prog_5_method_3_code
def yX3_hear : MethodName := ⟨RX3, "hear", "(LFortHeralds$Country;II)V"⟩
abbrev cX3_ageUntold : ByteArray := prog_5_method_4_code
def yX3_ageUntold : MethodName := ⟨RX3, "ageUntold", "(LFortHeralds$Country;I)V"⟩
def RX4 : String := "FortHeralds$Kind"
def TX4 : u_T := fun k => match k with
  | _ => ("", "", "", false)
def tyX4 : Nat → FieldType := fun k => match k with
  | _ => .int
abbrev wsX40 : List Cond := u_ws RX4 TX4 0
theorem nmX4 : ∀ a, a < 0 → ∀ b, b < 0 → a ≠ b → (TX4 a).2.1 ≠ (TX4 b).2.1 := by decide +kernel
theorem tyX4_ok : ∀ k, k < 0 → parseFieldDescriptor (TX4 k).2.2.1 = some (tyX4 k) := by decide +kernel
def RX5 : String := "FortHeralds$Letters"
def TX5 : u_T := fun k => match k with
  | 0 => ("FortHeralds$Letters", "at", "[I", true)
  | 1 => ("FortHeralds$Letters", "goal", "[I", true)
  | 2 => ("FortHeralds$Letters", "how", "[I", true)
  | 3 => ("FortHeralds$Letters", "leaps", "[I", true)
  | 4 => ("FortHeralds$Letters", "waits", "[I", true)
  | _ => ("FortHeralds$Letters", "count", "I", false)
def tyX5 : Nat → FieldType := fun k => match k with
  | 0 => .array .int
  | 1 => .array .int
  | 2 => .array .int
  | 3 => .array .int
  | 4 => .array .int
  | _ => .int
abbrev wsX50 : List Cond := u_ws RX5 TX5 6
theorem nmX5 : ∀ a, a < 6 → ∀ b, b < 6 → a ≠ b → (TX5 a).2.1 ≠ (TX5 b).2.1 := by decide +kernel
theorem tyX5_ok : ∀ k, k < 6 → parseFieldDescriptor (TX5 k).2.2.1 = some (tyX5 k) := by decide +kernel
abbrev cX5_init : ByteArray := prog_7_method_1_code
def yX5_init : MethodName := ⟨RX5, "<init>", "()V"⟩
abbrev cX5_copyFrom : ByteArray := prog_7_method_2_code
def yX5_copyFrom : MethodName := ⟨RX5, "copyFrom", "(LFortHeralds$Letters;)V"⟩
abbrev cX5_isFull : ByteArray := prog_7_method_3_code
def yX5_isFull : MethodName := ⟨RX5, "isFull", "()Z"⟩
abbrev cX5_add : ByteArray := prog_7_method_4_code
def yX5_add : MethodName := ⟨RX5, "add", "(II)I"⟩
abbrev cX5_goOn : ByteArray := prog_7_method_5_code
def yX5_goOn : MethodName := ⟨RX5, "goOn", "(LFortHeralds$Routes;)V"⟩
abbrev cX5_leap : ByteArray := prog_7_method_6_code
def yX5_leap : MethodName := ⟨RX5, "leap", "(II)V"⟩
abbrev cX5_waitHere : ByteArray := prog_7_method_7_code
def yX5_waitHere : MethodName := ⟨RX5, "waitHere", "(I)V"⟩
abbrev cX5_numberOf : ByteArray := prog_7_method_8_code
def yX5_numberOf : MethodName := ⟨RX5, "numberOf", "(II)I"⟩
abbrev cX5_countUnderWayAt : ByteArray := prog_7_method_9_code
def yX5_countUnderWayAt : MethodName := ⟨RX5, "countUnderWayAt", "(I)I"⟩
abbrev cX5_countThatAre : ByteArray := prog_7_method_10_code
def yX5_countThatAre : MethodName := ⟨RX5, "countThatAre", "(I)I"⟩
abbrev cX5_sumOfLeaps : ByteArray := prog_7_method_11_code
def yX5_sumOfLeaps : MethodName := ⟨RX5, "sumOfLeaps", "()I"⟩
def RX6 : String := "FortHeralds$Past"
def TX6 : u_T := fun k => match k with
  | 0 => ("FortHeralds$Past", "rows", "[LFortHeralds$Country;", true)
  | 1 => ("FortHeralds$Past", "free", "I", false)
  | _ => ("FortHeralds$Past", "count", "I", false)
def tyX6 : Nat → FieldType := fun k => match k with
  | 0 => .array (.object "FortHeralds$Country")
  | 1 => .int
  | _ => .int
abbrev wsX60 : List Cond := u_ws RX6 TX6 3
theorem nmX6 : ∀ a, a < 3 → ∀ b, b < 3 → a ≠ b → (TX6 a).2.1 ≠ (TX6 b).2.1 := by decide +kernel
theorem tyX6_ok : ∀ k, k < 3 → parseFieldDescriptor (TX6 k).2.2.1 = some (tyX6 k) := by decide +kernel
abbrev cX6_init : ByteArray := prog_8_method_1_code
def yX6_init : MethodName := ⟨RX6, "<init>", "()V"⟩
abbrev cX6_note : ByteArray := prog_8_method_2_code
def yX6_note : MethodName := ⟨RX6, "note", "(LFortHeralds$Country;)V"⟩
abbrev cX6_keepNoted : ByteArray := prog_8_method_3_code
def yX6_keepNoted : MethodName := ⟨RX6, "keepNoted", "()V"⟩
abbrev cX6_takeBackNoted : ByteArray := prog_8_method_4_code
def yX6_takeBackNoted : MethodName := ⟨RX6, "takeBackNoted", "(LFortHeralds$Country;)V"⟩
abbrev cX6_takeBackLatest : ByteArray := prog_8_method_5_code
def yX6_takeBackLatest : MethodName := ⟨RX6, "takeBackLatest", "(LFortHeralds$Country;)V"⟩
abbrev cX6_forgetAll : ByteArray := prog_8_method_6_code
def yX6_forgetAll : MethodName := ⟨RX6, "forgetAll", "()V"⟩
def RX7 : String := "FortHeralds$Reader"
def TX7 : u_T := fun k => match k with
  | 0 => ("FortHeralds$Reader", "text", "Ljava/lang/StringBuilder;", true)
  | 1 => ("FortHeralds$Reader", "at", "I", false)
  | 2 => ("FortHeralds$Reader", "kind", "LFortHeralds$Kind;", false)
  | 3 => ("FortHeralds$Reader", "one", "I", false)
  | 4 => ("FortHeralds$Reader", "other", "I", false)
  | 5 => ("FortHeralds$Reader", "number", "I", false)
  | _ => ("FortHeralds$Reader", "hasOne", "Z", false)
def tyX7 : Nat → FieldType := fun k => match k with
  | 0 => .object "java/lang/StringBuilder"
  | 1 => .int
  | 2 => .object "FortHeralds$Kind"
  | 3 => .int
  | 4 => .int
  | 5 => .int
  | _ => .boolean
abbrev wsX70 : List Cond := u_ws RX7 TX7 7
theorem nmX7 : ∀ a, a < 7 → ∀ b, b < 7 → a ≠ b → (TX7 a).2.1 ≠ (TX7 b).2.1 := by decide +kernel
theorem tyX7_ok : ∀ k, k < 7 → parseFieldDescriptor (TX7 k).2.2.1 = some (tyX7 k) := by decide +kernel
abbrev cX7_init : ByteArray := prog_9_method_1_code
def yX7_init : MethodName := ⟨RX7, "<init>", "()V"⟩
abbrev cX7_countOrders : ByteArray := prog_9_method_2_code
def yX7_countOrders : MethodName := ⟨RX7, "countOrders", "()I"⟩
abbrev cX7_skipSemicolon : ByteArray := prog_9_method_3_code
def yX7_skipSemicolon : MethodName := ⟨RX7, "skipSemicolon", "()Z"⟩
abbrev cX7_readOrder : ByteArray := prog_9_method_4_code
def yX7_readOrder : MethodName := ⟨RX7, "readOrder", "()Z"⟩
abbrev cX7_findKind : ByteArray := prog_9_method_5_code
def yX7_findKind : MethodName := ⟨RX7, "findKind", "()Z"⟩
abbrev cX7_readPart : ByteArray := prog_9_method_6_code
def yX7_readPart : MethodName := ⟨RX7, "readPart", "(C)Z"⟩
abbrev cX7_readFort : ByteArray := prog_9_method_7_code
def yX7_readFort : MethodName := ⟨RX7, "readFort", "()Z"⟩
abbrev cX7_readDigit : ByteArray := prog_9_method_8_code
def yX7_readDigit : MethodName := ⟨RX7, "readDigit", "()Z"⟩
abbrev cX7_skip : ByteArray := prog_9_method_9_code
def yX7_skip : MethodName := ⟨RX7, "skip", "(C)Z"⟩
abbrev cX7_isIn : ByteArray := prog_9_method_10_code
def yX7_isIn : MethodName := ⟨RX7, "isIn", "(CC)Z"⟩
def RX8 : String := "FortHeralds$Roads"
def TX8 : u_T := fun k => match k with
  | 0 => ("FortHeralds$Roads", "leagues", "[[I", true)
  | _ => ("FortHeralds$Roads", "count", "I", false)
def tyX8 : Nat → FieldType := fun k => match k with
  | 0 => .array (.array .int)
  | _ => .int
abbrev wsX80 : List Cond := u_ws RX8 TX8 2
theorem nmX8 : ∀ a, a < 2 → ∀ b, b < 2 → a ≠ b → (TX8 a).2.1 ≠ (TX8 b).2.1 := by decide +kernel
theorem tyX8_ok : ∀ k, k < 2 → parseFieldDescriptor (TX8 k).2.2.1 = some (tyX8 k) := by decide +kernel
abbrev cX8_init : ByteArray := prog_10_method_1_code
def yX8_init : MethodName := ⟨RX8, "<init>", "()V"⟩
abbrev cX8_copyFrom : ByteArray := prog_10_method_2_code
def yX8_copyFrom : MethodName := ⟨RX8, "copyFrom", "(LFortHeralds$Roads;)V"⟩
abbrev cX8_between : ByteArray := prog_10_method_3_code
def yX8_between : MethodName := ⟨RX8, "between", "(II)I"⟩
abbrev cX8_areJoined : ByteArray := prog_10_method_4_code
def yX8_areJoined : MethodName := ⟨RX8, "areJoined", "(II)Z"⟩
abbrev cX8_join : ByteArray := prog_10_method_5_code
def yX8_join : MethodName := ⟨RX8, "join", "(III)V"⟩
abbrev cX8_part : ByteArray := prog_10_method_6_code
def yX8_part : MethodName := ⟨RX8, "part", "(II)V"⟩
abbrev cX8_countAt : ByteArray := prog_10_method_7_code
def yX8_countAt : MethodName := ⟨RX8, "countAt", "(I)I"⟩
def RX9 : String := "FortHeralds$Routes"
def TX9 : u_T := fun k => match k with
  | 0 => ("FortHeralds$Routes", "leagues", "[[I", true)
  | 1 => ("FortHeralds$Routes", "next", "[[I", true)
  | 2 => ("FortHeralds$Routes", "leaps", "[[I", true)
  | _ => ("FortHeralds$Routes", "age", "[[I", true)
def tyX9 : Nat → FieldType := fun k => match k with
  | 0 => .array (.array .int)
  | 1 => .array (.array .int)
  | 2 => .array (.array .int)
  | _ => .array (.array .int)
abbrev wsX90 : List Cond := u_ws RX9 TX9 4
theorem nmX9 : ∀ a, a < 4 → ∀ b, b < 4 → a ≠ b → (TX9 a).2.1 ≠ (TX9 b).2.1 := by decide +kernel
theorem tyX9_ok : ∀ k, k < 4 → parseFieldDescriptor (TX9 k).2.2.1 = some (tyX9 k) := by decide +kernel
abbrev cX9_init : ByteArray := prog_11_method_1_code
def yX9_init : MethodName := ⟨RX9, "<init>", "()V"⟩
abbrev cX9_copyFrom : ByteArray := prog_11_method_2_code
def yX9_copyFrom : MethodName := ⟨RX9, "copyFrom", "(LFortHeralds$Routes;)V"⟩
abbrev cX9_isKnown : ByteArray := prog_11_method_3_code
def yX9_isKnown : MethodName := ⟨RX9, "isKnown", "(II)Z"⟩
abbrev cX9_isOver : ByteArray := prog_11_method_4_code
def yX9_isOver : MethodName := ⟨RX9, "isOver", "(III)Z"⟩
abbrev cX9_isNoneOrLonger : ByteArray := prog_11_method_5_code
def yX9_isNoneOrLonger : MethodName := ⟨RX9, "isNoneOrLonger", "(III)Z"⟩
abbrev cX9_take : ByteArray := prog_11_method_6_code
def yX9_take : MethodName := ⟨RX9, "take", "(IIIII)V"⟩
abbrev cX9_lose : ByteArray := prog_11_method_7_code
def yX9_lose : MethodName := ⟨RX9, "lose", "(II)V"⟩
abbrev cX9_loseAllOver : ByteArray := prog_11_method_8_code
def yX9_loseAllOver : MethodName := ⟨RX9, "loseAllOver", "(II)V"⟩
abbrev cX9_numberOf : ByteArray := prog_11_method_9_code
def yX9_numberOf : MethodName := ⟨RX9, "numberOf", "(III)I"⟩
abbrev cX9_countOf : ByteArray := prog_11_method_10_code
def yX9_countOf : MethodName := ⟨RX9, "countOf", "(I)I"⟩
abbrev cX9_sumOfLeagues : ByteArray := prog_11_method_11_code
def yX9_sumOfLeagues : MethodName := ⟨RX9, "sumOfLeagues", "(I)I"⟩
abbrev cX9_countChangedSince : ByteArray := prog_11_method_12_code
def yX9_countChangedSince : MethodName := ⟨RX9, "countChangedSince", "(LFortHeralds$Routes;)I"⟩
def RX10 : String := "FortHeralds$Trail"
def TX10 : u_T := fun k => match k with
  | 0 => ("FortHeralds$Trail", "forts", "[I", true)
  | 1 => ("FortHeralds$Trail", "isPassed", "[Z", true)
  | 2 => ("FortHeralds$Trail", "length", "I", false)
  | 3 => ("FortHeralds$Trail", "leagues", "I", false)
  | 4 => ("FortHeralds$Trail", "last", "I", false)
  | _ => ("FortHeralds$Trail", "isRing", "Z", false)
def tyX10 : Nat → FieldType := fun k => match k with
  | 0 => .array .int
  | 1 => .array .boolean
  | 2 => .int
  | 3 => .int
  | 4 => .int
  | _ => .boolean
abbrev wsX100 : List Cond := u_ws RX10 TX10 6
theorem nmX10 : ∀ a, a < 6 → ∀ b, b < 6 → a ≠ b → (TX10 a).2.1 ≠ (TX10 b).2.1 := by decide +kernel
theorem tyX10_ok : ∀ k, k < 6 → parseFieldDescriptor (TX10 k).2.2.1 = some (tyX10 k) := by decide +kernel
abbrev cX10_init : ByteArray := prog_12_method_1_code
def yX10_init : MethodName := ⟨RX10, "<init>", "()V"⟩
abbrev cX10_follow : ByteArray := prog_12_method_2_code
def yX10_follow : MethodName := ⟨RX10, "follow", "(LFortHeralds$Country;II)V"⟩
abbrev cX10_start : ByteArray := prog_12_method_3_code
def yX10_start : MethodName := ⟨RX10, "start", "(I)V"⟩
def RX11 : String := "FortHeralds$Works"
def TX11 : u_T := fun k => match k with
  | 0 => ("FortHeralds$Works", "country", "LFortHeralds$Country;", true)
  | 1 => ("FortHeralds$Works", "heralds", "LFortHeralds$Heralds;", true)
  | 2 => ("FortHeralds$Works", "latestReason", "I", false)
  | _ => ("FortHeralds$Works", "latestDetail", "I", false)
def tyX11 : Nat → FieldType := fun k => match k with
  | 0 => .object "FortHeralds$Country"
  | 1 => .object "FortHeralds$Heralds"
  | 2 => .int
  | _ => .int
abbrev wsX110 : List Cond := u_ws RX11 TX11 4
theorem nmX11 : ∀ a, a < 4 → ∀ b, b < 4 → a ≠ b → (TX11 a).2.1 ≠ (TX11 b).2.1 := by decide +kernel
theorem tyX11_ok : ∀ k, k < 4 → parseFieldDescriptor (TX11 k).2.2.1 = some (tyX11 k) := by decide +kernel
abbrev cX11_init : ByteArray := prog_13_method_1_code
def yX11_init : MethodName := ⟨RX11, "<init>", "()V"⟩
abbrev cX11_refuse : ByteArray := prog_13_method_2_code
def yX11_refuse : MethodName := ⟨RX11, "refuse", "(II)I"⟩
abbrev cX11_carryOut : ByteArray := prog_13_method_3_code
def yX11_carryOut : MethodName := ⟨RX11, "carryOut", "(LFortHeralds$Reader;)I"⟩
abbrev cX11_buildFort : ByteArray := prog_13_method_4_code
def yX11_buildFort : MethodName := ⟨RX11, "buildFort", "()I"⟩
abbrev cX11_layRoad : ByteArray := prog_13_method_5_code
def yX11_layRoad : MethodName := ⟨RX11, "layRoad", "(III)I"⟩
abbrev cX11_takeRoad : ByteArray := prog_13_method_6_code
def yX11_takeRoad : MethodName := ⟨RX11, "takeRoad", "(III)V"⟩
abbrev cX11_cutRoad : ByteArray := prog_13_method_7_code
def yX11_cutRoad : MethodName := ⟨RX11, "cutRoad", "(II)I"⟩
abbrev cX11_setSilence : ByteArray := prog_13_method_8_code
def yX11_setSilence : MethodName := ⟨RX11, "setSilence", "(IZ)I"⟩
abbrev cX11_setWay : ByteArray := prog_13_method_9_code
def yX11_setWay : MethodName := ⟨RX11, "setWay", "(I)I"⟩
abbrev cX11_setBound : ByteArray := prog_13_method_10_code
def yX11_setBound : MethodName := ⟨RX11, "setBound", "(I)I"⟩
abbrev cX11_passDays : ByteArray := prog_13_method_11_code
def yX11_passDays : MethodName := ⟨RX11, "passDays", "(I)I"⟩
abbrev cX11_writeLetter : ByteArray := prog_13_method_12_code
def yX11_writeLetter : MethodName := ⟨RX11, "writeLetter", "(II)I"⟩
def RX12 : String := "FortHeralds"
def TX12 : u_T := fun k => match k with
  | 0 => ("FortHeralds", "works", "LFortHeralds$Works;", true)
  | 1 => ("FortHeralds", "country", "LFortHeralds$Country;", true)
  | 2 => ("FortHeralds", "trial", "LFortHeralds$Country;", true)
  | 3 => ("FortHeralds", "snapshot", "LFortHeralds$Country;", true)
  | 4 => ("FortHeralds", "past", "LFortHeralds$Past;", true)
  | 5 => ("FortHeralds", "distances", "LFortHeralds$Distances;", true)
  | 6 => ("FortHeralds", "trail", "LFortHeralds$Trail;", true)
  | 7 => ("FortHeralds", "reader", "LFortHeralds$Reader;", true)
  | 8 => ("FortHeralds", "text", "Ljava/lang/StringBuilder;", true)
  | 9 => ("FortHeralds", "line", "Ljava/lang/StringBuilder;", true)
  | _ => ("FortHeralds", "hasSnapshot", "Z", false)
def tyX12 : Nat → FieldType := fun k => match k with
  | 0 => .object "FortHeralds$Works"
  | 1 => .object "FortHeralds$Country"
  | 2 => .object "FortHeralds$Country"
  | 3 => .object "FortHeralds$Country"
  | 4 => .object "FortHeralds$Past"
  | 5 => .object "FortHeralds$Distances"
  | 6 => .object "FortHeralds$Trail"
  | 7 => .object "FortHeralds$Reader"
  | 8 => .object "java/lang/StringBuilder"
  | 9 => .object "java/lang/StringBuilder"
  | _ => .boolean
abbrev wsX120 : List Cond := u_ws RX12 TX12 11
theorem nmX12 : ∀ a, a < 11 → ∀ b, b < 11 → a ≠ b → (TX12 a).2.1 ≠ (TX12 b).2.1 := by decide +kernel
theorem tyX12_ok : ∀ k, k < 11 → parseFieldDescriptor (TX12 k).2.2.1 = some (tyX12 k) := by decide +kernel
abbrev cX12_init : ByteArray := prog_1_method_1_code
def yX12_init : MethodName := ⟨RX12, "<init>", "()V"⟩
abbrev cX12_fort : ByteArray := prog_1_method_2_code
def yX12_fort : MethodName := ⟨RX12, "fort", "()I"⟩
abbrev cX12_road : ByteArray := prog_1_method_3_code
def yX12_road : MethodName := ⟨RX12, "road", "(III)I"⟩
abbrev cX12_cut : ByteArray := prog_1_method_4_code
def yX12_cut : MethodName := ⟨RX12, "cut", "(II)I"⟩
abbrev cX12_silence : ByteArray := prog_1_method_5_code
def yX12_silence : MethodName := ⟨RX12, "silence", "(IZ)I"⟩
abbrev cX12_way : ByteArray := prog_1_method_6_code
def yX12_way : MethodName := ⟨RX12, "way", "(I)I"⟩
abbrev cX12_bound : ByteArray := prog_1_method_7_code
def yX12_bound : MethodName := ⟨RX12, "bound", "(I)I"⟩
abbrev cX12_fortOf : ByteArray := prog_1_method_8_code
def yX12_fortOf : MethodName := ⟨RX12, "fortOf", "(II)I"⟩
abbrev cX12_leagues : ByteArray := prog_1_method_9_code
def yX12_leagues : MethodName := ⟨RX12, "leagues", "(II)I"⟩
abbrev cX12_known : ByteArray := prog_1_method_10_code
def yX12_known : MethodName := ⟨RX12, "known", "(III)I"⟩
abbrev cX12_day : ByteArray := prog_1_method_11_code
def yX12_day : MethodName := ⟨RX12, "day", "(I)I"⟩
abbrev cX12_settles : ByteArray := prog_1_method_12_code
def yX12_settles : MethodName := ⟨RX12, "settles", "()I"⟩
abbrev cX12_far : ByteArray := prog_1_method_13_code
def yX12_far : MethodName := ⟨RX12, "far", "(II)I"⟩
abbrev cX12_farAgain : ByteArray := prog_1_method_14_code
def yX12_farAgain : MethodName := ⟨RX12, "farAgain", "(II)I"⟩
abbrev cX12_wrong : ByteArray := prog_1_method_15_code
def yX12_wrong : MethodName := ⟨RX12, "wrong", "()I"⟩
abbrev cX12_route : ByteArray := prog_1_method_16_code
def yX12_route : MethodName := ⟨RX12, "route", "(II)I"⟩
abbrev cX12_rings : ByteArray := prog_1_method_17_code
def yX12_rings : MethodName := ⟨RX12, "rings", "()I"⟩
abbrev cX12_letter : ByteArray := prog_1_method_18_code
def yX12_letter : MethodName := ⟨RX12, "letter", "(II)I"⟩
abbrev cX12_letterOf : ByteArray := prog_1_method_19_code
def yX12_letterOf : MethodName := ⟨RX12, "letterOf", "(II)I"⟩
abbrev cX12_ranked : ByteArray := prog_1_method_20_code
def yX12_ranked : MethodName := ⟨RX12, "ranked", "(I)I"⟩
abbrev cX12_append : ByteArray := prog_1_method_21_code
def yX12_append : MethodName := ⟨RX12, "append", "(I)I"⟩
abbrev cX12_run : ByteArray := prog_1_method_22_code
def yX12_run : MethodName := ⟨RX12, "run", "()I"⟩
abbrev cX12_tell : ByteArray := prog_1_method_23_code
def yX12_tell : MethodName := ⟨RX12, "tell", "(I)I"⟩
abbrev cX12_character : ByteArray := prog_1_method_24_code
def yX12_character : MethodName := ⟨RX12, "character", "(I)I"⟩
abbrev cX12_reason : ByteArray := prog_1_method_25_code
def yX12_reason : MethodName := ⟨RX12, "reason", "(Z)I"⟩
abbrev cX12_account : ByteArray := prog_1_method_26_code
def yX12_account : MethodName := ⟨RX12, "account", "(I)I"⟩
abbrev cX12_isBalanced : ByteArray := prog_1_method_27_code
def yX12_isBalanced : MethodName := ⟨RX12, "isBalanced", "()I"⟩
abbrev cX12_meanLeagues : ByteArray := prog_1_method_28_code
def yX12_meanLeagues : MethodName := ⟨RX12, "meanLeagues", "()D"⟩
abbrev cX12_comeShare : ByteArray := prog_1_method_29_code
def yX12_comeShare : MethodName := ⟨RX12, "comeShare", "()F"⟩
abbrev cX12_undo : ByteArray := prog_1_method_30_code
def yX12_undo : MethodName := ⟨RX12, "undo", "()I"⟩
abbrev cX12_save : ByteArray := prog_1_method_31_code
def yX12_save : MethodName := ⟨RX12, "save", "()I"⟩
abbrev cX12_restore : ByteArray := prog_1_method_32_code
def yX12_restore : MethodName := ⟨RX12, "restore", "()I"⟩
abbrev cX12_kept : ByteArray := prog_1_method_33_code
def yX12_kept : MethodName := ⟨RX12, "kept", "(I)I"⟩
abbrev cX12_carryOutAll : ByteArray := prog_1_method_34_code
def yX12_carryOutAll : MethodName := ⟨RX12, "carryOutAll", "(I)I"⟩
abbrev cX12_leaguesOrNothing : ByteArray := prog_1_method_35_code
def yX12_leaguesOrNothing : MethodName := ⟨RX12, "leaguesOrNothing", "(I)I"⟩
abbrev cX12_leaguesKnown : ByteArray := prog_1_method_36_code
def yX12_leaguesKnown : MethodName := ⟨RX12, "leaguesKnown", "(II)I"⟩
abbrev cX12_placeOf : ByteArray := prog_1_method_37_code
def yX12_placeOf : MethodName := ⟨RX12, "placeOf", "(I)I"⟩
abbrev cX12_isAhead : ByteArray := prog_1_method_38_code
def yX12_isAhead : MethodName := ⟨RX12, "isAhead", "(II)Z"⟩
abbrev cX12_letterOfFort : ByteArray := prog_1_method_39_code
def yX12_letterOfFort : MethodName := ⟨RX12, "letterOfFort", "(I)C"⟩
abbrev cX12_writeTrail : ByteArray := prog_1_method_40_code
def yX12_writeTrail : MethodName := ⟨RX12, "writeTrail", "()V"⟩
abbrev cX12_writeKnown : ByteArray := prog_1_method_41_code
def yX12_writeKnown : MethodName := ⟨RX12, "writeKnown", "(II)V"⟩
abbrev cX12_hasSoundRoutes : ByteArray := prog_1_method_42_code
def yX12_hasSoundRoutes : MethodName := ⟨RX12, "hasSoundRoutes", "(I)Z"⟩
abbrev cX12_isMeasuredAlike : ByteArray := prog_1_method_43_code
def yX12_isMeasuredAlike : MethodName := ⟨RX12, "isMeasuredAlike", "(I)Z"⟩
abbrev cX12_copyRows : ByteArray := prog_1_method_44_code
def yX12_copyRows : MethodName := ⟨RX12, "copyRows", "([[I[[I)V"⟩
def RX13 : String := "FortHeraldsModel"
def TX13 : u_T := fun k => match k with
  | _ => ("", "", "", false)
def tyX13 : Nat → FieldType := fun k => match k with
  | _ => .int
abbrev wsX130 : List Cond := u_ws RX13 TX13 0
theorem nmX13 : ∀ a, a < 0 → ∀ b, b < 0 → a ≠ b → (TX13 a).2.1 ≠ (TX13 b).2.1 := by decide +kernel
theorem tyX13_ok : ∀ k, k < 0 → parseFieldDescriptor (TX13 k).2.2.1 = some (tyX13 k) := by decide +kernel
def RJ5 : String := "java/lang/AbstractStringBuilder"
def TJ5 : u_T := fun k => match k with
  | _ => ("", "", "", false)
def tyJ5 : Nat → FieldType := fun k => match k with
  | _ => .int
abbrev wsJ50 : List Cond := u_ws RJ5 TJ5 0
theorem nmJ5 : ∀ a, a < 0 → ∀ b, b < 0 → a ≠ b → (TJ5 a).2.1 ≠ (TJ5 b).2.1 := by decide +kernel
theorem tyJ5_ok : ∀ k, k < 0 → parseFieldDescriptor (TJ5 k).2.2.1 = some (tyJ5 k) := by decide +kernel
abbrev cJ5_init_d00df : ByteArray := prog_16_method_2_code
def yJ5_init_d00df : MethodName := ⟨RJ5, "<init>", "(I)V"⟩
abbrev cJ5_length_8abf5 : ByteArray := prog_16_method_6_code
def yJ5_length_8abf5 : MethodName := ⟨RJ5, "length", "()I"⟩
abbrev cJ5_ensureCapacityInternal_d00df : ByteArray := prog_16_method_9_code
def yJ5_ensureCapacityInternal_d00df : MethodName := ⟨RJ5, "ensureCapacityInternal", "(I)V"⟩
abbrev cJ5_newCapacity_0f7a4 : ByteArray := prog_16_method_10_code
def yJ5_newCapacity_0f7a4 : MethodName := ⟨RJ5, "newCapacity", "(I)I"⟩
abbrev cJ5_inflate_da8c8 : ByteArray := prog_16_method_11_code
def yJ5_inflate_da8c8 : MethodName := ⟨RJ5, "inflate", "()V"⟩
abbrev cJ5_setLength_d00df : ByteArray := prog_16_method_13_code
def yJ5_setLength_d00df : MethodName := ⟨RJ5, "setLength", "(I)V"⟩
abbrev cJ5_charAt_5068e : ByteArray := prog_16_method_14_code
def yJ5_charAt_5068e : MethodName := ⟨RJ5, "charAt", "(I)C"⟩
abbrev cJ5_append_3fe6f : ByteArray := prog_16_method_31_code
def yJ5_append_3fe6f : MethodName := ⟨RJ5, "append", "(C)Ljava/lang/AbstractStringBuilder;"⟩
abbrev cJ5_append_c97b9 : ByteArray := prog_16_method_32_code
def yJ5_append_c97b9 : MethodName := ⟨RJ5, "append", "(I)Ljava/lang/AbstractStringBuilder;"⟩
abbrev cJ5_isLatin1_aae02 : ByteArray := prog_16_method_68_code
def yJ5_isLatin1_aae02 : MethodName := ⟨RJ5, "isLatin1", "()Z"⟩
def RJx8e188 : String := "java/lang/Cloneable"
def TJx8e188 : u_T := fun k => match k with
  | _ => ("", "", "", false)
def tyJx8e188 : Nat → FieldType := fun k => match k with
  | _ => .int
def RJx29ce0 : String := "java/lang/Enum"
def TJx29ce0 : u_T := fun k => match k with
  | _ => ("", "", "", false)
def tyJx29ce0 : Nat → FieldType := fun k => match k with
  | _ => .int
abbrev cJx29ce0_ordinal_8abf5 : ByteArray := prog_18_method_2_code
def yJx29ce0_ordinal_8abf5 : MethodName := ⟨RJx29ce0, "ordinal", "()I"⟩
def RJ6 : String := "java/lang/Integer"
def TJ6 : u_T := fun k => match k with
  | _ => ("", "", "", false)
def tyJ6 : Nat → FieldType := fun k => match k with
  | _ => .int
abbrev wsJ60 : List Cond := u_ws RJ6 TJ6 0
theorem nmJ6 : ∀ a, a < 0 → ∀ b, b < 0 → a ≠ b → (TJ6 a).2.1 ≠ (TJ6 b).2.1 := by decide +kernel
theorem tyJ6_ok : ∀ k, k < 0 → parseFieldDescriptor (TJ6 k).2.2.1 = some (tyJ6 k) := by decide +kernel
abbrev cJ6_getChars_ba4f3 : ByteArray := prog_19_method_12_code
def yJ6_getChars_ba4f3 : MethodName := ⟨RJ6, "getChars", "(II[B)I"⟩
abbrev cJ6_stringSize_0f7a4 : ByteArray := prog_19_method_13_code
def yJ6_stringSize_0f7a4 : MethodName := ⟨RJ6, "stringSize", "(I)I"⟩
def RJ9 : String := "java/lang/Math"
def TJ9 : u_T := fun k => match k with
  | _ => ("", "", "", false)
def tyJ9 : Nat → FieldType := fun k => match k with
  | _ => .int
abbrev wsJ90 : List Cond := u_ws RJ9 TJ9 0
theorem nmJ9 : ∀ a, a < 0 → ∀ b, b < 0 → a ≠ b → (TJ9 a).2.1 ≠ (TJ9 b).2.1 := by decide +kernel
theorem tyJ9_ok : ∀ k, k < 0 → parseFieldDescriptor (TJ9 k).2.2.1 = some (tyJ9 k) := by decide +kernel
abbrev cJ9_max_7cf53 : ByteArray := prog_20_method_65_code
def yJ9_max_7cf53 : MethodName := ⟨RJ9, "max", "(II)I"⟩
abbrev cJ9_min_7cf53 : ByteArray := prog_20_method_69_code
def yJ9_min_7cf53 : MethodName := ⟨RJ9, "min", "(II)I"⟩
def RJ0 : String := "java/lang/String"
def TJ0 : u_T := fun k => match k with
  | _ => ("", "", "", false)
def tyJ0 : Nat → FieldType := fun k => match k with
  | _ => .int
abbrev wsJ00 : List Cond := u_ws RJ0 TJ0 0
theorem nmJ0 : ∀ a, a < 0 → ∀ b, b < 0 → a ≠ b → (TJ0 a).2.1 ≠ (TJ0 b).2.1 := by decide +kernel
theorem tyJ0_ok : ∀ k, k < 0 → parseFieldDescriptor (TJ0 k).2.2.1 = some (tyJ0 k) := by decide +kernel
abbrev cJ0_length_8abf5 : ByteArray := prog_21_method_54_code
def yJ0_length_8abf5 : MethodName := ⟨RJ0, "length", "()I"⟩
abbrev cJ0_charAt_5068e : ByteArray := prog_21_method_56_code
def yJ0_charAt_5068e : MethodName := ⟨RJ0, "charAt", "(I)C"⟩
abbrev cJ0_coder_7d493 : ByteArray := prog_21_method_152_code
def yJ0_coder_7d493 : MethodName := ⟨RJ0, "coder", "()B"⟩
abbrev cJ0_isLatin1_aae02 : ByteArray := prog_21_method_154_code
def yJ0_isLatin1_aae02 : MethodName := ⟨RJ0, "isLatin1", "()Z"⟩
abbrev cJ0_checkIndex_df160 : ByteArray := prog_21_method_155_code
def yJ0_checkIndex_df160 : MethodName := ⟨RJ0, "checkIndex", "(II)V"⟩
abbrev cJ0_checkBoundsOffCount_cabcc : ByteArray := prog_21_method_157_code
def yJ0_checkBoundsOffCount_cabcc : MethodName := ⟨RJ0, "checkBoundsOffCount", "(III)I"⟩
abbrev cJ0_checkBoundsBeginEnd_23922 : ByteArray := prog_21_method_158_code
def yJ0_checkBoundsBeginEnd_23922 : MethodName := ⟨RJ0, "checkBoundsBeginEnd", "(III)V"⟩
def RJ4 : String := "java/lang/StringBuilder"
def TJ4 : u_T := fun k => match k with
  | 0 => ("java/lang/AbstractStringBuilder", "value", "[B", false)
  | 1 => ("java/lang/AbstractStringBuilder", "coder", "B", false)
  | 2 => ("java/lang/AbstractStringBuilder", "maybeLatin1", "Z", false)
  | _ => ("java/lang/AbstractStringBuilder", "count", "I", false)
def tyJ4 : Nat → FieldType := fun k => match k with
  | 0 => .array .byte
  | 1 => .byte
  | 2 => .boolean
  | _ => .int
abbrev wsJ40 : List Cond := u_ws RJ4 TJ4 4
theorem nmJ4 : ∀ a, a < 4 → ∀ b, b < 4 → a ≠ b → (TJ4 a).2.1 ≠ (TJ4 b).2.1 := by decide +kernel
theorem tyJ4_ok : ∀ k, k < 4 → parseFieldDescriptor (TJ4 k).2.2.1 = some (tyJ4 k) := by decide +kernel
abbrev cJ4_init_da8c8 : ByteArray := prog_22_method_1_code
def yJ4_init_da8c8 : MethodName := ⟨RJ4, "<init>", "()V"⟩
abbrev cJ4_append_cf468 : ByteArray := prog_22_method_14_code
def yJ4_append_cf468 : MethodName := ⟨RJ4, "append", "(C)Ljava/lang/StringBuilder;"⟩
abbrev cJ4_append_bf812 : ByteArray := prog_22_method_15_code
def yJ4_append_bf812 : MethodName := ⟨RJ4, "append", "(I)Ljava/lang/StringBuilder;"⟩
abbrev cJ4_charAt_5068e : ByteArray := prog_22_method_88_code
def yJ4_charAt_5068e : MethodName := ⟨RJ4, "charAt", "(I)C"⟩
abbrev cJ4_setLength_d00df : ByteArray := prog_22_method_89_code
def yJ4_setLength_d00df : MethodName := ⟨RJ4, "setLength", "(I)V"⟩
abbrev cJ4_length_8abf5 : ByteArray := prog_22_method_93_code
def yJ4_length_8abf5 : MethodName := ⟨RJ4, "length", "()I"⟩
def RJ1 : String := "java/lang/StringLatin1"
def TJ1 : u_T := fun k => match k with
  | _ => ("", "", "", false)
def tyJ1 : Nat → FieldType := fun k => match k with
  | _ => .int
abbrev wsJ10 : List Cond := u_ws RJ1 TJ1 0
theorem nmJ1 : ∀ a, a < 0 → ∀ b, b < 0 → a ≠ b → (TJ1 a).2.1 ≠ (TJ1 b).2.1 := by decide +kernel
theorem tyJ1_ok : ∀ k, k < 0 → parseFieldDescriptor (TJ1 k).2.2.1 = some (tyJ1 k) := by decide +kernel
abbrev cJ1_charAt_3b067 : ByteArray := prog_23_method_2_code
def yJ1_charAt_3b067 : MethodName := ⟨RJ1, "charAt", "([BI)C"⟩
abbrev cJ1_canEncode_fc78d : ByteArray := prog_23_method_3_code
def yJ1_canEncode_fc78d : MethodName := ⟨RJ1, "canEncode", "(C)Z"⟩
abbrev cJ1_fillNull_b72d1 : ByteArray := prog_23_method_48_code
def yJ1_fillNull_b72d1 : MethodName := ⟨RJ1, "fillNull", "([BII)V"⟩
abbrev cJ1_inflate_0e8fd : ByteArray := prog_23_method_50_code
def yJ1_inflate_0e8fd : MethodName := ⟨RJ1, "inflate", "([BI[BII)V"⟩
def RJ2 : String := "java/lang/StringUTF16"
def TJ2 : u_T := fun k => match k with
  | _ => ("", "", "", false)
def tyJ2 : Nat → FieldType := fun k => match k with
  | _ => .int
abbrev wsJ20 : List Cond := u_ws RJ2 TJ2 0
theorem nmJ2 : ∀ a, a < 0 → ∀ b, b < 0 → a ≠ b → (TJ2 a).2.1 ≠ (TJ2 b).2.1 := by decide +kernel
theorem tyJ2_ok : ∀ k, k < 0 → parseFieldDescriptor (TJ2 k).2.2.1 = some (tyJ2 k) := by decide +kernel
abbrev cJ2_newBytesFor_77867 : ByteArray := prog_24_method_2_code
def yJ2_newBytesFor_77867 : MethodName := ⟨RJ2, "newBytesFor", "(I)[B"⟩
abbrev cJ2_newBytesLength_0f7a4 : ByteArray := prog_24_method_3_code
def yJ2_newBytesLength_0f7a4 : MethodName := ⟨RJ2, "newBytesLength", "(I)I"⟩
abbrev cJ2_putChar_b72d1 : ByteArray := prog_24_method_4_code
def yJ2_putChar_b72d1 : MethodName := ⟨RJ2, "putChar", "([BII)V"⟩
abbrev cJ2_getChar_3b067 : ByteArray := prog_24_method_5_code
def yJ2_getChar_3b067 : MethodName := ⟨RJ2, "getChar", "([BI)C"⟩
abbrev cJ2_length_9d52b : ByteArray := prog_24_method_6_code
def yJ2_length_9d52b : MethodName := ⟨RJ2, "length", "([B)I"⟩
abbrev cJ2_fillNull_b72d1 : ByteArray := prog_24_method_70_code
def yJ2_fillNull_b72d1 : MethodName := ⟨RJ2, "fillNull", "([BII)V"⟩
abbrev cJ2_putCharSB_b72d1 : ByteArray := prog_24_method_71_code
def yJ2_putCharSB_b72d1 : MethodName := ⟨RJ2, "putCharSB", "([BII)V"⟩
abbrev cJ2_getChars_46870 : ByteArray := prog_24_method_77_code
def yJ2_getChars_46870 : MethodName := ⟨RJ2, "getChars", "(III[B)I"⟩
abbrev cJ2_charAt_3b067 : ByteArray := prog_24_method_83_code
def yJ2_charAt_3b067 : MethodName := ⟨RJ2, "charAt", "([BI)C"⟩
abbrev cJ2_inflate_0e8fd : ByteArray := prog_24_method_86_code
def yJ2_inflate_0e8fd : MethodName := ⟨RJ2, "inflate", "([BI[BII)V"⟩
abbrev cJ2_getChars_ba4f3 : ByteArray := prog_24_method_89_code
def yJ2_getChars_ba4f3 : MethodName := ⟨RJ2, "getChars", "(II[B)I"⟩
abbrev cJ2_checkIndex_2214a : ByteArray := prog_24_method_91_code
def yJ2_checkIndex_2214a : MethodName := ⟨RJ2, "checkIndex", "(I[B)V"⟩
abbrev cJ2_checkBoundsBeginEnd_d044e : ByteArray := prog_24_method_93_code
def yJ2_checkBoundsBeginEnd_d044e : MethodName := ⟨RJ2, "checkBoundsBeginEnd", "(II[B)V"⟩
abbrev cJ2_checkBoundsOffCount_d044e : ByteArray := prog_24_method_94_code
def yJ2_checkBoundsOffCount_d044e : MethodName := ⟨RJ2, "checkBoundsOffCount", "(II[B)V"⟩
def RJ10 : String := "java/lang/System"
def TJ10 : u_T := fun k => match k with
  | _ => ("", "", "", false)
def tyJ10 : Nat → FieldType := fun k => match k with
  | _ => .int
abbrev wsJ100 : List Cond := u_ws RJ10 TJ10 0
theorem nmJ10 : ∀ a, a < 0 → ∀ b, b < 0 → a ≠ b → (TJ10 a).2.1 ≠ (TJ10 b).2.1 := by decide +kernel
theorem tyJ10_ok : ∀ k, k < 0 → parseFieldDescriptor (TJ10 k).2.2.1 = some (tyJ10 k) := by decide +kernel
def RJ7 : String := "java/util/Arrays"
def TJ7 : u_T := fun k => match k with
  | _ => ("", "", "", false)
def tyJ7 : Nat → FieldType := fun k => match k with
  | _ => .int
abbrev wsJ70 : List Cond := u_ws RJ7 TJ7 0
theorem nmJ7 : ∀ a, a < 0 → ∀ b, b < 0 → a ≠ b → (TJ7 a).2.1 ≠ (TJ7 b).2.1 := by decide +kernel
theorem tyJ7_ok : ∀ k, k < 0 → parseFieldDescriptor (TJ7 k).2.2.1 = some (tyJ7 k) := by decide +kernel
abbrev cJ7_rangeCheck_23922 : ByteArray := prog_26_method_30_code
def yJ7_rangeCheck_23922 : MethodName := ⟨RJ7, "rangeCheck", "(III)V"⟩
abbrev cJ7_fill_eb02e : ByteArray := prog_26_method_110_code
def yJ7_fill_eb02e : MethodName := ⟨RJ7, "fill", "([BIIB)V"⟩
abbrev cJ7_copyOf_9075b : ByteArray := prog_26_method_121_code
def yJ7_copyOf_9075b : MethodName := ⟨RJ7, "copyOf", "([BI)[B"⟩
def RJ8 : String := "jdk/internal/util/ArraysSupport"
def TJ8 : u_T := fun k => match k with
  | _ => ("", "", "", false)
def tyJ8 : Nat → FieldType := fun k => match k with
  | _ => .int
abbrev wsJ80 : List Cond := u_ws RJ8 TJ8 0
theorem nmJ8 : ∀ a, a < 0 → ∀ b, b < 0 → a ≠ b → (TJ8 a).2.1 ≠ (TJ8 b).2.1 := by decide +kernel
theorem tyJ8_ok : ∀ k, k < 0 → parseFieldDescriptor (TJ8 k).2.2.1 = some (tyJ8 k) := by decide +kernel
abbrev cJ8_newLength_cabcc : ByteArray := prog_27_method_27_code
def yJ8_newLength_cabcc : MethodName := ⟨RJ8, "newLength", "(III)I"⟩
abbrev cJ8_hugeLength_7cf53 : ByteArray := prog_27_method_28_code
def yJ8_hugeLength_7cf53 : MethodName := ⟨RJ8, "hugeLength", "(II)I"⟩
def RJ3 : String := "jdk/internal/util/Preconditions"
def TJ3 : u_T := fun k => match k with
  | _ => ("", "", "", false)
def tyJ3 : Nat → FieldType := fun k => match k with
  | _ => .int
abbrev wsJ30 : List Cond := u_ws RJ3 TJ3 0
theorem nmJ3 : ∀ a, a < 0 → ∀ b, b < 0 → a ≠ b → (TJ3 a).2.1 ≠ (TJ3 b).2.1 := by decide +kernel
theorem tyJ3_ok : ∀ k, k < 0 → parseFieldDescriptor (TJ3 k).2.2.1 = some (tyJ3 k) := by decide +kernel
abbrev cJ3_checkIndex_8e157 : ByteArray := prog_28_method_11_code
def yJ3_checkIndex_8e157 : MethodName := ⟨RJ3, "checkIndex", "(IILjava/util/function/BiFunction;)I"⟩
abbrev cJ3_checkFromToIndex_8c36e : ByteArray := prog_28_method_12_code
def yJ3_checkFromToIndex_8c36e : MethodName := ⟨RJ3, "checkFromToIndex", "(IIILjava/util/function/BiFunction;)I"⟩
abbrev cJ3_checkFromIndexSize_8c36e : ByteArray := prog_28_method_13_code
def yJ3_checkFromIndexSize_8c36e : MethodName := ⟨RJ3, "checkFromIndexSize", "(IIILjava/util/function/BiFunction;)I"⟩
def RL : String := "FortHeraldsLaw"
abbrev cL_cell : ByteArray := method_2_code
def yL_cell : MethodName := ⟨RL, "cell", "([II)I"⟩
abbrev cL_write : ByteArray := method_3_code
def yL_write : MethodName := ⟨RL, "write", "(LFortHeralds;Ljava/lang/String;)LFortHeralds;"⟩
abbrev cL_act : ByteArray := method_4_code
def yL_act : MethodName := ⟨RL, "act", "(LFortHeralds;I)I"⟩
abbrev cL_digest : ByteArray := method_5_code
def yL_digest : MethodName := ⟨RL, "digest", "(LFortHeralds;)J"⟩
abbrev cL_areForts : ByteArray := method_6_code
def yL_areForts : MethodName := ⟨RL, "areForts", "(LFortHeralds;)Z"⟩
abbrev cL_isRoute : ByteArray := method_7_code
def yL_isRoute : MethodName := ⟨RL, "isRoute", "(LFortHeralds;II)Z"⟩
abbrev cL_areWays : ByteArray := method_8_code
def yL_areWays : MethodName := ⟨RL, "areWays", "(LFortHeralds;)Z"⟩
abbrev cL_areLetters : ByteArray := method_9_code
def yL_areLetters : MethodName := ⟨RL, "areLetters", "(LFortHeralds;)Z"⟩
abbrev cL_areLines : ByteArray := method_10_code
def yL_areLines : MethodName := ⟨RL, "areLines", "(LFortHeralds;)Z"⟩
abbrev cL_isFit : ByteArray := method_11_code
def yL_isFit : MethodName := ⟨RL, "isFit", "(LFortHeralds;)Z"⟩
abbrev cL_isSettled : ByteArray := method_12_code
def yL_isSettled : MethodName := ⟨RL, "isSettled", "(LFortHeralds;)Z"⟩
abbrev cL_law : ByteArray := code
def yL_law : MethodName := ⟨RL, "law", "([I)Z"⟩
abbrev vwCl : List vw_C := [(RJ4, TJ4, 4), (RX1, TX1, 10), (RX2, TX2, 3), (RX3, TX3, 1), (RX5, TX5, 6), (RX6, TX6, 3), (RX7, TX7, 7), (RX8, TX8, 2), (RX9, TX9, 4), (RX10, TX10, 6), (RX11, TX11, 4), (RX12, TX12, 11)]

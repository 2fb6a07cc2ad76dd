/-! 01.names: the tables' words and the names, from the task's printed NAMES and SKELETON (made by wip/p37/mk_names.py) -/
-- ===== PART A: goes FIRST, ahead of the names: the tables' words, and 'selects' of the private methods out of them =====
/-- a private method of a class that the tables say can be made, by its rows of tables_1 -/
def lw_okq (q : MethodName × Nat) : Prop := (q.1.cls ≠ "java/lang/invoke/MethodHandle" ∧ q.1.cls ≠ "java/lang/invoke/VarHandle") ∧ Cond.instantiable q.1.cls q.2 ∈ tables_1 ∧ Cond.privateMethod q.1 ∈ tables_1 ∧ Cond.instanceMethod q.1 ∈ tables_1
theorem lw_p0 : lw_okq (⟨"LoadSpans$Reader", "atLine", "()Z"⟩, 4) := ⟨⟨by decide +kernel, by decide +kernel⟩, List.mem_of_getElem? (i := 28) (by decide +kernel), List.mem_of_getElem? (i := 695) (by decide +kernel), List.mem_of_getElem? (i := 696) (by decide +kernel)⟩
theorem lw_p1 : lw_okq (⟨"LoadSpans$Reader", "readEmpty", "(LLoadSpans$Plane;)V"⟩, 4) := ⟨⟨by decide +kernel, by decide +kernel⟩, List.mem_of_getElem? (i := 28) (by decide +kernel), List.mem_of_getElem? (i := 765) (by decide +kernel), List.mem_of_getElem? (i := 766) (by decide +kernel)⟩
theorem lw_p2 : lw_okq (⟨"LoadSpans$Reader", "readSpan", "(LLoadSpans$Plane;)V"⟩, 4) := ⟨⟨by decide +kernel, by decide +kernel⟩, List.mem_of_getElem? (i := 28) (by decide +kernel), List.mem_of_getElem? (i := 776) (by decide +kernel), List.mem_of_getElem? (i := 777) (by decide +kernel)⟩
theorem lw_p3 : lw_okq (⟨"LoadSpans$Reader", "readHold", "(LLoadSpans$Plane;)V"⟩, 4) := ⟨⟨by decide +kernel, by decide +kernel⟩, List.mem_of_getElem? (i := 28) (by decide +kernel), List.mem_of_getElem? (i := 781) (by decide +kernel), List.mem_of_getElem? (i := 782) (by decide +kernel)⟩
theorem lw_p4 : lw_okq (⟨"LoadSpans$Reader", "newName", "(LLoadSpans$Plane;)J"⟩, 4) := ⟨⟨by decide +kernel, by decide +kernel⟩, List.mem_of_getElem? (i := 28) (by decide +kernel), List.mem_of_getElem? (i := 785) (by decide +kernel), List.mem_of_getElem? (i := 786) (by decide +kernel)⟩
theorem lw_p5 : lw_okq (⟨"LoadSpans$Tokens", "isQuoted", "()Z"⟩, 7) := ⟨⟨by decide +kernel, by decide +kernel⟩, List.mem_of_getElem? (i := 34) (by decide +kernel), List.mem_of_getElem? (i := 793) (by decide +kernel), List.mem_of_getElem? (i := 794) (by decide +kernel)⟩
theorem lw_p6 : lw_okq (⟨"LoadSpans$Reader", "isFrontDoor", "()Z"⟩, 4) := ⟨⟨by decide +kernel, by decide +kernel⟩, List.mem_of_getElem? (i := 28) (by decide +kernel), List.mem_of_getElem? (i := 823) (by decide +kernel), List.mem_of_getElem? (i := 824) (by decide +kernel)⟩
theorem lw_p7 : lw_okq (⟨"LoadSpans$Reader", "readSpot", "(LLoadSpans$Floor;)V"⟩, 4) := ⟨⟨by decide +kernel, by decide +kernel⟩, List.mem_of_getElem? (i := 28) (by decide +kernel), List.mem_of_getElem? (i := 834) (by decide +kernel), List.mem_of_getElem? (i := 835) (by decide +kernel)⟩
theorem lw_p8 : lw_okq (⟨"LoadSpans$Reader", "readJoint", "(LLoadSpans$Floor;)V"⟩, 4) := ⟨⟨by decide +kernel, by decide +kernel⟩, List.mem_of_getElem? (i := 28) (by decide +kernel), List.mem_of_getElem? (i := 844) (by decide +kernel), List.mem_of_getElem? (i := 845) (by decide +kernel)⟩
theorem lw_p9 : lw_okq (⟨"LoadSpans$Reader", "readBin", "(LLoadSpans$Plane;)V"⟩, 4) := ⟨⟨by decide +kernel, by decide +kernel⟩, List.mem_of_getElem? (i := 28) (by decide +kernel), List.mem_of_getElem? (i := 857) (by decide +kernel), List.mem_of_getElem? (i := 858) (by decide +kernel)⟩
theorem lw_p10 : lw_okq (⟨"LoadSpans$Reader", "readTank", "(LLoadSpans$Plane;)V"⟩, 4) := ⟨⟨by decide +kernel, by decide +kernel⟩, List.mem_of_getElem? (i := 28) (by decide +kernel), List.mem_of_getElem? (i := 866) (by decide +kernel), List.mem_of_getElem? (i := 867) (by decide +kernel)⟩
theorem lw_p11 : lw_okq (⟨"LoadSpans$Reader", "readBurn", "(LLoadSpans$Voyage;)V"⟩, 4) := ⟨⟨by decide +kernel, by decide +kernel⟩, List.mem_of_getElem? (i := 28) (by decide +kernel), List.mem_of_getElem? (i := 875) (by decide +kernel), List.mem_of_getElem? (i := 876) (by decide +kernel)⟩
theorem lw_p12 : lw_okq (⟨"LoadSpans$Reader", "readStop", "(LLoadSpans$Voyage;)V"⟩, 4) := ⟨⟨by decide +kernel, by decide +kernel⟩, List.mem_of_getElem? (i := 28) (by decide +kernel), List.mem_of_getElem? (i := 888) (by decide +kernel), List.mem_of_getElem? (i := 889) (by decide +kernel)⟩
theorem lw_p13 : lw_okq (⟨"LoadSpans", "startAnew", "()V"⟩, 11) := ⟨⟨by decide +kernel, by decide +kernel⟩, List.mem_of_getElem? (i := 20) (by decide +kernel), List.mem_of_getElem? (i := 901) (by decide +kernel), List.mem_of_getElem? (i := 902) (by decide +kernel)⟩
theorem lw_p14 : lw_okq (⟨"LoadSpans$Reader", "readPallet", "(LLoadSpans$Cargo;)V"⟩, 4) := ⟨⟨by decide +kernel, by decide +kernel⟩, List.mem_of_getElem? (i := 28) (by decide +kernel), List.mem_of_getElem? (i := 936) (by decide +kernel), List.mem_of_getElem? (i := 937) (by decide +kernel)⟩
theorem lw_p15 : lw_okq (⟨"LoadSpans$Cargo", "write", "(IJIII)V"⟩, 7) := ⟨⟨by decide +kernel, by decide +kernel⟩, List.mem_of_getElem? (i := 269) (by decide +kernel), List.mem_of_getElem? (i := 948) (by decide +kernel), List.mem_of_getElem? (i := 949) (by decide +kernel)⟩
def lw_privs_1 : List (MethodName × Nat) := [(⟨"LoadSpans$Reader", "atLine", "()Z"⟩, 4), (⟨"LoadSpans$Reader", "readEmpty", "(LLoadSpans$Plane;)V"⟩, 4), (⟨"LoadSpans$Reader", "readSpan", "(LLoadSpans$Plane;)V"⟩, 4), (⟨"LoadSpans$Reader", "readHold", "(LLoadSpans$Plane;)V"⟩, 4), (⟨"LoadSpans$Reader", "newName", "(LLoadSpans$Plane;)J"⟩, 4), (⟨"LoadSpans$Tokens", "isQuoted", "()Z"⟩, 7), (⟨"LoadSpans$Reader", "isFrontDoor", "()Z"⟩, 4), (⟨"LoadSpans$Reader", "readSpot", "(LLoadSpans$Floor;)V"⟩, 4), (⟨"LoadSpans$Reader", "readJoint", "(LLoadSpans$Floor;)V"⟩, 4), (⟨"LoadSpans$Reader", "readBin", "(LLoadSpans$Plane;)V"⟩, 4), (⟨"LoadSpans$Reader", "readTank", "(LLoadSpans$Plane;)V"⟩, 4), (⟨"LoadSpans$Reader", "readBurn", "(LLoadSpans$Voyage;)V"⟩, 4), (⟨"LoadSpans$Reader", "readStop", "(LLoadSpans$Voyage;)V"⟩, 4), (⟨"LoadSpans", "startAnew", "()V"⟩, 11), (⟨"LoadSpans$Reader", "readPallet", "(LLoadSpans$Cargo;)V"⟩, 4), (⟨"LoadSpans$Cargo", "write", "(IJIII)V"⟩, 7)]
theorem lw_r1 : ∀ q ∈ lw_privs_1, lw_okq q := List.forall_mem_cons.mpr ⟨lw_p0, List.forall_mem_cons.mpr ⟨lw_p1, List.forall_mem_cons.mpr ⟨lw_p2, List.forall_mem_cons.mpr ⟨lw_p3, List.forall_mem_cons.mpr ⟨lw_p4, List.forall_mem_cons.mpr ⟨lw_p5, List.forall_mem_cons.mpr ⟨lw_p6, List.forall_mem_cons.mpr ⟨lw_p7, List.forall_mem_cons.mpr ⟨lw_p8, List.forall_mem_cons.mpr ⟨lw_p9, List.forall_mem_cons.mpr ⟨lw_p10, List.forall_mem_cons.mpr ⟨lw_p11, List.forall_mem_cons.mpr ⟨lw_p12, List.forall_mem_cons.mpr ⟨lw_p13, List.forall_mem_cons.mpr ⟨lw_p14, List.forall_mem_cons.mpr ⟨lw_p15, fun _ h => absurd h List.not_mem_nil⟩⟩⟩⟩⟩⟩⟩⟩⟩⟩⟩⟩⟩⟩⟩⟩
theorem lw_p16 : lw_okq (⟨"LoadSpans$Reader", "readBulk", "(LLoadSpans$Cargo;)V"⟩, 4) := ⟨⟨by decide +kernel, by decide +kernel⟩, List.mem_of_getElem? (i := 28) (by decide +kernel), List.mem_of_getElem? (i := 953) (by decide +kernel), List.mem_of_getElem? (i := 954) (by decide +kernel)⟩
def lw_privs_2 : List (MethodName × Nat) := [(⟨"LoadSpans$Reader", "readBulk", "(LLoadSpans$Cargo;)V"⟩, 4)]
theorem lw_r2 : ∀ q ∈ lw_privs_2, lw_okq q := List.forall_mem_cons.mpr ⟨lw_p16, fun _ h => absurd h List.not_mem_nil⟩
def lw_privs : List (MethodName × Nat) := lw_privs_1 ++ (lw_privs_2)
def lw_tbl : List Cond := k2_sels lw_privs ++ tables_1
theorem lw_privs_ok : ∀ q ∈ lw_privs, lw_okq q := by
  show ∀ q ∈ lw_privs_1 ++ (lw_privs_2), lw_okq q
  exact List.forall_mem_append.mpr ⟨lw_r1, lw_r2⟩
def RX0 : String := "LoadSpans$Cargo"
def TX0 : u_T := fun k => match k with
  | 0 => ("LoadSpans$Cargo", "size", "I", false)
  | 1 => ("LoadSpans$Cargo", "name", "[J", true)
  | 2 => ("LoadSpans$Cargo", "weight", "[I", true)
  | 3 => ("LoadSpans$Cargo", "stop", "[I", true)
  | 4 => ("LoadSpans$Cargo", "spot", "[I", true)
  | 5 => ("LoadSpans$Cargo", "bulk", "I", false)
  | _ => ("LoadSpans$Cargo", "inBin", "[I", true)
def tyX0 : Nat → FieldType := fun k => match k with
  | 0 => .int
  | 1 => .array .long
  | 2 => .array .int
  | 3 => .array .int
  | 4 => .array .int
  | 5 => .int
  | _ => .array .int
abbrev wsX00 : List Cond := u_ws RX0 TX0 7
theorem nmX0 : ∀ a, a < 7 → ∀ b, b < 7 → a ≠ b → (TX0 a).2.1 ≠ (TX0 b).2.1 := by decide +kernel
theorem tyX0_ok : ∀ k, k < 7 → parseFieldDescriptor (TX0 k).2.2.1 = some (tyX0 k) := by decide +kernel
abbrev cX0_init : ByteArray := prog_2_method_1_code
def yX0_init : MethodName := ⟨RX0, "<init>", "()V"⟩
abbrev cX0_clear : ByteArray := prog_2_method_2_code
def yX0_clear : MethodName := ⟨RX0, "clear", "()V"⟩
abbrev cX0_clearPlaces : ByteArray := prog_2_method_3_code
def yX0_clearPlaces : MethodName := ⟨RX0, "clearPlaces", "()V"⟩
abbrev cX0_copyFrom : ByteArray := prog_2_method_4_code
def yX0_copyFrom : MethodName := ⟨RX0, "copyFrom", "(LLoadSpans$Cargo;)V"⟩
abbrev cX0_has : ByteArray := prog_2_method_5_code
def yX0_has : MethodName := ⟨RX0, "has", "(I)Z"⟩
abbrev cX0_called : ByteArray := prog_2_method_6_code
def yX0_called : MethodName := ⟨RX0, "called", "(J)I"⟩
abbrev cX0_lyingOn : ByteArray := prog_2_method_7_code
def yX0_lyingOn : MethodName := ⟨RX0, "lyingOn", "(I)I"⟩
abbrev cX0_weightOn : ByteArray := prog_2_method_8_code
def yX0_weightOn : MethodName := ⟨RX0, "weightOn", "(I)I"⟩
abbrev cX0_outCount : ByteArray := prog_2_method_9_code
def yX0_outCount : MethodName := ⟨RX0, "outCount", "()I"⟩
abbrev cX0_inBins : ByteArray := prog_2_method_10_code
def yX0_inBins : MethodName := ⟨RX0, "inBins", "()I"⟩
abbrev cX0_add : ByteArray := prog_2_method_11_code
def yX0_add : MethodName := ⟨RX0, "add", "(JII)V"⟩
abbrev cX0_write : ByteArray := prog_2_method_13_code
def yX0_write : MethodName := ⟨RX0, "write", "(IJIII)V"⟩
def RX1 : String := "LoadSpans$Floor"
def TX1 : u_T := fun k => match k with
  | 0 => ("LoadSpans$Floor", "holdCount", "I", false)
  | 1 => ("LoadSpans$Floor", "holdName", "[J", true)
  | 2 => ("LoadSpans$Floor", "holdLimit", "[I", true)
  | 3 => ("LoadSpans$Floor", "holdFront", "[Z", true)
  | 4 => ("LoadSpans$Floor", "spotCount", "I", false)
  | 5 => ("LoadSpans$Floor", "spotHold", "[I", true)
  | 6 => ("LoadSpans$Floor", "spotArm", "[I", true)
  | 7 => ("LoadSpans$Floor", "spotLimit", "[I", true)
  | 8 => ("LoadSpans$Floor", "spotWay", "[I", true)
  | 9 => ("LoadSpans$Floor", "jointCount", "I", false)
  | 10 => ("LoadSpans$Floor", "jointSpot", "[I", true)
  | _ => ("LoadSpans$Floor", "jointLimit", "[I", true)
def tyX1 : Nat → FieldType := fun k => match k with
  | 0 => .int
  | 1 => .array .long
  | 2 => .array .int
  | 3 => .array .boolean
  | 4 => .int
  | 5 => .array .int
  | 6 => .array .int
  | 7 => .array .int
  | 8 => .array .int
  | 9 => .int
  | 10 => .array .int
  | _ => .array .int
abbrev wsX10 : List Cond := u_ws RX1 TX1 12
theorem nmX1 : ∀ a, a < 12 → ∀ b, b < 12 → a ≠ b → (TX1 a).2.1 ≠ (TX1 b).2.1 := by decide +kernel
theorem tyX1_ok : ∀ k, k < 12 → parseFieldDescriptor (TX1 k).2.2.1 = some (tyX1 k) := by decide +kernel
abbrev cX1_init : ByteArray := prog_3_method_1_code
def yX1_init : MethodName := ⟨RX1, "<init>", "()V"⟩
abbrev cX1_clear : ByteArray := prog_3_method_2_code
def yX1_clear : MethodName := ⟨RX1, "clear", "()V"⟩
abbrev cX1_hasHold : ByteArray := prog_3_method_4_code
def yX1_hasHold : MethodName := ⟨RX1, "hasHold", "(I)Z"⟩
abbrev cX1_hasSpot : ByteArray := prog_3_method_5_code
def yX1_hasSpot : MethodName := ⟨RX1, "hasSpot", "(I)Z"⟩
abbrev cX1_isHoldCalled : ByteArray := prog_3_method_6_code
def yX1_isHoldCalled : MethodName := ⟨RX1, "isHoldCalled", "(J)Z"⟩
abbrev cX1_addHold : ByteArray := prog_3_method_7_code
def yX1_addHold : MethodName := ⟨RX1, "addHold", "(JIZ)V"⟩
abbrev cX1_addSpot : ByteArray := prog_3_method_8_code
def yX1_addSpot : MethodName := ⟨RX1, "addSpot", "(II)V"⟩
abbrev cX1_takesJoint : ByteArray := prog_3_method_9_code
def yX1_takesJoint : MethodName := ⟨RX1, "takesJoint", "()Z"⟩
abbrev cX1_addJoint : ByteArray := prog_3_method_10_code
def yX1_addJoint : MethodName := ⟨RX1, "addJoint", "(I)V"⟩
abbrev cX1_isOnWay : ByteArray := prog_3_method_11_code
def yX1_isOnWay : MethodName := ⟨RX1, "isOnWay", "(II)Z"⟩
def RX2 : String := "LoadSpans$History"
def TX2 : u_T := fun k => match k with
  | 0 => ("LoadSpans$History", "kept", "[LLoadSpans$Cargo;", true)
  | 1 => ("LoadSpans$History", "next", "I", false)
  | _ => ("LoadSpans$History", "size", "I", false)
def tyX2 : Nat → FieldType := fun k => match k with
  | 0 => .array (.object "LoadSpans$Cargo")
  | 1 => .int
  | _ => .int
abbrev wsX20 : List Cond := u_ws RX2 TX2 3
theorem nmX2 : ∀ a, a < 3 → ∀ b, b < 3 → a ≠ b → (TX2 a).2.1 ≠ (TX2 b).2.1 := by decide +kernel
theorem tyX2_ok : ∀ k, k < 3 → parseFieldDescriptor (TX2 k).2.2.1 = some (tyX2 k) := by decide +kernel
abbrev cX2_init : ByteArray := prog_4_method_1_code
def yX2_init : MethodName := ⟨RX2, "<init>", "()V"⟩
abbrev cX2_keep : ByteArray := prog_4_method_2_code
def yX2_keep : MethodName := ⟨RX2, "keep", "(LLoadSpans$Cargo;)V"⟩
abbrev cX2_bringBack : ByteArray := prog_4_method_3_code
def yX2_bringBack : MethodName := ⟨RX2, "bringBack", "(LLoadSpans$Cargo;)V"⟩
def RX3 : String := "LoadSpans$Image"
def TX3 : u_T := fun k => match k with
  | 0 => ("LoadSpans$Image", "filled", "Z", false)
  | 1 => ("LoadSpans$Image", "plane", "LLoadSpans$Plane;", true)
  | _ => ("LoadSpans$Image", "cargo", "LLoadSpans$Cargo;", true)
def tyX3 : Nat → FieldType := fun k => match k with
  | 0 => .boolean
  | 1 => .object "LoadSpans$Plane"
  | _ => .object "LoadSpans$Cargo"
abbrev wsX30 : List Cond := u_ws RX3 TX3 3
theorem nmX3 : ∀ a, a < 3 → ∀ b, b < 3 → a ≠ b → (TX3 a).2.1 ≠ (TX3 b).2.1 := by decide +kernel
theorem tyX3_ok : ∀ k, k < 3 → parseFieldDescriptor (TX3 k).2.2.1 = some (tyX3 k) := by decide +kernel
abbrev cX3_init : ByteArray := prog_5_method_1_code
def yX3_init : MethodName := ⟨RX3, "<init>", "()V"⟩
def RX4 : String := "LoadSpans$Mender"
def TX4 : u_T := fun k => match k with
  | 0 => ("LoadSpans$Mender", "toldMoves", "[I", true)
  | 1 => ("LoadSpans$Mender", "toldCount", "I", false)
  | 2 => ("LoadSpans$Mender", "moves", "[I", true)
  | 3 => ("LoadSpans$Mender", "spots", "[I", true)
  | 4 => ("LoadSpans$Mender", "palletOn", "[I", true)
  | 5 => ("LoadSpans$Mender", "nearRows", "[I", true)
  | 6 => ("LoadSpans$Mender", "nearCount", "I", false)
  | 7 => ("LoadSpans$Mender", "size", "I", false)
  | 8 => ("LoadSpans$Mender", "spotCount", "I", false)
  | _ => ("LoadSpans$Mender", "table", "LLoadSpans$Table;", false)
def tyX4 : Nat → FieldType := fun k => match k with
  | 0 => .array .int
  | 1 => .int
  | 2 => .array .int
  | 3 => .array .int
  | 4 => .array .int
  | 5 => .array .int
  | 6 => .int
  | 7 => .int
  | 8 => .int
  | _ => .object "LoadSpans$Table"
abbrev wsX40 : List Cond := u_ws RX4 TX4 10
theorem nmX4 : ∀ a, a < 10 → ∀ b, b < 10 → a ≠ b → (TX4 a).2.1 ≠ (TX4 b).2.1 := by decide +kernel
theorem tyX4_ok : ∀ k, k < 10 → parseFieldDescriptor (TX4 k).2.2.1 = some (tyX4 k) := by decide +kernel
abbrev cX4_init : ByteArray := prog_6_method_1_code
def yX4_init : MethodName := ⟨RX4, "<init>", "()V"⟩
def RX5 : String := "LoadSpans$Plane"
def TX5 : u_T := fun k => match k with
  | 0 => ("LoadSpans$Plane", "emptyWeight", "I", false)
  | 1 => ("LoadSpans$Plane", "emptyArm", "I", false)
  | 2 => ("LoadSpans$Plane", "lesserArm", "I", false)
  | 3 => ("LoadSpans$Plane", "greaterArm", "I", false)
  | 4 => ("LoadSpans$Plane", "binCount", "I", false)
  | 5 => ("LoadSpans$Plane", "binArm", "[I", true)
  | 6 => ("LoadSpans$Plane", "binLimit", "[I", true)
  | 7 => ("LoadSpans$Plane", "floor", "LLoadSpans$Floor;", true)
  | _ => ("LoadSpans$Plane", "voyage", "LLoadSpans$Voyage;", true)
def tyX5 : Nat → FieldType := fun k => match k with
  | 0 => .int
  | 1 => .int
  | 2 => .int
  | 3 => .int
  | 4 => .int
  | 5 => .array .int
  | 6 => .array .int
  | 7 => .object "LoadSpans$Floor"
  | _ => .object "LoadSpans$Voyage"
abbrev wsX50 : List Cond := u_ws RX5 TX5 9
theorem nmX5 : ∀ a, a < 9 → ∀ b, b < 9 → a ≠ b → (TX5 a).2.1 ≠ (TX5 b).2.1 := by decide +kernel
theorem tyX5_ok : ∀ k, k < 9 → parseFieldDescriptor (TX5 k).2.2.1 = some (tyX5 k) := by decide +kernel
abbrev cX5_init : ByteArray := prog_7_method_1_code
def yX5_init : MethodName := ⟨RX5, "<init>", "()V"⟩
abbrev cX5_clear : ByteArray := prog_7_method_2_code
def yX5_clear : MethodName := ⟨RX5, "clear", "()V"⟩
abbrev cX5_hasBin : ByteArray := prog_7_method_4_code
def yX5_hasBin : MethodName := ⟨RX5, "hasBin", "(I)Z"⟩
abbrev cX5_addBin : ByteArray := prog_7_method_5_code
def yX5_addBin : MethodName := ⟨RX5, "addBin", "(II)V"⟩
def RX6 : String := "LoadSpans$Reader"
def TX6 : u_T := fun k => match k with
  | 0 => ("LoadSpans$Reader", "tokens", "LLoadSpans$Tokens;", true)
  | 1 => ("LoadSpans$Reader", "emptyTold", "Z", false)
  | 2 => ("LoadSpans$Reader", "spanTold", "Z", false)
  | _ => ("LoadSpans$Reader", "bulkTold", "Z", false)
def tyX6 : Nat → FieldType := fun k => match k with
  | 0 => .object "LoadSpans$Tokens"
  | 1 => .boolean
  | 2 => .boolean
  | _ => .boolean
abbrev wsX60 : List Cond := u_ws RX6 TX6 4
theorem nmX6 : ∀ a, a < 4 → ∀ b, b < 4 → a ≠ b → (TX6 a).2.1 ≠ (TX6 b).2.1 := by decide +kernel
theorem tyX6_ok : ∀ k, k < 4 → parseFieldDescriptor (TX6 k).2.2.1 = some (tyX6 k) := by decide +kernel
abbrev cX6_init : ByteArray := prog_8_method_1_code
def yX6_init : MethodName := ⟨RX6, "<init>", "()V"⟩
abbrev cX6_readPlane : ByteArray := prog_8_method_2_code
def yX6_readPlane : MethodName := ⟨RX6, "readPlane", "(LLoadSpans$Plane;)V"⟩
abbrev cX6_readCargo : ByteArray := prog_8_method_3_code
def yX6_readCargo : MethodName := ⟨RX6, "readCargo", "(LLoadSpans$Cargo;)V"⟩
abbrev cX6_atLine : ByteArray := prog_8_method_4_code
def yX6_atLine : MethodName := ⟨RX6, "atLine", "()Z"⟩
abbrev cX6_readEmpty : ByteArray := prog_8_method_5_code
def yX6_readEmpty : MethodName := ⟨RX6, "readEmpty", "(LLoadSpans$Plane;)V"⟩
abbrev cX6_readSpan : ByteArray := prog_8_method_6_code
def yX6_readSpan : MethodName := ⟨RX6, "readSpan", "(LLoadSpans$Plane;)V"⟩
abbrev cX6_readHold : ByteArray := prog_8_method_7_code
def yX6_readHold : MethodName := ⟨RX6, "readHold", "(LLoadSpans$Plane;)V"⟩
abbrev cX6_isFrontDoor : ByteArray := prog_8_method_8_code
def yX6_isFrontDoor : MethodName := ⟨RX6, "isFrontDoor", "()Z"⟩
abbrev cX6_readSpot : ByteArray := prog_8_method_9_code
def yX6_readSpot : MethodName := ⟨RX6, "readSpot", "(LLoadSpans$Floor;)V"⟩
abbrev cX6_readJoint : ByteArray := prog_8_method_10_code
def yX6_readJoint : MethodName := ⟨RX6, "readJoint", "(LLoadSpans$Floor;)V"⟩
abbrev cX6_readBin : ByteArray := prog_8_method_11_code
def yX6_readBin : MethodName := ⟨RX6, "readBin", "(LLoadSpans$Plane;)V"⟩
abbrev cX6_readTank : ByteArray := prog_8_method_12_code
def yX6_readTank : MethodName := ⟨RX6, "readTank", "(LLoadSpans$Plane;)V"⟩
abbrev cX6_readBurn : ByteArray := prog_8_method_13_code
def yX6_readBurn : MethodName := ⟨RX6, "readBurn", "(LLoadSpans$Voyage;)V"⟩
abbrev cX6_readStop : ByteArray := prog_8_method_14_code
def yX6_readStop : MethodName := ⟨RX6, "readStop", "(LLoadSpans$Voyage;)V"⟩
abbrev cX6_newName : ByteArray := prog_8_method_15_code
def yX6_newName : MethodName := ⟨RX6, "newName", "(LLoadSpans$Plane;)J"⟩
abbrev cX6_readPallet : ByteArray := prog_8_method_16_code
def yX6_readPallet : MethodName := ⟨RX6, "readPallet", "(LLoadSpans$Cargo;)V"⟩
abbrev cX6_readBulk : ByteArray := prog_8_method_17_code
def yX6_readBulk : MethodName := ⟨RX6, "readBulk", "(LLoadSpans$Cargo;)V"⟩
def RX7 : String := "LoadSpans$Rules"
def TX7 : u_T := fun k => match k with
  | _ => ("", "", "", false)
def tyX7 : Nat → FieldType := fun k => match k with
  | _ => .int
abbrev wsX70 : List Cond := u_ws RX7 TX7 0
theorem nmX7 : ∀ a, a < 0 → ∀ b, b < 0 → a ≠ b → (TX7 a).2.1 ≠ (TX7 b).2.1 := by decide +kernel
theorem tyX7_ok : ∀ k, k < 0 → parseFieldDescriptor (TX7 k).2.2.1 = some (tyX7 k) := by decide +kernel
abbrev cX7_firstBroken : ByteArray := prog_9_method_2_code
def yX7_firstBroken : MethodName := ⟨RX7, "firstBroken", "(LLoadSpans$Plane;LLoadSpans$Cargo;)I"⟩
abbrev cX7_brokenAt : ByteArray := prog_9_method_3_code
def yX7_brokenAt : MethodName := ⟨RX7, "brokenAt", "(ILLoadSpans$Plane;LLoadSpans$Cargo;)I"⟩
abbrev cX7_outPallet : ByteArray := prog_9_method_4_code
def yX7_outPallet : MethodName := ⟨RX7, "outPallet", "(LLoadSpans$Cargo;)I"⟩
abbrev cX7_heavySpot : ByteArray := prog_9_method_5_code
def yX7_heavySpot : MethodName := ⟨RX7, "heavySpot", "(LLoadSpans$Floor;LLoadSpans$Cargo;)I"⟩
abbrev cX7_heavyJoint : ByteArray := prog_9_method_6_code
def yX7_heavyJoint : MethodName := ⟨RX7, "heavyJoint", "(LLoadSpans$Floor;LLoadSpans$Cargo;)I"⟩
abbrev cX7_heavyHold : ByteArray := prog_9_method_7_code
def yX7_heavyHold : MethodName := ⟨RX7, "heavyHold", "(LLoadSpans$Floor;LLoadSpans$Cargo;)I"⟩
abbrev cX7_loadOfHold : ByteArray := prog_9_method_8_code
def yX7_loadOfHold : MethodName := ⟨RX7, "loadOfHold", "(LLoadSpans$Floor;LLoadSpans$Cargo;I)I"⟩
abbrev cX7_blockedSpot : ByteArray := prog_9_method_9_code
def yX7_blockedSpot : MethodName := ⟨RX7, "blockedSpot", "(LLoadSpans$Floor;LLoadSpans$Cargo;)I"⟩
abbrev cX7_blockersOf : ByteArray := prog_9_method_10_code
def yX7_blockersOf : MethodName := ⟨RX7, "blockersOf", "(LLoadSpans$Floor;LLoadSpans$Cargo;I)I"⟩
abbrev cX7_stageOutOfSpan : ByteArray := prog_9_method_11_code
def yX7_stageOutOfSpan : MethodName := ⟨RX7, "stageOutOfSpan", "(LLoadSpans$Plane;LLoadSpans$Cargo;)I"⟩
abbrev cX7_weightAt : ByteArray := prog_9_method_12_code
def yX7_weightAt : MethodName := ⟨RX7, "weightAt", "(LLoadSpans$Plane;LLoadSpans$Cargo;I)I"⟩
abbrev cX7_momentAt : ByteArray := prog_9_method_13_code
def yX7_momentAt : MethodName := ⟨RX7, "momentAt", "(LLoadSpans$Plane;LLoadSpans$Cargo;I)I"⟩
def RX8 : String := "LoadSpans$Table"
def TX8 : u_T := fun k => match k with
  | 0 => ("LoadSpans$Table", "made", "Z", false)
  | 1 => ("LoadSpans$Table", "rows", "I", false)
  | 2 => ("LoadSpans$Table", "places", "[I", true)
  | 3 => ("LoadSpans$Table", "leastAmount", "[I", true)
  | 4 => ("LoadSpans$Table", "loadingsUpTo", "[I", true)
  | 5 => ("LoadSpans$Table", "plane", "LLoadSpans$Plane;", false)
  | 6 => ("LoadSpans$Table", "cargo", "LLoadSpans$Cargo;", false)
  | 7 => ("LoadSpans$Table", "amountLeast", "I", false)
  | 8 => ("LoadSpans$Table", "amountMost", "I", false)
  | 9 => ("LoadSpans$Table", "momentLeast", "[I", true)
  | 10 => ("LoadSpans$Table", "momentMost", "[I", true)
  | 11 => ("LoadSpans$Table", "spotOf", "[I", true)
  | 12 => ("LoadSpans$Table", "loadOnSpot", "[I", true)
  | 13 => ("LoadSpans$Table", "loadInHold", "[I", true)
  | _ => ("LoadSpans$Table", "momentOfStop", "[I", true)
def tyX8 : Nat → FieldType := fun k => match k with
  | 0 => .boolean
  | 1 => .int
  | 2 => .array .int
  | 3 => .array .int
  | 4 => .array .int
  | 5 => .object "LoadSpans$Plane"
  | 6 => .object "LoadSpans$Cargo"
  | 7 => .int
  | 8 => .int
  | 9 => .array .int
  | 10 => .array .int
  | 11 => .array .int
  | 12 => .array .int
  | 13 => .array .int
  | _ => .array .int
abbrev wsX80 : List Cond := u_ws RX8 TX8 15
theorem nmX8 : ∀ a, a < 15 → ∀ b, b < 15 → a ≠ b → (TX8 a).2.1 ≠ (TX8 b).2.1 := by decide +kernel
theorem tyX8_ok : ∀ k, k < 15 → parseFieldDescriptor (TX8 k).2.2.1 = some (tyX8 k) := by decide +kernel
abbrev cX8_init : ByteArray := prog_10_method_1_code
def yX8_init : MethodName := ⟨RX8, "<init>", "()V"⟩
abbrev cX8_forget : ByteArray := prog_10_method_2_code
def yX8_forget : MethodName := ⟨RX8, "forget", "()V"⟩
def RX9 : String := "LoadSpans$Tokens"
def TX9 : u_T := fun k => match k with
  | 0 => ("LoadSpans$Tokens", "text", "[I", true)
  | 1 => ("LoadSpans$Tokens", "length", "I", false)
  | 2 => ("LoadSpans$Tokens", "fault", "I", false)
  | 3 => ("LoadSpans$Tokens", "place", "I", false)
  | 4 => ("LoadSpans$Tokens", "kind", "I", false)
  | 5 => ("LoadSpans$Tokens", "from", "I", false)
  | _ => ("LoadSpans$Tokens", "to", "I", false)
def tyX9 : Nat → FieldType := fun k => match k with
  | 0 => .array .int
  | 1 => .int
  | 2 => .int
  | 3 => .int
  | 4 => .int
  | 5 => .int
  | _ => .int
abbrev wsX90 : List Cond := u_ws RX9 TX9 7
theorem nmX9 : ∀ a, a < 7 → ∀ b, b < 7 → a ≠ b → (TX9 a).2.1 ≠ (TX9 b).2.1 := by decide +kernel
theorem tyX9_ok : ∀ k, k < 7 → parseFieldDescriptor (TX9 k).2.2.1 = some (tyX9 k) := by decide +kernel
abbrev cX9_init : ByteArray := prog_11_method_1_code
def yX9_init : MethodName := ⟨RX9, "<init>", "()V"⟩
abbrev cX9_addBytes : ByteArray := prog_11_method_2_code
def yX9_addBytes : MethodName := ⟨RX9, "addBytes", "(I)V"⟩
abbrev cX9_begin : ByteArray := prog_11_method_3_code
def yX9_begin : MethodName := ⟨RX9, "begin", "(I)V"⟩
abbrev cX9_fail : ByteArray := prog_11_method_4_code
def yX9_fail : MethodName := ⟨RX9, "fail", "(I)V"⟩
abbrev cX9_next : ByteArray := prog_11_method_5_code
def yX9_next : MethodName := ⟨RX9, "next", "()V"⟩
abbrev cX9_number : ByteArray := prog_11_method_6_code
def yX9_number : MethodName := ⟨RX9, "number", "(II)I"⟩
abbrev cX9_newWord : ByteArray := prog_11_method_7_code
def yX9_newWord : MethodName := ⟨RX9, "newWord", "()J"⟩
abbrev cX9_lineEnd : ByteArray := prog_11_method_8_code
def yX9_lineEnd : MethodName := ⟨RX9, "lineEnd", "()V"⟩
abbrev cX9_tells : ByteArray := prog_11_method_9_code
def yX9_tells : MethodName := ⟨RX9, "tells", "(Ljava/lang/String;)Z"⟩
abbrev cX9_isQuoted : ByteArray := prog_11_method_10_code
def yX9_isQuoted : MethodName := ⟨RX9, "isQuoted", "()Z"⟩
abbrev cX9_kindOf : ByteArray := prog_11_method_11_code
def yX9_kindOf : MethodName := ⟨RX9, "kindOf", "(II)I"⟩
abbrev cX9_isLetter : ByteArray := prog_11_method_12_code
def yX9_isLetter : MethodName := ⟨RX9, "isLetter", "(I)Z"⟩
abbrev cX9_isDigit : ByteArray := prog_11_method_13_code
def yX9_isDigit : MethodName := ⟨RX9, "isDigit", "(I)Z"⟩
abbrev cX9_packed : ByteArray := prog_11_method_14_code
def yX9_packed : MethodName := ⟨RX9, "packed", "(II)J"⟩
abbrev cX9_lettersOf : ByteArray := prog_11_method_15_code
def yX9_lettersOf : MethodName := ⟨RX9, "lettersOf", "(J)I"⟩
def RX10 : String := "LoadSpans$Voyage"
def TX10 : u_T := fun k => match k with
  | 0 => ("LoadSpans$Voyage", "tankCount", "I", false)
  | 1 => ("LoadSpans$Voyage", "tankName", "[J", true)
  | 2 => ("LoadSpans$Voyage", "tankArm", "[I", true)
  | 3 => ("LoadSpans$Voyage", "tankFill", "[I", true)
  | 4 => ("LoadSpans$Voyage", "tankLeft", "[I", true)
  | 5 => ("LoadSpans$Voyage", "stageCount", "I", false)
  | 6 => ("LoadSpans$Voyage", "burnTank", "[I", true)
  | 7 => ("LoadSpans$Voyage", "burnAmount", "[I", true)
  | 8 => ("LoadSpans$Voyage", "stopCount", "I", false)
  | 9 => ("LoadSpans$Voyage", "weightAt", "[I", true)
  | 10 => ("LoadSpans$Voyage", "momentAt", "[I", true)
  | _ => ("LoadSpans$Voyage", "stopsAt", "[I", true)
def tyX10 : Nat → FieldType := fun k => match k with
  | 0 => .int
  | 1 => .array .long
  | 2 => .array .int
  | 3 => .array .int
  | 4 => .array .int
  | 5 => .int
  | 6 => .array .int
  | 7 => .array .int
  | 8 => .int
  | 9 => .array .int
  | 10 => .array .int
  | _ => .array .int
abbrev wsX100 : List Cond := u_ws RX10 TX10 12
theorem nmX10 : ∀ a, a < 12 → ∀ b, b < 12 → a ≠ b → (TX10 a).2.1 ≠ (TX10 b).2.1 := by decide +kernel
theorem tyX10_ok : ∀ k, k < 12 → parseFieldDescriptor (TX10 k).2.2.1 = some (tyX10 k) := by decide +kernel
abbrev cX10_init : ByteArray := prog_12_method_1_code
def yX10_init : MethodName := ⟨RX10, "<init>", "()V"⟩
abbrev cX10_clear : ByteArray := prog_12_method_2_code
def yX10_clear : MethodName := ⟨RX10, "clear", "()V"⟩
abbrev cX10_hasTank : ByteArray := prog_12_method_4_code
def yX10_hasTank : MethodName := ⟨RX10, "hasTank", "(I)Z"⟩
abbrev cX10_tankCalled : ByteArray := prog_12_method_5_code
def yX10_tankCalled : MethodName := ⟨RX10, "tankCalled", "(J)I"⟩
abbrev cX10_leftIn : ByteArray := prog_12_method_6_code
def yX10_leftIn : MethodName := ⟨RX10, "leftIn", "(I)I"⟩
abbrev cX10_addTank : ByteArray := prog_12_method_7_code
def yX10_addTank : MethodName := ⟨RX10, "addTank", "(JII)V"⟩
abbrev cX10_addBurn : ByteArray := prog_12_method_8_code
def yX10_addBurn : MethodName := ⟨RX10, "addBurn", "(II)V"⟩
abbrev cX10_addStop : ByteArray := prog_12_method_9_code
def yX10_addStop : MethodName := ⟨RX10, "addStop", "()V"⟩
abbrev cX10_reckon : ByteArray := prog_12_method_10_code
def yX10_reckon : MethodName := ⟨RX10, "reckon", "(II)V"⟩
def RX11 : String := "LoadSpans"
def TX11 : u_T := fun k => match k with
  | 0 => ("LoadSpans", "reader", "LLoadSpans$Reader;", true)
  | 1 => ("LoadSpans", "faultKind", "I", false)
  | 2 => ("LoadSpans", "planeNow", "LLoadSpans$Plane;", false)
  | 3 => ("LoadSpans", "planeDraft", "LLoadSpans$Plane;", false)
  | 4 => ("LoadSpans", "cargoNow", "LLoadSpans$Cargo;", false)
  | 5 => ("LoadSpans", "cargoDraft", "LLoadSpans$Cargo;", false)
  | 6 => ("LoadSpans", "history", "LLoadSpans$History;", true)
  | 7 => ("LoadSpans", "firstImage", "LLoadSpans$Image;", true)
  | 8 => ("LoadSpans", "secondImage", "LLoadSpans$Image;", true)
  | 9 => ("LoadSpans", "table", "LLoadSpans$Table;", true)
  | _ => ("LoadSpans", "mender", "LLoadSpans$Mender;", true)
def tyX11 : Nat → FieldType := fun k => match k with
  | 0 => .object "LoadSpans$Reader"
  | 1 => .int
  | 2 => .object "LoadSpans$Plane"
  | 3 => .object "LoadSpans$Plane"
  | 4 => .object "LoadSpans$Cargo"
  | 5 => .object "LoadSpans$Cargo"
  | 6 => .object "LoadSpans$History"
  | 7 => .object "LoadSpans$Image"
  | 8 => .object "LoadSpans$Image"
  | 9 => .object "LoadSpans$Table"
  | _ => .object "LoadSpans$Mender"
abbrev wsX110 : List Cond := u_ws RX11 TX11 11
theorem nmX11 : ∀ a, a < 11 → ∀ b, b < 11 → a ≠ b → (TX11 a).2.1 ≠ (TX11 b).2.1 := by decide +kernel
theorem tyX11_ok : ∀ k, k < 11 → parseFieldDescriptor (TX11 k).2.2.1 = some (tyX11 k) := by decide +kernel
abbrev cX11_init : ByteArray := prog_1_method_1_code
def yX11_init : MethodName := ⟨RX11, "<init>", "()V"⟩
abbrev cX11_feed : ByteArray := prog_1_method_2_code
def yX11_feed : MethodName := ⟨RX11, "feed", "(IIIII)I"⟩
abbrev cX11_end : ByteArray := prog_1_method_3_code
def yX11_end : MethodName := ⟨RX11, "end", "(I)Z"⟩
abbrev cX11_plane : ByteArray := prog_1_method_4_code
def yX11_plane : MethodName := ⟨RX11, "plane", "()I"⟩
abbrev cX11_cargo : ByteArray := prog_1_method_5_code
def yX11_cargo : MethodName := ⟨RX11, "cargo", "()I"⟩
abbrev cX11_fault : ByteArray := prog_1_method_6_code
def yX11_fault : MethodName := ⟨RX11, "fault", "()I"⟩
abbrev cX11_count : ByteArray := prog_1_method_7_code
def yX11_count : MethodName := ⟨RX11, "count", "(I)I"⟩
abbrev cX11_pallet : ByteArray := prog_1_method_8_code
def yX11_pallet : MethodName := ⟨RX11, "pallet", "(II)I"⟩
abbrev cX11_in : ByteArray := prog_1_method_11_code
def yX11_in : MethodName := ⟨RX11, "in", "(II)I"⟩
abbrev cX11_put : ByteArray := prog_1_method_12_code
def yX11_put : MethodName := ⟨RX11, "put", "(II)I"⟩
abbrev cX11_off : ByteArray := prog_1_method_13_code
def yX11_off : MethodName := ⟨RX11, "off", "(I)I"⟩
abbrev cX11_pour : ByteArray := prog_1_method_14_code
def yX11_pour : MethodName := ⟨RX11, "pour", "(II)I"⟩
abbrev cX11_why : ByteArray := prog_1_method_15_code
def yX11_why : MethodName := ⟨RX11, "why", "()I"⟩
abbrev cX11_where : ByteArray := prog_1_method_16_code
def yX11_where : MethodName := ⟨RX11, "where", "()I"⟩
abbrev cX11_stage : ByteArray := prog_1_method_17_code
def yX11_stage : MethodName := ⟨RX11, "stage", "(II)I"⟩
abbrev cX11_blocks : ByteArray := prog_1_method_18_code
def yX11_blocks : MethodName := ⟨RX11, "blocks", "(I)I"⟩
abbrev cX11_weigh : ByteArray := prog_1_method_32_code
def yX11_weigh : MethodName := ⟨RX11, "weigh", "(II)I"⟩
abbrev cX11_undo : ByteArray := prog_1_method_33_code
def yX11_undo : MethodName := ⟨RX11, "undo", "()I"⟩
abbrev cX11_startAnew : ByteArray := prog_1_method_36_code
def yX11_startAnew : MethodName := ⟨RX11, "startAnew", "()V"⟩
def RX12 : String := "LoadSpansModel"
def TX12 : u_T := fun k => match k with
  | _ => ("", "", "", false)
def tyX12 : Nat → FieldType := fun k => match k with
  | _ => .int
abbrev wsX120 : List Cond := u_ws RX12 TX12 0
theorem nmX12 : ∀ a, a < 0 → ∀ b, b < 0 → a ≠ b → (TX12 a).2.1 ≠ (TX12 b).2.1 := by decide +kernel
theorem tyX12_ok : ∀ k, k < 0 → parseFieldDescriptor (TX12 k).2.2.1 = some (tyX12 k) := by decide +kernel
def RJ9 : String := "java/lang/Math"
def TJ9 : u_T := fun k => match k with
  | _ => ("", "", "", false)
def tyJ9 : Nat → FieldType := fun k => match k with
  | _ => .int
abbrev wsJ90 : List Cond := u_ws RJ9 TJ9 0
theorem nmJ9 : ∀ a, a < 0 → ∀ b, b < 0 → a ≠ b → (TJ9 a).2.1 ≠ (TJ9 b).2.1 := by decide +kernel
theorem tyJ9_ok : ∀ k, k < 0 → parseFieldDescriptor (TJ9 k).2.2.1 = some (tyJ9 k) := by decide +kernel
abbrev cJ9_max_7cf53 : ByteArray := prog_15_method_65_code
def yJ9_max_7cf53 : MethodName := ⟨RJ9, "max", "(II)I"⟩
abbrev cJ9_min_7cf53 : ByteArray := prog_15_method_69_code
def yJ9_min_7cf53 : MethodName := ⟨RJ9, "min", "(II)I"⟩
def RJ0 : String := "java/lang/String"
def TJ0 : u_T := fun k => match k with
  | _ => ("", "", "", false)
def tyJ0 : Nat → FieldType := fun k => match k with
  | _ => .int
abbrev wsJ00 : List Cond := u_ws RJ0 TJ0 0
theorem nmJ0 : ∀ a, a < 0 → ∀ b, b < 0 → a ≠ b → (TJ0 a).2.1 ≠ (TJ0 b).2.1 := by decide +kernel
theorem tyJ0_ok : ∀ k, k < 0 → parseFieldDescriptor (TJ0 k).2.2.1 = some (tyJ0 k) := by decide +kernel
abbrev cJ0_length_8abf5 : ByteArray := prog_16_method_54_code
def yJ0_length_8abf5 : MethodName := ⟨RJ0, "length", "()I"⟩
abbrev cJ0_charAt_5068e : ByteArray := prog_16_method_56_code
def yJ0_charAt_5068e : MethodName := ⟨RJ0, "charAt", "(I)C"⟩
abbrev cJ0_coder_7d493 : ByteArray := prog_16_method_152_code
def yJ0_coder_7d493 : MethodName := ⟨RJ0, "coder", "()B"⟩
abbrev cJ0_isLatin1_aae02 : ByteArray := prog_16_method_154_code
def yJ0_isLatin1_aae02 : MethodName := ⟨RJ0, "isLatin1", "()Z"⟩
abbrev cJ0_checkIndex_df160 : ByteArray := prog_16_method_155_code
def yJ0_checkIndex_df160 : MethodName := ⟨RJ0, "checkIndex", "(II)V"⟩
def RJ1 : String := "java/lang/StringLatin1"
def TJ1 : u_T := fun k => match k with
  | _ => ("", "", "", false)
def tyJ1 : Nat → FieldType := fun k => match k with
  | _ => .int
abbrev wsJ10 : List Cond := u_ws RJ1 TJ1 0
theorem nmJ1 : ∀ a, a < 0 → ∀ b, b < 0 → a ≠ b → (TJ1 a).2.1 ≠ (TJ1 b).2.1 := by decide +kernel
theorem tyJ1_ok : ∀ k, k < 0 → parseFieldDescriptor (TJ1 k).2.2.1 = some (tyJ1 k) := by decide +kernel
abbrev cJ1_charAt_3b067 : ByteArray := prog_17_method_2_code
def yJ1_charAt_3b067 : MethodName := ⟨RJ1, "charAt", "([BI)C"⟩
def RJ2 : String := "java/lang/StringUTF16"
def TJ2 : u_T := fun k => match k with
  | _ => ("", "", "", false)
def tyJ2 : Nat → FieldType := fun k => match k with
  | _ => .int
abbrev wsJ20 : List Cond := u_ws RJ2 TJ2 0
theorem nmJ2 : ∀ a, a < 0 → ∀ b, b < 0 → a ≠ b → (TJ2 a).2.1 ≠ (TJ2 b).2.1 := by decide +kernel
theorem tyJ2_ok : ∀ k, k < 0 → parseFieldDescriptor (TJ2 k).2.2.1 = some (tyJ2 k) := by decide +kernel
abbrev cJ2_getChar_3b067 : ByteArray := prog_18_method_5_code
def yJ2_getChar_3b067 : MethodName := ⟨RJ2, "getChar", "([BI)C"⟩
abbrev cJ2_length_9d52b : ByteArray := prog_18_method_6_code
def yJ2_length_9d52b : MethodName := ⟨RJ2, "length", "([B)I"⟩
abbrev cJ2_charAt_3b067 : ByteArray := prog_18_method_83_code
def yJ2_charAt_3b067 : MethodName := ⟨RJ2, "charAt", "([BI)C"⟩
abbrev cJ2_checkIndex_2214a : ByteArray := prog_18_method_91_code
def yJ2_checkIndex_2214a : MethodName := ⟨RJ2, "checkIndex", "(I[B)V"⟩
def RJ10 : String := "java/lang/System"
def TJ10 : u_T := fun k => match k with
  | _ => ("", "", "", false)
def tyJ10 : Nat → FieldType := fun k => match k with
  | _ => .int
abbrev wsJ100 : List Cond := u_ws RJ10 TJ10 0
theorem nmJ10 : ∀ a, a < 0 → ∀ b, b < 0 → a ≠ b → (TJ10 a).2.1 ≠ (TJ10 b).2.1 := by decide +kernel
theorem tyJ10_ok : ∀ k, k < 0 → parseFieldDescriptor (TJ10 k).2.2.1 = some (tyJ10 k) := by decide +kernel
def RJ3 : String := "jdk/internal/util/Preconditions"
def TJ3 : u_T := fun k => match k with
  | _ => ("", "", "", false)
def tyJ3 : Nat → FieldType := fun k => match k with
  | _ => .int
abbrev wsJ30 : List Cond := u_ws RJ3 TJ3 0
theorem nmJ3 : ∀ a, a < 0 → ∀ b, b < 0 → a ≠ b → (TJ3 a).2.1 ≠ (TJ3 b).2.1 := by decide +kernel
theorem tyJ3_ok : ∀ k, k < 0 → parseFieldDescriptor (TJ3 k).2.2.1 = some (tyJ3 k) := by decide +kernel
abbrev cJ3_checkIndex_8e157 : ByteArray := prog_20_method_11_code
def yJ3_checkIndex_8e157 : MethodName := ⟨RJ3, "checkIndex", "(IILjava/util/function/BiFunction;)I"⟩
def RL : String := "LoadSpansLaw"
abbrev cL_sign : ByteArray := method_2_code
def yL_sign : MethodName := ⟨RL, "sign", "([II)V"⟩
abbrev cL_text : ByteArray := method_3_code
def yL_text : MethodName := ⟨RL, "text", "([IJ)V"⟩
abbrev cL_number : ByteArray := method_4_code
def yL_number : MethodName := ⟨RL, "number", "([II)V"⟩
abbrev cL_send : ByteArray := method_5_code
def yL_send : MethodName := ⟨RL, "send", "(LLoadSpans;[I)V"⟩
abbrev cL_cell : ByteArray := method_6_code
def yL_cell : MethodName := ⟨RL, "cell", "([II)I"⟩
abbrev cL_two : ByteArray := method_7_code
def yL_two : MethodName := ⟨RL, "two", "([III)V"⟩
abbrev cL_plane : ByteArray := method_8_code
def yL_plane : MethodName := ⟨RL, "plane", "([I)[I"⟩
abbrev cL_door : ByteArray := method_9_code
def yL_door : MethodName := ⟨RL, "door", "([II)V"⟩
abbrev cL_isPlane : ByteArray := method_10_code
def yL_isPlane : MethodName := ⟨RL, "isPlane", "(LLoadSpans;[I[I)Z"⟩
abbrev cL_cargo : ByteArray := method_11_code
def yL_cargo : MethodName := ⟨RL, "cargo", "([I[I)[I"⟩
abbrev cL_isCargo : ByteArray := method_12_code
def yL_isCargo : MethodName := ⟨RL, "isCargo", "(LLoadSpans;[I[I)Z"⟩
abbrev cL_way : ByteArray := method_13_code
def yL_way : MethodName := ⟨RL, "way", "([II)I"⟩
abbrev cL_stage : ByteArray := method_14_code
def yL_stage : MethodName := ⟨RL, "stage", "([I[I[IIIZ)I"⟩
abbrev cL_broken : ByteArray := method_15_code
def yL_broken : MethodName := ⟨RL, "broken", "([I[I[II)I"⟩
abbrev cL_law : ByteArray := code
def yL_law : MethodName := ⟨RL, "law", "([I)Z"⟩
abbrev vwCl : List vw_C := [(RX0, TX0, 7), (RX1, TX1, 12), (RX2, TX2, 3), (RX3, TX3, 3), (RX4, TX4, 10), (RX5, TX5, 9), (RX6, TX6, 4), (RX8, TX8, 15), (RX9, TX9, 7), (RX10, TX10, 12), (RX11, TX11, 11)]

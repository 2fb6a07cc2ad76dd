/-! 01.names: the tables' words and the names, from the task's printed NAMES and SKELETON (made by wip/whole/mk_names.py) -/
-- ===== PART A: goes FIRST, ahead of the names: the tables' words, and 'selects' of the private methods out of them =====
/-- a private method of a class that the tables say can be made, by its rows of tables_1 -/
def lw_okq (q : MethodName × Nat) : Prop := (q.1.cls ≠ "java/lang/invoke/MethodHandle" ∧ q.1.cls ≠ "java/lang/invoke/VarHandle") ∧ Cond.instantiable q.1.cls q.2 ∈ tables_1 ∧ Cond.privateMethod q.1 ∈ tables_1 ∧ Cond.instanceMethod q.1 ∈ tables_1
theorem lw_p0 : lw_okq (⟨"LoadSpans$Reader", "atLine", "()Z"⟩, 4) := ⟨⟨by decide +kernel, by decide +kernel⟩, List.mem_of_getElem? (i := 29) (by decide +kernel), List.mem_of_getElem? (i := 542) (by decide +kernel), List.mem_of_getElem? (i := 543) (by decide +kernel)⟩
theorem lw_p1 : lw_okq (⟨"LoadSpans$Reader", "readEmpty", "(LLoadSpans$Plane;)V"⟩, 4) := ⟨⟨by decide +kernel, by decide +kernel⟩, List.mem_of_getElem? (i := 29) (by decide +kernel), List.mem_of_getElem? (i := 612) (by decide +kernel), List.mem_of_getElem? (i := 613) (by decide +kernel)⟩
theorem lw_p2 : lw_okq (⟨"LoadSpans$Reader", "readSpan", "(LLoadSpans$Plane;)V"⟩, 4) := ⟨⟨by decide +kernel, by decide +kernel⟩, List.mem_of_getElem? (i := 29) (by decide +kernel), List.mem_of_getElem? (i := 623) (by decide +kernel), List.mem_of_getElem? (i := 624) (by decide +kernel)⟩
theorem lw_p3 : lw_okq (⟨"LoadSpans$Reader", "readHold", "(LLoadSpans$Plane;)V"⟩, 4) := ⟨⟨by decide +kernel, by decide +kernel⟩, List.mem_of_getElem? (i := 29) (by decide +kernel), List.mem_of_getElem? (i := 628) (by decide +kernel), List.mem_of_getElem? (i := 629) (by decide +kernel)⟩
theorem lw_p4 : lw_okq (⟨"LoadSpans$Reader", "newName", "(LLoadSpans$Plane;)J"⟩, 4) := ⟨⟨by decide +kernel, by decide +kernel⟩, List.mem_of_getElem? (i := 29) (by decide +kernel), List.mem_of_getElem? (i := 632) (by decide +kernel), List.mem_of_getElem? (i := 633) (by decide +kernel)⟩
theorem lw_p5 : lw_okq (⟨"LoadSpans$Tokens", "isQuoted", "()Z"⟩, 7) := ⟨⟨by decide +kernel, by decide +kernel⟩, List.mem_of_getElem? (i := 35) (by decide +kernel), List.mem_of_getElem? (i := 640) (by decide +kernel), List.mem_of_getElem? (i := 641) (by decide +kernel)⟩
theorem lw_p6 : lw_okq (⟨"LoadSpans$Reader", "isFrontDoor", "()Z"⟩, 4) := ⟨⟨by decide +kernel, by decide +kernel⟩, List.mem_of_getElem? (i := 29) (by decide +kernel), List.mem_of_getElem? (i := 670) (by decide +kernel), List.mem_of_getElem? (i := 671) (by decide +kernel)⟩
theorem lw_p7 : lw_okq (⟨"LoadSpans$Reader", "readSpot", "(LLoadSpans$Floor;)V"⟩, 4) := ⟨⟨by decide +kernel, by decide +kernel⟩, List.mem_of_getElem? (i := 29) (by decide +kernel), List.mem_of_getElem? (i := 681) (by decide +kernel), List.mem_of_getElem? (i := 682) (by decide +kernel)⟩
theorem lw_p8 : lw_okq (⟨"LoadSpans$Reader", "readJoint", "(LLoadSpans$Floor;)V"⟩, 4) := ⟨⟨by decide +kernel, by decide +kernel⟩, List.mem_of_getElem? (i := 29) (by decide +kernel), List.mem_of_getElem? (i := 694) (by decide +kernel), List.mem_of_getElem? (i := 695) (by decide +kernel)⟩
theorem lw_p9 : lw_okq (⟨"LoadSpans$Reader", "readBin", "(LLoadSpans$Plane;)V"⟩, 4) := ⟨⟨by decide +kernel, by decide +kernel⟩, List.mem_of_getElem? (i := 29) (by decide +kernel), List.mem_of_getElem? (i := 707) (by decide +kernel), List.mem_of_getElem? (i := 708) (by decide +kernel)⟩
theorem lw_p10 : lw_okq (⟨"LoadSpans$Reader", "readTank", "(LLoadSpans$Plane;)V"⟩, 4) := ⟨⟨by decide +kernel, by decide +kernel⟩, List.mem_of_getElem? (i := 29) (by decide +kernel), List.mem_of_getElem? (i := 716) (by decide +kernel), List.mem_of_getElem? (i := 717) (by decide +kernel)⟩
theorem lw_p11 : lw_okq (⟨"LoadSpans$Reader", "readBurn", "(LLoadSpans$Voyage;)V"⟩, 4) := ⟨⟨by decide +kernel, by decide +kernel⟩, List.mem_of_getElem? (i := 29) (by decide +kernel), List.mem_of_getElem? (i := 725) (by decide +kernel), List.mem_of_getElem? (i := 726) (by decide +kernel)⟩
theorem lw_p12 : lw_okq (⟨"LoadSpans$Reader", "readStop", "(LLoadSpans$Voyage;)V"⟩, 4) := ⟨⟨by decide +kernel, by decide +kernel⟩, List.mem_of_getElem? (i := 29) (by decide +kernel), List.mem_of_getElem? (i := 738) (by decide +kernel), List.mem_of_getElem? (i := 739) (by decide +kernel)⟩
theorem lw_p13 : lw_okq (⟨"LoadSpans", "startAnew", "()V"⟩, 11) := ⟨⟨by decide +kernel, by decide +kernel⟩, List.mem_of_getElem? (i := 21) (by decide +kernel), List.mem_of_getElem? (i := 751) (by decide +kernel), List.mem_of_getElem? (i := 752) (by decide +kernel)⟩
theorem lw_p14 : lw_okq (⟨"LoadSpans$Reader", "readPallet", "(LLoadSpans$Cargo;)V"⟩, 4) := ⟨⟨by decide +kernel, by decide +kernel⟩, List.mem_of_getElem? (i := 29) (by decide +kernel), List.mem_of_getElem? (i := 778) (by decide +kernel), List.mem_of_getElem? (i := 779) (by decide +kernel)⟩
theorem lw_p15 : lw_okq (⟨"LoadSpans$Cargo", "write", "(IJIII)V"⟩, 7) := ⟨⟨by decide +kernel, by decide +kernel⟩, List.mem_of_getElem? (i := 296) (by decide +kernel), List.mem_of_getElem? (i := 790) (by decide +kernel), List.mem_of_getElem? (i := 791) (by decide +kernel)⟩
def lw_privs_1 : List (MethodName × Nat) := [(⟨"LoadSpans$Reader", "atLine", "()Z"⟩, 4), (⟨"LoadSpans$Reader", "readEmpty", "(LLoadSpans$Plane;)V"⟩, 4), (⟨"LoadSpans$Reader", "readSpan", "(LLoadSpans$Plane;)V"⟩, 4), (⟨"LoadSpans$Reader", "readHold", "(LLoadSpans$Plane;)V"⟩, 4), (⟨"LoadSpans$Reader", "newName", "(LLoadSpans$Plane;)J"⟩, 4), (⟨"LoadSpans$Tokens", "isQuoted", "()Z"⟩, 7), (⟨"LoadSpans$Reader", "isFrontDoor", "()Z"⟩, 4), (⟨"LoadSpans$Reader", "readSpot", "(LLoadSpans$Floor;)V"⟩, 4), (⟨"LoadSpans$Reader", "readJoint", "(LLoadSpans$Floor;)V"⟩, 4), (⟨"LoadSpans$Reader", "readBin", "(LLoadSpans$Plane;)V"⟩, 4), (⟨"LoadSpans$Reader", "readTank", "(LLoadSpans$Plane;)V"⟩, 4), (⟨"LoadSpans$Reader", "readBurn", "(LLoadSpans$Voyage;)V"⟩, 4), (⟨"LoadSpans$Reader", "readStop", "(LLoadSpans$Voyage;)V"⟩, 4), (⟨"LoadSpans", "startAnew", "()V"⟩, 11), (⟨"LoadSpans$Reader", "readPallet", "(LLoadSpans$Cargo;)V"⟩, 4), (⟨"LoadSpans$Cargo", "write", "(IJIII)V"⟩, 7)]
theorem lw_r1 : ∀ q ∈ lw_privs_1, lw_okq q := List.forall_mem_cons.mpr ⟨lw_p0, List.forall_mem_cons.mpr ⟨lw_p1, List.forall_mem_cons.mpr ⟨lw_p2, List.forall_mem_cons.mpr ⟨lw_p3, List.forall_mem_cons.mpr ⟨lw_p4, List.forall_mem_cons.mpr ⟨lw_p5, List.forall_mem_cons.mpr ⟨lw_p6, List.forall_mem_cons.mpr ⟨lw_p7, List.forall_mem_cons.mpr ⟨lw_p8, List.forall_mem_cons.mpr ⟨lw_p9, List.forall_mem_cons.mpr ⟨lw_p10, List.forall_mem_cons.mpr ⟨lw_p11, List.forall_mem_cons.mpr ⟨lw_p12, List.forall_mem_cons.mpr ⟨lw_p13, List.forall_mem_cons.mpr ⟨lw_p14, List.forall_mem_cons.mpr ⟨lw_p15, fun _ h => absurd h List.not_mem_nil⟩⟩⟩⟩⟩⟩⟩⟩⟩⟩⟩⟩⟩⟩⟩⟩
theorem lw_p16 : lw_okq (⟨"LoadSpans$Reader", "readBulk", "(LLoadSpans$Cargo;)V"⟩, 4) := ⟨⟨by decide +kernel, by decide +kernel⟩, List.mem_of_getElem? (i := 29) (by decide +kernel), List.mem_of_getElem? (i := 795) (by decide +kernel), List.mem_of_getElem? (i := 796) (by decide +kernel)⟩
theorem lw_p17 : lw_okq (⟨"LoadSpans", "freshTable", "()LLoadSpans$Table;"⟩, 11) := ⟨⟨by decide +kernel, by decide +kernel⟩, List.mem_of_getElem? (i := 21) (by decide +kernel), List.mem_of_getElem? (i := 956) (by decide +kernel), List.mem_of_getElem? (i := 957) (by decide +kernel)⟩
theorem lw_p18 : lw_okq (⟨"LoadSpans$Table", "reckonMoments", "()V"⟩, 15) := ⟨⟨by decide +kernel, by decide +kernel⟩, List.mem_of_getElem? (i := 389) (by decide +kernel), List.mem_of_getElem? (i := 968) (by decide +kernel), List.mem_of_getElem? (i := 969) (by decide +kernel)⟩
theorem lw_p19 : lw_okq (⟨"LoadSpans$Table", "weightBehind", "(I)I"⟩, 15) := ⟨⟨by decide +kernel, by decide +kernel⟩, List.mem_of_getElem? (i := 389) (by decide +kernel), List.mem_of_getElem? (i := 974) (by decide +kernel), List.mem_of_getElem? (i := 975) (by decide +kernel)⟩
theorem lw_p20 : lw_okq (⟨"LoadSpans$Table", "keepRow", "()V"⟩, 15) := ⟨⟨by decide +kernel, by decide +kernel⟩, List.mem_of_getElem? (i := 389) (by decide +kernel), List.mem_of_getElem? (i := 981) (by decide +kernel), List.mem_of_getElem? (i := 982) (by decide +kernel)⟩
theorem lw_p21 : lw_okq (⟨"LoadSpans$Table", "packedPlaces", "()I"⟩, 15) := ⟨⟨by decide +kernel, by decide +kernel⟩, List.mem_of_getElem? (i := 389) (by decide +kernel), List.mem_of_getElem? (i := 988) (by decide +kernel), List.mem_of_getElem? (i := 989) (by decide +kernel)⟩
theorem lw_p22 : lw_okq (⟨"LoadSpans$Table", "upTo", "(I)I"⟩, 15) := ⟨⟨by decide +kernel, by decide +kernel⟩, List.mem_of_getElem? (i := 389) (by decide +kernel), List.mem_of_getElem? (i := 992) (by decide +kernel), List.mem_of_getElem? (i := 993) (by decide +kernel)⟩
theorem lw_p23 : lw_okq (⟨"LoadSpans$Table", "mayLie", "(II)Z"⟩, 15) := ⟨⟨by decide +kernel, by decide +kernel⟩, List.mem_of_getElem? (i := 389) (by decide +kernel), List.mem_of_getElem? (i := 996) (by decide +kernel), List.mem_of_getElem? (i := 997) (by decide +kernel)⟩
theorem lw_p24 : lw_okq (⟨"LoadSpans$Table", "lay", "(III)V"⟩, 15) := ⟨⟨by decide +kernel, by decide +kernel⟩, List.mem_of_getElem? (i := 389) (by decide +kernel), List.mem_of_getElem? (i := 1001) (by decide +kernel), List.mem_of_getElem? (i := 1002) (by decide +kernel)⟩
theorem lw_p25 : lw_okq (⟨"LoadSpans$Mender", "findNearRows", "(I)I"⟩, 10) := ⟨⟨by decide +kernel, by decide +kernel⟩, List.mem_of_getElem? (i := 442) (by decide +kernel), List.mem_of_getElem? (i := 1055) (by decide +kernel), List.mem_of_getElem? (i := 1056) (by decide +kernel)⟩
theorem lw_p26 : lw_okq (⟨"LoadSpans$Mender", "movesTo", "(I)I"⟩, 10) := ⟨⟨by decide +kernel, by decide +kernel⟩, List.mem_of_getElem? (i := 442) (by decide +kernel), List.mem_of_getElem? (i := 1063) (by decide +kernel), List.mem_of_getElem? (i := 1064) (by decide +kernel)⟩
theorem lw_p27 : lw_okq (⟨"LoadSpans$Mender", "leastOfRing", "(II)I"⟩, 10) := ⟨⟨by decide +kernel, by decide +kernel⟩, List.mem_of_getElem? (i := 442) (by decide +kernel), List.mem_of_getElem? (i := 1068) (by decide +kernel), List.mem_of_getElem? (i := 1069) (by decide +kernel)⟩
theorem lw_p28 : lw_okq (⟨"LoadSpans$Mender", "lyingOn", "(I)I"⟩, 10) := ⟨⟨by decide +kernel, by decide +kernel⟩, List.mem_of_getElem? (i := 442) (by decide +kernel), List.mem_of_getElem? (i := 1072) (by decide +kernel), List.mem_of_getElem? (i := 1073) (by decide +kernel)⟩
theorem lw_p29 : lw_okq (⟨"LoadSpans$Mender", "emptySpot", "()I"⟩, 10) := ⟨⟨by decide +kernel, by decide +kernel⟩, List.mem_of_getElem? (i := 442) (by decide +kernel), List.mem_of_getElem? (i := 1077) (by decide +kernel), List.mem_of_getElem? (i := 1078) (by decide +kernel)⟩
theorem lw_p30 : lw_okq (⟨"LoadSpans$Mender", "leastMove", "(I)I"⟩, 10) := ⟨⟨by decide +kernel, by decide +kernel⟩, List.mem_of_getElem? (i := 442) (by decide +kernel), List.mem_of_getElem? (i := 1081) (by decide +kernel), List.mem_of_getElem? (i := 1082) (by decide +kernel)⟩
theorem lw_p31 : lw_okq (⟨"LoadSpans$Mender", "leastMoveTo", "(II)I"⟩, 10) := ⟨⟨by decide +kernel, by decide +kernel⟩, List.mem_of_getElem? (i := 442) (by decide +kernel), List.mem_of_getElem? (i := 1085) (by decide +kernel), List.mem_of_getElem? (i := 1086) (by decide +kernel)⟩
def lw_privs_2 : List (MethodName × Nat) := [(⟨"LoadSpans$Reader", "readBulk", "(LLoadSpans$Cargo;)V"⟩, 4), (⟨"LoadSpans", "freshTable", "()LLoadSpans$Table;"⟩, 11), (⟨"LoadSpans$Table", "reckonMoments", "()V"⟩, 15), (⟨"LoadSpans$Table", "weightBehind", "(I)I"⟩, 15), (⟨"LoadSpans$Table", "keepRow", "()V"⟩, 15), (⟨"LoadSpans$Table", "packedPlaces", "()I"⟩, 15), (⟨"LoadSpans$Table", "upTo", "(I)I"⟩, 15), (⟨"LoadSpans$Table", "mayLie", "(II)Z"⟩, 15), (⟨"LoadSpans$Table", "lay", "(III)V"⟩, 15), (⟨"LoadSpans$Mender", "findNearRows", "(I)I"⟩, 10), (⟨"LoadSpans$Mender", "movesTo", "(I)I"⟩, 10), (⟨"LoadSpans$Mender", "leastOfRing", "(II)I"⟩, 10), (⟨"LoadSpans$Mender", "lyingOn", "(I)I"⟩, 10), (⟨"LoadSpans$Mender", "emptySpot", "()I"⟩, 10), (⟨"LoadSpans$Mender", "leastMove", "(I)I"⟩, 10), (⟨"LoadSpans$Mender", "leastMoveTo", "(II)I"⟩, 10)]
theorem lw_r2 : ∀ q ∈ lw_privs_2, lw_okq q := List.forall_mem_cons.mpr ⟨lw_p16, List.forall_mem_cons.mpr ⟨lw_p17, List.forall_mem_cons.mpr ⟨lw_p18, List.forall_mem_cons.mpr ⟨lw_p19, List.forall_mem_cons.mpr ⟨lw_p20, List.forall_mem_cons.mpr ⟨lw_p21, List.forall_mem_cons.mpr ⟨lw_p22, List.forall_mem_cons.mpr ⟨lw_p23, List.forall_mem_cons.mpr ⟨lw_p24, List.forall_mem_cons.mpr ⟨lw_p25, List.forall_mem_cons.mpr ⟨lw_p26, List.forall_mem_cons.mpr ⟨lw_p27, List.forall_mem_cons.mpr ⟨lw_p28, List.forall_mem_cons.mpr ⟨lw_p29, List.forall_mem_cons.mpr ⟨lw_p30, List.forall_mem_cons.mpr ⟨lw_p31, fun _ h => absurd h List.not_mem_nil⟩⟩⟩⟩⟩⟩⟩⟩⟩⟩⟩⟩⟩⟩⟩⟩
theorem lw_p32 : lw_okq (⟨"LoadSpans$Mender", "shutsLastGap", "(II)Z"⟩, 10) := ⟨⟨by decide +kernel, by decide +kernel⟩, List.mem_of_getElem? (i := 442) (by decide +kernel), List.mem_of_getElem? (i := 1089) (by decide +kernel), List.mem_of_getElem? (i := 1090) (by decide +kernel)⟩
theorem lw_p33 : lw_okq (⟨"LoadSpans$Mender", "emptySpots", "()I"⟩, 10) := ⟨⟨by decide +kernel, by decide +kernel⟩, List.mem_of_getElem? (i := 442) (by decide +kernel), List.mem_of_getElem? (i := 1093) (by decide +kernel), List.mem_of_getElem? (i := 1094) (by decide +kernel)⟩
theorem lw_p34 : lw_okq (⟨"LoadSpans$Mender", "doMove", "(II)V"⟩, 10) := ⟨⟨by decide +kernel, by decide +kernel⟩, List.mem_of_getElem? (i := 442) (by decide +kernel), List.mem_of_getElem? (i := 1097) (by decide +kernel), List.mem_of_getElem? (i := 1098) (by decide +kernel)⟩
theorem lw_p35 : lw_okq (⟨"LoadSpans$Mender", "keepNearRows", "(I)V"⟩, 10) := ⟨⟨by decide +kernel, by decide +kernel⟩, List.mem_of_getElem? (i := 442) (by decide +kernel), List.mem_of_getElem? (i := 1101) (by decide +kernel), List.mem_of_getElem? (i := 1102) (by decide +kernel)⟩
theorem lw_p36 : lw_okq (⟨"LoadSpans", "changePlaces", "(II)V"⟩, 11) := ⟨⟨by decide +kernel, by decide +kernel⟩, List.mem_of_getElem? (i := 21) (by decide +kernel), List.mem_of_getElem? (i := 1133) (by decide +kernel), List.mem_of_getElem? (i := 1134) (by decide +kernel)⟩
theorem lw_p37 : lw_okq (⟨"LoadSpans", "imageAt", "(I)LLoadSpans$Image;"⟩, 11) := ⟨⟨by decide +kernel, by decide +kernel⟩, List.mem_of_getElem? (i := 21) (by decide +kernel), List.mem_of_getElem? (i := 1171) (by decide +kernel), List.mem_of_getElem? (i := 1172) (by decide +kernel)⟩
theorem lw_p38 : lw_okq (⟨"LoadSpansModel", "four", "(I)V"⟩, 34) := ⟨⟨by decide +kernel, by decide +kernel⟩, List.mem_of_getElem? (i := 1195) (by decide +kernel), List.mem_of_getElem? (i := 1312) (by decide +kernel), List.mem_of_getElem? (i := 1313) (by decide +kernel)⟩
theorem lw_p39 : lw_okq (⟨"LoadSpansModel", "readsPlane", "()Z"⟩, 34) := ⟨⟨by decide +kernel, by decide +kernel⟩, List.mem_of_getElem? (i := 1195) (by decide +kernel), List.mem_of_getElem? (i := 1324) (by decide +kernel), List.mem_of_getElem? (i := 1325) (by decide +kernel)⟩
theorem lw_p40 : lw_okq (⟨"LoadSpansModel", "begins", "(I)Z"⟩, 34) := ⟨⟨by decide +kernel, by decide +kernel⟩, List.mem_of_getElem? (i := 1195) (by decide +kernel), List.mem_of_getElem? (i := 1328) (by decide +kernel), List.mem_of_getElem? (i := 1329) (by decide +kernel)⟩
theorem lw_p41 : lw_okq (⟨"LoadSpansModel", "bad", "(II)Z"⟩, 34) := ⟨⟨by decide +kernel, by decide +kernel⟩, List.mem_of_getElem? (i := 1195) (by decide +kernel), List.mem_of_getElem? (i := 1332) (by decide +kernel), List.mem_of_getElem? (i := 1333) (by decide +kernel)⟩
theorem lw_p42 : lw_okq (⟨"LoadSpansModel", "next", "()V"⟩, 34) := ⟨⟨by decide +kernel, by decide +kernel⟩, List.mem_of_getElem? (i := 1195) (by decide +kernel), List.mem_of_getElem? (i := 1336) (by decide +kernel), List.mem_of_getElem? (i := 1337) (by decide +kernel)⟩
theorem lw_p43 : lw_okq (⟨"LoadSpansModel", "peek", "()I"⟩, 34) := ⟨⟨by decide +kernel, by decide +kernel⟩, List.mem_of_getElem? (i := 1195) (by decide +kernel), List.mem_of_getElem? (i := 1340) (by decide +kernel), List.mem_of_getElem? (i := 1341) (by decide +kernel)⟩
theorem lw_p44 : lw_okq (⟨"LoadSpansModel", "known", "()I"⟩, 34) := ⟨⟨by decide +kernel, by decide +kernel⟩, List.mem_of_getElem? (i := 1195) (by decide +kernel), List.mem_of_getElem? (i := 1353) (by decide +kernel), List.mem_of_getElem? (i := 1354) (by decide +kernel)⟩
theorem lw_p45 : lw_okq (⟨"LoadSpansModel", "badHere", "(I)Z"⟩, 34) := ⟨⟨by decide +kernel, by decide +kernel⟩, List.mem_of_getElem? (i := 1195) (by decide +kernel), List.mem_of_getElem? (i := 1359) (by decide +kernel), List.mem_of_getElem? (i := 1360) (by decide +kernel)⟩
theorem lw_p46 : lw_okq (⟨"LoadSpansModel", "isTooMany", "(I)Z"⟩, 34) := ⟨⟨by decide +kernel, by decide +kernel⟩, List.mem_of_getElem? (i := 1195) (by decide +kernel), List.mem_of_getElem? (i := 1363) (by decide +kernel), List.mem_of_getElem? (i := 1364) (by decide +kernel)⟩
theorem lw_p47 : lw_okq (⟨"LoadSpansModel", "canJoint", "()Z"⟩, 34) := ⟨⟨by decide +kernel, by decide +kernel⟩, List.mem_of_getElem? (i := 1195) (by decide +kernel), List.mem_of_getElem? (i := 1367) (by decide +kernel), List.mem_of_getElem? (i := 1368) (by decide +kernel)⟩
def lw_privs_3 : List (MethodName × Nat) := [(⟨"LoadSpans$Mender", "shutsLastGap", "(II)Z"⟩, 10), (⟨"LoadSpans$Mender", "emptySpots", "()I"⟩, 10), (⟨"LoadSpans$Mender", "doMove", "(II)V"⟩, 10), (⟨"LoadSpans$Mender", "keepNearRows", "(I)V"⟩, 10), (⟨"LoadSpans", "changePlaces", "(II)V"⟩, 11), (⟨"LoadSpans", "imageAt", "(I)LLoadSpans$Image;"⟩, 11), (⟨"LoadSpansModel", "four", "(I)V"⟩, 34), (⟨"LoadSpansModel", "readsPlane", "()Z"⟩, 34), (⟨"LoadSpansModel", "begins", "(I)Z"⟩, 34), (⟨"LoadSpansModel", "bad", "(II)Z"⟩, 34), (⟨"LoadSpansModel", "next", "()V"⟩, 34), (⟨"LoadSpansModel", "peek", "()I"⟩, 34), (⟨"LoadSpansModel", "known", "()I"⟩, 34), (⟨"LoadSpansModel", "badHere", "(I)Z"⟩, 34), (⟨"LoadSpansModel", "isTooMany", "(I)Z"⟩, 34), (⟨"LoadSpansModel", "canJoint", "()Z"⟩, 34)]
theorem lw_r3 : ∀ q ∈ lw_privs_3, lw_okq q := List.forall_mem_cons.mpr ⟨lw_p32, List.forall_mem_cons.mpr ⟨lw_p33, List.forall_mem_cons.mpr ⟨lw_p34, List.forall_mem_cons.mpr ⟨lw_p35, List.forall_mem_cons.mpr ⟨lw_p36, List.forall_mem_cons.mpr ⟨lw_p37, List.forall_mem_cons.mpr ⟨lw_p38, List.forall_mem_cons.mpr ⟨lw_p39, List.forall_mem_cons.mpr ⟨lw_p40, List.forall_mem_cons.mpr ⟨lw_p41, List.forall_mem_cons.mpr ⟨lw_p42, List.forall_mem_cons.mpr ⟨lw_p43, List.forall_mem_cons.mpr ⟨lw_p44, List.forall_mem_cons.mpr ⟨lw_p45, List.forall_mem_cons.mpr ⟨lw_p46, List.forall_mem_cons.mpr ⟨lw_p47, fun _ h => absurd h List.not_mem_nil⟩⟩⟩⟩⟩⟩⟩⟩⟩⟩⟩⟩⟩⟩⟩⟩
theorem lw_p48 : lw_okq (⟨"LoadSpansModel", "planeLine", "(I)Z"⟩, 34) := ⟨⟨by decide +kernel, by decide +kernel⟩, List.mem_of_getElem? (i := 1195) (by decide +kernel), List.mem_of_getElem? (i := 1371) (by decide +kernel), List.mem_of_getElem? (i := 1372) (by decide +kernel)⟩
theorem lw_p49 : lw_okq (⟨"LoadSpansModel", "takes", "(III)Z"⟩, 34) := ⟨⟨by decide +kernel, by decide +kernel⟩, List.mem_of_getElem? (i := 1195) (by decide +kernel), List.mem_of_getElem? (i := 1375) (by decide +kernel), List.mem_of_getElem? (i := 1376) (by decide +kernel)⟩
theorem lw_p50 : lw_okq (⟨"LoadSpansModel", "number", "(II)Z"⟩, 34) := ⟨⟨by decide +kernel, by decide +kernel⟩, List.mem_of_getElem? (i := 1195) (by decide +kernel), List.mem_of_getElem? (i := 1379) (by decide +kernel), List.mem_of_getElem? (i := 1380) (by decide +kernel)⟩
theorem lw_p51 : lw_okq (⟨"LoadSpansModel", "spanLine", "()Z"⟩, 34) := ⟨⟨by decide +kernel, by decide +kernel⟩, List.mem_of_getElem? (i := 1195) (by decide +kernel), List.mem_of_getElem? (i := 1383) (by decide +kernel), List.mem_of_getElem? (i := 1384) (by decide +kernel)⟩
theorem lw_p52 : lw_okq (⟨"LoadSpansModel", "holdLine", "()Z"⟩, 34) := ⟨⟨by decide +kernel, by decide +kernel⟩, List.mem_of_getElem? (i := 1195) (by decide +kernel), List.mem_of_getElem? (i := 1387) (by decide +kernel), List.mem_of_getElem? (i := 1388) (by decide +kernel)⟩
theorem lw_p53 : lw_okq (⟨"LoadSpansModel", "takesName", "(I)Z"⟩, 34) := ⟨⟨by decide +kernel, by decide +kernel⟩, List.mem_of_getElem? (i := 1195) (by decide +kernel), List.mem_of_getElem? (i := 1391) (by decide +kernel), List.mem_of_getElem? (i := 1392) (by decide +kernel)⟩
theorem lw_p54 : lw_okq (⟨"LoadSpansModel", "isName", "()Z"⟩, 34) := ⟨⟨by decide +kernel, by decide +kernel⟩, List.mem_of_getElem? (i := 1195) (by decide +kernel), List.mem_of_getElem? (i := 1395) (by decide +kernel), List.mem_of_getElem? (i := 1396) (by decide +kernel)⟩
theorem lw_p55 : lw_okq (⟨"LoadSpansModel", "named0", "(I)I"⟩, 34) := ⟨⟨by decide +kernel, by decide +kernel⟩, List.mem_of_getElem? (i := 1195) (by decide +kernel), List.mem_of_getElem? (i := 1399) (by decide +kernel), List.mem_of_getElem? (i := 1400) (by decide +kernel)⟩
theorem lw_p56 : lw_okq (⟨"LoadSpansModel", "isNamed", "(I)Z"⟩, 34) := ⟨⟨by decide +kernel, by decide +kernel⟩, List.mem_of_getElem? (i := 1195) (by decide +kernel), List.mem_of_getElem? (i := 1403) (by decide +kernel), List.mem_of_getElem? (i := 1404) (by decide +kernel)⟩
theorem lw_p57 : lw_okq (⟨"LoadSpansModel", "spotLine", "()Z"⟩, 34) := ⟨⟨by decide +kernel, by decide +kernel⟩, List.mem_of_getElem? (i := 1195) (by decide +kernel), List.mem_of_getElem? (i := 1407) (by decide +kernel), List.mem_of_getElem? (i := 1408) (by decide +kernel)⟩
theorem lw_p58 : lw_okq (⟨"LoadSpansModel", "jointLine", "()Z"⟩, 34) := ⟨⟨by decide +kernel, by decide +kernel⟩, List.mem_of_getElem? (i := 1195) (by decide +kernel), List.mem_of_getElem? (i := 1411) (by decide +kernel), List.mem_of_getElem? (i := 1412) (by decide +kernel)⟩
theorem lw_p59 : lw_okq (⟨"LoadSpansModel", "binLine", "()Z"⟩, 34) := ⟨⟨by decide +kernel, by decide +kernel⟩, List.mem_of_getElem? (i := 1195) (by decide +kernel), List.mem_of_getElem? (i := 1415) (by decide +kernel), List.mem_of_getElem? (i := 1416) (by decide +kernel)⟩
theorem lw_p60 : lw_okq (⟨"LoadSpansModel", "tankLine", "()Z"⟩, 34) := ⟨⟨by decide +kernel, by decide +kernel⟩, List.mem_of_getElem? (i := 1195) (by decide +kernel), List.mem_of_getElem? (i := 1419) (by decide +kernel), List.mem_of_getElem? (i := 1420) (by decide +kernel)⟩
theorem lw_p61 : lw_okq (⟨"LoadSpansModel", "burnLine", "()Z"⟩, 34) := ⟨⟨by decide +kernel, by decide +kernel⟩, List.mem_of_getElem? (i := 1195) (by decide +kernel), List.mem_of_getElem? (i := 1423) (by decide +kernel), List.mem_of_getElem? (i := 1424) (by decide +kernel)⟩
theorem lw_p62 : lw_okq (⟨"LoadSpansModel", "settles", "()V"⟩, 34) := ⟨⟨by decide +kernel, by decide +kernel⟩, List.mem_of_getElem? (i := 1195) (by decide +kernel), List.mem_of_getElem? (i := 1427) (by decide +kernel), List.mem_of_getElem? (i := 1428) (by decide +kernel)⟩
theorem lw_p63 : lw_okq (⟨"LoadSpansModel", "readsCargo", "()Z"⟩, 34) := ⟨⟨by decide +kernel, by decide +kernel⟩, List.mem_of_getElem? (i := 1195) (by decide +kernel), List.mem_of_getElem? (i := 1438) (by decide +kernel), List.mem_of_getElem? (i := 1439) (by decide +kernel)⟩
def lw_privs_4 : List (MethodName × Nat) := [(⟨"LoadSpansModel", "planeLine", "(I)Z"⟩, 34), (⟨"LoadSpansModel", "takes", "(III)Z"⟩, 34), (⟨"LoadSpansModel", "number", "(II)Z"⟩, 34), (⟨"LoadSpansModel", "spanLine", "()Z"⟩, 34), (⟨"LoadSpansModel", "holdLine", "()Z"⟩, 34), (⟨"LoadSpansModel", "takesName", "(I)Z"⟩, 34), (⟨"LoadSpansModel", "isName", "()Z"⟩, 34), (⟨"LoadSpansModel", "named0", "(I)I"⟩, 34), (⟨"LoadSpansModel", "isNamed", "(I)Z"⟩, 34), (⟨"LoadSpansModel", "spotLine", "()Z"⟩, 34), (⟨"LoadSpansModel", "jointLine", "()Z"⟩, 34), (⟨"LoadSpansModel", "binLine", "()Z"⟩, 34), (⟨"LoadSpansModel", "tankLine", "()Z"⟩, 34), (⟨"LoadSpansModel", "burnLine", "()Z"⟩, 34), (⟨"LoadSpansModel", "settles", "()V"⟩, 34), (⟨"LoadSpansModel", "readsCargo", "()Z"⟩, 34)]
theorem lw_r4 : ∀ q ∈ lw_privs_4, lw_okq q := List.forall_mem_cons.mpr ⟨lw_p48, List.forall_mem_cons.mpr ⟨lw_p49, List.forall_mem_cons.mpr ⟨lw_p50, List.forall_mem_cons.mpr ⟨lw_p51, List.forall_mem_cons.mpr ⟨lw_p52, List.forall_mem_cons.mpr ⟨lw_p53, List.forall_mem_cons.mpr ⟨lw_p54, List.forall_mem_cons.mpr ⟨lw_p55, List.forall_mem_cons.mpr ⟨lw_p56, List.forall_mem_cons.mpr ⟨lw_p57, List.forall_mem_cons.mpr ⟨lw_p58, List.forall_mem_cons.mpr ⟨lw_p59, List.forall_mem_cons.mpr ⟨lw_p60, List.forall_mem_cons.mpr ⟨lw_p61, List.forall_mem_cons.mpr ⟨lw_p62, List.forall_mem_cons.mpr ⟨lw_p63, fun _ h => absurd h List.not_mem_nil⟩⟩⟩⟩⟩⟩⟩⟩⟩⟩⟩⟩⟩⟩⟩⟩
theorem lw_p64 : lw_okq (⟨"LoadSpansModel", "palletLine", "()Z"⟩, 34) := ⟨⟨by decide +kernel, by decide +kernel⟩, List.mem_of_getElem? (i := 1195) (by decide +kernel), List.mem_of_getElem? (i := 1442) (by decide +kernel), List.mem_of_getElem? (i := 1443) (by decide +kernel)⟩
theorem lw_p65 : lw_okq (⟨"LoadSpansModel", "bulkLine", "()Z"⟩, 34) := ⟨⟨by decide +kernel, by decide +kernel⟩, List.mem_of_getElem? (i := 1195) (by decide +kernel), List.mem_of_getElem? (i := 1449) (by decide +kernel), List.mem_of_getElem? (i := 1450) (by decide +kernel)⟩
theorem lw_p66 : lw_okq (⟨"LoadSpansModel", "isPallet", "(I)Z"⟩, 34) := ⟨⟨by decide +kernel, by decide +kernel⟩, List.mem_of_getElem? (i := 1195) (by decide +kernel), List.mem_of_getElem? (i := 1465) (by decide +kernel), List.mem_of_getElem? (i := 1466) (by decide +kernel)⟩
theorem lw_p67 : lw_okq (⟨"LoadSpansModel", "isSpot", "(I)Z"⟩, 34) := ⟨⟨by decide +kernel, by decide +kernel⟩, List.mem_of_getElem? (i := 1195) (by decide +kernel), List.mem_of_getElem? (i := 1477) (by decide +kernel), List.mem_of_getElem? (i := 1478) (by decide +kernel)⟩
theorem lw_p68 : lw_okq (⟨"LoadSpansModel", "on", "(I)I"⟩, 34) := ⟨⟨by decide +kernel, by decide +kernel⟩, List.mem_of_getElem? (i := 1195) (by decide +kernel), List.mem_of_getElem? (i := 1481) (by decide +kernel), List.mem_of_getElem? (i := 1482) (by decide +kernel)⟩
theorem lw_p69 : lw_okq (⟨"LoadSpansModel", "wayOf", "(I)I"⟩, 34) := ⟨⟨by decide +kernel, by decide +kernel⟩, List.mem_of_getElem? (i := 1195) (by decide +kernel), List.mem_of_getElem? (i := 1485) (by decide +kernel), List.mem_of_getElem? (i := 1486) (by decide +kernel)⟩
theorem lw_p70 : lw_okq (⟨"LoadSpansModel", "inHold", "(I)I"⟩, 34) := ⟨⟨by decide +kernel, by decide +kernel⟩, List.mem_of_getElem? (i := 1195) (by decide +kernel), List.mem_of_getElem? (i := 1493) (by decide +kernel), List.mem_of_getElem? (i := 1494) (by decide +kernel)⟩
theorem lw_p71 : lw_okq (⟨"LoadSpansModel", "weightOn", "(I)I"⟩, 34) := ⟨⟨by decide +kernel, by decide +kernel⟩, List.mem_of_getElem? (i := 1195) (by decide +kernel), List.mem_of_getElem? (i := 1497) (by decide +kernel), List.mem_of_getElem? (i := 1498) (by decide +kernel)⟩
theorem lw_p72 : lw_okq (⟨"LoadSpansModel", "sets0", "(II)I"⟩, 34) := ⟨⟨by decide +kernel, by decide +kernel⟩, List.mem_of_getElem? (i := 1195) (by decide +kernel), List.mem_of_getElem? (i := 1517) (by decide +kernel), List.mem_of_getElem? (i := 1518) (by decide +kernel)⟩
theorem lw_p73 : lw_okq (⟨"LoadSpansModel", "keeps", "()V"⟩, 34) := ⟨⟨by decide +kernel, by decide +kernel⟩, List.mem_of_getElem? (i := 1195) (by decide +kernel), List.mem_of_getElem? (i := 1521) (by decide +kernel), List.mem_of_getElem? (i := 1522) (by decide +kernel)⟩
theorem lw_p74 : lw_okq (⟨"LoadSpansModel", "goes", "(I)V"⟩, 34) := ⟨⟨by decide +kernel, by decide +kernel⟩, List.mem_of_getElem? (i := 1195) (by decide +kernel), List.mem_of_getElem? (i := 1545) (by decide +kernel), List.mem_of_getElem? (i := 1546) (by decide +kernel)⟩
theorem lw_p75 : lw_okq (⟨"LoadSpansModel", "movesPallet", "([III)V"⟩, 34) := ⟨⟨by decide +kernel, by decide +kernel⟩, List.mem_of_getElem? (i := 1195) (by decide +kernel), List.mem_of_getElem? (i := 1549) (by decide +kernel), List.mem_of_getElem? (i := 1550) (by decide +kernel)⟩
theorem lw_p76 : lw_okq (⟨"LoadSpansModel", "broken", "()I"⟩, 34) := ⟨⟨by decide +kernel, by decide +kernel⟩, List.mem_of_getElem? (i := 1195) (by decide +kernel), List.mem_of_getElem? (i := 1561) (by decide +kernel), List.mem_of_getElem? (i := 1562) (by decide +kernel)⟩
theorem lw_p77 : lw_okq (⟨"LoadSpansModel", "places", "(I)I"⟩, 34) := ⟨⟨by decide +kernel, by decide +kernel⟩, List.mem_of_getElem? (i := 1195) (by decide +kernel), List.mem_of_getElem? (i := 1565) (by decide +kernel), List.mem_of_getElem? (i := 1566) (by decide +kernel)⟩
theorem lw_p78 : lw_okq (⟨"LoadSpansModel", "isBroken", "(II)Z"⟩, 34) := ⟨⟨by decide +kernel, by decide +kernel⟩, List.mem_of_getElem? (i := 1195) (by decide +kernel), List.mem_of_getElem? (i := 1569) (by decide +kernel), List.mem_of_getElem? (i := 1570) (by decide +kernel)⟩
theorem lw_p79 : lw_okq (⟨"LoadSpansModel", "blockers", "(I)I"⟩, 34) := ⟨⟨by decide +kernel, by decide +kernel⟩, List.mem_of_getElem? (i := 1195) (by decide +kernel), List.mem_of_getElem? (i := 1573) (by decide +kernel), List.mem_of_getElem? (i := 1574) (by decide +kernel)⟩
def lw_privs_5 : List (MethodName × Nat) := [(⟨"LoadSpansModel", "palletLine", "()Z"⟩, 34), (⟨"LoadSpansModel", "bulkLine", "()Z"⟩, 34), (⟨"LoadSpansModel", "isPallet", "(I)Z"⟩, 34), (⟨"LoadSpansModel", "isSpot", "(I)Z"⟩, 34), (⟨"LoadSpansModel", "on", "(I)I"⟩, 34), (⟨"LoadSpansModel", "wayOf", "(I)I"⟩, 34), (⟨"LoadSpansModel", "inHold", "(I)I"⟩, 34), (⟨"LoadSpansModel", "weightOn", "(I)I"⟩, 34), (⟨"LoadSpansModel", "sets0", "(II)I"⟩, 34), (⟨"LoadSpansModel", "keeps", "()V"⟩, 34), (⟨"LoadSpansModel", "goes", "(I)V"⟩, 34), (⟨"LoadSpansModel", "movesPallet", "([III)V"⟩, 34), (⟨"LoadSpansModel", "broken", "()I"⟩, 34), (⟨"LoadSpansModel", "places", "(I)I"⟩, 34), (⟨"LoadSpansModel", "isBroken", "(II)Z"⟩, 34), (⟨"LoadSpansModel", "blockers", "(I)I"⟩, 34)]
theorem lw_r5 : ∀ q ∈ lw_privs_5, lw_okq q := List.forall_mem_cons.mpr ⟨lw_p64, List.forall_mem_cons.mpr ⟨lw_p65, List.forall_mem_cons.mpr ⟨lw_p66, List.forall_mem_cons.mpr ⟨lw_p67, List.forall_mem_cons.mpr ⟨lw_p68, List.forall_mem_cons.mpr ⟨lw_p69, List.forall_mem_cons.mpr ⟨lw_p70, List.forall_mem_cons.mpr ⟨lw_p71, List.forall_mem_cons.mpr ⟨lw_p72, List.forall_mem_cons.mpr ⟨lw_p73, List.forall_mem_cons.mpr ⟨lw_p74, List.forall_mem_cons.mpr ⟨lw_p75, List.forall_mem_cons.mpr ⟨lw_p76, List.forall_mem_cons.mpr ⟨lw_p77, List.forall_mem_cons.mpr ⟨lw_p78, List.forall_mem_cons.mpr ⟨lw_p79, fun _ h => absurd h List.not_mem_nil⟩⟩⟩⟩⟩⟩⟩⟩⟩⟩⟩⟩⟩⟩⟩⟩
theorem lw_p80 : lw_okq (⟨"LoadSpansModel", "isInSpan", "(I)Z"⟩, 34) := ⟨⟨by decide +kernel, by decide +kernel⟩, List.mem_of_getElem? (i := 1195) (by decide +kernel), List.mem_of_getElem? (i := 1580) (by decide +kernel), List.mem_of_getElem? (i := 1581) (by decide +kernel)⟩
theorem lw_p81 : lw_okq (⟨"LoadSpansModel", "stageAt", "(I)V"⟩, 34) := ⟨⟨by decide +kernel, by decide +kernel⟩, List.mem_of_getElem? (i := 1195) (by decide +kernel), List.mem_of_getElem? (i := 1584) (by decide +kernel), List.mem_of_getElem? (i := 1585) (by decide +kernel)⟩
theorem lw_p82 : lw_okq (⟨"LoadSpansModel", "adds", "(II)V"⟩, 34) := ⟨⟨by decide +kernel, by decide +kernel⟩, List.mem_of_getElem? (i := 1195) (by decide +kernel), List.mem_of_getElem? (i := 1588) (by decide +kernel), List.mem_of_getElem? (i := 1589) (by decide +kernel)⟩
theorem lw_p83 : lw_okq (⟨"LoadSpansModel", "changesPlaces", "(II)V"⟩, 34) := ⟨⟨by decide +kernel, by decide +kernel⟩, List.mem_of_getElem? (i := 1195) (by decide +kernel), List.mem_of_getElem? (i := 1613) (by decide +kernel), List.mem_of_getElem? (i := 1614) (by decide +kernel)⟩
theorem lw_p84 : lw_okq (⟨"LoadSpansModel", "laysGood", "()V"⟩, 34) := ⟨⟨by decide +kernel, by decide +kernel⟩, List.mem_of_getElem? (i := 1195) (by decide +kernel), List.mem_of_getElem? (i := 1621) (by decide +kernel), List.mem_of_getElem? (i := 1622) (by decide +kernel)⟩
theorem lw_p85 : lw_okq (⟨"LoadSpansModel", "keepsLaid", "()V"⟩, 34) := ⟨⟨by decide +kernel, by decide +kernel⟩, List.mem_of_getElem? (i := 1195) (by decide +kernel), List.mem_of_getElem? (i := 1625) (by decide +kernel), List.mem_of_getElem? (i := 1626) (by decide +kernel)⟩
theorem lw_p86 : lw_okq (⟨"LoadSpansModel", "codes", "()I"⟩, 34) := ⟨⟨by decide +kernel, by decide +kernel⟩, List.mem_of_getElem? (i := 1195) (by decide +kernel), List.mem_of_getElem? (i := 1629) (by decide +kernel), List.mem_of_getElem? (i := 1630) (by decide +kernel)⟩
theorem lw_p87 : lw_okq (⟨"LoadSpansModel", "lays", "(I)V"⟩, 34) := ⟨⟨by decide +kernel, by decide +kernel⟩, List.mem_of_getElem? (i := 1195) (by decide +kernel), List.mem_of_getElem? (i := 1633) (by decide +kernel), List.mem_of_getElem? (i := 1634) (by decide +kernel)⟩
theorem lw_p88 : lw_okq (⟨"LoadSpansModel", "isWhole", "()Z"⟩, 34) := ⟨⟨by decide +kernel, by decide +kernel⟩, List.mem_of_getElem? (i := 1195) (by decide +kernel), List.mem_of_getElem? (i := 1637) (by decide +kernel), List.mem_of_getElem? (i := 1638) (by decide +kernel)⟩
theorem lw_p89 : lw_okq (⟨"LoadSpansModel", "pours", "(I)Z"⟩, 34) := ⟨⟨by decide +kernel, by decide +kernel⟩, List.mem_of_getElem? (i := 1195) (by decide +kernel), List.mem_of_getElem? (i := 1641) (by decide +kernel), List.mem_of_getElem? (i := 1642) (by decide +kernel)⟩
theorem lw_p90 : lw_okq (⟨"LoadSpansModel", "laysBack", "()V"⟩, 34) := ⟨⟨by decide +kernel, by decide +kernel⟩, List.mem_of_getElem? (i := 1195) (by decide +kernel), List.mem_of_getElem? (i := 1645) (by decide +kernel), List.mem_of_getElem? (i := 1646) (by decide +kernel)⟩
theorem lw_p91 : lw_okq (⟨"LoadSpansModel", "isGood", "(I)Z"⟩, 34) := ⟨⟨by decide +kernel, by decide +kernel⟩, List.mem_of_getElem? (i := 1195) (by decide +kernel), List.mem_of_getElem? (i := 1653) (by decide +kernel), List.mem_of_getElem? (i := 1654) (by decide +kernel)⟩
theorem lw_p92 : lw_okq (⟨"LoadSpansModel", "spotBy", "(II)I"⟩, 34) := ⟨⟨by decide +kernel, by decide +kernel⟩, List.mem_of_getElem? (i := 1195) (by decide +kernel), List.mem_of_getElem? (i := 1657) (by decide +kernel), List.mem_of_getElem? (i := 1658) (by decide +kernel)⟩
theorem lw_p93 : lw_okq (⟨"LoadSpansModel", "mends", "()Z"⟩, 34) := ⟨⟨by decide +kernel, by decide +kernel⟩, List.mem_of_getElem? (i := 1195) (by decide +kernel), List.mem_of_getElem? (i := 1673) (by decide +kernel), List.mem_of_getElem? (i := 1674) (by decide +kernel)⟩
theorem lw_p94 : lw_okq (⟨"LoadSpansModel", "starts", "()V"⟩, 34) := ⟨⟨by decide +kernel, by decide +kernel⟩, List.mem_of_getElem? (i := 1195) (by decide +kernel), List.mem_of_getElem? (i := 1677) (by decide +kernel), List.mem_of_getElem? (i := 1678) (by decide +kernel)⟩
theorem lw_p95 : lw_okq (⟨"LoadSpansModel", "code", "()I"⟩, 34) := ⟨⟨by decide +kernel, by decide +kernel⟩, List.mem_of_getElem? (i := 1195) (by decide +kernel), List.mem_of_getElem? (i := 1681) (by decide +kernel), List.mem_of_getElem? (i := 1682) (by decide +kernel)⟩
def lw_privs_6 : List (MethodName × Nat) := [(⟨"LoadSpansModel", "isInSpan", "(I)Z"⟩, 34), (⟨"LoadSpansModel", "stageAt", "(I)V"⟩, 34), (⟨"LoadSpansModel", "adds", "(II)V"⟩, 34), (⟨"LoadSpansModel", "changesPlaces", "(II)V"⟩, 34), (⟨"LoadSpansModel", "laysGood", "()V"⟩, 34), (⟨"LoadSpansModel", "keepsLaid", "()V"⟩, 34), (⟨"LoadSpansModel", "codes", "()I"⟩, 34), (⟨"LoadSpansModel", "lays", "(I)V"⟩, 34), (⟨"LoadSpansModel", "isWhole", "()Z"⟩, 34), (⟨"LoadSpansModel", "pours", "(I)Z"⟩, 34), (⟨"LoadSpansModel", "laysBack", "()V"⟩, 34), (⟨"LoadSpansModel", "isGood", "(I)Z"⟩, 34), (⟨"LoadSpansModel", "spotBy", "(II)I"⟩, 34), (⟨"LoadSpansModel", "mends", "()Z"⟩, 34), (⟨"LoadSpansModel", "starts", "()V"⟩, 34), (⟨"LoadSpansModel", "code", "()I"⟩, 34)]
theorem lw_r6 : ∀ q ∈ lw_privs_6, lw_okq q := List.forall_mem_cons.mpr ⟨lw_p80, List.forall_mem_cons.mpr ⟨lw_p81, List.forall_mem_cons.mpr ⟨lw_p82, List.forall_mem_cons.mpr ⟨lw_p83, List.forall_mem_cons.mpr ⟨lw_p84, List.forall_mem_cons.mpr ⟨lw_p85, List.forall_mem_cons.mpr ⟨lw_p86, List.forall_mem_cons.mpr ⟨lw_p87, List.forall_mem_cons.mpr ⟨lw_p88, List.forall_mem_cons.mpr ⟨lw_p89, List.forall_mem_cons.mpr ⟨lw_p90, List.forall_mem_cons.mpr ⟨lw_p91, List.forall_mem_cons.mpr ⟨lw_p92, List.forall_mem_cons.mpr ⟨lw_p93, List.forall_mem_cons.mpr ⟨lw_p94, List.forall_mem_cons.mpr ⟨lw_p95, fun _ h => absurd h List.not_mem_nil⟩⟩⟩⟩⟩⟩⟩⟩⟩⟩⟩⟩⟩⟩⟩⟩
theorem lw_p96 : lw_okq (⟨"LoadSpansModel", "waits", "(II)V"⟩, 34) := ⟨⟨by decide +kernel, by decide +kernel⟩, List.mem_of_getElem? (i := 1195) (by decide +kernel), List.mem_of_getElem? (i := 1685) (by decide +kernel), List.mem_of_getElem? (i := 1686) (by decide +kernel)⟩
theorem lw_p97 : lw_okq (⟨"LoadSpansModel", "moves", "(I)V"⟩, 34) := ⟨⟨by decide +kernel, by decide +kernel⟩, List.mem_of_getElem? (i := 1195) (by decide +kernel), List.mem_of_getElem? (i := 1689) (by decide +kernel), List.mem_of_getElem? (i := 1690) (by decide +kernel)⟩
theorem lw_p98 : lw_okq (⟨"LoadSpansModel", "handles", "(I)V"⟩, 34) := ⟨⟨by decide +kernel, by decide +kernel⟩, List.mem_of_getElem? (i := 1195) (by decide +kernel), List.mem_of_getElem? (i := 1705) (by decide +kernel), List.mem_of_getElem? (i := 1706) (by decide +kernel)⟩
theorem lw_p99 : lw_okq (⟨"LoadSpansModel", "taken", "()I"⟩, 34) := ⟨⟨by decide +kernel, by decide +kernel⟩, List.mem_of_getElem? (i := 1195) (by decide +kernel), List.mem_of_getElem? (i := 1709) (by decide +kernel), List.mem_of_getElem? (i := 1710) (by decide +kernel)⟩
def lw_privs_7 : List (MethodName × Nat) := [(⟨"LoadSpansModel", "waits", "(II)V"⟩, 34), (⟨"LoadSpansModel", "moves", "(I)V"⟩, 34), (⟨"LoadSpansModel", "handles", "(I)V"⟩, 34), (⟨"LoadSpansModel", "taken", "()I"⟩, 34)]
theorem lw_r7 : ∀ q ∈ lw_privs_7, lw_okq q := List.forall_mem_cons.mpr ⟨lw_p96, List.forall_mem_cons.mpr ⟨lw_p97, List.forall_mem_cons.mpr ⟨lw_p98, List.forall_mem_cons.mpr ⟨lw_p99, fun _ h => absurd h List.not_mem_nil⟩⟩⟩⟩
def lw_privs : List (MethodName × Nat) := lw_privs_1 ++ (lw_privs_2 ++ (lw_privs_3 ++ (lw_privs_4 ++ (lw_privs_5 ++ (lw_privs_6 ++ (lw_privs_7))))))
def lw_tbl : List Cond := k2_sels lw_privs ++ tables_1
theorem lw_privs_ok : ∀ q ∈ lw_privs, lw_okq q := by
  show ∀ q ∈ lw_privs_1 ++ (lw_privs_2 ++ (lw_privs_3 ++ (lw_privs_4 ++ (lw_privs_5 ++ (lw_privs_6 ++ (lw_privs_7)))))), lw_okq q
  exact List.forall_mem_append.mpr ⟨lw_r1, List.forall_mem_append.mpr ⟨lw_r2, List.forall_mem_append.mpr ⟨lw_r3, List.forall_mem_append.mpr ⟨lw_r4, List.forall_mem_append.mpr ⟨lw_r5, List.forall_mem_append.mpr ⟨lw_r6, lw_r7⟩⟩⟩⟩⟩⟩
def RX0 : String := "LoadSpans$Cargo"
def TX0 : u_T := fun k => match k with
  | 0 => ("LoadSpans$Cargo", "size", "I", false)
  | 1 => ("LoadSpans$Cargo", "name", "[J", true)
  | 2 => ("LoadSpans$Cargo", "weight", "[I", true)
  | 3 => ("LoadSpans$Cargo", "stop", "[I", true)
  | 4 => ("LoadSpans$Cargo", "spot", "[I", true)
  | 5 => ("LoadSpans$Cargo", "bulk", "I", false)
  | _ => ("LoadSpans$Cargo", "inBin", "[I", true)
def tyX0 : Nat → FieldType := fun k => match k with
  | 0 => .int
  | 1 => .array .long
  | 2 => .array .int
  | 3 => .array .int
  | 4 => .array .int
  | 5 => .int
  | _ => .array .int
abbrev wsX00 : List Cond := u_ws RX0 TX0 7
theorem nmX0 : ∀ a, a < 7 → ∀ b, b < 7 → a ≠ b → (TX0 a).2.1 ≠ (TX0 b).2.1 := by decide +kernel
theorem tyX0_ok : ∀ k, k < 7 → parseFieldDescriptor (TX0 k).2.2.1 = some (tyX0 k) := by decide +kernel
abbrev cX0_init : ByteArray := prog_2_method_1_code
def yX0_init : MethodName := ⟨RX0, "<init>", "()V"⟩
abbrev cX0_clear : ByteArray := prog_2_method_2_code
def yX0_clear : MethodName := ⟨RX0, "clear", "()V"⟩
abbrev cX0_clearPlaces : ByteArray := prog_2_method_3_code
def yX0_clearPlaces : MethodName := ⟨RX0, "clearPlaces", "()V"⟩
abbrev cX0_copyFrom : ByteArray := prog_2_method_4_code
def yX0_copyFrom : MethodName := ⟨RX0, "copyFrom", "(LLoadSpans$Cargo;)V"⟩
abbrev cX0_has : ByteArray := prog_2_method_5_code
def yX0_has : MethodName := ⟨RX0, "has", "(I)Z"⟩
abbrev cX0_called : ByteArray := prog_2_method_6_code
def yX0_called : MethodName := ⟨RX0, "called", "(J)I"⟩
abbrev cX0_lyingOn : ByteArray := prog_2_method_7_code
def yX0_lyingOn : MethodName := ⟨RX0, "lyingOn", "(I)I"⟩
abbrev cX0_weightOn : ByteArray := prog_2_method_8_code
def yX0_weightOn : MethodName := ⟨RX0, "weightOn", "(I)I"⟩
abbrev cX0_outCount : ByteArray := prog_2_method_9_code
def yX0_outCount : MethodName := ⟨RX0, "outCount", "()I"⟩
abbrev cX0_inBins : ByteArray := prog_2_method_10_code
def yX0_inBins : MethodName := ⟨RX0, "inBins", "()I"⟩
abbrev cX0_add : ByteArray := prog_2_method_11_code
def yX0_add : MethodName := ⟨RX0, "add", "(JII)V"⟩
abbrev cX0_moveLast : ByteArray := prog_2_method_12_code
def yX0_moveLast : MethodName := ⟨RX0, "moveLast", "(I)V"⟩
abbrev cX0_write : ByteArray := prog_2_method_13_code
def yX0_write : MethodName := ⟨RX0, "write", "(IJIII)V"⟩
def RX1 : String := "LoadSpans$Floor"
def TX1 : u_T := fun k => match k with
  | 0 => ("LoadSpans$Floor", "holdCount", "I", false)
  | 1 => ("LoadSpans$Floor", "holdName", "[J", true)
  | 2 => ("LoadSpans$Floor", "holdLimit", "[I", true)
  | 3 => ("LoadSpans$Floor", "holdFront", "[Z", true)
  | 4 => ("LoadSpans$Floor", "spotCount", "I", false)
  | 5 => ("LoadSpans$Floor", "spotHold", "[I", true)
  | 6 => ("LoadSpans$Floor", "spotArm", "[I", true)
  | 7 => ("LoadSpans$Floor", "spotLimit", "[I", true)
  | 8 => ("LoadSpans$Floor", "spotWay", "[I", true)
  | 9 => ("LoadSpans$Floor", "jointCount", "I", false)
  | 10 => ("LoadSpans$Floor", "jointSpot", "[I", true)
  | _ => ("LoadSpans$Floor", "jointLimit", "[I", true)
def tyX1 : Nat → FieldType := fun k => match k with
  | 0 => .int
  | 1 => .array .long
  | 2 => .array .int
  | 3 => .array .boolean
  | 4 => .int
  | 5 => .array .int
  | 6 => .array .int
  | 7 => .array .int
  | 8 => .array .int
  | 9 => .int
  | 10 => .array .int
  | _ => .array .int
abbrev wsX10 : List Cond := u_ws RX1 TX1 12
theorem nmX1 : ∀ a, a < 12 → ∀ b, b < 12 → a ≠ b → (TX1 a).2.1 ≠ (TX1 b).2.1 := by decide +kernel
theorem tyX1_ok : ∀ k, k < 12 → parseFieldDescriptor (TX1 k).2.2.1 = some (tyX1 k) := by decide +kernel
abbrev cX1_init : ByteArray := prog_3_method_1_code
def yX1_init : MethodName := ⟨RX1, "<init>", "()V"⟩
abbrev cX1_clear : ByteArray := prog_3_method_2_code
def yX1_clear : MethodName := ⟨RX1, "clear", "()V"⟩
abbrev cX1_copyFrom : ByteArray := prog_3_method_3_code
def yX1_copyFrom : MethodName := ⟨RX1, "copyFrom", "(LLoadSpans$Floor;)V"⟩
abbrev cX1_hasHold : ByteArray := prog_3_method_4_code
def yX1_hasHold : MethodName := ⟨RX1, "hasHold", "(I)Z"⟩
abbrev cX1_hasSpot : ByteArray := prog_3_method_5_code
def yX1_hasSpot : MethodName := ⟨RX1, "hasSpot", "(I)Z"⟩
abbrev cX1_isHoldCalled : ByteArray := prog_3_method_6_code
def yX1_isHoldCalled : MethodName := ⟨RX1, "isHoldCalled", "(J)Z"⟩
abbrev cX1_addHold : ByteArray := prog_3_method_7_code
def yX1_addHold : MethodName := ⟨RX1, "addHold", "(JIZ)V"⟩
abbrev cX1_addSpot : ByteArray := prog_3_method_8_code
def yX1_addSpot : MethodName := ⟨RX1, "addSpot", "(II)V"⟩
abbrev cX1_takesJoint : ByteArray := prog_3_method_9_code
def yX1_takesJoint : MethodName := ⟨RX1, "takesJoint", "()Z"⟩
abbrev cX1_addJoint : ByteArray := prog_3_method_10_code
def yX1_addJoint : MethodName := ⟨RX1, "addJoint", "(I)V"⟩
abbrev cX1_isOnWay : ByteArray := prog_3_method_11_code
def yX1_isOnWay : MethodName := ⟨RX1, "isOnWay", "(II)Z"⟩
def RX2 : String := "LoadSpans$History"
def TX2 : u_T := fun k => match k with
  | 0 => ("LoadSpans$History", "kept", "[LLoadSpans$Cargo;", true)
  | 1 => ("LoadSpans$History", "next", "I", false)
  | _ => ("LoadSpans$History", "size", "I", false)
def tyX2 : Nat → FieldType := fun k => match k with
  | 0 => .array (.object "LoadSpans$Cargo")
  | 1 => .int
  | _ => .int
abbrev wsX20 : List Cond := u_ws RX2 TX2 3
theorem nmX2 : ∀ a, a < 3 → ∀ b, b < 3 → a ≠ b → (TX2 a).2.1 ≠ (TX2 b).2.1 := by decide +kernel
theorem tyX2_ok : ∀ k, k < 3 → parseFieldDescriptor (TX2 k).2.2.1 = some (tyX2 k) := by decide +kernel
abbrev cX2_init : ByteArray := prog_4_method_1_code
def yX2_init : MethodName := ⟨RX2, "<init>", "()V"⟩
abbrev cX2_keep : ByteArray := prog_4_method_2_code
def yX2_keep : MethodName := ⟨RX2, "keep", "(LLoadSpans$Cargo;)V"⟩
abbrev cX2_bringBack : ByteArray := prog_4_method_3_code
def yX2_bringBack : MethodName := ⟨RX2, "bringBack", "(LLoadSpans$Cargo;)V"⟩
def RX3 : String := "LoadSpans$Image"
def TX3 : u_T := fun k => match k with
  | 0 => ("LoadSpans$Image", "filled", "Z", false)
  | 1 => ("LoadSpans$Image", "plane", "LLoadSpans$Plane;", true)
  | _ => ("LoadSpans$Image", "cargo", "LLoadSpans$Cargo;", true)
def tyX3 : Nat → FieldType := fun k => match k with
  | 0 => .boolean
  | 1 => .object "LoadSpans$Plane"
  | _ => .object "LoadSpans$Cargo"
abbrev wsX30 : List Cond := u_ws RX3 TX3 3
theorem nmX3 : ∀ a, a < 3 → ∀ b, b < 3 → a ≠ b → (TX3 a).2.1 ≠ (TX3 b).2.1 := by decide +kernel
theorem tyX3_ok : ∀ k, k < 3 → parseFieldDescriptor (TX3 k).2.2.1 = some (tyX3 k) := by decide +kernel
abbrev cX3_init : ByteArray := prog_5_method_1_code
def yX3_init : MethodName := ⟨RX3, "<init>", "()V"⟩
def RX4 : String := "LoadSpans$Mender"
def TX4 : u_T := fun k => match k with
  | 0 => ("LoadSpans$Mender", "toldMoves", "[I", true)
  | 1 => ("LoadSpans$Mender", "toldCount", "I", false)
  | 2 => ("LoadSpans$Mender", "moves", "[I", true)
  | 3 => ("LoadSpans$Mender", "spots", "[I", true)
  | 4 => ("LoadSpans$Mender", "palletOn", "[I", true)
  | 5 => ("LoadSpans$Mender", "nearRows", "[I", true)
  | 6 => ("LoadSpans$Mender", "nearCount", "I", false)
  | 7 => ("LoadSpans$Mender", "size", "I", false)
  | 8 => ("LoadSpans$Mender", "spotCount", "I", false)
  | _ => ("LoadSpans$Mender", "table", "LLoadSpans$Table;", false)
def tyX4 : Nat → FieldType := fun k => match k with
  | 0 => .array .int
  | 1 => .int
  | 2 => .array .int
  | 3 => .array .int
  | 4 => .array .int
  | 5 => .array .int
  | 6 => .int
  | 7 => .int
  | 8 => .int
  | _ => .object "LoadSpans$Table"
abbrev wsX40 : List Cond := u_ws RX4 TX4 10
theorem nmX4 : ∀ a, a < 10 → ∀ b, b < 10 → a ≠ b → (TX4 a).2.1 ≠ (TX4 b).2.1 := by decide +kernel
theorem tyX4_ok : ∀ k, k < 10 → parseFieldDescriptor (TX4 k).2.2.1 = some (tyX4 k) := by decide +kernel
abbrev cX4_init : ByteArray := prog_6_method_1_code
def yX4_init : MethodName := ⟨RX4, "<init>", "()V"⟩
abbrev cX4_seek : ByteArray := prog_6_method_2_code
def yX4_seek : MethodName := ⟨RX4, "seek", "(LLoadSpans$Plane;LLoadSpans$Cargo;LLoadSpans$Table;)I"⟩
abbrev cX4_tell : ByteArray := prog_6_method_3_code
def yX4_tell : MethodName := ⟨RX4, "tell", "(I)V"⟩
abbrev cX4_toldMove : ByteArray := prog_6_method_4_code
def yX4_toldMove : MethodName := ⟨RX4, "toldMove", "(I)I"⟩
abbrev cX4_putAllInto : ByteArray := prog_6_method_5_code
def yX4_putAllInto : MethodName := ⟨RX4, "putAllInto", "(LLoadSpans$Cargo;)V"⟩
abbrev cX4_findNearRows : ByteArray := prog_6_method_6_code
def yX4_findNearRows : MethodName := ⟨RX4, "findNearRows", "(I)I"⟩
abbrev cX4_keepNearRows : ByteArray := prog_6_method_7_code
def yX4_keepNearRows : MethodName := ⟨RX4, "keepNearRows", "(I)V"⟩
abbrev cX4_movesTo : ByteArray := prog_6_method_8_code
def yX4_movesTo : MethodName := ⟨RX4, "movesTo", "(I)I"⟩
abbrev cX4_leastMove : ByteArray := prog_6_method_9_code
def yX4_leastMove : MethodName := ⟨RX4, "leastMove", "(I)I"⟩
abbrev cX4_leastMoveTo : ByteArray := prog_6_method_10_code
def yX4_leastMoveTo : MethodName := ⟨RX4, "leastMoveTo", "(II)I"⟩
abbrev cX4_shutsLastGap : ByteArray := prog_6_method_11_code
def yX4_shutsLastGap : MethodName := ⟨RX4, "shutsLastGap", "(II)Z"⟩
abbrev cX4_leastOfRing : ByteArray := prog_6_method_12_code
def yX4_leastOfRing : MethodName := ⟨RX4, "leastOfRing", "(II)I"⟩
abbrev cX4_doMove : ByteArray := prog_6_method_13_code
def yX4_doMove : MethodName := ⟨RX4, "doMove", "(II)V"⟩
abbrev cX4_lyingOn : ByteArray := prog_6_method_14_code
def yX4_lyingOn : MethodName := ⟨RX4, "lyingOn", "(I)I"⟩
abbrev cX4_emptySpot : ByteArray := prog_6_method_15_code
def yX4_emptySpot : MethodName := ⟨RX4, "emptySpot", "()I"⟩
abbrev cX4_emptySpots : ByteArray := prog_6_method_16_code
def yX4_emptySpots : MethodName := ⟨RX4, "emptySpots", "()I"⟩
def RX5 : String := "LoadSpans$Plane"
def TX5 : u_T := fun k => match k with
  | 0 => ("LoadSpans$Plane", "emptyWeight", "I", false)
  | 1 => ("LoadSpans$Plane", "emptyArm", "I", false)
  | 2 => ("LoadSpans$Plane", "lesserArm", "I", false)
  | 3 => ("LoadSpans$Plane", "greaterArm", "I", false)
  | 4 => ("LoadSpans$Plane", "binCount", "I", false)
  | 5 => ("LoadSpans$Plane", "binArm", "[I", true)
  | 6 => ("LoadSpans$Plane", "binLimit", "[I", true)
  | 7 => ("LoadSpans$Plane", "floor", "LLoadSpans$Floor;", true)
  | _ => ("LoadSpans$Plane", "voyage", "LLoadSpans$Voyage;", true)
def tyX5 : Nat → FieldType := fun k => match k with
  | 0 => .int
  | 1 => .int
  | 2 => .int
  | 3 => .int
  | 4 => .int
  | 5 => .array .int
  | 6 => .array .int
  | 7 => .object "LoadSpans$Floor"
  | _ => .object "LoadSpans$Voyage"
abbrev wsX50 : List Cond := u_ws RX5 TX5 9
theorem nmX5 : ∀ a, a < 9 → ∀ b, b < 9 → a ≠ b → (TX5 a).2.1 ≠ (TX5 b).2.1 := by decide +kernel
theorem tyX5_ok : ∀ k, k < 9 → parseFieldDescriptor (TX5 k).2.2.1 = some (tyX5 k) := by decide +kernel
abbrev cX5_init : ByteArray := prog_7_method_1_code
def yX5_init : MethodName := ⟨RX5, "<init>", "()V"⟩
abbrev cX5_clear : ByteArray := prog_7_method_2_code
def yX5_clear : MethodName := ⟨RX5, "clear", "()V"⟩
abbrev cX5_copyFrom : ByteArray := prog_7_method_3_code
def yX5_copyFrom : MethodName := ⟨RX5, "copyFrom", "(LLoadSpans$Plane;)V"⟩
abbrev cX5_hasBin : ByteArray := prog_7_method_4_code
def yX5_hasBin : MethodName := ⟨RX5, "hasBin", "(I)Z"⟩
abbrev cX5_addBin : ByteArray := prog_7_method_5_code
def yX5_addBin : MethodName := ⟨RX5, "addBin", "(II)V"⟩
def RX6 : String := "LoadSpans$Reader"
def TX6 : u_T := fun k => match k with
  | 0 => ("LoadSpans$Reader", "tokens", "LLoadSpans$Tokens;", true)
  | 1 => ("LoadSpans$Reader", "emptyTold", "Z", false)
  | 2 => ("LoadSpans$Reader", "spanTold", "Z", false)
  | _ => ("LoadSpans$Reader", "bulkTold", "Z", false)
def tyX6 : Nat → FieldType := fun k => match k with
  | 0 => .object "LoadSpans$Tokens"
  | 1 => .boolean
  | 2 => .boolean
  | _ => .boolean
abbrev wsX60 : List Cond := u_ws RX6 TX6 4
theorem nmX6 : ∀ a, a < 4 → ∀ b, b < 4 → a ≠ b → (TX6 a).2.1 ≠ (TX6 b).2.1 := by decide +kernel
theorem tyX6_ok : ∀ k, k < 4 → parseFieldDescriptor (TX6 k).2.2.1 = some (tyX6 k) := by decide +kernel
abbrev cX6_init : ByteArray := prog_8_method_1_code
def yX6_init : MethodName := ⟨RX6, "<init>", "()V"⟩
abbrev cX6_readPlane : ByteArray := prog_8_method_2_code
def yX6_readPlane : MethodName := ⟨RX6, "readPlane", "(LLoadSpans$Plane;)V"⟩
abbrev cX6_readCargo : ByteArray := prog_8_method_3_code
def yX6_readCargo : MethodName := ⟨RX6, "readCargo", "(LLoadSpans$Cargo;)V"⟩
abbrev cX6_atLine : ByteArray := prog_8_method_4_code
def yX6_atLine : MethodName := ⟨RX6, "atLine", "()Z"⟩
abbrev cX6_readEmpty : ByteArray := prog_8_method_5_code
def yX6_readEmpty : MethodName := ⟨RX6, "readEmpty", "(LLoadSpans$Plane;)V"⟩
abbrev cX6_readSpan : ByteArray := prog_8_method_6_code
def yX6_readSpan : MethodName := ⟨RX6, "readSpan", "(LLoadSpans$Plane;)V"⟩
abbrev cX6_readHold : ByteArray := prog_8_method_7_code
def yX6_readHold : MethodName := ⟨RX6, "readHold", "(LLoadSpans$Plane;)V"⟩
abbrev cX6_isFrontDoor : ByteArray := prog_8_method_8_code
def yX6_isFrontDoor : MethodName := ⟨RX6, "isFrontDoor", "()Z"⟩
abbrev cX6_readSpot : ByteArray := prog_8_method_9_code
def yX6_readSpot : MethodName := ⟨RX6, "readSpot", "(LLoadSpans$Floor;)V"⟩
abbrev cX6_readJoint : ByteArray := prog_8_method_10_code
def yX6_readJoint : MethodName := ⟨RX6, "readJoint", "(LLoadSpans$Floor;)V"⟩
abbrev cX6_readBin : ByteArray := prog_8_method_11_code
def yX6_readBin : MethodName := ⟨RX6, "readBin", "(LLoadSpans$Plane;)V"⟩
abbrev cX6_readTank : ByteArray := prog_8_method_12_code
def yX6_readTank : MethodName := ⟨RX6, "readTank", "(LLoadSpans$Plane;)V"⟩
abbrev cX6_readBurn : ByteArray := prog_8_method_13_code
def yX6_readBurn : MethodName := ⟨RX6, "readBurn", "(LLoadSpans$Voyage;)V"⟩
abbrev cX6_readStop : ByteArray := prog_8_method_14_code
def yX6_readStop : MethodName := ⟨RX6, "readStop", "(LLoadSpans$Voyage;)V"⟩
abbrev cX6_newName : ByteArray := prog_8_method_15_code
def yX6_newName : MethodName := ⟨RX6, "newName", "(LLoadSpans$Plane;)J"⟩
abbrev cX6_readPallet : ByteArray := prog_8_method_16_code
def yX6_readPallet : MethodName := ⟨RX6, "readPallet", "(LLoadSpans$Cargo;)V"⟩
abbrev cX6_readBulk : ByteArray := prog_8_method_17_code
def yX6_readBulk : MethodName := ⟨RX6, "readBulk", "(LLoadSpans$Cargo;)V"⟩
def RX7 : String := "LoadSpans$Rules"
def TX7 : u_T := fun k => match k with
  | _ => ("", "", "", false)
def tyX7 : Nat → FieldType := fun k => match k with
  | _ => .int
abbrev wsX70 : List Cond := u_ws RX7 TX7 0
theorem nmX7 : ∀ a, a < 0 → ∀ b, b < 0 → a ≠ b → (TX7 a).2.1 ≠ (TX7 b).2.1 := by decide +kernel
theorem tyX7_ok : ∀ k, k < 0 → parseFieldDescriptor (TX7 k).2.2.1 = some (tyX7 k) := by decide +kernel
abbrev cX7_firstBroken : ByteArray := prog_9_method_2_code
def yX7_firstBroken : MethodName := ⟨RX7, "firstBroken", "(LLoadSpans$Plane;LLoadSpans$Cargo;)I"⟩
abbrev cX7_brokenAt : ByteArray := prog_9_method_3_code
def yX7_brokenAt : MethodName := ⟨RX7, "brokenAt", "(ILLoadSpans$Plane;LLoadSpans$Cargo;)I"⟩
abbrev cX7_outPallet : ByteArray := prog_9_method_4_code
def yX7_outPallet : MethodName := ⟨RX7, "outPallet", "(LLoadSpans$Cargo;)I"⟩
abbrev cX7_heavySpot : ByteArray := prog_9_method_5_code
def yX7_heavySpot : MethodName := ⟨RX7, "heavySpot", "(LLoadSpans$Floor;LLoadSpans$Cargo;)I"⟩
abbrev cX7_heavyJoint : ByteArray := prog_9_method_6_code
def yX7_heavyJoint : MethodName := ⟨RX7, "heavyJoint", "(LLoadSpans$Floor;LLoadSpans$Cargo;)I"⟩
abbrev cX7_heavyHold : ByteArray := prog_9_method_7_code
def yX7_heavyHold : MethodName := ⟨RX7, "heavyHold", "(LLoadSpans$Floor;LLoadSpans$Cargo;)I"⟩
abbrev cX7_loadOfHold : ByteArray := prog_9_method_8_code
def yX7_loadOfHold : MethodName := ⟨RX7, "loadOfHold", "(LLoadSpans$Floor;LLoadSpans$Cargo;I)I"⟩
abbrev cX7_blockedSpot : ByteArray := prog_9_method_9_code
def yX7_blockedSpot : MethodName := ⟨RX7, "blockedSpot", "(LLoadSpans$Floor;LLoadSpans$Cargo;)I"⟩
abbrev cX7_blockersOf : ByteArray := prog_9_method_10_code
def yX7_blockersOf : MethodName := ⟨RX7, "blockersOf", "(LLoadSpans$Floor;LLoadSpans$Cargo;I)I"⟩
abbrev cX7_stageOutOfSpan : ByteArray := prog_9_method_11_code
def yX7_stageOutOfSpan : MethodName := ⟨RX7, "stageOutOfSpan", "(LLoadSpans$Plane;LLoadSpans$Cargo;)I"⟩
abbrev cX7_weightAt : ByteArray := prog_9_method_12_code
def yX7_weightAt : MethodName := ⟨RX7, "weightAt", "(LLoadSpans$Plane;LLoadSpans$Cargo;I)I"⟩
abbrev cX7_momentAt : ByteArray := prog_9_method_13_code
def yX7_momentAt : MethodName := ⟨RX7, "momentAt", "(LLoadSpans$Plane;LLoadSpans$Cargo;I)I"⟩
abbrev cX7_timesThroughDoors : ByteArray := prog_9_method_14_code
def yX7_timesThroughDoors : MethodName := ⟨RX7, "timesThroughDoors", "(LLoadSpans$Floor;LLoadSpans$Cargo;LLoadSpans$Table;I)I"⟩
abbrev cX7_standInWay : ByteArray := prog_9_method_15_code
def yX7_standInWay : MethodName := ⟨RX7, "standInWay", "(LLoadSpans$Floor;LLoadSpans$Cargo;LLoadSpans$Table;II)I"⟩
def RX8 : String := "LoadSpans$Table"
def TX8 : u_T := fun k => match k with
  | 0 => ("LoadSpans$Table", "made", "Z", false)
  | 1 => ("LoadSpans$Table", "rows", "I", false)
  | 2 => ("LoadSpans$Table", "places", "[I", true)
  | 3 => ("LoadSpans$Table", "leastAmount", "[I", true)
  | 4 => ("LoadSpans$Table", "loadingsUpTo", "[I", true)
  | 5 => ("LoadSpans$Table", "plane", "LLoadSpans$Plane;", false)
  | 6 => ("LoadSpans$Table", "cargo", "LLoadSpans$Cargo;", false)
  | 7 => ("LoadSpans$Table", "amountLeast", "I", false)
  | 8 => ("LoadSpans$Table", "amountMost", "I", false)
  | 9 => ("LoadSpans$Table", "momentLeast", "[I", true)
  | 10 => ("LoadSpans$Table", "momentMost", "[I", true)
  | 11 => ("LoadSpans$Table", "spotOf", "[I", true)
  | 12 => ("LoadSpans$Table", "loadOnSpot", "[I", true)
  | 13 => ("LoadSpans$Table", "loadInHold", "[I", true)
  | _ => ("LoadSpans$Table", "momentOfStop", "[I", true)
def tyX8 : Nat → FieldType := fun k => match k with
  | 0 => .boolean
  | 1 => .int
  | 2 => .array .int
  | 3 => .array .int
  | 4 => .array .int
  | 5 => .object "LoadSpans$Plane"
  | 6 => .object "LoadSpans$Cargo"
  | 7 => .int
  | 8 => .int
  | 9 => .array .int
  | 10 => .array .int
  | 11 => .array .int
  | 12 => .array .int
  | 13 => .array .int
  | _ => .array .int
abbrev wsX80 : List Cond := u_ws RX8 TX8 15
theorem nmX8 : ∀ a, a < 15 → ∀ b, b < 15 → a ≠ b → (TX8 a).2.1 ≠ (TX8 b).2.1 := by decide +kernel
theorem tyX8_ok : ∀ k, k < 15 → parseFieldDescriptor (TX8 k).2.2.1 = some (tyX8 k) := by decide +kernel
abbrev cX8_init : ByteArray := prog_10_method_1_code
def yX8_init : MethodName := ⟨RX8, "<init>", "()V"⟩
abbrev cX8_forget : ByteArray := prog_10_method_2_code
def yX8_forget : MethodName := ⟨RX8, "forget", "()V"⟩
abbrev cX8_makeFor : ByteArray := prog_10_method_3_code
def yX8_makeFor : MethodName := ⟨RX8, "makeFor", "(LLoadSpans$Plane;LLoadSpans$Cargo;)V"⟩
abbrev cX8_total : ByteArray := prog_10_method_4_code
def yX8_total : MethodName := ⟨RX8, "total", "()I"⟩
abbrev cX8_rowOf : ByteArray := prog_10_method_5_code
def yX8_rowOf : MethodName := ⟨RX8, "rowOf", "(I)I"⟩
abbrev cX8_spotIn : ByteArray := prog_10_method_6_code
def yX8_spotIn : MethodName := ⟨RX8, "spotIn", "(II)I"⟩
abbrev cX8_amountIn : ByteArray := prog_10_method_7_code
def yX8_amountIn : MethodName := ⟨RX8, "amountIn", "(III)I"⟩
abbrev cX8_takesAmount : ByteArray := prog_10_method_8_code
def yX8_takesAmount : MethodName := ⟨RX8, "takesAmount", "(II)Z"⟩
abbrev cX8_upTo : ByteArray := prog_10_method_9_code
def yX8_upTo : MethodName := ⟨RX8, "upTo", "(I)I"⟩
abbrev cX8_reckonMoments : ByteArray := prog_10_method_10_code
def yX8_reckonMoments : MethodName := ⟨RX8, "reckonMoments", "()V"⟩
abbrev cX8_weightBehind : ByteArray := prog_10_method_11_code
def yX8_weightBehind : MethodName := ⟨RX8, "weightBehind", "(I)I"⟩
abbrev cX8_layFrom : ByteArray := prog_10_method_12_code
def yX8_layFrom : MethodName := ⟨RX8, "layFrom", "(LLoadSpans$Table;I)V"⟩
abbrev cX8_mayLie : ByteArray := prog_10_method_13_code
def yX8_mayLie : MethodName := ⟨RX8, "mayLie", "(II)Z"⟩
abbrev cX8_lay : ByteArray := prog_10_method_14_code
def yX8_lay : MethodName := ⟨RX8, "lay", "(III)V"⟩
abbrev cX8_keepRow : ByteArray := prog_10_method_15_code
def yX8_keepRow : MethodName := ⟨RX8, "keepRow", "()V"⟩
abbrev cX8_packedPlaces : ByteArray := prog_10_method_16_code
def yX8_packedPlaces : MethodName := ⟨RX8, "packedPlaces", "()I"⟩
def RX9 : String := "LoadSpans$Tokens"
def TX9 : u_T := fun k => match k with
  | 0 => ("LoadSpans$Tokens", "text", "[I", true)
  | 1 => ("LoadSpans$Tokens", "length", "I", false)
  | 2 => ("LoadSpans$Tokens", "fault", "I", false)
  | 3 => ("LoadSpans$Tokens", "place", "I", false)
  | 4 => ("LoadSpans$Tokens", "kind", "I", false)
  | 5 => ("LoadSpans$Tokens", "from", "I", false)
  | _ => ("LoadSpans$Tokens", "to", "I", false)
def tyX9 : Nat → FieldType := fun k => match k with
  | 0 => .array .int
  | 1 => .int
  | 2 => .int
  | 3 => .int
  | 4 => .int
  | 5 => .int
  | _ => .int
abbrev wsX90 : List Cond := u_ws RX9 TX9 7
theorem nmX9 : ∀ a, a < 7 → ∀ b, b < 7 → a ≠ b → (TX9 a).2.1 ≠ (TX9 b).2.1 := by decide +kernel
theorem tyX9_ok : ∀ k, k < 7 → parseFieldDescriptor (TX9 k).2.2.1 = some (tyX9 k) := by decide +kernel
abbrev cX9_init : ByteArray := prog_11_method_1_code
def yX9_init : MethodName := ⟨RX9, "<init>", "()V"⟩
abbrev cX9_addBytes : ByteArray := prog_11_method_2_code
def yX9_addBytes : MethodName := ⟨RX9, "addBytes", "(I)V"⟩
abbrev cX9_begin : ByteArray := prog_11_method_3_code
def yX9_begin : MethodName := ⟨RX9, "begin", "(I)V"⟩
abbrev cX9_fail : ByteArray := prog_11_method_4_code
def yX9_fail : MethodName := ⟨RX9, "fail", "(I)V"⟩
abbrev cX9_next : ByteArray := prog_11_method_5_code
def yX9_next : MethodName := ⟨RX9, "next", "()V"⟩
abbrev cX9_number : ByteArray := prog_11_method_6_code
def yX9_number : MethodName := ⟨RX9, "number", "(II)I"⟩
abbrev cX9_newWord : ByteArray := prog_11_method_7_code
def yX9_newWord : MethodName := ⟨RX9, "newWord", "()J"⟩
abbrev cX9_lineEnd : ByteArray := prog_11_method_8_code
def yX9_lineEnd : MethodName := ⟨RX9, "lineEnd", "()V"⟩
abbrev cX9_tells : ByteArray := prog_11_method_9_code
def yX9_tells : MethodName := ⟨RX9, "tells", "(Ljava/lang/String;)Z"⟩
abbrev cX9_isQuoted : ByteArray := prog_11_method_10_code
def yX9_isQuoted : MethodName := ⟨RX9, "isQuoted", "()Z"⟩
abbrev cX9_kindOf : ByteArray := prog_11_method_11_code
def yX9_kindOf : MethodName := ⟨RX9, "kindOf", "(II)I"⟩
abbrev cX9_isLetter : ByteArray := prog_11_method_12_code
def yX9_isLetter : MethodName := ⟨RX9, "isLetter", "(I)Z"⟩
abbrev cX9_isDigit : ByteArray := prog_11_method_13_code
def yX9_isDigit : MethodName := ⟨RX9, "isDigit", "(I)Z"⟩
abbrev cX9_packed : ByteArray := prog_11_method_14_code
def yX9_packed : MethodName := ⟨RX9, "packed", "(II)J"⟩
abbrev cX9_lettersOf : ByteArray := prog_11_method_15_code
def yX9_lettersOf : MethodName := ⟨RX9, "lettersOf", "(J)I"⟩
def RX10 : String := "LoadSpans$Voyage"
def TX10 : u_T := fun k => match k with
  | 0 => ("LoadSpans$Voyage", "tankCount", "I", false)
  | 1 => ("LoadSpans$Voyage", "tankName", "[J", true)
  | 2 => ("LoadSpans$Voyage", "tankArm", "[I", true)
  | 3 => ("LoadSpans$Voyage", "tankFill", "[I", true)
  | 4 => ("LoadSpans$Voyage", "tankLeft", "[I", true)
  | 5 => ("LoadSpans$Voyage", "stageCount", "I", false)
  | 6 => ("LoadSpans$Voyage", "burnTank", "[I", true)
  | 7 => ("LoadSpans$Voyage", "burnAmount", "[I", true)
  | 8 => ("LoadSpans$Voyage", "stopCount", "I", false)
  | 9 => ("LoadSpans$Voyage", "weightAt", "[I", true)
  | 10 => ("LoadSpans$Voyage", "momentAt", "[I", true)
  | _ => ("LoadSpans$Voyage", "stopsAt", "[I", true)
def tyX10 : Nat → FieldType := fun k => match k with
  | 0 => .int
  | 1 => .array .long
  | 2 => .array .int
  | 3 => .array .int
  | 4 => .array .int
  | 5 => .int
  | 6 => .array .int
  | 7 => .array .int
  | 8 => .int
  | 9 => .array .int
  | 10 => .array .int
  | _ => .array .int
abbrev wsX100 : List Cond := u_ws RX10 TX10 12
theorem nmX10 : ∀ a, a < 12 → ∀ b, b < 12 → a ≠ b → (TX10 a).2.1 ≠ (TX10 b).2.1 := by decide +kernel
theorem tyX10_ok : ∀ k, k < 12 → parseFieldDescriptor (TX10 k).2.2.1 = some (tyX10 k) := by decide +kernel
abbrev cX10_init : ByteArray := prog_12_method_1_code
def yX10_init : MethodName := ⟨RX10, "<init>", "()V"⟩
abbrev cX10_clear : ByteArray := prog_12_method_2_code
def yX10_clear : MethodName := ⟨RX10, "clear", "()V"⟩
abbrev cX10_copyFrom : ByteArray := prog_12_method_3_code
def yX10_copyFrom : MethodName := ⟨RX10, "copyFrom", "(LLoadSpans$Voyage;)V"⟩
abbrev cX10_hasTank : ByteArray := prog_12_method_4_code
def yX10_hasTank : MethodName := ⟨RX10, "hasTank", "(I)Z"⟩
abbrev cX10_tankCalled : ByteArray := prog_12_method_5_code
def yX10_tankCalled : MethodName := ⟨RX10, "tankCalled", "(J)I"⟩
abbrev cX10_leftIn : ByteArray := prog_12_method_6_code
def yX10_leftIn : MethodName := ⟨RX10, "leftIn", "(I)I"⟩
abbrev cX10_addTank : ByteArray := prog_12_method_7_code
def yX10_addTank : MethodName := ⟨RX10, "addTank", "(JII)V"⟩
abbrev cX10_addBurn : ByteArray := prog_12_method_8_code
def yX10_addBurn : MethodName := ⟨RX10, "addBurn", "(II)V"⟩
abbrev cX10_addStop : ByteArray := prog_12_method_9_code
def yX10_addStop : MethodName := ⟨RX10, "addStop", "()V"⟩
abbrev cX10_reckon : ByteArray := prog_12_method_10_code
def yX10_reckon : MethodName := ⟨RX10, "reckon", "(II)V"⟩
def RX11 : String := "LoadSpans"
def TX11 : u_T := fun k => match k with
  | 0 => ("LoadSpans", "reader", "LLoadSpans$Reader;", true)
  | 1 => ("LoadSpans", "faultKind", "I", false)
  | 2 => ("LoadSpans", "planeNow", "LLoadSpans$Plane;", false)
  | 3 => ("LoadSpans", "planeDraft", "LLoadSpans$Plane;", false)
  | 4 => ("LoadSpans", "cargoNow", "LLoadSpans$Cargo;", false)
  | 5 => ("LoadSpans", "cargoDraft", "LLoadSpans$Cargo;", false)
  | 6 => ("LoadSpans", "history", "LLoadSpans$History;", true)
  | 7 => ("LoadSpans", "firstImage", "LLoadSpans$Image;", true)
  | 8 => ("LoadSpans", "secondImage", "LLoadSpans$Image;", true)
  | 9 => ("LoadSpans", "table", "LLoadSpans$Table;", true)
  | _ => ("LoadSpans", "mender", "LLoadSpans$Mender;", true)
def tyX11 : Nat → FieldType := fun k => match k with
  | 0 => .object "LoadSpans$Reader"
  | 1 => .int
  | 2 => .object "LoadSpans$Plane"
  | 3 => .object "LoadSpans$Plane"
  | 4 => .object "LoadSpans$Cargo"
  | 5 => .object "LoadSpans$Cargo"
  | 6 => .object "LoadSpans$History"
  | 7 => .object "LoadSpans$Image"
  | 8 => .object "LoadSpans$Image"
  | 9 => .object "LoadSpans$Table"
  | _ => .object "LoadSpans$Mender"
abbrev wsX110 : List Cond := u_ws RX11 TX11 11
theorem nmX11 : ∀ a, a < 11 → ∀ b, b < 11 → a ≠ b → (TX11 a).2.1 ≠ (TX11 b).2.1 := by decide +kernel
theorem tyX11_ok : ∀ k, k < 11 → parseFieldDescriptor (TX11 k).2.2.1 = some (tyX11 k) := by decide +kernel
abbrev cX11_init : ByteArray := prog_1_method_1_code
def yX11_init : MethodName := ⟨RX11, "<init>", "()V"⟩
abbrev cX11_feed : ByteArray := prog_1_method_2_code
def yX11_feed : MethodName := ⟨RX11, "feed", "(IIIII)I"⟩
abbrev cX11_end : ByteArray := prog_1_method_3_code
def yX11_end : MethodName := ⟨RX11, "end", "(I)Z"⟩
abbrev cX11_plane : ByteArray := prog_1_method_4_code
def yX11_plane : MethodName := ⟨RX11, "plane", "()I"⟩
abbrev cX11_cargo : ByteArray := prog_1_method_5_code
def yX11_cargo : MethodName := ⟨RX11, "cargo", "()I"⟩
abbrev cX11_fault : ByteArray := prog_1_method_6_code
def yX11_fault : MethodName := ⟨RX11, "fault", "()I"⟩
abbrev cX11_count : ByteArray := prog_1_method_7_code
def yX11_count : MethodName := ⟨RX11, "count", "(I)I"⟩
abbrev cX11_pallet : ByteArray := prog_1_method_8_code
def yX11_pallet : MethodName := ⟨RX11, "pallet", "(II)I"⟩
abbrev cX11_named : ByteArray := prog_1_method_9_code
def yX11_named : MethodName := ⟨RX11, "named", "()I"⟩
abbrev cX11_spot : ByteArray := prog_1_method_10_code
def yX11_spot : MethodName := ⟨RX11, "spot", "(II)I"⟩
abbrev cX11_in : ByteArray := prog_1_method_11_code
def yX11_in : MethodName := ⟨RX11, "in", "(II)I"⟩
abbrev cX11_put : ByteArray := prog_1_method_12_code
def yX11_put : MethodName := ⟨RX11, "put", "(II)I"⟩
abbrev cX11_off : ByteArray := prog_1_method_13_code
def yX11_off : MethodName := ⟨RX11, "off", "(I)I"⟩
abbrev cX11_pour : ByteArray := prog_1_method_14_code
def yX11_pour : MethodName := ⟨RX11, "pour", "(II)I"⟩
abbrev cX11_why : ByteArray := prog_1_method_15_code
def yX11_why : MethodName := ⟨RX11, "why", "()I"⟩
abbrev cX11_where : ByteArray := prog_1_method_16_code
def yX11_where : MethodName := ⟨RX11, "where", "()I"⟩
abbrev cX11_stage : ByteArray := prog_1_method_17_code
def yX11_stage : MethodName := ⟨RX11, "stage", "(II)I"⟩
abbrev cX11_blocks : ByteArray := prog_1_method_18_code
def yX11_blocks : MethodName := ⟨RX11, "blocks", "(I)I"⟩
abbrev cX11_loadings : ByteArray := prog_1_method_19_code
def yX11_loadings : MethodName := ⟨RX11, "loadings", "()I"⟩
abbrev cX11_loading : ByteArray := prog_1_method_20_code
def yX11_loading : MethodName := ⟨RX11, "loading", "(II)I"⟩
abbrev cX11_poured : ByteArray := prog_1_method_21_code
def yX11_poured : MethodName := ⟨RX11, "poured", "(II)I"⟩
abbrev cX11_take : ByteArray := prog_1_method_22_code
def yX11_take : MethodName := ⟨RX11, "take", "(I)I"⟩
abbrev cX11_handlings : ByteArray := prog_1_method_23_code
def yX11_handlings : MethodName := ⟨RX11, "handlings", "(I)I"⟩
abbrev cX11_mend : ByteArray := prog_1_method_24_code
def yX11_mend : MethodName := ⟨RX11, "mend", "()I"⟩
abbrev cX11_move : ByteArray := prog_1_method_25_code
def yX11_move : MethodName := ⟨RX11, "move", "(I)I"⟩
abbrev cX11_mended : ByteArray := prog_1_method_26_code
def yX11_mended : MethodName := ⟨RX11, "mended", "()I"⟩
abbrev cX11_spare : ByteArray := prog_1_method_27_code
def yX11_spare : MethodName := ⟨RX11, "spare", "(I)I"⟩
abbrev cX11_swaps : ByteArray := prog_1_method_28_code
def yX11_swaps : MethodName := ⟨RX11, "swaps", "()I"⟩
abbrev cX11_come : ByteArray := prog_1_method_29_code
def yX11_come : MethodName := ⟨RX11, "come", "(II)I"⟩
abbrev cX11_drop : ByteArray := prog_1_method_30_code
def yX11_drop : MethodName := ⟨RX11, "drop", "(I)I"⟩
abbrev cX11_again : ByteArray := prog_1_method_31_code
def yX11_again : MethodName := ⟨RX11, "again", "(I)I"⟩
abbrev cX11_weigh : ByteArray := prog_1_method_32_code
def yX11_weigh : MethodName := ⟨RX11, "weigh", "(II)I"⟩
abbrev cX11_undo : ByteArray := prog_1_method_33_code
def yX11_undo : MethodName := ⟨RX11, "undo", "()I"⟩
abbrev cX11_image : ByteArray := prog_1_method_34_code
def yX11_image : MethodName := ⟨RX11, "image", "(I)Z"⟩
abbrev cX11_restore : ByteArray := prog_1_method_35_code
def yX11_restore : MethodName := ⟨RX11, "restore", "(I)Z"⟩
abbrev cX11_startAnew : ByteArray := prog_1_method_36_code
def yX11_startAnew : MethodName := ⟨RX11, "startAnew", "()V"⟩
abbrev cX11_freshTable : ByteArray := prog_1_method_37_code
def yX11_freshTable : MethodName := ⟨RX11, "freshTable", "()LLoadSpans$Table;"⟩
abbrev cX11_changePlaces : ByteArray := prog_1_method_38_code
def yX11_changePlaces : MethodName := ⟨RX11, "changePlaces", "(II)V"⟩
abbrev cX11_imageAt : ByteArray := prog_1_method_39_code
def yX11_imageAt : MethodName := ⟨RX11, "imageAt", "(I)LLoadSpans$Image;"⟩
def RX12 : String := "LoadSpansModel"
def TX12 : u_T := fun k => match k with
  | 0 => ("LoadSpansModel", "s", "[I", true)
  | 1 => ("LoadSpansModel", "spare", "[I", true)
  | 2 => ("LoadSpansModel", "kept", "[I", true)
  | 3 => ("LoadSpansModel", "undone", "[I", true)
  | 4 => ("LoadSpansModel", "isKept", "[Z", true)
  | 5 => ("LoadSpansModel", "undoMany", "I", false)
  | 6 => ("LoadSpansModel", "tape", "[B", true)
  | 7 => ("LoadSpansModel", "length", "I", false)
  | 8 => ("LoadSpansModel", "size", "I", false)
  | 9 => ("LoadSpansModel", "p", "I", false)
  | 10 => ("LoadSpansModel", "at", "I", false)
  | 11 => ("LoadSpansModel", "token", "I", false)
  | 12 => ("LoadSpansModel", "number", "I", false)
  | 13 => ("LoadSpansModel", "letterMany", "I", false)
  | 14 => ("LoadSpansModel", "fault", "I", false)
  | 15 => ("LoadSpansModel", "faultAt", "I", false)
  | 16 => ("LoadSpansModel", "letters", "[B", true)
  | 17 => ("LoadSpansModel", "names", "[B", true)
  | 18 => ("LoadSpansModel", "hasEmpty", "Z", false)
  | 19 => ("LoadSpansModel", "hasSpan", "Z", false)
  | 20 => ("LoadSpansModel", "hasBulk", "Z", false)
  | 21 => ("LoadSpansModel", "weightAt", "I", false)
  | 22 => ("LoadSpansModel", "momentAt", "I", false)
  | 23 => ("LoadSpansModel", "brokenAt", "I", false)
  | 24 => ("LoadSpansModel", "laid", "[I", true)
  | 25 => ("LoadSpansModel", "good", "[I", true)
  | 26 => ("LoadSpansModel", "goodMany", "I", false)
  | 27 => ("LoadSpansModel", "came", "[I", true)
  | 28 => ("LoadSpansModel", "waits", "[I", true)
  | 29 => ("LoadSpansModel", "waiting", "I", false)
  | 30 => ("LoadSpansModel", "path", "[I", true)
  | 31 => ("LoadSpansModel", "pathMany", "I", false)
  | 32 => ("LoadSpansModel", "told", "[I", true)
  | _ => ("LoadSpansModel", "toldMany", "I", false)
def tyX12 : Nat → FieldType := fun k => match k with
  | 0 => .array .int
  | 1 => .array .int
  | 2 => .array .int
  | 3 => .array .int
  | 4 => .array .boolean
  | 5 => .int
  | 6 => .array .byte
  | 7 => .int
  | 8 => .int
  | 9 => .int
  | 10 => .int
  | 11 => .int
  | 12 => .int
  | 13 => .int
  | 14 => .int
  | 15 => .int
  | 16 => .array .byte
  | 17 => .array .byte
  | 18 => .boolean
  | 19 => .boolean
  | 20 => .boolean
  | 21 => .int
  | 22 => .int
  | 23 => .int
  | 24 => .array .int
  | 25 => .array .int
  | 26 => .int
  | 27 => .array .int
  | 28 => .array .int
  | 29 => .int
  | 30 => .array .int
  | 31 => .int
  | 32 => .array .int
  | _ => .int
abbrev wsX120 : List Cond := u_ws RX12 TX12 34
theorem nmX12 : ∀ a, a < 34 → ∀ b, b < 34 → a ≠ b → (TX12 a).2.1 ≠ (TX12 b).2.1 := by decide +kernel
theorem tyX12_ok : ∀ k, k < 34 → parseFieldDescriptor (TX12 k).2.2.1 = some (tyX12 k) := by decide +kernel
abbrev cX12_init : ByteArray := prog_14_method_1_code
def yX12_init : MethodName := ⟨RX12, "<init>", "()V"⟩
abbrev cX12_bare : ByteArray := prog_14_method_2_code
def yX12_bare : MethodName := ⟨RX12, "bare", "([I)V"⟩
abbrev cX12_copies : ByteArray := prog_14_method_3_code
def yX12_copies : MethodName := ⟨RX12, "copies", "([II[II)V"⟩
abbrev cX12_feed : ByteArray := prog_14_method_4_code
def yX12_feed : MethodName := ⟨RX12, "feed", "(IIIII)I"⟩
abbrev cX12_four : ByteArray := prog_14_method_5_code
def yX12_four : MethodName := ⟨RX12, "four", "(I)V"⟩
abbrev cX12_end : ByteArray := prog_14_method_6_code
def yX12_end : MethodName := ⟨RX12, "end", "(I)Z"⟩
abbrev cX12_isIn : ByteArray := prog_14_method_7_code
def yX12_isIn : MethodName := ⟨RX12, "isIn", "(III)Z"⟩
abbrev cX12_bitOf : ByteArray := prog_14_method_8_code
def yX12_bitOf : MethodName := ⟨RX12, "bitOf", "(II)Z"⟩
abbrev cX12_peek : ByteArray := prog_14_method_9_code
def yX12_peek : MethodName := ⟨RX12, "peek", "()I"⟩
abbrev cX12_isSmall : ByteArray := prog_14_method_10_code
def yX12_isSmall : MethodName := ⟨RX12, "isSmall", "(I)Z"⟩
abbrev cX12_isDigit : ByteArray := prog_14_method_11_code
def yX12_isDigit : MethodName := ⟨RX12, "isDigit", "(I)Z"⟩
abbrev cX12_bad : ByteArray := prog_14_method_12_code
def yX12_bad : MethodName := ⟨RX12, "bad", "(II)Z"⟩
abbrev cX12_badHere : ByteArray := prog_14_method_13_code
def yX12_badHere : MethodName := ⟨RX12, "badHere", "(I)Z"⟩
abbrev cX12_next : ByteArray := prog_14_method_14_code
def yX12_next : MethodName := ⟨RX12, "next", "()V"⟩
abbrev cX12_known : ByteArray := prog_14_method_15_code
def yX12_known : MethodName := ⟨RX12, "known", "()I"⟩
abbrev cX12_isName : ByteArray := prog_14_method_16_code
def yX12_isName : MethodName := ⟨RX12, "isName", "()Z"⟩
abbrev cX12_number : ByteArray := prog_14_method_17_code
def yX12_number : MethodName := ⟨RX12, "number", "(II)Z"⟩
abbrev cX12_takes : ByteArray := prog_14_method_18_code
def yX12_takes : MethodName := ⟨RX12, "takes", "(III)Z"⟩
abbrev cX12_isNamed : ByteArray := prog_14_method_19_code
def yX12_isNamed : MethodName := ⟨RX12, "isNamed", "(I)Z"⟩
abbrev cX12_named0 : ByteArray := prog_14_method_20_code
def yX12_named0 : MethodName := ⟨RX12, "named0", "(I)I"⟩
abbrev cX12_takesName : ByteArray := prog_14_method_21_code
def yX12_takesName : MethodName := ⟨RX12, "takesName", "(I)Z"⟩
abbrev cX12_begins : ByteArray := prog_14_method_22_code
def yX12_begins : MethodName := ⟨RX12, "begins", "(I)Z"⟩
abbrev cX12_spanLine : ByteArray := prog_14_method_23_code
def yX12_spanLine : MethodName := ⟨RX12, "spanLine", "()Z"⟩
abbrev cX12_holdLine : ByteArray := prog_14_method_24_code
def yX12_holdLine : MethodName := ⟨RX12, "holdLine", "()Z"⟩
abbrev cX12_spotLine : ByteArray := prog_14_method_25_code
def yX12_spotLine : MethodName := ⟨RX12, "spotLine", "()Z"⟩
abbrev cX12_canJoint : ByteArray := prog_14_method_26_code
def yX12_canJoint : MethodName := ⟨RX12, "canJoint", "()Z"⟩
abbrev cX12_jointLine : ByteArray := prog_14_method_27_code
def yX12_jointLine : MethodName := ⟨RX12, "jointLine", "()Z"⟩
abbrev cX12_binLine : ByteArray := prog_14_method_28_code
def yX12_binLine : MethodName := ⟨RX12, "binLine", "()Z"⟩
abbrev cX12_tankLine : ByteArray := prog_14_method_29_code
def yX12_tankLine : MethodName := ⟨RX12, "tankLine", "()Z"⟩
abbrev cX12_burnLine : ByteArray := prog_14_method_30_code
def yX12_burnLine : MethodName := ⟨RX12, "burnLine", "()Z"⟩
abbrev cX12_isTooMany : ByteArray := prog_14_method_31_code
def yX12_isTooMany : MethodName := ⟨RX12, "isTooMany", "(I)Z"⟩
abbrev cX12_planeLine : ByteArray := prog_14_method_32_code
def yX12_planeLine : MethodName := ⟨RX12, "planeLine", "(I)Z"⟩
abbrev cX12_readsPlane : ByteArray := prog_14_method_33_code
def yX12_readsPlane : MethodName := ⟨RX12, "readsPlane", "()Z"⟩
abbrev cX12_plane : ByteArray := prog_14_method_34_code
def yX12_plane : MethodName := ⟨RX12, "plane", "()I"⟩
abbrev cX12_settles : ByteArray := prog_14_method_35_code
def yX12_settles : MethodName := ⟨RX12, "settles", "()V"⟩
abbrev cX12_palletLine : ByteArray := prog_14_method_36_code
def yX12_palletLine : MethodName := ⟨RX12, "palletLine", "()Z"⟩
abbrev cX12_palletOf : ByteArray := prog_14_method_37_code
def yX12_palletOf : MethodName := ⟨RX12, "palletOf", "([I[BII)I"⟩
abbrev cX12_bulkLine : ByteArray := prog_14_method_38_code
def yX12_bulkLine : MethodName := ⟨RX12, "bulkLine", "()Z"⟩
abbrev cX12_readsCargo : ByteArray := prog_14_method_39_code
def yX12_readsCargo : MethodName := ⟨RX12, "readsCargo", "()Z"⟩
abbrev cX12_cargo : ByteArray := prog_14_method_40_code
def yX12_cargo : MethodName := ⟨RX12, "cargo", "()I"⟩
abbrev cX12_fault : ByteArray := prog_14_method_41_code
def yX12_fault : MethodName := ⟨RX12, "fault", "()I"⟩
abbrev cX12_isPallet : ByteArray := prog_14_method_42_code
def yX12_isPallet : MethodName := ⟨RX12, "isPallet", "(I)Z"⟩
abbrev cX12_isSpot : ByteArray := prog_14_method_43_code
def yX12_isSpot : MethodName := ⟨RX12, "isSpot", "(I)Z"⟩
abbrev cX12_on : ByteArray := prog_14_method_44_code
def yX12_on : MethodName := ⟨RX12, "on", "(I)I"⟩
abbrev cX12_wayOf : ByteArray := prog_14_method_45_code
def yX12_wayOf : MethodName := ⟨RX12, "wayOf", "(I)I"⟩
abbrev cX12_weightOn : ByteArray := prog_14_method_46_code
def yX12_weightOn : MethodName := ⟨RX12, "weightOn", "(I)I"⟩
abbrev cX12_inHold : ByteArray := prog_14_method_47_code
def yX12_inHold : MethodName := ⟨RX12, "inHold", "(I)I"⟩
abbrev cX12_count : ByteArray := prog_14_method_48_code
def yX12_count : MethodName := ⟨RX12, "count", "(I)I"⟩
abbrev cX12_pallet : ByteArray := prog_14_method_49_code
def yX12_pallet : MethodName := ⟨RX12, "pallet", "(II)I"⟩
abbrev cX12_named : ByteArray := prog_14_method_50_code
def yX12_named : MethodName := ⟨RX12, "named", "()I"⟩
abbrev cX12_spot : ByteArray := prog_14_method_51_code
def yX12_spot : MethodName := ⟨RX12, "spot", "(II)I"⟩
abbrev cX12_in : ByteArray := prog_14_method_52_code
def yX12_in : MethodName := ⟨RX12, "in", "(II)I"⟩
abbrev cX12_keeps : ByteArray := prog_14_method_53_code
def yX12_keeps : MethodName := ⟨RX12, "keeps", "()V"⟩
abbrev cX12_undo : ByteArray := prog_14_method_54_code
def yX12_undo : MethodName := ⟨RX12, "undo", "()I"⟩
abbrev cX12_image : ByteArray := prog_14_method_55_code
def yX12_image : MethodName := ⟨RX12, "image", "(I)Z"⟩
abbrev cX12_restore : ByteArray := prog_14_method_56_code
def yX12_restore : MethodName := ⟨RX12, "restore", "(I)Z"⟩
abbrev cX12_sets0 : ByteArray := prog_14_method_57_code
def yX12_sets0 : MethodName := ⟨RX12, "sets0", "(II)I"⟩
abbrev cX12_put : ByteArray := prog_14_method_58_code
def yX12_put : MethodName := ⟨RX12, "put", "(II)I"⟩
abbrev cX12_off : ByteArray := prog_14_method_59_code
def yX12_off : MethodName := ⟨RX12, "off", "(I)I"⟩
abbrev cX12_pour : ByteArray := prog_14_method_60_code
def yX12_pour : MethodName := ⟨RX12, "pour", "(II)I"⟩
abbrev cX12_weigh : ByteArray := prog_14_method_61_code
def yX12_weigh : MethodName := ⟨RX12, "weigh", "(II)I"⟩
abbrev cX12_movesPallet : ByteArray := prog_14_method_62_code
def yX12_movesPallet : MethodName := ⟨RX12, "movesPallet", "([III)V"⟩
abbrev cX12_come : ByteArray := prog_14_method_63_code
def yX12_come : MethodName := ⟨RX12, "come", "(II)I"⟩
abbrev cX12_goes : ByteArray := prog_14_method_64_code
def yX12_goes : MethodName := ⟨RX12, "goes", "(I)V"⟩
abbrev cX12_drop : ByteArray := prog_14_method_65_code
def yX12_drop : MethodName := ⟨RX12, "drop", "(I)I"⟩
abbrev cX12_again : ByteArray := prog_14_method_66_code
def yX12_again : MethodName := ⟨RX12, "again", "(I)I"⟩
abbrev cX12_adds : ByteArray := prog_14_method_67_code
def yX12_adds : MethodName := ⟨RX12, "adds", "(II)V"⟩
abbrev cX12_stageAt : ByteArray := prog_14_method_68_code
def yX12_stageAt : MethodName := ⟨RX12, "stageAt", "(I)V"⟩
abbrev cX12_isInSpan : ByteArray := prog_14_method_69_code
def yX12_isInSpan : MethodName := ⟨RX12, "isInSpan", "(I)Z"⟩
abbrev cX12_blockers : ByteArray := prog_14_method_70_code
def yX12_blockers : MethodName := ⟨RX12, "blockers", "(I)I"⟩
abbrev cX12_isBroken : ByteArray := prog_14_method_71_code
def yX12_isBroken : MethodName := ⟨RX12, "isBroken", "(II)Z"⟩
abbrev cX12_places : ByteArray := prog_14_method_72_code
def yX12_places : MethodName := ⟨RX12, "places", "(I)I"⟩
abbrev cX12_broken : ByteArray := prog_14_method_73_code
def yX12_broken : MethodName := ⟨RX12, "broken", "()I"⟩
abbrev cX12_why : ByteArray := prog_14_method_74_code
def yX12_why : MethodName := ⟨RX12, "why", "()I"⟩
abbrev cX12_where : ByteArray := prog_14_method_75_code
def yX12_where : MethodName := ⟨RX12, "where", "()I"⟩
abbrev cX12_stage : ByteArray := prog_14_method_76_code
def yX12_stage : MethodName := ⟨RX12, "stage", "(II)I"⟩
abbrev cX12_blocks : ByteArray := prog_14_method_77_code
def yX12_blocks : MethodName := ⟨RX12, "blocks", "(I)I"⟩
abbrev cX12_spare : ByteArray := prog_14_method_78_code
def yX12_spare : MethodName := ⟨RX12, "spare", "(I)I"⟩
abbrev cX12_changesPlaces : ByteArray := prog_14_method_79_code
def yX12_changesPlaces : MethodName := ⟨RX12, "changesPlaces", "(II)V"⟩
abbrev cX12_swaps : ByteArray := prog_14_method_80_code
def yX12_swaps : MethodName := ⟨RX12, "swaps", "()I"⟩
abbrev cX12_code : ByteArray := prog_14_method_81_code
def yX12_code : MethodName := ⟨RX12, "code", "()I"⟩
abbrev cX12_lays : ByteArray := prog_14_method_82_code
def yX12_lays : MethodName := ⟨RX12, "lays", "(I)V"⟩
abbrev cX12_codes : ByteArray := prog_14_method_83_code
def yX12_codes : MethodName := ⟨RX12, "codes", "()I"⟩
abbrev cX12_isWhole : ByteArray := prog_14_method_84_code
def yX12_isWhole : MethodName := ⟨RX12, "isWhole", "()Z"⟩
abbrev cX12_keepsLaid : ByteArray := prog_14_method_85_code
def yX12_keepsLaid : MethodName := ⟨RX12, "keepsLaid", "()V"⟩
abbrev cX12_laysBack : ByteArray := prog_14_method_86_code
def yX12_laysBack : MethodName := ⟨RX12, "laysBack", "()V"⟩
abbrev cX12_pours : ByteArray := prog_14_method_87_code
def yX12_pours : MethodName := ⟨RX12, "pours", "(I)Z"⟩
abbrev cX12_laysGood : ByteArray := prog_14_method_88_code
def yX12_laysGood : MethodName := ⟨RX12, "laysGood", "()V"⟩
abbrev cX12_isGood : ByteArray := prog_14_method_89_code
def yX12_isGood : MethodName := ⟨RX12, "isGood", "(I)Z"⟩
abbrev cX12_loadings : ByteArray := prog_14_method_90_code
def yX12_loadings : MethodName := ⟨RX12, "loadings", "()I"⟩
abbrev cX12_spotBy : ByteArray := prog_14_method_91_code
def yX12_spotBy : MethodName := ⟨RX12, "spotBy", "(II)I"⟩
abbrev cX12_loading : ByteArray := prog_14_method_92_code
def yX12_loading : MethodName := ⟨RX12, "loading", "(II)I"⟩
abbrev cX12_poured : ByteArray := prog_14_method_93_code
def yX12_poured : MethodName := ⟨RX12, "poured", "(II)I"⟩
abbrev cX12_take : ByteArray := prog_14_method_94_code
def yX12_take : MethodName := ⟨RX12, "take", "(I)I"⟩
abbrev cX12_starts : ByteArray := prog_14_method_95_code
def yX12_starts : MethodName := ⟨RX12, "starts", "()V"⟩
abbrev cX12_waits : ByteArray := prog_14_method_96_code
def yX12_waits : MethodName := ⟨RX12, "waits", "(II)V"⟩
abbrev cX12_moves : ByteArray := prog_14_method_97_code
def yX12_moves : MethodName := ⟨RX12, "moves", "(I)V"⟩
abbrev cX12_mends : ByteArray := prog_14_method_98_code
def yX12_mends : MethodName := ⟨RX12, "mends", "()Z"⟩
abbrev cX12_mend : ByteArray := prog_14_method_99_code
def yX12_mend : MethodName := ⟨RX12, "mend", "()I"⟩
abbrev cX12_move : ByteArray := prog_14_method_100_code
def yX12_move : MethodName := ⟨RX12, "move", "(I)I"⟩
abbrev cX12_mended : ByteArray := prog_14_method_101_code
def yX12_mended : MethodName := ⟨RX12, "mended", "()I"⟩
abbrev cX12_taken : ByteArray := prog_14_method_102_code
def yX12_taken : MethodName := ⟨RX12, "taken", "()I"⟩
abbrev cX12_handles : ByteArray := prog_14_method_103_code
def yX12_handles : MethodName := ⟨RX12, "handles", "(I)V"⟩
abbrev cX12_handlings : ByteArray := prog_14_method_104_code
def yX12_handlings : MethodName := ⟨RX12, "handlings", "(I)I"⟩
def RJ9 : String := "java/lang/Math"
def TJ9 : u_T := fun k => match k with
  | _ => ("", "", "", false)
def tyJ9 : Nat → FieldType := fun k => match k with
  | _ => .int
abbrev wsJ90 : List Cond := u_ws RJ9 TJ9 0
theorem nmJ9 : ∀ a, a < 0 → ∀ b, b < 0 → a ≠ b → (TJ9 a).2.1 ≠ (TJ9 b).2.1 := by decide +kernel
theorem tyJ9_ok : ∀ k, k < 0 → parseFieldDescriptor (TJ9 k).2.2.1 = some (tyJ9 k) := by decide +kernel
abbrev cJ9_floorDiv_7cf53 : ByteArray := prog_15_method_47_code
def yJ9_floorDiv_7cf53 : MethodName := ⟨RJ9, "floorDiv", "(II)I"⟩
abbrev cJ9_max_7cf53 : ByteArray := prog_15_method_65_code
def yJ9_max_7cf53 : MethodName := ⟨RJ9, "max", "(II)I"⟩
abbrev cJ9_min_7cf53 : ByteArray := prog_15_method_69_code
def yJ9_min_7cf53 : MethodName := ⟨RJ9, "min", "(II)I"⟩
def RJ0 : String := "java/lang/String"
def TJ0 : u_T := fun k => match k with
  | _ => ("", "", "", false)
def tyJ0 : Nat → FieldType := fun k => match k with
  | _ => .int
abbrev wsJ00 : List Cond := u_ws RJ0 TJ0 0
theorem nmJ0 : ∀ a, a < 0 → ∀ b, b < 0 → a ≠ b → (TJ0 a).2.1 ≠ (TJ0 b).2.1 := by decide +kernel
theorem tyJ0_ok : ∀ k, k < 0 → parseFieldDescriptor (TJ0 k).2.2.1 = some (tyJ0 k) := by decide +kernel
abbrev cJ0_length_8abf5 : ByteArray := prog_16_method_54_code
def yJ0_length_8abf5 : MethodName := ⟨RJ0, "length", "()I"⟩
abbrev cJ0_charAt_5068e : ByteArray := prog_16_method_56_code
def yJ0_charAt_5068e : MethodName := ⟨RJ0, "charAt", "(I)C"⟩
abbrev cJ0_coder_7d493 : ByteArray := prog_16_method_152_code
def yJ0_coder_7d493 : MethodName := ⟨RJ0, "coder", "()B"⟩
abbrev cJ0_isLatin1_aae02 : ByteArray := prog_16_method_154_code
def yJ0_isLatin1_aae02 : MethodName := ⟨RJ0, "isLatin1", "()Z"⟩
abbrev cJ0_checkIndex_df160 : ByteArray := prog_16_method_155_code
def yJ0_checkIndex_df160 : MethodName := ⟨RJ0, "checkIndex", "(II)V"⟩
def RJ1 : String := "java/lang/StringLatin1"
def TJ1 : u_T := fun k => match k with
  | _ => ("", "", "", false)
def tyJ1 : Nat → FieldType := fun k => match k with
  | _ => .int
abbrev wsJ10 : List Cond := u_ws RJ1 TJ1 0
theorem nmJ1 : ∀ a, a < 0 → ∀ b, b < 0 → a ≠ b → (TJ1 a).2.1 ≠ (TJ1 b).2.1 := by decide +kernel
theorem tyJ1_ok : ∀ k, k < 0 → parseFieldDescriptor (TJ1 k).2.2.1 = some (tyJ1 k) := by decide +kernel
abbrev cJ1_charAt_3b067 : ByteArray := prog_17_method_2_code
def yJ1_charAt_3b067 : MethodName := ⟨RJ1, "charAt", "([BI)C"⟩
def RJ2 : String := "java/lang/StringUTF16"
def TJ2 : u_T := fun k => match k with
  | _ => ("", "", "", false)
def tyJ2 : Nat → FieldType := fun k => match k with
  | _ => .int
abbrev wsJ20 : List Cond := u_ws RJ2 TJ2 0
theorem nmJ2 : ∀ a, a < 0 → ∀ b, b < 0 → a ≠ b → (TJ2 a).2.1 ≠ (TJ2 b).2.1 := by decide +kernel
theorem tyJ2_ok : ∀ k, k < 0 → parseFieldDescriptor (TJ2 k).2.2.1 = some (tyJ2 k) := by decide +kernel
abbrev cJ2_getChar_3b067 : ByteArray := prog_18_method_5_code
def yJ2_getChar_3b067 : MethodName := ⟨RJ2, "getChar", "([BI)C"⟩
abbrev cJ2_length_9d52b : ByteArray := prog_18_method_6_code
def yJ2_length_9d52b : MethodName := ⟨RJ2, "length", "([B)I"⟩
abbrev cJ2_charAt_3b067 : ByteArray := prog_18_method_83_code
def yJ2_charAt_3b067 : MethodName := ⟨RJ2, "charAt", "([BI)C"⟩
abbrev cJ2_checkIndex_2214a : ByteArray := prog_18_method_91_code
def yJ2_checkIndex_2214a : MethodName := ⟨RJ2, "checkIndex", "(I[B)V"⟩
def RJ10 : String := "java/lang/System"
def TJ10 : u_T := fun k => match k with
  | _ => ("", "", "", false)
def tyJ10 : Nat → FieldType := fun k => match k with
  | _ => .int
abbrev wsJ100 : List Cond := u_ws RJ10 TJ10 0
theorem nmJ10 : ∀ a, a < 0 → ∀ b, b < 0 → a ≠ b → (TJ10 a).2.1 ≠ (TJ10 b).2.1 := by decide +kernel
theorem tyJ10_ok : ∀ k, k < 0 → parseFieldDescriptor (TJ10 k).2.2.1 = some (tyJ10 k) := by decide +kernel
def RJ3 : String := "jdk/internal/util/Preconditions"
def TJ3 : u_T := fun k => match k with
  | _ => ("", "", "", false)
def tyJ3 : Nat → FieldType := fun k => match k with
  | _ => .int
abbrev wsJ30 : List Cond := u_ws RJ3 TJ3 0
theorem nmJ3 : ∀ a, a < 0 → ∀ b, b < 0 → a ≠ b → (TJ3 a).2.1 ≠ (TJ3 b).2.1 := by decide +kernel
theorem tyJ3_ok : ∀ k, k < 0 → parseFieldDescriptor (TJ3 k).2.2.1 = some (tyJ3 k) := by decide +kernel
abbrev cJ3_checkIndex_8e157 : ByteArray := prog_20_method_11_code
def yJ3_checkIndex_8e157 : MethodName := ⟨RJ3, "checkIndex", "(IILjava/util/function/BiFunction;)I"⟩
def RL : String := "LoadSpansLaw"
abbrev cL_law : ByteArray := code
def yL_law : MethodName := ⟨RL, "law", "([I)Z"⟩
abbrev vwCl : List vw_C := [(RX0, TX0, 7), (RX1, TX1, 12), (RX2, TX2, 3), (RX3, TX3, 3), (RX4, TX4, 10), (RX5, TX5, 9), (RX6, TX6, 4), (RX8, TX8, 15), (RX9, TX9, 7), (RX10, TX10, 12), (RX11, TX11, 11), (RX12, TX12, 34)]

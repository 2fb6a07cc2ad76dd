/-! 09.links: classes, methods and links by their places in the tables' words (wip/p37/mk_links.py) -/
theorem gw_list {ws : List Cond} (ps : List Nat) (hp : ws = ps.filterMap (fun i => lw_tbl[i]?)) (h : ws.all goodWord = true) : ∀ w ∈ ws, w ∈ GW := by
  intro w hw
  have h1 := List.all_eq_true.mp h w hw
  rw [hp] at hw
  obtain ⟨i, -, hi⟩ := List.mem_filterMap.mp hw
  exact gw_in hi h1
theorem gwX0 : ∀ w ∈ u_ws RX0 TX0 7, w ∈ GW := gw_list [313, 315, 317, 319, 321, 323, 325] (by decide +kernel) (by decide +kernel)
theorem dfX0 : ∀ j, j < 7 → defaultValue (tyOf 0 j) = if (tyOf 0 j).isReference then .null else .int 0 := by decide +kernel
theorem gwX1 : ∀ w ∈ u_ws RX1 TX1 12, w ∈ GW := gw_list [137, 139, 141, 143, 145, 147, 149, 151, 153, 155, 157, 159] (by decide +kernel) (by decide +kernel)
theorem dfX1 : ∀ j, j < 12 → defaultValue (tyOf 1 j) = if (tyOf 1 j).isReference then .null else .int 0 := by decide +kernel
theorem gwX2 : ∀ w ∈ u_ws RX2 TX2 3, w ∈ GW := gw_list [341, 343, 345] (by decide +kernel) (by decide +kernel)
theorem dfX2 : ∀ j, j < 3 → defaultValue (tyOf 2 j) = if (tyOf 2 j).isReference then .null else .int 0 := by decide +kernel
theorem gwX3 : ∀ w ∈ u_ws RX3 TX3 3, w ∈ GW := gw_list [360, 362, 364] (by decide +kernel) (by decide +kernel)
theorem dfX3 : ∀ j, j < 3 → defaultValue (tyOf 3 j) = if (tyOf 3 j).isReference then .null else .int 0 := by decide +kernel
theorem gwX4 : ∀ w ∈ u_ws RX4 TX4 10, w ∈ GW := gw_list [425, 427, 429, 431, 433, 435, 437, 439, 441, 443] (by decide +kernel) (by decide +kernel)
theorem dfX4 : ∀ j, j < 10 → defaultValue (tyOf 4 j) = if (tyOf 4 j).isReference then .null else .int 0 := by decide +kernel
theorem gwX5 : ∀ w ∈ u_ws RX5 TX5 9, w ∈ GW := gw_list [266, 268, 270, 272, 274, 276, 278, 280, 282] (by decide +kernel) (by decide +kernel)
theorem dfX5 : ∀ j, j < 9 → defaultValue (tyOf 5 j) = if (tyOf 5 j).isReference then .null else .int 0 := by decide +kernel
theorem gwX6 : ∀ w ∈ u_ws RX6 TX6 4, w ∈ GW := gw_list [90, 92, 94, 96] (by decide +kernel) (by decide +kernel)
theorem dfX6 : ∀ j, j < 4 → defaultValue (tyOf 6 j) = if (tyOf 6 j).isReference then .null else .int 0 := by decide +kernel
theorem gwX8 : ∀ w ∈ u_ws RX8 TX8 15, w ∈ GW := gw_list [383, 385, 387, 389, 391, 393, 395, 397, 399, 401, 403, 405, 407, 409, 411] (by decide +kernel) (by decide +kernel)
theorem dfX8 : ∀ j, j < 15 → defaultValue (tyOf 7 j) = if (tyOf 7 j).isReference then .null else .int 0 := by decide +kernel
theorem gwX9 : ∀ w ∈ u_ws RX9 TX9 7, w ∈ GW := gw_list [69, 71, 73, 75, 77, 79, 81] (by decide +kernel) (by decide +kernel)
theorem dfX9 : ∀ j, j < 7 → defaultValue (tyOf 8 j) = if (tyOf 8 j).isReference then .null else .int 0 := by decide +kernel
theorem gwX10 : ∀ w ∈ u_ws RX10 TX10 12, w ∈ GW := gw_list [193, 195, 197, 199, 201, 203, 205, 207, 209, 211, 213, 215] (by decide +kernel) (by decide +kernel)
theorem dfX10 : ∀ j, j < 12 → defaultValue (tyOf 9 j) = if (tyOf 9 j).isReference then .null else .int 0 := by decide +kernel
theorem gwX11 : ∀ w ∈ u_ws RX11 TX11 11, w ∈ GW := gw_list [457, 459, 461, 463, 465, 467, 469, 471, 473, 475, 477] (by decide +kernel) (by decide +kernel)
theorem dfX11 : ∀ j, j < 11 → defaultValue (tyOf 10 j) = if (tyOf 10 j).isReference then .null else .int 0 := by decide +kernel
def gX0_init : Gm := (RX0, cX0_init, 1, none, true, 2, 5, 22)
theorem yl_X0_init : YL yX0_init gX0_init 0 := ⟨gw_in (i := 289) (by decide +kernel) rfl, gw_in (i := 24) (by decide +kernel) rfl, by decide, by decide, by decide, rfl⟩
def gX0_clear : Gm := (RX0, cX0_clear, 1, none, false, 2, 0, 0)
theorem yl_X0_clear : YL yX0_clear gX0_clear 0 := ⟨gw_in (i := 949) (by decide +kernel) rfl, gw_in (i := 24) (by decide +kernel) rfl, by decide, by decide, by decide, rfl⟩
def gX0_clearPlaces : Gm := (RX0, cX0_clearPlaces, 2, none, false, 1, 0, 0)
theorem yl_X0_clearPlaces : YL yX0_clearPlaces gX0_clearPlaces 0 := ⟨gw_in (i := 924) (by decide +kernel) rfl, gw_in (i := 24) (by decide +kernel) rfl, by decide, by decide, by decide, rfl⟩
def gX0_copyFrom : Gm := (RX0, cX0_copyFrom, 2, none, false, 2, 0, 0)
theorem yl_X0_copyFrom : YL yX0_copyFrom gX0_copyFrom 1 := ⟨gw_in (i := 535) (by decide +kernel) rfl, gw_in (i := 24) (by decide +kernel) rfl, by decide, by decide, by decide, rfl⟩
def gX0_has : Gm := (RX0, cX0_has, 2, some .boolean, false, 1, 0, 0)
theorem yl_X0_has : YL yX0_has gX0_has 1 := ⟨gw_in (i := 495) (by decide +kernel) rfl, gw_in (i := 24) (by decide +kernel) rfl, by decide, by decide, by decide, rfl⟩
def gX0_called : Gm := (RX0, cX0_called, 4, some .int, false, 1, 0, 0)
theorem yl_X0_called : YL yX0_called gX0_called 1 := ⟨gw_in (i := 959) (by decide +kernel) rfl, gw_in (i := 24) (by decide +kernel) rfl, by decide, by decide, by decide, rfl⟩
def gX0_lyingOn : Gm := (RX0, cX0_lyingOn, 3, some .int, false, 1, 0, 0)
theorem yl_X0_lyingOn : YL yX0_lyingOn gX0_lyingOn 1 := ⟨gw_in (i := 527) (by decide +kernel) rfl, gw_in (i := 24) (by decide +kernel) rfl, by decide, by decide, by decide, rfl⟩
def gX0_weightOn : Gm := (RX0, cX0_weightOn, 3, some .int, false, 2, 0, 0)
theorem yl_X0_weightOn : YL yX0_weightOn gX0_weightOn 1 := ⟨gw_in (i := 569) (by decide +kernel) rfl, gw_in (i := 24) (by decide +kernel) rfl, by decide, by decide, by decide, rfl⟩
def gX0_outCount : Gm := (RX0, cX0_outCount, 3, some .int, false, 1, 0, 0)
theorem yl_X0_outCount : YL yX0_outCount gX0_outCount 0 := ⟨gw_in (i := 487) (by decide +kernel) rfl, gw_in (i := 24) (by decide +kernel) rfl, by decide, by decide, by decide, rfl⟩
def gX0_inBins : Gm := (RX0, cX0_inBins, 3, some .int, false, 1, 0, 0)
theorem yl_X0_inBins : YL yX0_inBins gX0_inBins 0 := ⟨gw_in (i := 582) (by decide +kernel) rfl, gw_in (i := 24) (by decide +kernel) rfl, by decide, by decide, by decide, rfl⟩
def gX0_add : Gm := (RX0, cX0_add, 5, none, false, 2, 0, 0)
theorem yl_X0_add : YL yX0_add gX0_add 3 := ⟨gw_in (i := 963) (by decide +kernel) rfl, gw_in (i := 24) (by decide +kernel) rfl, by decide, by decide, by decide, rfl⟩
def gX0_write : Gm := (RX0, cX0_write, 7, none, false, 1, 0, 0)
theorem yl_X0_write : YL yX0_write gX0_write 5 := ⟨gw_in (i := 967) (by decide +kernel) rfl, gw_in (i := 24) (by decide +kernel) rfl, by decide, by decide, by decide, rfl⟩
def gX1_init : Gm := (RX1, cX1_init, 1, none, true, 2, 9, 45)
theorem yl_X1_init : YL yX1_init gX1_init 0 := ⟨gw_in (i := 109) (by decide +kernel) rfl, gw_in (i := 22) (by decide +kernel) rfl, by decide, by decide, by decide, rfl⟩
def gX1_clear : Gm := (RX1, cX1_clear, 1, none, false, 1, 0, 0)
theorem yl_X1_clear : YL yX1_clear gX1_clear 0 := ⟨gw_in (i := 225) (by decide +kernel) rfl, gw_in (i := 22) (by decide +kernel) rfl, by decide, by decide, by decide, rfl⟩
def gX1_hasHold : Gm := (RX1, cX1_hasHold, 2, some .boolean, false, 1, 0, 0)
theorem yl_X1_hasHold : YL yX1_hasHold gX1_hasHold 1 := ⟨gw_in (i := 511) (by decide +kernel) rfl, gw_in (i := 22) (by decide +kernel) rfl, by decide, by decide, by decide, rfl⟩
def gX1_hasSpot : Gm := (RX1, cX1_hasSpot, 2, some .boolean, false, 1, 0, 0)
theorem yl_X1_hasSpot : YL yX1_hasSpot gX1_hasSpot 1 := ⟨gw_in (i := 518) (by decide +kernel) rfl, gw_in (i := 22) (by decide +kernel) rfl, by decide, by decide, by decide, rfl⟩
def gX1_isHoldCalled : Gm := (RX1, cX1_isHoldCalled, 4, some .boolean, false, 1, 0, 0)
theorem yl_X1_isHoldCalled : YL yX1_isHoldCalled gX1_isHoldCalled 1 := ⟨gw_in (i := 834) (by decide +kernel) rfl, gw_in (i := 22) (by decide +kernel) rfl, by decide, by decide, by decide, rfl⟩
def gX1_addHold : Gm := (RX1, cX1_addHold, 5, none, false, 1, 0, 0)
theorem yl_X1_addHold : YL yX1_addHold gX1_addHold 3 := ⟨gw_in (i := 848) (by decide +kernel) rfl, gw_in (i := 22) (by decide +kernel) rfl, by decide, by decide, by decide, rfl⟩
def gX1_addSpot : Gm := (RX1, cX1_addSpot, 6, none, false, 2, 0, 0)
theorem yl_X1_addSpot : YL yX1_addSpot gX1_addSpot 2 := ⟨gw_in (i := 857) (by decide +kernel) rfl, gw_in (i := 22) (by decide +kernel) rfl, by decide, by decide, by decide, rfl⟩
def gX1_takesJoint : Gm := (RX1, cX1_takesJoint, 2, some .boolean, false, 1, 0, 0)
theorem yl_X1_takesJoint : YL yX1_takesJoint gX1_takesJoint 0 := ⟨gw_in (i := 867) (by decide +kernel) rfl, gw_in (i := 22) (by decide +kernel) rfl, by decide, by decide, by decide, rfl⟩
def gX1_addJoint : Gm := (RX1, cX1_addJoint, 2, none, false, 1, 0, 0)
theorem yl_X1_addJoint : YL yX1_addJoint gX1_addJoint 1 := ⟨gw_in (i := 871) (by decide +kernel) rfl, gw_in (i := 22) (by decide +kernel) rfl, by decide, by decide, by decide, rfl⟩
def gX1_isOnWay : Gm := (RX1, cX1_isOnWay, 3, some .boolean, false, 2, 0, 0)
theorem yl_X1_isOnWay : YL yX1_isOnWay gX1_isOnWay 2 := ⟨gw_in (i := 594) (by decide +kernel) rfl, gw_in (i := 22) (by decide +kernel) rfl, by decide, by decide, by decide, rfl⟩
def gX2_init : Gm := (RX2, cX2_init, 2, none, true, 3, 49, 240)
theorem yl_X2_init : YL yX2_init gX2_init 0 := ⟨gw_in (i := 332) (by decide +kernel) rfl, gw_in (i := 25) (by decide +kernel) rfl, by decide, by decide, by decide, rfl⟩
def gX2_keep : Gm := (RX2, cX2_keep, 3, none, false, 3, 0, 0)
theorem yl_X2_keep : YL yX2_keep gX2_keep 1 := ⟨gw_in (i := 531) (by decide +kernel) rfl, gw_in (i := 25) (by decide +kernel) rfl, by decide, by decide, by decide, rfl⟩
def gX2_bringBack : Gm := (RX2, cX2_bringBack, 3, none, false, 3, 0, 0)
theorem yl_X2_bringBack : YL yX2_bringBack gX2_bringBack 1 := ⟨gw_in (i := 637) (by decide +kernel) rfl, gw_in (i := 25) (by decide +kernel) rfl, by decide, by decide, by decide, rfl⟩
def gX3_init : Gm := (RX3, cX3_init, 1, none, true, 4, 29, 186)
theorem yl_X3_init : YL yX3_init gX3_init 0 := ⟨gw_in (i := 352) (by decide +kernel) rfl, gw_in (i := 26) (by decide +kernel) rfl, by decide, by decide, by decide, rfl⟩
def gX4_init : Gm := (RX4, cX4_init, 1, none, true, 2, 5, 751)
theorem yl_X4_init : YL yX4_init gX4_init 0 := ⟨gw_in (i := 418) (by decide +kernel) rfl, gw_in (i := 28) (by decide +kernel) rfl, by decide, by decide, by decide, rfl⟩
def gX5_init : Gm := (RX5, cX5_init, 1, none, true, 3, 22, 148)
theorem yl_X5_init : YL yX5_init gX5_init 0 := ⟨gw_in (i := 103) (by decide +kernel) rfl, gw_in (i := 21) (by decide +kernel) rfl, by decide, by decide, by decide, rfl⟩
def gX5_clear : Gm := (RX5, cX5_clear, 2, none, false, 2, 0, 0)
theorem yl_X5_clear : YL yX5_clear gX5_clear 0 := ⟨gw_in (i := 221) (by decide +kernel) rfl, gw_in (i := 21) (by decide +kernel) rfl, by decide, by decide, by decide, rfl⟩
def gX5_hasBin : Gm := (RX5, cX5_hasBin, 2, some .boolean, false, 1, 0, 0)
theorem yl_X5_hasBin : YL yX5_hasBin gX5_hasBin 1 := ⟨gw_in (i := 506) (by decide +kernel) rfl, gw_in (i := 21) (by decide +kernel) rfl, by decide, by decide, by decide, rfl⟩
def gX5_addBin : Gm := (RX5, cX5_addBin, 3, none, false, 1, 0, 0)
theorem yl_X5_addBin : YL yX5_addBin gX5_addBin 2 := ⟨gw_in (i := 880) (by decide +kernel) rfl, gw_in (i := 21) (by decide +kernel) rfl, by decide, by decide, by decide, rfl⟩
def gX6_init : Gm := (RX6, cX6_init, 1, none, true, 3, 2, 547)
theorem yl_X6_init : YL yX6_init gX6_init 0 := ⟨gw_in (i := 48) (by decide +kernel) rfl, gw_in (i := 19) (by decide +kernel) rfl, by decide, by decide, by decide, rfl⟩
def gX6_readPlane : Gm := (RX6, cX6_readPlane, 3, none, false, 11, 0, 0)
theorem yl_X6_readPlane : YL yX6_readPlane gX6_readPlane 1 := ⟨gw_in (i := 701) (by decide +kernel) rfl, gw_in (i := 19) (by decide +kernel) rfl, by decide, by decide, by decide, rfl⟩
def gX6_readCargo : Gm := (RX6, cX6_readCargo, 3, none, false, 10, 0, 0)
theorem yl_X6_readCargo : YL yX6_readCargo gX6_readCargo 1 := ⟨gw_in (i := 945) (by decide +kernel) rfl, gw_in (i := 19) (by decide +kernel) rfl, by decide, by decide, by decide, rfl⟩
def gX6_atLine : Gm := (RX6, cX6_atLine, 1, some .boolean, false, 3, 0, 0)
theorem yl_X6_atLine : YL yX6_atLine gX6_atLine 0 := ⟨gw_in (i := 714) (by decide +kernel) rfl, gw_in (i := 19) (by decide +kernel) rfl, by decide, by decide, by decide, rfl⟩
def gX6_readEmpty : Gm := (RX6, cX6_readEmpty, 2, none, false, 4, 0, 0)
theorem yl_X6_readEmpty : YL yX6_readEmpty gX6_readEmpty 1 := ⟨gw_in (i := 784) (by decide +kernel) rfl, gw_in (i := 19) (by decide +kernel) rfl, by decide, by decide, by decide, rfl⟩
def gX6_readSpan : Gm := (RX6, cX6_readSpan, 2, none, false, 4, 0, 0)
theorem yl_X6_readSpan : YL yX6_readSpan gX6_readSpan 1 := ⟨gw_in (i := 795) (by decide +kernel) rfl, gw_in (i := 19) (by decide +kernel) rfl, by decide, by decide, by decide, rfl⟩
def gX6_readHold : Gm := (RX6, cX6_readHold, 6, none, false, 10, 0, 0)
theorem yl_X6_readHold : YL yX6_readHold gX6_readHold 1 := ⟨gw_in (i := 800) (by decide +kernel) rfl, gw_in (i := 19) (by decide +kernel) rfl, by decide, by decide, by decide, rfl⟩
def gX6_isFrontDoor : Gm := (RX6, cX6_isFrontDoor, 2, some .boolean, false, 7, 0, 0)
theorem yl_X6_isFrontDoor : YL yX6_isFrontDoor gX6_isFrontDoor 0 := ⟨gw_in (i := 842) (by decide +kernel) rfl, gw_in (i := 19) (by decide +kernel) rfl, by decide, by decide, by decide, rfl⟩
def gX6_readSpot : Gm := (RX6, cX6_readSpot, 4, none, false, 4, 0, 0)
theorem yl_X6_readSpot : YL yX6_readSpot gX6_readSpot 1 := ⟨gw_in (i := 853) (by decide +kernel) rfl, gw_in (i := 19) (by decide +kernel) rfl, by decide, by decide, by decide, rfl⟩
def gX6_readJoint : Gm := (RX6, cX6_readJoint, 3, none, false, 4, 0, 0)
theorem yl_X6_readJoint : YL yX6_readJoint gX6_readJoint 1 := ⟨gw_in (i := 863) (by decide +kernel) rfl, gw_in (i := 19) (by decide +kernel) rfl, by decide, by decide, by decide, rfl⟩
def gX6_readBin : Gm := (RX6, cX6_readBin, 4, none, false, 4, 0, 0)
theorem yl_X6_readBin : YL yX6_readBin gX6_readBin 1 := ⟨gw_in (i := 876) (by decide +kernel) rfl, gw_in (i := 19) (by decide +kernel) rfl, by decide, by decide, by decide, rfl⟩
def gX6_readTank : Gm := (RX6, cX6_readTank, 6, none, false, 10, 0, 0)
theorem yl_X6_readTank : YL yX6_readTank gX6_readTank 1 := ⟨gw_in (i := 885) (by decide +kernel) rfl, gw_in (i := 19) (by decide +kernel) rfl, by decide, by decide, by decide, rfl⟩
def gX6_readBurn : Gm := (RX6, cX6_readBurn, 4, none, false, 9, 0, 0)
theorem yl_X6_readBurn : YL yX6_readBurn gX6_readBurn 1 := ⟨gw_in (i := 894) (by decide +kernel) rfl, gw_in (i := 19) (by decide +kernel) rfl, by decide, by decide, by decide, rfl⟩
def gX6_readStop : Gm := (RX6, cX6_readStop, 2, none, false, 2, 0, 0)
theorem yl_X6_readStop : YL yX6_readStop gX6_readStop 1 := ⟨gw_in (i := 907) (by decide +kernel) rfl, gw_in (i := 19) (by decide +kernel) rfl, by decide, by decide, by decide, rfl⟩
def gX6_newName : Gm := (RX6, cX6_newName, 4, some .long, false, 9, 0, 0)
theorem yl_X6_newName : YL yX6_newName gX6_newName 1 := ⟨gw_in (i := 804) (by decide +kernel) rfl, gw_in (i := 19) (by decide +kernel) rfl, by decide, by decide, by decide, rfl⟩
def gX6_readPallet : Gm := (RX6, cX6_readPallet, 6, none, false, 9, 0, 0)
theorem yl_X6_readPallet : YL yX6_readPallet gX6_readPallet 1 := ⟨gw_in (i := 955) (by decide +kernel) rfl, gw_in (i := 19) (by decide +kernel) rfl, by decide, by decide, by decide, rfl⟩
def gX6_readBulk : Gm := (RX6, cX6_readBulk, 2, none, false, 4, 0, 0)
theorem yl_X6_readBulk : YL yX6_readBulk gX6_readBulk 1 := ⟨gw_in (i := 972) (by decide +kernel) rfl, gw_in (i := 19) (by decide +kernel) rfl, by decide, by decide, by decide, rfl⟩
def gX7_firstBroken : Gm := (RX7, cX7_firstBroken, 3, some .int, false, 6, 0, 0)
theorem yl_X7_firstBroken : YL yX7_firstBroken gX7_firstBroken 2 := ⟨gw_in (i := 556) (by decide +kernel) rfl, gw_in (i := 35) (by decide +kernel) rfl, by decide, by decide, by decide, rfl⟩
def gX7_brokenAt : Gm := (RX7, cX7_brokenAt, 3, some .int, false, 5, 0, 0)
theorem yl_X7_brokenAt : YL yX7_brokenAt gX7_brokenAt 3 := ⟨gw_in (i := 559) (by decide +kernel) rfl, gw_in (i := 35) (by decide +kernel) rfl, by decide, by decide, by decide, rfl⟩
def gX7_outPallet : Gm := (RX7, cX7_outPallet, 2, some .int, false, 1, 0, 0)
theorem yl_X7_outPallet : YL yX7_outPallet gX7_outPallet 1 := ⟨gw_in (i := 562) (by decide +kernel) rfl, gw_in (i := 35) (by decide +kernel) rfl, by decide, by decide, by decide, rfl⟩
def gX7_heavySpot : Gm := (RX7, cX7_heavySpot, 3, some .int, false, 3, 0, 0)
theorem yl_X7_heavySpot : YL yX7_heavySpot gX7_heavySpot 2 := ⟨gw_in (i := 565) (by decide +kernel) rfl, gw_in (i := 35) (by decide +kernel) rfl, by decide, by decide, by decide, rfl⟩
def gX7_heavyJoint : Gm := (RX7, cX7_heavyJoint, 4, some .int, false, 3, 0, 0)
theorem yl_X7_heavyJoint : YL yX7_heavyJoint gX7_heavyJoint 2 := ⟨gw_in (i := 574) (by decide +kernel) rfl, gw_in (i := 35) (by decide +kernel) rfl, by decide, by decide, by decide, rfl⟩
def gX7_heavyHold : Gm := (RX7, cX7_heavyHold, 3, some .int, false, 3, 0, 0)
theorem yl_X7_heavyHold : YL yX7_heavyHold gX7_heavyHold 2 := ⟨gw_in (i := 577) (by decide +kernel) rfl, gw_in (i := 35) (by decide +kernel) rfl, by decide, by decide, by decide, rfl⟩
def gX7_loadOfHold : Gm := (RX7, cX7_loadOfHold, 6, some .int, false, 2, 0, 0)
theorem yl_X7_loadOfHold : YL yX7_loadOfHold gX7_loadOfHold 3 := ⟨gw_in (i := 514) (by decide +kernel) rfl, gw_in (i := 35) (by decide +kernel) rfl, by decide, by decide, by decide, rfl⟩
def gX7_blockedSpot : Gm := (RX7, cX7_blockedSpot, 4, some .int, false, 4, 0, 0)
theorem yl_X7_blockedSpot : YL yX7_blockedSpot gX7_blockedSpot 2 := ⟨gw_in (i := 585) (by decide +kernel) rfl, gw_in (i := 35) (by decide +kernel) rfl, by decide, by decide, by decide, rfl⟩
def gX7_blockersOf : Gm := (RX7, cX7_blockersOf, 6, some .int, false, 3, 0, 0)
theorem yl_X7_blockersOf : YL yX7_blockersOf gX7_blockersOf 3 := ⟨gw_in (i := 589) (by decide +kernel) rfl, gw_in (i := 35) (by decide +kernel) rfl, by decide, by decide, by decide, rfl⟩
def gX7_stageOutOfSpan : Gm := (RX7, cX7_stageOutOfSpan, 5, some .int, false, 3, 0, 0)
theorem yl_X7_stageOutOfSpan : YL yX7_stageOutOfSpan gX7_stageOutOfSpan 2 := ⟨gw_in (i := 598) (by decide +kernel) rfl, gw_in (i := 35) (by decide +kernel) rfl, by decide, by decide, by decide, rfl⟩
def gX7_weightAt : Gm := (RX7, cX7_weightAt, 5, some .int, false, 2, 0, 0)
theorem yl_X7_weightAt : YL yX7_weightAt gX7_weightAt 3 := ⟨gw_in (i := 601) (by decide +kernel) rfl, gw_in (i := 35) (by decide +kernel) rfl, by decide, by decide, by decide, rfl⟩
def gX7_momentAt : Gm := (RX7, cX7_momentAt, 6, some .int, false, 2, 0, 0)
theorem yl_X7_momentAt : YL yX7_momentAt gX7_momentAt 3 := ⟨gw_in (i := 604) (by decide +kernel) rfl, gw_in (i := 35) (by decide +kernel) rfl, by decide, by decide, by decide, rfl⟩
def gX8_init : Gm := (RX8, cX8_init, 1, none, true, 2, 9, 2194)
theorem yl_X8_init : YL yX8_init gX8_init 0 := ⟨gw_in (i := 371) (by decide +kernel) rfl, gw_in (i := 27) (by decide +kernel) rfl, by decide, by decide, by decide, rfl⟩
def gX8_forget : Gm := (RX8, cX8_forget, 1, none, false, 1, 0, 0)
theorem yl_X8_forget : YL yX8_forget gX8_forget 0 := ⟨gw_in (i := 629) (by decide +kernel) rfl, gw_in (i := 27) (by decide +kernel) rfl, by decide, by decide, by decide, rfl⟩
def gX9_init : Gm := (RX9, cX9_init, 1, none, true, 2, 1, 540)
theorem yl_X9_init : YL yX9_init gX9_init 0 := ⟨gw_in (i := 54) (by decide +kernel) rfl, gw_in (i := 20) (by decide +kernel) rfl, by decide, by decide, by decide, rfl⟩
def gX9_addBytes : Gm := (RX9, cX9_addBytes, 3, none, false, 1, 0, 0)
theorem yl_X9_addBytes : YL yX9_addBytes gX9_addBytes 1 := ⟨gw_in (i := 689) (by decide +kernel) rfl, gw_in (i := 20) (by decide +kernel) rfl, by decide, by decide, by decide, rfl⟩
def gX9_begin : Gm := (RX9, cX9_begin, 2, none, false, 2, 0, 0)
theorem yl_X9_begin : YL yX9_begin gX9_begin 1 := ⟨gw_in (i := 706) (by decide +kernel) rfl, gw_in (i := 20) (by decide +kernel) rfl, by decide, by decide, by decide, rfl⟩
def gX9_fail : Gm := (RX9, cX9_fail, 2, none, false, 1, 0, 0)
theorem yl_X9_fail : YL yX9_fail gX9_fail 1 := ⟨gw_in (i := 710) (by decide +kernel) rfl, gw_in (i := 20) (by decide +kernel) rfl, by decide, by decide, by decide, rfl⟩
def gX9_next : Gm := (RX9, cX9_next, 2, none, false, 2, 0, 0)
theorem yl_X9_next : YL yX9_next gX9_next 0 := ⟨gw_in (i := 718) (by decide +kernel) rfl, gw_in (i := 20) (by decide +kernel) rfl, by decide, by decide, by decide, rfl⟩
def gX9_number : Gm := (RX9, cX9_number, 5, some .int, false, 3, 0, 0)
theorem yl_X9_number : YL yX9_number gX9_number 2 := ⟨gw_in (i := 789) (by decide +kernel) rfl, gw_in (i := 20) (by decide +kernel) rfl, by decide, by decide, by decide, rfl⟩
def gX9_newWord : Gm := (RX9, cX9_newWord, 1, some .long, false, 8, 0, 0)
theorem yl_X9_newWord : YL yX9_newWord gX9_newWord 0 := ⟨gw_in (i := 808) (by decide +kernel) rfl, gw_in (i := 20) (by decide +kernel) rfl, by decide, by decide, by decide, rfl⟩
def gX9_lineEnd : Gm := (RX9, cX9_lineEnd, 1, none, false, 3, 0, 0)
theorem yl_X9_lineEnd : YL yX9_lineEnd gX9_lineEnd 0 := ⟨gw_in (i := 915) (by decide +kernel) rfl, gw_in (i := 20) (by decide +kernel) rfl, by decide, by decide, by decide, rfl⟩
def gX9_tells : Gm := (RX9, cX9_tells, 3, some .boolean, false, 6, 0, 0)
theorem yl_X9_tells : YL yX9_tells gX9_tells 1 := ⟨gw_in (i := 732) (by decide +kernel) rfl, gw_in (i := 20) (by decide +kernel) rfl, by decide, by decide, by decide, rfl⟩
def gX9_isQuoted : Gm := (RX9, cX9_isQuoted, 1, some .boolean, false, 7, 0, 0)
theorem yl_X9_isQuoted : YL yX9_isQuoted gX9_isQuoted 0 := ⟨gw_in (i := 812) (by decide +kernel) rfl, gw_in (i := 20) (by decide +kernel) rfl, by decide, by decide, by decide, rfl⟩
def gX9_kindOf : Gm := (RX9, cX9_kindOf, 2, some .int, false, 1, 0, 0)
theorem yl_X9_kindOf : YL yX9_kindOf gX9_kindOf 2 := ⟨gw_in (i := 727) (by decide +kernel) rfl, gw_in (i := 20) (by decide +kernel) rfl, by decide, by decide, by decide, rfl⟩
def gX9_isLetter : Gm := (RX9, cX9_isLetter, 1, some .boolean, false, 1, 0, 0)
theorem yl_X9_isLetter : YL yX9_isLetter gX9_isLetter 1 := ⟨gw_in (i := 721) (by decide +kernel) rfl, gw_in (i := 20) (by decide +kernel) rfl, by decide, by decide, by decide, rfl⟩
def gX9_isDigit : Gm := (RX9, cX9_isDigit, 1, some .boolean, false, 1, 0, 0)
theorem yl_X9_isDigit : YL yX9_isDigit gX9_isDigit 1 := ⟨gw_in (i := 724) (by decide +kernel) rfl, gw_in (i := 20) (by decide +kernel) rfl, by decide, by decide, by decide, rfl⟩
def gX9_packed : Gm := (RX9, cX9_packed, 6, some .long, false, 2, 0, 0)
theorem yl_X9_packed : YL yX9_packed gX9_packed 2 := ⟨gw_in (i := 830) (by decide +kernel) rfl, gw_in (i := 20) (by decide +kernel) rfl, by decide, by decide, by decide, rfl⟩
def gX9_lettersOf : Gm := (RX9, cX9_lettersOf, 4, some .int, false, 1, 0, 0)
theorem yl_X9_lettersOf : YL yX9_lettersOf gX9_lettersOf 1 := ⟨gw_in (i := 498) (by decide +kernel) rfl, gw_in (i := 20) (by decide +kernel) rfl, by decide, by decide, by decide, rfl⟩
def gX10_init : Gm := (RX10, cX10_init, 1, none, true, 2, 9, 75)
theorem yl_X10_init : YL yX10_init gX10_init 0 := ⟨gw_in (i := 168) (by decide +kernel) rfl, gw_in (i := 23) (by decide +kernel) rfl, by decide, by decide, by decide, rfl⟩
def gX10_clear : Gm := (RX10, cX10_clear, 1, none, false, 1, 0, 0)
theorem yl_X10_clear : YL yX10_clear gX10_clear 0 := ⟨gw_in (i := 229) (by decide +kernel) rfl, gw_in (i := 23) (by decide +kernel) rfl, by decide, by decide, by decide, rfl⟩
def gX10_hasTank : Gm := (RX10, cX10_hasTank, 2, some .boolean, false, 1, 0, 0)
theorem yl_X10_hasTank : YL yX10_hasTank gX10_hasTank 1 := ⟨gw_in (i := 237) (by decide +kernel) rfl, gw_in (i := 23) (by decide +kernel) rfl, by decide, by decide, by decide, rfl⟩
def gX10_tankCalled : Gm := (RX10, cX10_tankCalled, 4, some .int, false, 1, 0, 0)
theorem yl_X10_tankCalled : YL yX10_tankCalled gX10_tankCalled 1 := ⟨gw_in (i := 838) (by decide +kernel) rfl, gw_in (i := 23) (by decide +kernel) rfl, by decide, by decide, by decide, rfl⟩
def gX10_leftIn : Gm := (RX10, cX10_leftIn, 2, some .int, false, 2, 0, 0)
theorem yl_X10_leftIn : YL yX10_leftIn gX10_leftIn 1 := ⟨gw_in (i := 898) (by decide +kernel) rfl, gw_in (i := 23) (by decide +kernel) rfl, by decide, by decide, by decide, rfl⟩
def gX10_addTank : Gm := (RX10, cX10_addTank, 5, none, false, 1, 0, 0)
theorem yl_X10_addTank : YL yX10_addTank gX10_addTank 3 := ⟨gw_in (i := 889) (by decide +kernel) rfl, gw_in (i := 23) (by decide +kernel) rfl, by decide, by decide, by decide, rfl⟩
def gX10_addBurn : Gm := (RX10, cX10_addBurn, 3, none, false, 2, 0, 0)
theorem yl_X10_addBurn : YL yX10_addBurn gX10_addBurn 2 := ⟨gw_in (i := 902) (by decide +kernel) rfl, gw_in (i := 23) (by decide +kernel) rfl, by decide, by decide, by decide, rfl⟩
def gX10_addStop : Gm := (RX10, cX10_addStop, 1, none, false, 1, 0, 0)
theorem yl_X10_addStop : YL yX10_addStop gX10_addStop 0 := ⟨gw_in (i := 911) (by decide +kernel) rfl, gw_in (i := 23) (by decide +kernel) rfl, by decide, by decide, by decide, rfl⟩
def gX10_reckon : Gm := (RX10, cX10_reckon, 6, none, false, 2, 0, 0)
theorem yl_X10_reckon : YL yX10_reckon gX10_reckon 2 := ⟨gw_in (i := 233) (by decide +kernel) rfl, gw_in (i := 23) (by decide +kernel) rfl, by decide, by decide, by decide, rfl⟩
def gX11_init : Gm := (RX11, cX11_init, 1, none, true, 5, 187, 4514)
theorem yl_X11_init : YL yX11_init gX11_init 0 := ⟨gw_in (i := 40) (by decide +kernel) rfl, gw_in (i := 18) (by decide +kernel) rfl, by decide, by decide, by decide, rfl⟩
def gX11_feed : Gm := (RX11, cX11_feed, 7, some .int, false, 2, 0, 0)
theorem yl_X11_feed : YL yX11_feed gX11_feed 5 := ⟨gw_in (i := 685) (by decide +kernel) rfl, gw_in (i := 18) (by decide +kernel) rfl, by decide, by decide, by decide, rfl⟩
def gX11_end : Gm := (RX11, cX11_end, 2, some .boolean, false, 1, 0, 0)
theorem yl_X11_end : YL yX11_end gX11_end 1 := ⟨gw_in (i := 693) (by decide +kernel) rfl, gw_in (i := 18) (by decide +kernel) rfl, by decide, by decide, by decide, rfl⟩
def gX11_plane : Gm := (RX11, cX11_plane, 2, some .int, false, 12, 0, 0)
theorem yl_X11_plane : YL yX11_plane gX11_plane 0 := ⟨gw_in (i := 697) (by decide +kernel) rfl, gw_in (i := 18) (by decide +kernel) rfl, by decide, by decide, by decide, rfl⟩
def gX11_cargo : Gm := (RX11, cX11_cargo, 2, some .int, false, 11, 0, 0)
theorem yl_X11_cargo : YL yX11_cargo gX11_cargo 0 := ⟨gw_in (i := 941) (by decide +kernel) rfl, gw_in (i := 18) (by decide +kernel) rfl, by decide, by decide, by decide, rfl⟩
def gX11_fault : Gm := (RX11, cX11_fault, 1, some .int, false, 1, 0, 0)
theorem yl_X11_fault : YL yX11_fault gX11_fault 0 := ⟨gw_in (i := 928) (by decide +kernel) rfl, gw_in (i := 18) (by decide +kernel) rfl, by decide, by decide, by decide, rfl⟩
def gX11_count : Gm := (RX11, cX11_count, 2, some .int, false, 2, 0, 0)
theorem yl_X11_count : YL yX11_count gX11_count 1 := ⟨gw_in (i := 483) (by decide +kernel) rfl, gw_in (i := 18) (by decide +kernel) rfl, by decide, by decide, by decide, rfl⟩
def gX11_pallet : Gm := (RX11, cX11_pallet, 3, some .int, false, 2, 0, 0)
theorem yl_X11_pallet : YL yX11_pallet gX11_pallet 2 := ⟨gw_in (i := 491) (by decide +kernel) rfl, gw_in (i := 18) (by decide +kernel) rfl, by decide, by decide, by decide, rfl⟩
def gX11_in : Gm := (RX11, cX11_in, 3, some .int, false, 3, 0, 0)
theorem yl_X11_in : YL yX11_in gX11_in 2 := ⟨gw_in (i := 502) (by decide +kernel) rfl, gw_in (i := 18) (by decide +kernel) rfl, by decide, by decide, by decide, rfl⟩
def gX11_put : Gm := (RX11, cX11_put, 4, some .int, false, 4, 0, 0)
theorem yl_X11_put : YL yX11_put gX11_put 2 := ⟨gw_in (i := 522) (by decide +kernel) rfl, gw_in (i := 18) (by decide +kernel) rfl, by decide, by decide, by decide, rfl⟩
def gX11_off : Gm := (RX11, cX11_off, 3, some .int, false, 4, 0, 0)
theorem yl_X11_off : YL yX11_off gX11_off 1 := ⟨gw_in (i := 545) (by decide +kernel) rfl, gw_in (i := 18) (by decide +kernel) rfl, by decide, by decide, by decide, rfl⟩
def gX11_pour : Gm := (RX11, cX11_pour, 3, some .int, false, 4, 0, 0)
theorem yl_X11_pour : YL yX11_pour gX11_pour 2 := ⟨gw_in (i := 549) (by decide +kernel) rfl, gw_in (i := 18) (by decide +kernel) rfl, by decide, by decide, by decide, rfl⟩
def gX11_why : Gm := (RX11, cX11_why, 1, some .int, false, 7, 0, 0)
theorem yl_X11_why : YL yX11_why gX11_why 0 := ⟨gw_in (i := 553) (by decide +kernel) rfl, gw_in (i := 18) (by decide +kernel) rfl, by decide, by decide, by decide, rfl⟩
def gX11_where : Gm := (RX11, cX11_where, 1, some .int, false, 7, 0, 0)
theorem yl_X11_where : YL yX11_where gX11_where 0 := ⟨gw_in (i := 608) (by decide +kernel) rfl, gw_in (i := 18) (by decide +kernel) rfl, by decide, by decide, by decide, rfl⟩
def gX11_stage : Gm := (RX11, cX11_stage, 5, some .int, false, 3, 0, 0)
theorem yl_X11_stage : YL yX11_stage gX11_stage 2 := ⟨gw_in (i := 613) (by decide +kernel) rfl, gw_in (i := 18) (by decide +kernel) rfl, by decide, by decide, by decide, rfl⟩
def gX11_blocks : Gm := (RX11, cX11_blocks, 2, some .int, false, 4, 0, 0)
theorem yl_X11_blocks : YL yX11_blocks gX11_blocks 1 := ⟨gw_in (i := 620) (by decide +kernel) rfl, gw_in (i := 18) (by decide +kernel) rfl, by decide, by decide, by decide, rfl⟩
def gX11_weigh : Gm := (RX11, cX11_weigh, 3, some .int, false, 4, 0, 0)
theorem yl_X11_weigh : YL yX11_weigh gX11_weigh 2 := ⟨gw_in (i := 625) (by decide +kernel) rfl, gw_in (i := 18) (by decide +kernel) rfl, by decide, by decide, by decide, rfl⟩
def gX11_undo : Gm := (RX11, cX11_undo, 1, some .int, false, 4, 0, 0)
theorem yl_X11_undo : YL yX11_undo gX11_undo 0 := ⟨gw_in (i := 633) (by decide +kernel) rfl, gw_in (i := 18) (by decide +kernel) rfl, by decide, by decide, by decide, rfl⟩
def gX11_startAnew : Gm := (RX11, cX11_startAnew, 1, none, false, 2, 0, 0)
theorem yl_X11_startAnew : YL yX11_startAnew gX11_startAnew 0 := ⟨gw_in (i := 920) (by decide +kernel) rfl, gw_in (i := 18) (by decide +kernel) rfl, by decide, by decide, by decide, rfl⟩
def gJ9_max_7cf53 : Gm := (RJ9, cJ9_max_7cf53, 2, some .int, false, 1, 0, 0)
theorem yl_J9_max_7cf53 : YL yJ9_max_7cf53 gJ9_max_7cf53 2 := ⟨gw_in (i := 640) (by decide +kernel) rfl, gw_in (i := 34) (by decide +kernel) rfl, by decide, by decide, by decide, rfl⟩
def gJ9_min_7cf53 : Gm := (RJ9, cJ9_min_7cf53, 2, some .int, false, 1, 0, 0)
theorem yl_J9_min_7cf53 : YL yJ9_min_7cf53 gJ9_min_7cf53 2 := ⟨gw_in (i := 541) (by decide +kernel) rfl, gw_in (i := 34) (by decide +kernel) rfl, by decide, by decide, by decide, rfl⟩
def gJ0_length_8abf5 : Gm := (RJ0, cJ0_length_8abf5, 1, some .int, false, 2, 0, 0)
theorem yl_J0_length_8abf5 : YL yJ0_length_8abf5 gJ0_length_8abf5 0 := ⟨gw_in (i := 736) (by decide +kernel) rfl, gw_in (i := 29) (by decide +kernel) rfl, by decide, by decide, by decide, rfl⟩
def gJ0_charAt_5068e : Gm := (RJ0, cJ0_charAt_5068e, 2, some .char, false, 5, 0, 0)
theorem yl_J0_charAt_5068e : YL yJ0_charAt_5068e gJ0_charAt_5068e 1 := ⟨gw_in (i := 746) (by decide +kernel) rfl, gw_in (i := 29) (by decide +kernel) rfl, by decide, by decide, by decide, rfl⟩
def gJ0_coder_7d493 : Gm := (RJ0, cJ0_coder_7d493, 1, some .byte, false, 1, 0, 0)
theorem yl_J0_coder_7d493 : YL yJ0_coder_7d493 gJ0_coder_7d493 0 := ⟨gw_in (i := 740) (by decide +kernel) rfl, gw_in (i := 29) (by decide +kernel) rfl, by decide, by decide, by decide, rfl⟩
def gJ0_isLatin1_aae02 : Gm := (RJ0, cJ0_isLatin1_aae02, 1, some .boolean, false, 1, 0, 0)
theorem yl_J0_isLatin1_aae02 : YL yJ0_isLatin1_aae02 gJ0_isLatin1_aae02 0 := ⟨gw_in (i := 750) (by decide +kernel) rfl, gw_in (i := 29) (by decide +kernel) rfl, by decide, by decide, by decide, rfl⟩
def gJ0_checkIndex_df160 : Gm := (RJ0, cJ0_checkIndex_df160, 2, none, false, 2, 0, 0)
theorem yl_J0_checkIndex_df160 : YL yJ0_checkIndex_df160 gJ0_checkIndex_df160 2 := ⟨gw_in (i := 756) (by decide +kernel) rfl, gw_in (i := 29) (by decide +kernel) rfl, by decide, by decide, by decide, rfl⟩
def gJ1_charAt_3b067 : Gm := (RJ1, cJ1_charAt_3b067, 2, some .char, false, 3, 0, 0)
theorem yl_J1_charAt_3b067 : YL yJ1_charAt_3b067 gJ1_charAt_3b067 2 := ⟨gw_in (i := 753) (by decide +kernel) rfl, gw_in (i := 30) (by decide +kernel) rfl, by decide, by decide, by decide, rfl⟩
def gJ3_checkIndex_8e157 : Gm := (RJ3, cJ3_checkIndex_8e157, 3, some .int, false, 1, 0, 0)
theorem yl_J3_checkIndex_8e157 : YL yJ3_checkIndex_8e157 gJ3_checkIndex_8e157 3 := ⟨gw_in (i := 761) (by decide +kernel) rfl, gw_in (i := 31) (by decide +kernel) rfl, by decide, by decide, by decide, rfl⟩
def gL_sign : Gm := (RL, cL_sign, 3, none, false, 1, 0, 0)
theorem yl_L_sign : YL yL_sign gL_sign 2 := ⟨gw_in (i := 657) (by decide +kernel) rfl, gw_in (i := 17) (by decide +kernel) rfl, by decide, by decide, by decide, rfl⟩
def gL_text : Gm := (RL, cL_text, 5, none, false, 2, 0, 0)
theorem yl_L_text : YL yL_text gL_text 2 := ⟨gw_in (i := 653) (by decide +kernel) rfl, gw_in (i := 17) (by decide +kernel) rfl, by decide, by decide, by decide, rfl⟩
def gL_number : Gm := (RL, cL_number, 3, none, false, 2, 0, 0)
theorem yl_L_number : YL yL_number gL_number 2 := ⟨gw_in (i := 663) (by decide +kernel) rfl, gw_in (i := 17) (by decide +kernel) rfl, by decide, by decide, by decide, rfl⟩
def gL_send : Gm := (RL, cL_send, 4, none, false, 3, 0, 0)
theorem yl_L_send : YL yL_send gL_send 2 := ⟨gw_in (i := 681) (by decide +kernel) rfl, gw_in (i := 17) (by decide +kernel) rfl, by decide, by decide, by decide, rfl⟩
def gL_cell : Gm := (RL, cL_cell, 2, some .int, false, 1, 0, 0)
theorem yl_L_cell : YL yL_cell gL_cell 2 := ⟨gw_in (i := 643) (by decide +kernel) rfl, gw_in (i := 17) (by decide +kernel) rfl, by decide, by decide, by decide, rfl⟩
def gL_two : Gm := (RL, cL_two, 3, none, false, 3, 0, 0)
theorem yl_L_two : YL yL_two gL_two 3 := ⟨gw_in (i := 660) (by decide +kernel) rfl, gw_in (i := 17) (by decide +kernel) rfl, by decide, by decide, by decide, rfl⟩
def gL_plane : Gm := (RL, cL_plane, 5, some (.array .int), false, 2, 1, 23)
theorem yl_L_plane : YL yL_plane gL_plane 1 := ⟨gw_in (i := 646) (by decide +kernel) rfl, gw_in (i := 17) (by decide +kernel) rfl, by decide, by decide, by decide, rfl⟩
def gL_door : Gm := (RL, cL_door, 2, none, false, 3, 0, 0)
theorem yl_L_door : YL yL_door gL_door 2 := ⟨gw_in (i := 668) (by decide +kernel) rfl, gw_in (i := 17) (by decide +kernel) rfl, by decide, by decide, by decide, rfl⟩
def gL_isPlane : Gm := (RL, cL_isPlane, 5, some .boolean, false, 13, 0, 0)
theorem yl_L_isPlane : YL yL_isPlane gL_isPlane 3 := ⟨gw_in (i := 649) (by decide +kernel) rfl, gw_in (i := 17) (by decide +kernel) rfl, by decide, by decide, by decide, rfl⟩
def gL_cargo : Gm := (RL, cL_cargo, 4, some (.array .int), false, 2, 1, 12)
theorem yl_L_cargo : YL yL_cargo gL_cargo 2 := ⟨gw_in (i := 932) (by decide +kernel) rfl, gw_in (i := 17) (by decide +kernel) rfl, by decide, by decide, by decide, rfl⟩
def gL_isCargo : Gm := (RL, cL_isCargo, 4, some .boolean, false, 12, 0, 0)
theorem yl_L_isCargo : YL yL_isCargo gL_isCargo 3 := ⟨gw_in (i := 935) (by decide +kernel) rfl, gw_in (i := 17) (by decide +kernel) rfl, by decide, by decide, by decide, rfl⟩
def gL_way : Gm := (RL, cL_way, 3, some .int, false, 1, 0, 0)
theorem yl_L_way : YL yL_way gL_way 2 := ⟨gw_in (i := 975) (by decide +kernel) rfl, gw_in (i := 17) (by decide +kernel) rfl, by decide, by decide, by decide, rfl⟩
def gL_stage : Gm := (RL, cL_stage, 10, some .int, false, 1, 0, 0)
theorem yl_L_stage : YL yL_stage gL_stage 6 := ⟨gw_in (i := 978) (by decide +kernel) rfl, gw_in (i := 17) (by decide +kernel) rfl, by decide, by decide, by decide, rfl⟩
def gL_broken : Gm := (RL, cL_broken, 9, some .int, false, 2, 2, 8)
theorem yl_L_broken : YL yL_broken gL_broken 4 := ⟨gw_in (i := 981) (by decide +kernel) rfl, gw_in (i := 17) (by decide +kernel) rfl, by decide, by decide, by decide, rfl⟩
theorem ml_X0_3 : Cond.methodLink RX0 3 objectInit ∈ GW ∧ Cond.instanceMethod objectInit ∈ GW ∧ Cond.code objectInit ⟨#[0xb1]⟩ 1 none ∈ GW := ⟨gw_in (i := 290) (by decide +kernel) rfl, gw_in (i := 42) (by decide +kernel) rfl, gw_in (i := 43) (by decide +kernel) rfl⟩
theorem fl_X0_9 : FL RX0 9 0 1 1 7 (.array .long) true := ⟨RX0, TX0, rfl, by decide, gw_in (i := 295) (by decide +kernel) rfl, rfl, gwX0, rfl, rfl, tyX0_ok, nmX0, rfl, by decide⟩
theorem fl_X0_15 : FL RX0 15 0 2 2 7 (.array .int) true := ⟨RX0, TX0, rfl, by decide, gw_in (i := 297) (by decide +kernel) rfl, rfl, gwX0, rfl, rfl, tyX0_ok, nmX0, rfl, by decide⟩
theorem fl_X0_19 : FL RX0 19 0 3 3 7 (.array .int) true := ⟨RX0, TX0, rfl, by decide, gw_in (i := 300) (by decide +kernel) rfl, rfl, gwX0, rfl, rfl, tyX0_ok, nmX0, rfl, by decide⟩
theorem fl_X0_22 : FL RX0 22 0 4 4 7 (.array .int) true := ⟨RX0, TX0, rfl, by decide, gw_in (i := 303) (by decide +kernel) rfl, rfl, gwX0, rfl, rfl, tyX0_ok, nmX0, rfl, by decide⟩
theorem fl_X0_25 : FL RX0 25 0 6 6 7 (.array .int) true := ⟨RX0, TX0, rfl, by decide, gw_in (i := 310) (by decide +kernel) rfl, rfl, gwX0, rfl, rfl, tyX0_ok, nmX0, rfl, by decide⟩
theorem fl_X0_28 : FL RX0 28 0 0 0 7 .int false := ⟨RX0, TX0, rfl, by decide, gw_in (i := 291) (by decide +kernel) rfl, rfl, gwX0, rfl, rfl, tyX0_ok, nmX0, rfl, by decide⟩
theorem fl_X0_32 : FL RX0 32 0 5 5 7 .int false := ⟨RX0, TX0, rfl, by decide, gw_in (i := 306) (by decide +kernel) rfl, rfl, gwX0, rfl, rfl, tyX0_ok, nmX0, rfl, by decide⟩
theorem ml_X0_35 : Cond.methodLink RX0 35 yX0_clearPlaces ∈ GW ∧ Cond.instanceMethod yX0_clearPlaces ∈ GW ∧ Cond.selects yX0_clearPlaces.cls yX0_clearPlaces yX0_clearPlaces ∈ GW := ⟨gw_in (i := 950) (by decide +kernel) rfl, gw_in (i := 922) (by decide +kernel) rfl, gw_in (i := 923) (by decide +kernel) rfl⟩
theorem ml_X0_38 : CopyL RX0 38 := ⟨gw_in (i := 536) (by decide +kernel) rfl, gw_in (i := 538) (by decide +kernel) rfl, gw_in (i := 537) (by decide +kernel) rfl, gw_in (i := 33) (by decide +kernel) rfl⟩
theorem ml_X0_44 : Cond.methodLink RX0 44 yX0_lyingOn ∈ GW ∧ Cond.instanceMethod yX0_lyingOn ∈ GW ∧ Cond.selects yX0_lyingOn.cls yX0_lyingOn yX0_lyingOn ∈ GW := ⟨gw_in (i := 570) (by decide +kernel) rfl, gw_in (i := 525) (by decide +kernel) rfl, gw_in (i := 526) (by decide +kernel) rfl⟩
theorem ml_X0_48 : Cond.methodLink RX0 48 yX0_has ∈ GW ∧ Cond.instanceMethod yX0_has ∈ GW ∧ Cond.selects yX0_has.cls yX0_has yX0_has ∈ GW := ⟨gw_in (i := 571) (by decide +kernel) rfl, gw_in (i := 493) (by decide +kernel) rfl, gw_in (i := 494) (by decide +kernel) rfl⟩
theorem ml_X0_52 : Cond.methodLink RX0 52 yX0_write ∈ GW ∧ Cond.instanceMethod yX0_write ∈ GW ∧ Cond.selects yX0_write.cls yX0_write yX0_write ∈ GW := ⟨gw_in (i := 964) (by decide +kernel) rfl, gw_in (i := 966) (by decide +kernel) rfl, gw_in (i := 15) (by decide +kernel) rfl⟩
theorem ml_X1_3 : Cond.methodLink RX1 3 objectInit ∈ GW ∧ Cond.instanceMethod objectInit ∈ GW ∧ Cond.code objectInit ⟨#[0xb1]⟩ 1 none ∈ GW := ⟨gw_in (i := 110) (by decide +kernel) rfl, gw_in (i := 42) (by decide +kernel) rfl, gw_in (i := 43) (by decide +kernel) rfl⟩
theorem fl_X1_9 : FL RX1 9 1 1 1 12 (.array .long) true := ⟨RX1, TX1, rfl, by decide, gw_in (i := 115) (by decide +kernel) rfl, rfl, gwX1, rfl, rfl, tyX1_ok, nmX1, rfl, by decide⟩
theorem fl_X1_15 : FL RX1 15 1 2 2 12 (.array .int) true := ⟨RX1, TX1, rfl, by decide, gw_in (i := 116) (by decide +kernel) rfl, rfl, gwX1, rfl, rfl, tyX1_ok, nmX1, rfl, by decide⟩
theorem fl_X1_19 : FL RX1 19 1 3 3 12 (.array .boolean) true := ⟨RX1, TX1, rfl, by decide, gw_in (i := 118) (by decide +kernel) rfl, rfl, gwX1, rfl, rfl, tyX1_ok, nmX1, rfl, by decide⟩
theorem fl_X1_23 : FL RX1 23 1 5 5 12 (.array .int) true := ⟨RX1, TX1, rfl, by decide, gw_in (i := 123) (by decide +kernel) rfl, rfl, gwX1, rfl, rfl, tyX1_ok, nmX1, rfl, by decide⟩
theorem fl_X1_26 : FL RX1 26 1 6 6 12 (.array .int) true := ⟨RX1, TX1, rfl, by decide, gw_in (i := 125) (by decide +kernel) rfl, rfl, gwX1, rfl, rfl, tyX1_ok, nmX1, rfl, by decide⟩
theorem fl_X1_29 : FL RX1 29 1 7 7 12 (.array .int) true := ⟨RX1, TX1, rfl, by decide, gw_in (i := 127) (by decide +kernel) rfl, rfl, gwX1, rfl, rfl, tyX1_ok, nmX1, rfl, by decide⟩
theorem fl_X1_32 : FL RX1 32 1 8 8 12 (.array .int) true := ⟨RX1, TX1, rfl, by decide, gw_in (i := 129) (by decide +kernel) rfl, rfl, gwX1, rfl, rfl, tyX1_ok, nmX1, rfl, by decide⟩
theorem fl_X1_35 : FL RX1 35 1 10 10 12 (.array .int) true := ⟨RX1, TX1, rfl, by decide, gw_in (i := 133) (by decide +kernel) rfl, rfl, gwX1, rfl, rfl, tyX1_ok, nmX1, rfl, by decide⟩
theorem fl_X1_38 : FL RX1 38 1 11 11 12 (.array .int) true := ⟨RX1, TX1, rfl, by decide, gw_in (i := 135) (by decide +kernel) rfl, rfl, gwX1, rfl, rfl, tyX1_ok, nmX1, rfl, by decide⟩
theorem fl_X1_41 : FL RX1 41 1 0 0 12 .int false := ⟨RX1, TX1, rfl, by decide, gw_in (i := 111) (by decide +kernel) rfl, rfl, gwX1, rfl, rfl, tyX1_ok, nmX1, rfl, by decide⟩
theorem fl_X1_45 : FL RX1 45 1 4 4 12 .int false := ⟨RX1, TX1, rfl, by decide, gw_in (i := 119) (by decide +kernel) rfl, rfl, gwX1, rfl, rfl, tyX1_ok, nmX1, rfl, by decide⟩
theorem fl_X1_48 : FL RX1 48 1 9 9 12 .int false := ⟨RX1, TX1, rfl, by decide, gw_in (i := 130) (by decide +kernel) rfl, rfl, gwX1, rfl, rfl, tyX1_ok, nmX1, rfl, by decide⟩
theorem ml_X1_57 : Cond.methodLink RX1 57 yX1_hasHold ∈ GW ∧ Cond.instanceMethod yX1_hasHold ∈ GW ∧ Cond.selects yX1_hasHold.cls yX1_hasHold yX1_hasHold ∈ GW := ⟨gw_in (i := 858) (by decide +kernel) rfl, gw_in (i := 509) (by decide +kernel) rfl, gw_in (i := 510) (by decide +kernel) rfl⟩
theorem ml_X1_61 : Cond.methodLink RX1 61 yX1_hasSpot ∈ GW ∧ Cond.instanceMethod yX1_hasSpot ∈ GW ∧ Cond.selects yX1_hasSpot.cls yX1_hasSpot yX1_hasSpot ∈ GW := ⟨gw_in (i := 595) (by decide +kernel) rfl, gw_in (i := 516) (by decide +kernel) rfl, gw_in (i := 517) (by decide +kernel) rfl⟩
theorem ml_X2_3 : Cond.methodLink RX2 3 objectInit ∈ GW ∧ Cond.instanceMethod objectInit ∈ GW ∧ Cond.code objectInit ⟨#[0xb1]⟩ 1 none ∈ GW := ⟨gw_in (i := 333) (by decide +kernel) rfl, gw_in (i := 42) (by decide +kernel) rfl, gw_in (i := 43) (by decide +kernel) rfl⟩
theorem ql_X2_9 : Cond.classLink RX2 9 "LoadSpans$Cargo" ∈ GW := gw_in (i := 334) (by decide +kernel) rfl
theorem fl_X2_11 : FL RX2 11 2 0 0 3 (.array (.object "LoadSpans$Cargo")) true := ⟨RX2, TX2, rfl, by decide, gw_in (i := 337) (by decide +kernel) rfl, rfl, gwX2, rfl, rfl, tyX2_ok, nmX2, rfl, by decide⟩
theorem nl_X2_9 : NL RX2 9 0 7 := ⟨RX0, TX0, rfl, gw_in (i := 334) (by decide +kernel) rfl, gw_in (i := 286) (by decide +kernel) rfl, gw_in (i := 24) (by decide +kernel) rfl, gwX0, tyX0_ok, dfX0, by decide⟩
theorem ml_X2_17 : (RX2, 17, yX0_init, "LoadSpans") ∈ nestL := by decide +kernel
theorem mi_X2_17 : Cond.instanceMethod yX0_init ∈ GW ∧ yX0_init.name = "<init>" := ⟨gw_in (i := 288) (by decide +kernel) rfl, rfl⟩
theorem fl_X2_18 : FL RX2 18 2 1 1 3 .int false := ⟨RX2, TX2, rfl, by decide, gw_in (i := 338) (by decide +kernel) rfl, rfl, gwX2, rfl, rfl, tyX2_ok, nmX2, rfl, by decide⟩
theorem ml_X2_22 : Cond.methodLink RX2 22 yX0_copyFrom ∈ GW ∧ Cond.instanceMethod yX0_copyFrom ∈ GW ∧ Cond.selects yX0_copyFrom.cls yX0_copyFrom yX0_copyFrom ∈ GW := ⟨gw_in (i := 532) (by decide +kernel) rfl, gw_in (i := 533) (by decide +kernel) rfl, gw_in (i := 534) (by decide +kernel) rfl⟩
theorem fl_X2_26 : FL RX2 26 2 2 2 3 .int false := ⟨RX2, TX2, rfl, by decide, gw_in (i := 339) (by decide +kernel) rfl, rfl, gwX2, rfl, rfl, tyX2_ok, nmX2, rfl, by decide⟩
theorem ml_X2_29 : Cond.methodLink RX2 29 yJ9_min_7cf53 ∈ GW ∧ Cond.static yJ9_min_7cf53 ∈ GW := ⟨gw_in (i := 539) (by decide +kernel) rfl, gw_in (i := 540) (by decide +kernel) rfl⟩
theorem ml_X2_35 : Cond.methodLink RX2 35 yJ9_max_7cf53 ∈ GW ∧ Cond.static yJ9_max_7cf53 ∈ GW := ⟨gw_in (i := 638) (by decide +kernel) rfl, gw_in (i := 639) (by decide +kernel) rfl⟩
theorem ml_X3_1 : Cond.methodLink RX3 1 objectInit ∈ GW ∧ Cond.instanceMethod objectInit ∈ GW ∧ Cond.code objectInit ⟨#[0xb1]⟩ 1 none ∈ GW := ⟨gw_in (i := 353) (by decide +kernel) rfl, gw_in (i := 42) (by decide +kernel) rfl, gw_in (i := 43) (by decide +kernel) rfl⟩
theorem nl_X3_7 : NL RX3 7 5 9 := ⟨RX5, TX5, rfl, gw_in (i := 354) (by decide +kernel) rfl, gw_in (i := 100) (by decide +kernel) rfl, gw_in (i := 21) (by decide +kernel) rfl, gwX5, tyX5_ok, dfX5, by decide⟩
theorem ml_X3_9 : Cond.methodLink RX3 9 yX5_init ∈ GW ∧ Cond.instanceMethod yX5_init ∈ GW ∧ yX5_init.name = "<init>" := ⟨gw_in (i := 355) (by decide +kernel) rfl, gw_in (i := 102) (by decide +kernel) rfl, rfl⟩
theorem fl_X3_10 : FL RX3 10 3 1 1 3 (.object "LoadSpans$Plane") true := ⟨RX3, TX3, rfl, by decide, gw_in (i := 358) (by decide +kernel) rfl, rfl, gwX3, rfl, rfl, tyX3_ok, nmX3, rfl, by decide⟩
theorem nl_X3_16 : NL RX3 16 0 7 := ⟨RX0, TX0, rfl, gw_in (i := 356) (by decide +kernel) rfl, gw_in (i := 286) (by decide +kernel) rfl, gw_in (i := 24) (by decide +kernel) rfl, gwX0, tyX0_ok, dfX0, by decide⟩
theorem ml_X3_18 : (RX3, 18, yX0_init, "LoadSpans") ∈ nestL := by decide +kernel
theorem mi_X3_18 : Cond.instanceMethod yX0_init ∈ GW ∧ yX0_init.name = "<init>" := ⟨gw_in (i := 288) (by decide +kernel) rfl, rfl⟩
theorem fl_X3_19 : FL RX3 19 3 2 2 3 (.object "LoadSpans$Cargo") true := ⟨RX3, TX3, rfl, by decide, gw_in (i := 359) (by decide +kernel) rfl, rfl, gwX3, rfl, rfl, tyX3_ok, nmX3, rfl, by decide⟩
theorem ml_X4_3 : Cond.methodLink RX4 3 objectInit ∈ GW ∧ Cond.instanceMethod objectInit ∈ GW ∧ Cond.code objectInit ⟨#[0xb1]⟩ 1 none ∈ GW := ⟨gw_in (i := 419) (by decide +kernel) rfl, gw_in (i := 42) (by decide +kernel) rfl, gw_in (i := 43) (by decide +kernel) rfl⟩
theorem fl_X4_11 : FL RX4 11 4 0 0 10 (.array .int) true := ⟨RX4, TX4, rfl, by decide, gw_in (i := 420) (by decide +kernel) rfl, rfl, gwX4, rfl, rfl, tyX4_ok, nmX4, rfl, by decide⟩
theorem fl_X4_15 : FL RX4 15 4 2 2 10 (.array .int) true := ⟨RX4, TX4, rfl, by decide, gw_in (i := 421) (by decide +kernel) rfl, rfl, gwX4, rfl, rfl, tyX4_ok, nmX4, rfl, by decide⟩
theorem fl_X4_18 : FL RX4 18 4 3 3 10 (.array .int) true := ⟨RX4, TX4, rfl, by decide, gw_in (i := 422) (by decide +kernel) rfl, rfl, gwX4, rfl, rfl, tyX4_ok, nmX4, rfl, by decide⟩
theorem fl_X4_21 : FL RX4 21 4 4 4 10 (.array .int) true := ⟨RX4, TX4, rfl, by decide, gw_in (i := 423) (by decide +kernel) rfl, rfl, gwX4, rfl, rfl, tyX4_ok, nmX4, rfl, by decide⟩
theorem fl_X4_26 : FL RX4 26 4 5 5 10 (.array .int) true := ⟨RX4, TX4, rfl, by decide, gw_in (i := 424) (by decide +kernel) rfl, rfl, gwX4, rfl, rfl, tyX4_ok, nmX4, rfl, by decide⟩
theorem ml_X5_3 : Cond.methodLink RX5 3 objectInit ∈ GW ∧ Cond.instanceMethod objectInit ∈ GW ∧ Cond.code objectInit ⟨#[0xb1]⟩ 1 none ∈ GW := ⟨gw_in (i := 104) (by decide +kernel) rfl, gw_in (i := 42) (by decide +kernel) rfl, gw_in (i := 43) (by decide +kernel) rfl⟩
theorem fl_X5_9 : FL RX5 9 5 5 5 9 (.array .int) true := ⟨RX5, TX5, rfl, by decide, gw_in (i := 254) (by decide +kernel) rfl, rfl, gwX5, rfl, rfl, tyX5_ok, nmX5, rfl, by decide⟩
theorem fl_X5_15 : FL RX5 15 5 6 6 9 (.array .int) true := ⟨RX5, TX5, rfl, by decide, gw_in (i := 256) (by decide +kernel) rfl, rfl, gwX5, rfl, rfl, tyX5_ok, nmX5, rfl, by decide⟩
theorem nl_X5_18 : NL RX5 18 1 12 := ⟨RX1, TX1, rfl, gw_in (i := 105) (by decide +kernel) rfl, gw_in (i := 106) (by decide +kernel) rfl, gw_in (i := 22) (by decide +kernel) rfl, gwX1, tyX1_ok, dfX1, by decide⟩
theorem ml_X5_20 : (RX5, 20, yX1_init, "LoadSpans") ∈ nestL := by decide +kernel
theorem mi_X5_20 : Cond.instanceMethod yX1_init ∈ GW ∧ yX1_init.name = "<init>" := ⟨gw_in (i := 108) (by decide +kernel) rfl, rfl⟩
theorem fl_X5_21 : FL RX5 21 5 7 7 9 (.object "LoadSpans$Floor") true := ⟨RX5, TX5, rfl, by decide, gw_in (i := 258) (by decide +kernel) rfl, rfl, gwX5, rfl, rfl, tyX5_ok, nmX5, rfl, by decide⟩
theorem nl_X5_25 : NL RX5 25 9 12 := ⟨RX10, TX10, rfl, gw_in (i := 164) (by decide +kernel) rfl, gw_in (i := 165) (by decide +kernel) rfl, gw_in (i := 23) (by decide +kernel) rfl, gwX10, tyX10_ok, dfX10, by decide⟩
theorem ml_X5_27 : (RX5, 27, yX10_init, "LoadSpans") ∈ nestL := by decide +kernel
theorem mi_X5_27 : Cond.instanceMethod yX10_init ∈ GW ∧ yX10_init.name = "<init>" := ⟨gw_in (i := 167) (by decide +kernel) rfl, rfl⟩
theorem fl_X5_28 : FL RX5 28 5 8 8 9 (.object "LoadSpans$Voyage") true := ⟨RX5, TX5, rfl, by decide, gw_in (i := 262) (by decide +kernel) rfl, rfl, gwX5, rfl, rfl, tyX5_ok, nmX5, rfl, by decide⟩
theorem ml_X5_32 : Cond.methodLink RX5 32 yX5_clear ∈ GW ∧ Cond.instanceMethod yX5_clear ∈ GW ∧ Cond.selects yX5_clear.cls yX5_clear yX5_clear ∈ GW := ⟨gw_in (i := 218) (by decide +kernel) rfl, gw_in (i := 219) (by decide +kernel) rfl, gw_in (i := 220) (by decide +kernel) rfl⟩
theorem fl_X5_35 : FL RX5 35 5 0 0 9 .int false := ⟨RX5, TX5, rfl, by decide, gw_in (i := 238) (by decide +kernel) rfl, rfl, gwX5, rfl, rfl, tyX5_ok, nmX5, rfl, by decide⟩
theorem fl_X5_39 : FL RX5 39 5 1 1 9 .int false := ⟨RX5, TX5, rfl, by decide, gw_in (i := 240) (by decide +kernel) rfl, rfl, gwX5, rfl, rfl, tyX5_ok, nmX5, rfl, by decide⟩
theorem ml_X5_42 : Cond.methodLink RX5 42 yX10_reckon ∈ GW ∧ Cond.instanceMethod yX10_reckon ∈ GW ∧ Cond.selects yX10_reckon.cls yX10_reckon yX10_reckon ∈ GW := ⟨gw_in (i := 230) (by decide +kernel) rfl, gw_in (i := 231) (by decide +kernel) rfl, gw_in (i := 232) (by decide +kernel) rfl⟩
theorem fl_X5_46 : FL RX5 46 5 2 2 9 .int false := ⟨RX5, TX5, rfl, by decide, gw_in (i := 242) (by decide +kernel) rfl, rfl, gwX5, rfl, rfl, tyX5_ok, nmX5, rfl, by decide⟩
theorem fl_X5_49 : FL RX5 49 5 3 3 9 .int false := ⟨RX5, TX5, rfl, by decide, gw_in (i := 246) (by decide +kernel) rfl, rfl, gwX5, rfl, rfl, tyX5_ok, nmX5, rfl, by decide⟩
theorem fl_X5_52 : FL RX5 52 5 4 4 9 .int false := ⟨RX5, TX5, rfl, by decide, gw_in (i := 250) (by decide +kernel) rfl, rfl, gwX5, rfl, rfl, tyX5_ok, nmX5, rfl, by decide⟩
theorem ml_X5_55 : Cond.methodLink RX5 55 yX1_clear ∈ GW ∧ Cond.instanceMethod yX1_clear ∈ GW ∧ Cond.selects yX1_clear.cls yX1_clear yX1_clear ∈ GW := ⟨gw_in (i := 222) (by decide +kernel) rfl, gw_in (i := 223) (by decide +kernel) rfl, gw_in (i := 224) (by decide +kernel) rfl⟩
theorem ml_X5_56 : Cond.methodLink RX5 56 yX10_clear ∈ GW ∧ Cond.instanceMethod yX10_clear ∈ GW ∧ Cond.selects yX10_clear.cls yX10_clear yX10_clear ∈ GW := ⟨gw_in (i := 226) (by decide +kernel) rfl, gw_in (i := 227) (by decide +kernel) rfl, gw_in (i := 228) (by decide +kernel) rfl⟩
theorem ml_X6_3 : Cond.methodLink RX6 3 objectInit ∈ GW ∧ Cond.instanceMethod objectInit ∈ GW ∧ Cond.code objectInit ⟨#[0xb1]⟩ 1 none ∈ GW := ⟨gw_in (i := 49) (by decide +kernel) rfl, gw_in (i := 42) (by decide +kernel) rfl, gw_in (i := 43) (by decide +kernel) rfl⟩
theorem nl_X6_9 : NL RX6 9 8 7 := ⟨RX9, TX9, rfl, gw_in (i := 50) (by decide +kernel) rfl, gw_in (i := 51) (by decide +kernel) rfl, gw_in (i := 20) (by decide +kernel) rfl, gwX9, tyX9_ok, dfX9, by decide⟩
theorem ml_X6_11 : (RX6, 11, yX9_init, "LoadSpans") ∈ nestL := by decide +kernel
theorem mi_X6_11 : Cond.instanceMethod yX9_init ∈ GW ∧ yX9_init.name = "<init>" := ⟨gw_in (i := 53) (by decide +kernel) rfl, rfl⟩
theorem fl_X6_12 : FL RX6 12 6 0 0 4 (.object "LoadSpans$Tokens") true := ⟨RX6, TX6, rfl, by decide, gw_in (i := 85) (by decide +kernel) rfl, rfl, gwX6, rfl, rfl, tyX6_ok, nmX6, rfl, by decide⟩
theorem fl_X6_18 : FL RX6 18 6 1 1 4 .boolean false := ⟨RX6, TX6, rfl, by decide, gw_in (i := 87) (by decide +kernel) rfl, rfl, gwX6, rfl, rfl, tyX6_ok, nmX6, rfl, by decide⟩
theorem fl_X6_22 : FL RX6 22 6 2 2 4 .boolean false := ⟨RX6, TX6, rfl, by decide, gw_in (i := 88) (by decide +kernel) rfl, rfl, gwX6, rfl, rfl, tyX6_ok, nmX6, rfl, by decide⟩
theorem ml_X6_25 : Cond.methodLink RX6 25 yX5_clear ∈ GW ∧ Cond.instanceMethod yX5_clear ∈ GW ∧ Cond.selects yX5_clear.cls yX5_clear yX5_clear ∈ GW := ⟨gw_in (i := 702) (by decide +kernel) rfl, gw_in (i := 219) (by decide +kernel) rfl, gw_in (i := 220) (by decide +kernel) rfl⟩
theorem ml_X6_30 : Cond.methodLink RX6 30 yX9_begin ∈ GW ∧ Cond.instanceMethod yX9_begin ∈ GW ∧ Cond.selects yX9_begin.cls yX9_begin yX9_begin ∈ GW := ⟨gw_in (i := 703) (by decide +kernel) rfl, gw_in (i := 704) (by decide +kernel) rfl, gw_in (i := 705) (by decide +kernel) rfl⟩
theorem ml_X6_34 : Cond.methodLink RX6 34 yX6_atLine ∈ GW ∧ Cond.instanceMethod yX6_atLine ∈ GW ∧ Cond.selects yX6_atLine.cls yX6_atLine yX6_atLine ∈ GW := ⟨gw_in (i := 711) (by decide +kernel) rfl, gw_in (i := 713) (by decide +kernel) rfl, gw_in (i := 0) (by decide +kernel) rfl⟩
theorem ml_X6_40 : Cond.methodLink RX6 40 yX9_tells ∈ GW ∧ Cond.instanceMethod yX9_tells ∈ GW ∧ Cond.selects yX9_tells.cls yX9_tells yX9_tells ∈ GW := ⟨gw_in (i := 729) (by decide +kernel) rfl, gw_in (i := 730) (by decide +kernel) rfl, gw_in (i := 731) (by decide +kernel) rfl⟩
theorem ml_X6_44 : Cond.methodLink RX6 44 yX6_readEmpty ∈ GW ∧ Cond.instanceMethod yX6_readEmpty ∈ GW ∧ Cond.selects yX6_readEmpty.cls yX6_readEmpty yX6_readEmpty ∈ GW := ⟨gw_in (i := 781) (by decide +kernel) rfl, gw_in (i := 783) (by decide +kernel) rfl, gw_in (i := 1) (by decide +kernel) rfl⟩
theorem ml_X6_50 : Cond.methodLink RX6 50 yX6_readSpan ∈ GW ∧ Cond.instanceMethod yX6_readSpan ∈ GW ∧ Cond.selects yX6_readSpan.cls yX6_readSpan yX6_readSpan ∈ GW := ⟨gw_in (i := 792) (by decide +kernel) rfl, gw_in (i := 794) (by decide +kernel) rfl, gw_in (i := 2) (by decide +kernel) rfl⟩
theorem ml_X6_55 : Cond.methodLink RX6 55 yX6_readHold ∈ GW ∧ Cond.instanceMethod yX6_readHold ∈ GW ∧ Cond.selects yX6_readHold.cls yX6_readHold yX6_readHold ∈ GW := ⟨gw_in (i := 797) (by decide +kernel) rfl, gw_in (i := 799) (by decide +kernel) rfl, gw_in (i := 3) (by decide +kernel) rfl⟩
theorem fl_X6_60 : FL RX6 60 5 7 7 9 (.object "LoadSpans$Floor") true := ⟨RX5, TX5, rfl, by decide, gw_in (i := 259) (by decide +kernel) rfl, rfl, gwX5, rfl, rfl, tyX5_ok, nmX5, rfl, by decide⟩
theorem ml_X6_64 : Cond.methodLink RX6 64 yX6_readSpot ∈ GW ∧ Cond.instanceMethod yX6_readSpot ∈ GW ∧ Cond.selects yX6_readSpot.cls yX6_readSpot yX6_readSpot ∈ GW := ⟨gw_in (i := 850) (by decide +kernel) rfl, gw_in (i := 852) (by decide +kernel) rfl, gw_in (i := 7) (by decide +kernel) rfl⟩
theorem ml_X6_70 : Cond.methodLink RX6 70 yX6_readJoint ∈ GW ∧ Cond.instanceMethod yX6_readJoint ∈ GW ∧ Cond.selects yX6_readJoint.cls yX6_readJoint yX6_readJoint ∈ GW := ⟨gw_in (i := 860) (by decide +kernel) rfl, gw_in (i := 862) (by decide +kernel) rfl, gw_in (i := 8) (by decide +kernel) rfl⟩
theorem ml_X6_75 : Cond.methodLink RX6 75 yX6_readBin ∈ GW ∧ Cond.instanceMethod yX6_readBin ∈ GW ∧ Cond.selects yX6_readBin.cls yX6_readBin yX6_readBin ∈ GW := ⟨gw_in (i := 873) (by decide +kernel) rfl, gw_in (i := 875) (by decide +kernel) rfl, gw_in (i := 9) (by decide +kernel) rfl⟩
theorem ml_X6_80 : Cond.methodLink RX6 80 yX6_readTank ∈ GW ∧ Cond.instanceMethod yX6_readTank ∈ GW ∧ Cond.selects yX6_readTank.cls yX6_readTank yX6_readTank ∈ GW := ⟨gw_in (i := 882) (by decide +kernel) rfl, gw_in (i := 884) (by decide +kernel) rfl, gw_in (i := 10) (by decide +kernel) rfl⟩
theorem fl_X6_85 : FL RX6 85 5 8 8 9 (.object "LoadSpans$Voyage") true := ⟨RX5, TX5, rfl, by decide, gw_in (i := 263) (by decide +kernel) rfl, rfl, gwX5, rfl, rfl, tyX5_ok, nmX5, rfl, by decide⟩
theorem ml_X6_89 : Cond.methodLink RX6 89 yX6_readBurn ∈ GW ∧ Cond.instanceMethod yX6_readBurn ∈ GW ∧ Cond.selects yX6_readBurn.cls yX6_readBurn yX6_readBurn ∈ GW := ⟨gw_in (i := 891) (by decide +kernel) rfl, gw_in (i := 893) (by decide +kernel) rfl, gw_in (i := 11) (by decide +kernel) rfl⟩
theorem ml_X6_95 : Cond.methodLink RX6 95 yX6_readStop ∈ GW ∧ Cond.instanceMethod yX6_readStop ∈ GW ∧ Cond.selects yX6_readStop.cls yX6_readStop yX6_readStop ∈ GW := ⟨gw_in (i := 904) (by decide +kernel) rfl, gw_in (i := 906) (by decide +kernel) rfl, gw_in (i := 12) (by decide +kernel) rfl⟩
theorem ml_X6_98 : Cond.methodLink RX6 98 yX9_fail ∈ GW ∧ Cond.instanceMethod yX9_fail ∈ GW ∧ Cond.selects yX9_fail.cls yX9_fail yX9_fail ∈ GW := ⟨gw_in (i := 785) (by decide +kernel) rfl, gw_in (i := 708) (by decide +kernel) rfl, gw_in (i := 709) (by decide +kernel) rfl⟩
theorem ml_X6_101 : Cond.methodLink RX6 101 yX9_lineEnd ∈ GW ∧ Cond.instanceMethod yX9_lineEnd ∈ GW ∧ Cond.selects yX9_lineEnd.cls yX9_lineEnd yX9_lineEnd ∈ GW := ⟨gw_in (i := 912) (by decide +kernel) rfl, gw_in (i := 913) (by decide +kernel) rfl, gw_in (i := 914) (by decide +kernel) rfl⟩
theorem fl_X6_104 : FL RX6 104 5 0 0 9 .int false := ⟨RX5, TX5, rfl, by decide, gw_in (i := 239) (by decide +kernel) rfl, rfl, gwX5, rfl, rfl, tyX5_ok, nmX5, rfl, by decide⟩
theorem fl_X6_108 : FL RX6 108 5 1 1 9 .int false := ⟨RX5, TX5, rfl, by decide, gw_in (i := 241) (by decide +kernel) rfl, rfl, gwX5, rfl, rfl, tyX5_ok, nmX5, rfl, by decide⟩
theorem ml_X6_111 : Cond.methodLink RX6 111 yX10_reckon ∈ GW ∧ Cond.instanceMethod yX10_reckon ∈ GW ∧ Cond.selects yX10_reckon.cls yX10_reckon yX10_reckon ∈ GW := ⟨gw_in (i := 916) (by decide +kernel) rfl, gw_in (i := 231) (by decide +kernel) rfl, gw_in (i := 232) (by decide +kernel) rfl⟩
theorem fl_X6_117 : FL RX6 117 8 1 1 7 .int false := ⟨RX9, TX9, rfl, by decide, gw_in (i := 59) (by decide +kernel) rfl, rfl, gwX9, rfl, rfl, tyX9_ok, nmX9, rfl, by decide⟩
theorem fl_X6_120 : FL RX6 120 6 3 3 4 .boolean false := ⟨RX6, TX6, rfl, by decide, gw_in (i := 89) (by decide +kernel) rfl, rfl, gwX6, rfl, rfl, tyX6_ok, nmX6, rfl, by decide⟩
theorem ml_X6_123 : Cond.methodLink RX6 123 yX0_clear ∈ GW ∧ Cond.instanceMethod yX0_clear ∈ GW ∧ Cond.selects yX0_clear.cls yX0_clear yX0_clear ∈ GW := ⟨gw_in (i := 946) (by decide +kernel) rfl, gw_in (i := 947) (by decide +kernel) rfl, gw_in (i := 948) (by decide +kernel) rfl⟩
theorem ml_X6_128 : Cond.methodLink RX6 128 yX6_readPallet ∈ GW ∧ Cond.instanceMethod yX6_readPallet ∈ GW ∧ Cond.selects yX6_readPallet.cls yX6_readPallet yX6_readPallet ∈ GW := ⟨gw_in (i := 952) (by decide +kernel) rfl, gw_in (i := 954) (by decide +kernel) rfl, gw_in (i := 14) (by decide +kernel) rfl⟩
theorem ml_X6_134 : Cond.methodLink RX6 134 yX6_readBulk ∈ GW ∧ Cond.instanceMethod yX6_readBulk ∈ GW ∧ Cond.selects yX6_readBulk.cls yX6_readBulk yX6_readBulk ∈ GW := ⟨gw_in (i := 969) (by decide +kernel) rfl, gw_in (i := 971) (by decide +kernel) rfl, gw_in (i := 16) (by decide +kernel) rfl⟩
theorem ml_X6_137 : Cond.methodLink RX6 137 yX9_next ∈ GW ∧ Cond.instanceMethod yX9_next ∈ GW ∧ Cond.selects yX9_next.cls yX9_next yX9_next ∈ GW := ⟨gw_in (i := 715) (by decide +kernel) rfl, gw_in (i := 716) (by decide +kernel) rfl, gw_in (i := 717) (by decide +kernel) rfl⟩
theorem fl_X6_140 : FL RX6 140 8 2 2 7 .int false := ⟨RX9, TX9, rfl, by decide, gw_in (i := 61) (by decide +kernel) rfl, rfl, gwX9, rfl, rfl, tyX9_ok, nmX9, rfl, by decide⟩
theorem fl_X6_143 : FL RX6 143 8 4 4 7 .int false := ⟨RX9, TX9, rfl, by decide, gw_in (i := 66) (by decide +kernel) rfl, rfl, gwX9, rfl, rfl, tyX9_ok, nmX9, rfl, by decide⟩
theorem ml_X6_146 : Cond.methodLink RX6 146 yX9_number ∈ GW ∧ Cond.instanceMethod yX9_number ∈ GW ∧ Cond.selects yX9_number.cls yX9_number yX9_number ∈ GW := ⟨gw_in (i := 786) (by decide +kernel) rfl, gw_in (i := 787) (by decide +kernel) rfl, gw_in (i := 788) (by decide +kernel) rfl⟩
theorem fl_X6_150 : FL RX6 150 5 2 2 9 .int false := ⟨RX5, TX5, rfl, by decide, gw_in (i := 243) (by decide +kernel) rfl, rfl, gwX5, rfl, rfl, tyX5_ok, nmX5, rfl, by decide⟩
theorem fl_X6_153 : FL RX6 153 5 3 3 9 .int false := ⟨RX5, TX5, rfl, by decide, gw_in (i := 247) (by decide +kernel) rfl, rfl, gwX5, rfl, rfl, tyX5_ok, nmX5, rfl, by decide⟩
theorem fl_X6_156 : FL RX6 156 1 0 0 12 .int false := ⟨RX1, TX1, rfl, by decide, gw_in (i := 112) (by decide +kernel) rfl, rfl, gwX1, rfl, rfl, tyX1_ok, nmX1, rfl, by decide⟩
theorem ml_X6_161 : Cond.methodLink RX6 161 yX6_newName ∈ GW ∧ Cond.instanceMethod yX6_newName ∈ GW ∧ Cond.selects yX6_newName.cls yX6_newName yX6_newName ∈ GW := ⟨gw_in (i := 801) (by decide +kernel) rfl, gw_in (i := 803) (by decide +kernel) rfl, gw_in (i := 4) (by decide +kernel) rfl⟩
theorem ml_X6_165 : Cond.methodLink RX6 165 yX6_isFrontDoor ∈ GW ∧ Cond.instanceMethod yX6_isFrontDoor ∈ GW ∧ Cond.selects yX6_isFrontDoor.cls yX6_isFrontDoor yX6_isFrontDoor ∈ GW := ⟨gw_in (i := 839) (by decide +kernel) rfl, gw_in (i := 841) (by decide +kernel) rfl, gw_in (i := 6) (by decide +kernel) rfl⟩
theorem ml_X6_168 : Cond.methodLink RX6 168 yX1_addHold ∈ GW ∧ Cond.instanceMethod yX1_addHold ∈ GW ∧ Cond.selects yX1_addHold.cls yX1_addHold yX1_addHold ∈ GW := ⟨gw_in (i := 845) (by decide +kernel) rfl, gw_in (i := 846) (by decide +kernel) rfl, gw_in (i := 847) (by decide +kernel) rfl⟩
theorem fl_X6_176 : FL RX6 176 1 4 4 12 .int false := ⟨RX1, TX1, rfl, by decide, gw_in (i := 122) (by decide +kernel) rfl, rfl, gwX1, rfl, rfl, tyX1_ok, nmX1, rfl, by decide⟩
theorem ml_X6_179 : Cond.methodLink RX6 179 yX1_addSpot ∈ GW ∧ Cond.instanceMethod yX1_addSpot ∈ GW ∧ Cond.selects yX1_addSpot.cls yX1_addSpot yX1_addSpot ∈ GW := ⟨gw_in (i := 854) (by decide +kernel) rfl, gw_in (i := 855) (by decide +kernel) rfl, gw_in (i := 856) (by decide +kernel) rfl⟩
theorem ml_X6_182 : Cond.methodLink RX6 182 yX1_takesJoint ∈ GW ∧ Cond.instanceMethod yX1_takesJoint ∈ GW ∧ Cond.selects yX1_takesJoint.cls yX1_takesJoint yX1_takesJoint ∈ GW := ⟨gw_in (i := 864) (by decide +kernel) rfl, gw_in (i := 865) (by decide +kernel) rfl, gw_in (i := 866) (by decide +kernel) rfl⟩
theorem ml_X6_185 : Cond.methodLink RX6 185 yX1_addJoint ∈ GW ∧ Cond.instanceMethod yX1_addJoint ∈ GW ∧ Cond.selects yX1_addJoint.cls yX1_addJoint yX1_addJoint ∈ GW := ⟨gw_in (i := 868) (by decide +kernel) rfl, gw_in (i := 869) (by decide +kernel) rfl, gw_in (i := 870) (by decide +kernel) rfl⟩
theorem fl_X6_188 : FL RX6 188 5 4 4 9 .int false := ⟨RX5, TX5, rfl, by decide, gw_in (i := 252) (by decide +kernel) rfl, rfl, gwX5, rfl, rfl, tyX5_ok, nmX5, rfl, by decide⟩
theorem ml_X6_191 : Cond.methodLink RX6 191 yX5_addBin ∈ GW ∧ Cond.instanceMethod yX5_addBin ∈ GW ∧ Cond.selects yX5_addBin.cls yX5_addBin yX5_addBin ∈ GW := ⟨gw_in (i := 877) (by decide +kernel) rfl, gw_in (i := 878) (by decide +kernel) rfl, gw_in (i := 879) (by decide +kernel) rfl⟩
theorem fl_X6_194 : FL RX6 194 9 0 0 12 .int false := ⟨RX10, TX10, rfl, by decide, gw_in (i := 172) (by decide +kernel) rfl, rfl, gwX10, rfl, rfl, tyX10_ok, nmX10, rfl, by decide⟩
theorem ml_X6_197 : Cond.methodLink RX6 197 yX10_addTank ∈ GW ∧ Cond.instanceMethod yX10_addTank ∈ GW ∧ Cond.selects yX10_addTank.cls yX10_addTank yX10_addTank ∈ GW := ⟨gw_in (i := 886) (by decide +kernel) rfl, gw_in (i := 887) (by decide +kernel) rfl, gw_in (i := 888) (by decide +kernel) rfl⟩
theorem fl_X6_201 : FL RX6 201 9 5 5 12 .int false := ⟨RX10, TX10, rfl, by decide, gw_in (i := 181) (by decide +kernel) rfl, rfl, gwX10, rfl, rfl, tyX10_ok, nmX10, rfl, by decide⟩
theorem ml_X6_204 : Cond.methodLink RX6 204 yX9_newWord ∈ GW ∧ Cond.instanceMethod yX9_newWord ∈ GW ∧ Cond.selects yX9_newWord.cls yX9_newWord yX9_newWord ∈ GW := ⟨gw_in (i := 805) (by decide +kernel) rfl, gw_in (i := 806) (by decide +kernel) rfl, gw_in (i := 807) (by decide +kernel) rfl⟩
theorem ml_X6_208 : Cond.methodLink RX6 208 yX10_tankCalled ∈ GW ∧ Cond.instanceMethod yX10_tankCalled ∈ GW ∧ Cond.selects yX10_tankCalled.cls yX10_tankCalled yX10_tankCalled ∈ GW := ⟨gw_in (i := 835) (by decide +kernel) rfl, gw_in (i := 836) (by decide +kernel) rfl, gw_in (i := 837) (by decide +kernel) rfl⟩
theorem ml_X6_212 : Cond.methodLink RX6 212 yX10_leftIn ∈ GW ∧ Cond.instanceMethod yX10_leftIn ∈ GW ∧ Cond.selects yX10_leftIn.cls yX10_leftIn yX10_leftIn ∈ GW := ⟨gw_in (i := 895) (by decide +kernel) rfl, gw_in (i := 896) (by decide +kernel) rfl, gw_in (i := 897) (by decide +kernel) rfl⟩
theorem ml_X6_216 : Cond.methodLink RX6 216 yX10_addBurn ∈ GW ∧ Cond.instanceMethod yX10_addBurn ∈ GW ∧ Cond.selects yX10_addBurn.cls yX10_addBurn yX10_addBurn ∈ GW := ⟨gw_in (i := 899) (by decide +kernel) rfl, gw_in (i := 900) (by decide +kernel) rfl, gw_in (i := 901) (by decide +kernel) rfl⟩
theorem fl_X6_219 : FL RX6 219 9 8 8 12 .int false := ⟨RX10, TX10, rfl, by decide, gw_in (i := 186) (by decide +kernel) rfl, rfl, gwX10, rfl, rfl, tyX10_ok, nmX10, rfl, by decide⟩
theorem ml_X6_222 : Cond.methodLink RX6 222 yX10_addStop ∈ GW ∧ Cond.instanceMethod yX10_addStop ∈ GW ∧ Cond.selects yX10_addStop.cls yX10_addStop yX10_addStop ∈ GW := ⟨gw_in (i := 908) (by decide +kernel) rfl, gw_in (i := 909) (by decide +kernel) rfl, gw_in (i := 910) (by decide +kernel) rfl⟩
theorem ml_X6_225 : Cond.methodLink RX6 225 yX1_isHoldCalled ∈ GW ∧ Cond.instanceMethod yX1_isHoldCalled ∈ GW ∧ Cond.selects yX1_isHoldCalled.cls yX1_isHoldCalled yX1_isHoldCalled ∈ GW := ⟨gw_in (i := 831) (by decide +kernel) rfl, gw_in (i := 832) (by decide +kernel) rfl, gw_in (i := 833) (by decide +kernel) rfl⟩
theorem fl_X6_229 : FL RX6 229 0 0 0 7 .int false := ⟨RX0, TX0, rfl, by decide, gw_in (i := 294) (by decide +kernel) rfl, rfl, gwX0, rfl, rfl, tyX0_ok, nmX0, rfl, by decide⟩
theorem ml_X6_232 : Cond.methodLink RX6 232 yX0_called ∈ GW ∧ Cond.instanceMethod yX0_called ∈ GW ∧ Cond.selects yX0_called.cls yX0_called yX0_called ∈ GW := ⟨gw_in (i := 956) (by decide +kernel) rfl, gw_in (i := 957) (by decide +kernel) rfl, gw_in (i := 958) (by decide +kernel) rfl⟩
theorem ml_X6_235 : Cond.methodLink RX6 235 yX0_add ∈ GW ∧ Cond.instanceMethod yX0_add ∈ GW ∧ Cond.selects yX0_add.cls yX0_add yX0_add ∈ GW := ⟨gw_in (i := 960) (by decide +kernel) rfl, gw_in (i := 961) (by decide +kernel) rfl, gw_in (i := 962) (by decide +kernel) rfl⟩
theorem fl_X6_238 : FL RX6 238 0 5 5 7 .int false := ⟨RX0, TX0, rfl, by decide, gw_in (i := 309) (by decide +kernel) rfl, rfl, gwX0, rfl, rfl, tyX0_ok, nmX0, rfl, by decide⟩
theorem ml_X7_9 : Cond.methodLink RX7 9 yX7_brokenAt ∈ GW ∧ Cond.static yX7_brokenAt ∈ GW := ⟨gw_in (i := 557) (by decide +kernel) rfl, gw_in (i := 558) (by decide +kernel) rfl⟩
theorem ml_X7_15 : Cond.methodLink RX7 15 yX7_outPallet ∈ GW ∧ Cond.static yX7_outPallet ∈ GW := ⟨gw_in (i := 560) (by decide +kernel) rfl, gw_in (i := 561) (by decide +kernel) rfl⟩
theorem fl_X7_19 : FL RX7 19 5 7 7 9 (.object "LoadSpans$Floor") true := ⟨RX5, TX5, rfl, by decide, gw_in (i := 260) (by decide +kernel) rfl, rfl, gwX5, rfl, rfl, tyX5_ok, nmX5, rfl, by decide⟩
theorem ml_X7_25 : Cond.methodLink RX7 25 yX7_heavySpot ∈ GW ∧ Cond.static yX7_heavySpot ∈ GW := ⟨gw_in (i := 563) (by decide +kernel) rfl, gw_in (i := 564) (by decide +kernel) rfl⟩
theorem ml_X7_29 : Cond.methodLink RX7 29 yX7_heavyJoint ∈ GW ∧ Cond.static yX7_heavyJoint ∈ GW := ⟨gw_in (i := 572) (by decide +kernel) rfl, gw_in (i := 573) (by decide +kernel) rfl⟩
theorem ml_X7_32 : Cond.methodLink RX7 32 yX7_heavyHold ∈ GW ∧ Cond.static yX7_heavyHold ∈ GW := ⟨gw_in (i := 575) (by decide +kernel) rfl, gw_in (i := 576) (by decide +kernel) rfl⟩
theorem ml_X7_35 : Cond.methodLink RX7 35 yX0_inBins ∈ GW ∧ Cond.instanceMethod yX0_inBins ∈ GW ∧ Cond.selects yX0_inBins.cls yX0_inBins yX0_inBins ∈ GW := ⟨gw_in (i := 579) (by decide +kernel) rfl, gw_in (i := 580) (by decide +kernel) rfl, gw_in (i := 581) (by decide +kernel) rfl⟩
theorem fl_X7_41 : FL RX7 41 0 5 5 7 .int false := ⟨RX0, TX0, rfl, by decide, gw_in (i := 307) (by decide +kernel) rfl, rfl, gwX0, rfl, rfl, tyX0_ok, nmX0, rfl, by decide⟩
theorem ml_X7_45 : Cond.methodLink RX7 45 yX7_blockedSpot ∈ GW ∧ Cond.static yX7_blockedSpot ∈ GW := ⟨gw_in (i := 583) (by decide +kernel) rfl, gw_in (i := 584) (by decide +kernel) rfl⟩
theorem ml_X7_48 : Cond.methodLink RX7 48 yX7_stageOutOfSpan ∈ GW ∧ Cond.static yX7_stageOutOfSpan ∈ GW := ⟨gw_in (i := 596) (by decide +kernel) rfl, gw_in (i := 597) (by decide +kernel) rfl⟩
theorem fl_X7_52 : FL RX7 52 0 0 0 7 .int false := ⟨RX0, TX0, rfl, by decide, gw_in (i := 292) (by decide +kernel) rfl, rfl, gwX0, rfl, rfl, tyX0_ok, nmX0, rfl, by decide⟩
theorem fl_X7_55 : FL RX7 55 0 4 4 7 (.array .int) true := ⟨RX0, TX0, rfl, by decide, gw_in (i := 304) (by decide +kernel) rfl, rfl, gwX0, rfl, rfl, tyX0_ok, nmX0, rfl, by decide⟩
theorem fl_X7_59 : FL RX7 59 1 4 4 12 .int false := ⟨RX1, TX1, rfl, by decide, gw_in (i := 121) (by decide +kernel) rfl, rfl, gwX1, rfl, rfl, tyX1_ok, nmX1, rfl, by decide⟩
theorem ml_X7_64 : Cond.methodLink RX7 64 yX0_weightOn ∈ GW ∧ Cond.instanceMethod yX0_weightOn ∈ GW ∧ Cond.selects yX0_weightOn.cls yX0_weightOn yX0_weightOn ∈ GW := ⟨gw_in (i := 566) (by decide +kernel) rfl, gw_in (i := 567) (by decide +kernel) rfl, gw_in (i := 568) (by decide +kernel) rfl⟩
theorem fl_X7_68 : FL RX7 68 1 7 7 12 (.array .int) true := ⟨RX1, TX1, rfl, by decide, gw_in (i := 128) (by decide +kernel) rfl, rfl, gwX1, rfl, rfl, tyX1_ok, nmX1, rfl, by decide⟩
theorem fl_X7_71 : FL RX7 71 1 9 9 12 .int false := ⟨RX1, TX1, rfl, by decide, gw_in (i := 131) (by decide +kernel) rfl, rfl, gwX1, rfl, rfl, tyX1_ok, nmX1, rfl, by decide⟩
theorem fl_X7_74 : FL RX7 74 1 10 10 12 (.array .int) true := ⟨RX1, TX1, rfl, by decide, gw_in (i := 134) (by decide +kernel) rfl, rfl, gwX1, rfl, rfl, tyX1_ok, nmX1, rfl, by decide⟩
theorem fl_X7_77 : FL RX7 77 1 11 11 12 (.array .int) true := ⟨RX1, TX1, rfl, by decide, gw_in (i := 136) (by decide +kernel) rfl, rfl, gwX1, rfl, rfl, tyX1_ok, nmX1, rfl, by decide⟩
theorem fl_X7_80 : FL RX7 80 1 0 0 12 .int false := ⟨RX1, TX1, rfl, by decide, gw_in (i := 113) (by decide +kernel) rfl, rfl, gwX1, rfl, rfl, tyX1_ok, nmX1, rfl, by decide⟩
theorem ml_X7_83 : Cond.methodLink RX7 83 yX7_loadOfHold ∈ GW ∧ Cond.static yX7_loadOfHold ∈ GW := ⟨gw_in (i := 578) (by decide +kernel) rfl, gw_in (i := 513) (by decide +kernel) rfl⟩
theorem fl_X7_87 : FL RX7 87 1 2 2 12 (.array .int) true := ⟨RX1, TX1, rfl, by decide, gw_in (i := 117) (by decide +kernel) rfl, rfl, gwX1, rfl, rfl, tyX1_ok, nmX1, rfl, by decide⟩
theorem ml_X7_90 : Cond.methodLink RX7 90 yX1_hasSpot ∈ GW ∧ Cond.instanceMethod yX1_hasSpot ∈ GW ∧ Cond.selects yX1_hasSpot.cls yX1_hasSpot yX1_hasSpot ∈ GW := ⟨gw_in (i := 515) (by decide +kernel) rfl, gw_in (i := 516) (by decide +kernel) rfl, gw_in (i := 517) (by decide +kernel) rfl⟩
theorem fl_X7_94 : FL RX7 94 1 5 5 12 (.array .int) true := ⟨RX1, TX1, rfl, by decide, gw_in (i := 124) (by decide +kernel) rfl, rfl, gwX1, rfl, rfl, tyX1_ok, nmX1, rfl, by decide⟩
theorem fl_X7_97 : FL RX7 97 0 2 2 7 (.array .int) true := ⟨RX0, TX0, rfl, by decide, gw_in (i := 298) (by decide +kernel) rfl, rfl, gwX0, rfl, rfl, tyX0_ok, nmX0, rfl, by decide⟩
theorem ml_X7_100 : Cond.methodLink RX7 100 yX0_lyingOn ∈ GW ∧ Cond.instanceMethod yX0_lyingOn ∈ GW ∧ Cond.selects yX0_lyingOn.cls yX0_lyingOn yX0_lyingOn ∈ GW := ⟨gw_in (i := 586) (by decide +kernel) rfl, gw_in (i := 525) (by decide +kernel) rfl, gw_in (i := 526) (by decide +kernel) rfl⟩
theorem ml_X7_103 : Cond.methodLink RX7 103 yX7_blockersOf ∈ GW ∧ Cond.static yX7_blockersOf ∈ GW := ⟨gw_in (i := 587) (by decide +kernel) rfl, gw_in (i := 588) (by decide +kernel) rfl⟩
theorem ml_X7_106 : Cond.methodLink RX7 106 yX0_has ∈ GW ∧ Cond.instanceMethod yX0_has ∈ GW ∧ Cond.selects yX0_has.cls yX0_has yX0_has ∈ GW := ⟨gw_in (i := 590) (by decide +kernel) rfl, gw_in (i := 493) (by decide +kernel) rfl, gw_in (i := 494) (by decide +kernel) rfl⟩
theorem fl_X7_109 : FL RX7 109 0 3 3 7 (.array .int) true := ⟨RX0, TX0, rfl, by decide, gw_in (i := 302) (by decide +kernel) rfl, rfl, gwX0, rfl, rfl, tyX0_ok, nmX0, rfl, by decide⟩
theorem ml_X7_112 : Cond.methodLink RX7 112 yX1_isOnWay ∈ GW ∧ Cond.instanceMethod yX1_isOnWay ∈ GW ∧ Cond.selects yX1_isOnWay.cls yX1_isOnWay yX1_isOnWay ∈ GW := ⟨gw_in (i := 591) (by decide +kernel) rfl, gw_in (i := 592) (by decide +kernel) rfl, gw_in (i := 593) (by decide +kernel) rfl⟩
theorem fl_X7_116 : FL RX7 116 5 8 8 9 (.object "LoadSpans$Voyage") true := ⟨RX5, TX5, rfl, by decide, gw_in (i := 265) (by decide +kernel) rfl, rfl, gwX5, rfl, rfl, tyX5_ok, nmX5, rfl, by decide⟩
theorem fl_X7_120 : FL RX7 120 9 5 5 12 .int false := ⟨RX10, TX10, rfl, by decide, gw_in (i := 180) (by decide +kernel) rfl, rfl, gwX10, rfl, rfl, tyX10_ok, nmX10, rfl, by decide⟩
theorem ml_X7_125 : Cond.methodLink RX7 125 yX7_weightAt ∈ GW ∧ Cond.static yX7_weightAt ∈ GW := ⟨gw_in (i := 599) (by decide +kernel) rfl, gw_in (i := 600) (by decide +kernel) rfl⟩
theorem ml_X7_129 : Cond.methodLink RX7 129 yX7_momentAt ∈ GW ∧ Cond.static yX7_momentAt ∈ GW := ⟨gw_in (i := 602) (by decide +kernel) rfl, gw_in (i := 603) (by decide +kernel) rfl⟩
theorem fl_X7_132 : FL RX7 132 5 2 2 9 .int false := ⟨RX5, TX5, rfl, by decide, gw_in (i := 244) (by decide +kernel) rfl, rfl, gwX5, rfl, rfl, tyX5_ok, nmX5, rfl, by decide⟩
theorem fl_X7_135 : FL RX7 135 5 3 3 9 .int false := ⟨RX5, TX5, rfl, by decide, gw_in (i := 248) (by decide +kernel) rfl, rfl, gwX5, rfl, rfl, tyX5_ok, nmX5, rfl, by decide⟩
theorem fl_X7_138 : FL RX7 138 9 9 9 12 (.array .int) true := ⟨RX10, TX10, rfl, by decide, gw_in (i := 188) (by decide +kernel) rfl, rfl, gwX10, rfl, rfl, tyX10_ok, nmX10, rfl, by decide⟩
theorem fl_X7_140 : FL RX7 140 9 11 11 12 (.array .int) true := ⟨RX10, TX10, rfl, by decide, gw_in (i := 192) (by decide +kernel) rfl, rfl, gwX10, rfl, rfl, tyX10_ok, nmX10, rfl, by decide⟩
theorem fl_X7_143 : FL RX7 143 9 10 10 12 (.array .int) true := ⟨RX10, TX10, rfl, by decide, gw_in (i := 190) (by decide +kernel) rfl, rfl, gwX10, rfl, rfl, tyX10_ok, nmX10, rfl, by decide⟩
theorem fl_X7_145 : FL RX7 145 5 4 4 9 .int false := ⟨RX5, TX5, rfl, by decide, gw_in (i := 253) (by decide +kernel) rfl, rfl, gwX5, rfl, rfl, tyX5_ok, nmX5, rfl, by decide⟩
theorem fl_X7_148 : FL RX7 148 0 6 6 7 (.array .int) true := ⟨RX0, TX0, rfl, by decide, gw_in (i := 312) (by decide +kernel) rfl, rfl, gwX0, rfl, rfl, tyX0_ok, nmX0, rfl, by decide⟩
theorem fl_X7_151 : FL RX7 151 5 5 5 9 (.array .int) true := ⟨RX5, TX5, rfl, by decide, gw_in (i := 255) (by decide +kernel) rfl, rfl, gwX5, rfl, rfl, tyX5_ok, nmX5, rfl, by decide⟩
theorem fl_X7_154 : FL RX7 154 1 6 6 12 (.array .int) true := ⟨RX1, TX1, rfl, by decide, gw_in (i := 126) (by decide +kernel) rfl, rfl, gwX1, rfl, rfl, tyX1_ok, nmX1, rfl, by decide⟩
theorem ml_X8_3 : Cond.methodLink RX8 3 objectInit ∈ GW ∧ Cond.instanceMethod objectInit ∈ GW ∧ Cond.code objectInit ⟨#[0xb1]⟩ 1 none ∈ GW := ⟨gw_in (i := 372) (by decide +kernel) rfl, gw_in (i := 42) (by decide +kernel) rfl, gw_in (i := 43) (by decide +kernel) rfl⟩
theorem fl_X8_11 : FL RX8 11 7 2 2 15 (.array .int) true := ⟨RX8, TX8, rfl, by decide, gw_in (i := 374) (by decide +kernel) rfl, rfl, gwX8, rfl, rfl, tyX8_ok, nmX8, rfl, by decide⟩
theorem fl_X8_15 : FL RX8 15 7 3 3 15 (.array .int) true := ⟨RX8, TX8, rfl, by decide, gw_in (i := 375) (by decide +kernel) rfl, rfl, gwX8, rfl, rfl, tyX8_ok, nmX8, rfl, by decide⟩
theorem fl_X8_18 : FL RX8 18 7 4 4 15 (.array .int) true := ⟨RX8, TX8, rfl, by decide, gw_in (i := 376) (by decide +kernel) rfl, rfl, gwX8, rfl, rfl, tyX8_ok, nmX8, rfl, by decide⟩
theorem fl_X8_21 : FL RX8 21 7 9 9 15 (.array .int) true := ⟨RX8, TX8, rfl, by decide, gw_in (i := 377) (by decide +kernel) rfl, rfl, gwX8, rfl, rfl, tyX8_ok, nmX8, rfl, by decide⟩
theorem fl_X8_24 : FL RX8 24 7 10 10 15 (.array .int) true := ⟨RX8, TX8, rfl, by decide, gw_in (i := 378) (by decide +kernel) rfl, rfl, gwX8, rfl, rfl, tyX8_ok, nmX8, rfl, by decide⟩
theorem fl_X8_27 : FL RX8 27 7 11 11 15 (.array .int) true := ⟨RX8, TX8, rfl, by decide, gw_in (i := 379) (by decide +kernel) rfl, rfl, gwX8, rfl, rfl, tyX8_ok, nmX8, rfl, by decide⟩
theorem fl_X8_30 : FL RX8 30 7 12 12 15 (.array .int) true := ⟨RX8, TX8, rfl, by decide, gw_in (i := 380) (by decide +kernel) rfl, rfl, gwX8, rfl, rfl, tyX8_ok, nmX8, rfl, by decide⟩
theorem fl_X8_33 : FL RX8 33 7 13 13 15 (.array .int) true := ⟨RX8, TX8, rfl, by decide, gw_in (i := 381) (by decide +kernel) rfl, rfl, gwX8, rfl, rfl, tyX8_ok, nmX8, rfl, by decide⟩
theorem fl_X8_36 : FL RX8 36 7 14 14 15 (.array .int) true := ⟨RX8, TX8, rfl, by decide, gw_in (i := 382) (by decide +kernel) rfl, rfl, gwX8, rfl, rfl, tyX8_ok, nmX8, rfl, by decide⟩
theorem fl_X8_39 : FL RX8 39 7 0 0 15 .boolean false := ⟨RX8, TX8, rfl, by decide, gw_in (i := 373) (by decide +kernel) rfl, rfl, gwX8, rfl, rfl, tyX8_ok, nmX8, rfl, by decide⟩
theorem ml_X9_3 : Cond.methodLink RX9 3 objectInit ∈ GW ∧ Cond.instanceMethod objectInit ∈ GW ∧ Cond.code objectInit ⟨#[0xb1]⟩ 1 none ∈ GW := ⟨gw_in (i := 55) (by decide +kernel) rfl, gw_in (i := 42) (by decide +kernel) rfl, gw_in (i := 43) (by decide +kernel) rfl⟩
theorem fl_X9_9 : FL RX9 9 8 0 0 7 (.array .int) true := ⟨RX9, TX9, rfl, by decide, gw_in (i := 56) (by decide +kernel) rfl, rfl, gwX9, rfl, rfl, tyX9_ok, nmX9, rfl, by decide⟩
theorem fl_X9_15 : FL RX9 15 8 1 1 7 .int false := ⟨RX9, TX9, rfl, by decide, gw_in (i := 57) (by decide +kernel) rfl, rfl, gwX9, rfl, rfl, tyX9_ok, nmX9, rfl, by decide⟩
theorem fl_X9_19 : FL RX9 19 8 5 5 7 .int false := ⟨RX9, TX9, rfl, by decide, gw_in (i := 67) (by decide +kernel) rfl, rfl, gwX9, rfl, rfl, tyX9_ok, nmX9, rfl, by decide⟩
theorem fl_X9_22 : FL RX9 22 8 6 6 7 .int false := ⟨RX9, TX9, rfl, by decide, gw_in (i := 68) (by decide +kernel) rfl, rfl, gwX9, rfl, rfl, tyX9_ok, nmX9, rfl, by decide⟩
theorem fl_X9_25 : FL RX9 25 8 4 4 7 .int false := ⟨RX9, TX9, rfl, by decide, gw_in (i := 65) (by decide +kernel) rfl, rfl, gwX9, rfl, rfl, tyX9_ok, nmX9, rfl, by decide⟩
theorem fl_X9_28 : FL RX9 28 8 2 2 7 .int false := ⟨RX9, TX9, rfl, by decide, gw_in (i := 60) (by decide +kernel) rfl, rfl, gwX9, rfl, rfl, tyX9_ok, nmX9, rfl, by decide⟩
theorem fl_X9_31 : FL RX9 31 8 3 3 7 .int false := ⟨RX9, TX9, rfl, by decide, gw_in (i := 63) (by decide +kernel) rfl, rfl, gwX9, rfl, rfl, tyX9_ok, nmX9, rfl, by decide⟩
theorem ml_X9_34 : Cond.methodLink RX9 34 yX9_fail ∈ GW ∧ Cond.instanceMethod yX9_fail ∈ GW ∧ Cond.selects yX9_fail.cls yX9_fail yX9_fail ∈ GW := ⟨gw_in (i := 707) (by decide +kernel) rfl, gw_in (i := 708) (by decide +kernel) rfl, gw_in (i := 709) (by decide +kernel) rfl⟩
theorem ml_X9_38 : Cond.methodLink RX9 38 yX9_isLetter ∈ GW ∧ Cond.static yX9_isLetter ∈ GW := ⟨gw_in (i := 719) (by decide +kernel) rfl, gw_in (i := 720) (by decide +kernel) rfl⟩
theorem ml_X9_42 : Cond.methodLink RX9 42 yX9_isDigit ∈ GW ∧ Cond.static yX9_isDigit ∈ GW := ⟨gw_in (i := 722) (by decide +kernel) rfl, gw_in (i := 723) (by decide +kernel) rfl⟩
theorem ml_X9_45 : Cond.methodLink RX9 45 yX9_kindOf ∈ GW ∧ Cond.static yX9_kindOf ∈ GW := ⟨gw_in (i := 725) (by decide +kernel) rfl, gw_in (i := 726) (by decide +kernel) rfl⟩
theorem ml_X9_49 : Cond.methodLink RX9 49 yX9_next ∈ GW ∧ Cond.instanceMethod yX9_next ∈ GW ∧ Cond.selects yX9_next.cls yX9_next yX9_next ∈ GW := ⟨gw_in (i := 790) (by decide +kernel) rfl, gw_in (i := 716) (by decide +kernel) rfl, gw_in (i := 717) (by decide +kernel) rfl⟩
theorem ml_X9_52 : Cond.methodLink RX9 52 yX9_isQuoted ∈ GW ∧ Cond.instanceMethod yX9_isQuoted ∈ GW ∧ Cond.selects yX9_isQuoted.cls yX9_isQuoted yX9_isQuoted ∈ GW := ⟨gw_in (i := 809) (by decide +kernel) rfl, gw_in (i := 811) (by decide +kernel) rfl, gw_in (i := 5) (by decide +kernel) rfl⟩
theorem ml_X9_56 : Cond.methodLink RX9 56 yX9_packed ∈ GW ∧ Cond.instanceMethod yX9_packed ∈ GW ∧ Cond.selects yX9_packed.cls yX9_packed yX9_packed ∈ GW := ⟨gw_in (i := 827) (by decide +kernel) rfl, gw_in (i := 828) (by decide +kernel) rfl, gw_in (i := 829) (by decide +kernel) rfl⟩
theorem ml_X9_60 : Cond.methodLink RX9 60 yJ0_length_8abf5 ∈ GW ∧ Cond.instanceMethod yJ0_length_8abf5 ∈ GW ∧ Cond.selects yJ0_length_8abf5.cls yJ0_length_8abf5 yJ0_length_8abf5 ∈ GW := ⟨gw_in (i := 733) (by decide +kernel) rfl, gw_in (i := 734) (by decide +kernel) rfl, gw_in (i := 735) (by decide +kernel) rfl⟩
theorem ml_X9_65 : Cond.methodLink RX9 65 yJ0_charAt_5068e ∈ GW ∧ Cond.instanceMethod yJ0_charAt_5068e ∈ GW ∧ Cond.selects yJ0_charAt_5068e.cls yJ0_charAt_5068e yJ0_charAt_5068e ∈ GW := ⟨gw_in (i := 743) (by decide +kernel) rfl, gw_in (i := 744) (by decide +kernel) rfl, gw_in (i := 745) (by decide +kernel) rfl⟩
theorem ml_X9_71 : Cond.methodLink RX9 71 yX9_tells ∈ GW ∧ Cond.instanceMethod yX9_tells ∈ GW ∧ Cond.selects yX9_tells.cls yX9_tells yX9_tells ∈ GW := ⟨gw_in (i := 814) (by decide +kernel) rfl, gw_in (i := 730) (by decide +kernel) rfl, gw_in (i := 731) (by decide +kernel) rfl⟩
theorem ml_X10_3 : Cond.methodLink RX10 3 objectInit ∈ GW ∧ Cond.instanceMethod objectInit ∈ GW ∧ Cond.code objectInit ⟨#[0xb1]⟩ 1 none ∈ GW := ⟨gw_in (i := 169) (by decide +kernel) rfl, gw_in (i := 42) (by decide +kernel) rfl, gw_in (i := 43) (by decide +kernel) rfl⟩
theorem fl_X10_9 : FL RX10 9 9 1 1 12 (.array .long) true := ⟨RX10, TX10, rfl, by decide, gw_in (i := 173) (by decide +kernel) rfl, rfl, gwX10, rfl, rfl, tyX10_ok, nmX10, rfl, by decide⟩
theorem fl_X10_15 : FL RX10 15 9 2 2 12 (.array .int) true := ⟨RX10, TX10, rfl, by decide, gw_in (i := 174) (by decide +kernel) rfl, rfl, gwX10, rfl, rfl, tyX10_ok, nmX10, rfl, by decide⟩
theorem fl_X10_19 : FL RX10 19 9 3 3 12 (.array .int) true := ⟨RX10, TX10, rfl, by decide, gw_in (i := 175) (by decide +kernel) rfl, rfl, gwX10, rfl, rfl, tyX10_ok, nmX10, rfl, by decide⟩
theorem fl_X10_22 : FL RX10 22 9 4 4 12 (.array .int) true := ⟨RX10, TX10, rfl, by decide, gw_in (i := 177) (by decide +kernel) rfl, rfl, gwX10, rfl, rfl, tyX10_ok, nmX10, rfl, by decide⟩
theorem fl_X10_25 : FL RX10 25 9 6 6 12 (.array .int) true := ⟨RX10, TX10, rfl, by decide, gw_in (i := 182) (by decide +kernel) rfl, rfl, gwX10, rfl, rfl, tyX10_ok, nmX10, rfl, by decide⟩
theorem fl_X10_28 : FL RX10 28 9 7 7 12 (.array .int) true := ⟨RX10, TX10, rfl, by decide, gw_in (i := 183) (by decide +kernel) rfl, rfl, gwX10, rfl, rfl, tyX10_ok, nmX10, rfl, by decide⟩
theorem fl_X10_31 : FL RX10 31 9 9 9 12 (.array .int) true := ⟨RX10, TX10, rfl, by decide, gw_in (i := 187) (by decide +kernel) rfl, rfl, gwX10, rfl, rfl, tyX10_ok, nmX10, rfl, by decide⟩
theorem fl_X10_34 : FL RX10 34 9 10 10 12 (.array .int) true := ⟨RX10, TX10, rfl, by decide, gw_in (i := 189) (by decide +kernel) rfl, rfl, gwX10, rfl, rfl, tyX10_ok, nmX10, rfl, by decide⟩
theorem fl_X10_37 : FL RX10 37 9 11 11 12 (.array .int) true := ⟨RX10, TX10, rfl, by decide, gw_in (i := 191) (by decide +kernel) rfl, rfl, gwX10, rfl, rfl, tyX10_ok, nmX10, rfl, by decide⟩
theorem fl_X10_40 : FL RX10 40 9 0 0 12 .int false := ⟨RX10, TX10, rfl, by decide, gw_in (i := 170) (by decide +kernel) rfl, rfl, gwX10, rfl, rfl, tyX10_ok, nmX10, rfl, by decide⟩
theorem fl_X10_44 : FL RX10 44 9 5 5 12 .int false := ⟨RX10, TX10, rfl, by decide, gw_in (i := 178) (by decide +kernel) rfl, rfl, gwX10, rfl, rfl, tyX10_ok, nmX10, rfl, by decide⟩
theorem fl_X10_47 : FL RX10 47 9 8 8 12 .int false := ⟨RX10, TX10, rfl, by decide, gw_in (i := 184) (by decide +kernel) rfl, rfl, gwX10, rfl, rfl, tyX10_ok, nmX10, rfl, by decide⟩
theorem ml_X10_56 : Cond.methodLink RX10 56 yX10_hasTank ∈ GW ∧ Cond.instanceMethod yX10_hasTank ∈ GW ∧ Cond.selects yX10_hasTank.cls yX10_hasTank yX10_hasTank ∈ GW := ⟨gw_in (i := 234) (by decide +kernel) rfl, gw_in (i := 235) (by decide +kernel) rfl, gw_in (i := 236) (by decide +kernel) rfl⟩
theorem ml_X11_1 : Cond.methodLink RX11 1 objectInit ∈ GW ∧ Cond.instanceMethod objectInit ∈ GW ∧ Cond.code objectInit ⟨#[0xb1]⟩ 1 none ∈ GW := ⟨gw_in (i := 41) (by decide +kernel) rfl, gw_in (i := 42) (by decide +kernel) rfl, gw_in (i := 43) (by decide +kernel) rfl⟩
theorem nl_X11_7 : NL RX11 7 6 4 := ⟨RX6, TX6, rfl, gw_in (i := 44) (by decide +kernel) rfl, gw_in (i := 45) (by decide +kernel) rfl, gw_in (i := 19) (by decide +kernel) rfl, gwX6, tyX6_ok, dfX6, by decide⟩
theorem ml_X11_9 : (RX11, 9, yX6_init, "LoadSpans") ∈ nestL := by decide +kernel
theorem mi_X11_9 : Cond.instanceMethod yX6_init ∈ GW ∧ yX6_init.name = "<init>" := ⟨gw_in (i := 47) (by decide +kernel) rfl, rfl⟩
theorem fl_X11_10 : FL RX11 10 10 0 0 11 (.object "LoadSpans$Reader") true := ⟨RX11, TX11, rfl, by decide, gw_in (i := 446) (by decide +kernel) rfl, rfl, gwX11, rfl, rfl, tyX11_ok, nmX11, rfl, by decide⟩
theorem nl_X11_16 : NL RX11 16 5 9 := ⟨RX5, TX5, rfl, gw_in (i := 99) (by decide +kernel) rfl, gw_in (i := 100) (by decide +kernel) rfl, gw_in (i := 21) (by decide +kernel) rfl, gwX5, tyX5_ok, dfX5, by decide⟩
theorem ml_X11_18 : Cond.methodLink RX11 18 yX5_init ∈ GW ∧ Cond.instanceMethod yX5_init ∈ GW ∧ yX5_init.name = "<init>" := ⟨gw_in (i := 101) (by decide +kernel) rfl, gw_in (i := 102) (by decide +kernel) rfl, rfl⟩
theorem fl_X11_19 : FL RX11 19 10 2 2 11 (.object "LoadSpans$Plane") false := ⟨RX11, TX11, rfl, by decide, gw_in (i := 448) (by decide +kernel) rfl, rfl, gwX11, rfl, rfl, tyX11_ok, nmX11, rfl, by decide⟩
theorem fl_X11_23 : FL RX11 23 10 3 3 11 (.object "LoadSpans$Plane") false := ⟨RX11, TX11, rfl, by decide, gw_in (i := 449) (by decide +kernel) rfl, rfl, gwX11, rfl, rfl, tyX11_ok, nmX11, rfl, by decide⟩
theorem nl_X11_26 : NL RX11 26 0 7 := ⟨RX0, TX0, rfl, gw_in (i := 285) (by decide +kernel) rfl, gw_in (i := 286) (by decide +kernel) rfl, gw_in (i := 24) (by decide +kernel) rfl, gwX0, tyX0_ok, dfX0, by decide⟩
theorem ml_X11_28 : (RX11, 28, yX0_init, "LoadSpans") ∈ nestL := by decide +kernel
theorem mi_X11_28 : Cond.instanceMethod yX0_init ∈ GW ∧ yX0_init.name = "<init>" := ⟨gw_in (i := 288) (by decide +kernel) rfl, rfl⟩
theorem fl_X11_29 : FL RX11 29 10 4 4 11 (.object "LoadSpans$Cargo") false := ⟨RX11, TX11, rfl, by decide, gw_in (i := 450) (by decide +kernel) rfl, rfl, gwX11, rfl, rfl, tyX11_ok, nmX11, rfl, by decide⟩
theorem fl_X11_33 : FL RX11 33 10 5 5 11 (.object "LoadSpans$Cargo") false := ⟨RX11, TX11, rfl, by decide, gw_in (i := 451) (by decide +kernel) rfl, rfl, gwX11, rfl, rfl, tyX11_ok, nmX11, rfl, by decide⟩
theorem nl_X11_36 : NL RX11 36 2 3 := ⟨RX2, TX2, rfl, gw_in (i := 328) (by decide +kernel) rfl, gw_in (i := 329) (by decide +kernel) rfl, gw_in (i := 25) (by decide +kernel) rfl, gwX2, tyX2_ok, dfX2, by decide⟩
theorem ml_X11_38 : Cond.methodLink RX11 38 yX2_init ∈ GW ∧ Cond.instanceMethod yX2_init ∈ GW ∧ yX2_init.name = "<init>" := ⟨gw_in (i := 330) (by decide +kernel) rfl, gw_in (i := 331) (by decide +kernel) rfl, rfl⟩
theorem fl_X11_39 : FL RX11 39 10 6 6 11 (.object "LoadSpans$History") true := ⟨RX11, TX11, rfl, by decide, gw_in (i := 452) (by decide +kernel) rfl, rfl, gwX11, rfl, rfl, tyX11_ok, nmX11, rfl, by decide⟩
theorem nl_X11_43 : NL RX11 43 3 3 := ⟨RX3, TX3, rfl, gw_in (i := 348) (by decide +kernel) rfl, gw_in (i := 349) (by decide +kernel) rfl, gw_in (i := 26) (by decide +kernel) rfl, gwX3, tyX3_ok, dfX3, by decide⟩
theorem ml_X11_45 : (RX11, 45, yX3_init, "LoadSpans") ∈ nestL := by decide +kernel
theorem mi_X11_45 : Cond.instanceMethod yX3_init ∈ GW ∧ yX3_init.name = "<init>" := ⟨gw_in (i := 351) (by decide +kernel) rfl, rfl⟩
theorem fl_X11_46 : FL RX11 46 10 7 7 11 (.object "LoadSpans$Image") true := ⟨RX11, TX11, rfl, by decide, gw_in (i := 453) (by decide +kernel) rfl, rfl, gwX11, rfl, rfl, tyX11_ok, nmX11, rfl, by decide⟩
theorem fl_X11_50 : FL RX11 50 10 8 8 11 (.object "LoadSpans$Image") true := ⟨RX11, TX11, rfl, by decide, gw_in (i := 454) (by decide +kernel) rfl, rfl, gwX11, rfl, rfl, tyX11_ok, nmX11, rfl, by decide⟩
theorem nl_X11_53 : NL RX11 53 7 15 := ⟨RX8, TX8, rfl, gw_in (i := 367) (by decide +kernel) rfl, gw_in (i := 368) (by decide +kernel) rfl, gw_in (i := 27) (by decide +kernel) rfl, gwX8, tyX8_ok, dfX8, by decide⟩
theorem ml_X11_55 : (RX11, 55, yX8_init, "LoadSpans") ∈ nestL := by decide +kernel
theorem mi_X11_55 : Cond.instanceMethod yX8_init ∈ GW ∧ yX8_init.name = "<init>" := ⟨gw_in (i := 370) (by decide +kernel) rfl, rfl⟩
theorem fl_X11_56 : FL RX11 56 10 9 9 11 (.object "LoadSpans$Table") true := ⟨RX11, TX11, rfl, by decide, gw_in (i := 455) (by decide +kernel) rfl, rfl, gwX11, rfl, rfl, tyX11_ok, nmX11, rfl, by decide⟩
theorem nl_X11_60 : NL RX11 60 4 10 := ⟨RX4, TX4, rfl, gw_in (i := 414) (by decide +kernel) rfl, gw_in (i := 415) (by decide +kernel) rfl, gw_in (i := 28) (by decide +kernel) rfl, gwX4, tyX4_ok, dfX4, by decide⟩
theorem ml_X11_62 : (RX11, 62, yX4_init, "LoadSpans") ∈ nestL := by decide +kernel
theorem mi_X11_62 : Cond.instanceMethod yX4_init ∈ GW ∧ yX4_init.name = "<init>" := ⟨gw_in (i := 417) (by decide +kernel) rfl, rfl⟩
theorem fl_X11_63 : FL RX11 63 10 10 10 11 (.object "LoadSpans$Mender") true := ⟨RX11, TX11, rfl, by decide, gw_in (i := 456) (by decide +kernel) rfl, rfl, gwX11, rfl, rfl, tyX11_ok, nmX11, rfl, by decide⟩
theorem fl_X11_67 : FL RX11 67 6 0 0 4 (.object "LoadSpans$Tokens") true := ⟨RX6, TX6, rfl, by decide, gw_in (i := 86) (by decide +kernel) rfl, rfl, gwX6, rfl, rfl, tyX6_ok, nmX6, rfl, by decide⟩
theorem fl_X11_71 : FL RX11 71 8 1 1 7 .int false := ⟨RX9, TX9, rfl, by decide, gw_in (i := 58) (by decide +kernel) rfl, rfl, gwX9, rfl, rfl, tyX9_ok, nmX9, rfl, by decide⟩
theorem ml_X11_77 : Cond.methodLink RX11 77 yX9_addBytes ∈ GW ∧ Cond.instanceMethod yX9_addBytes ∈ GW ∧ Cond.selects yX9_addBytes.cls yX9_addBytes yX9_addBytes ∈ GW := ⟨gw_in (i := 686) (by decide +kernel) rfl, gw_in (i := 687) (by decide +kernel) rfl, gw_in (i := 688) (by decide +kernel) rfl⟩
theorem ml_X11_81 : Cond.methodLink RX11 81 yX6_readPlane ∈ GW ∧ Cond.instanceMethod yX6_readPlane ∈ GW ∧ Cond.selects yX6_readPlane.cls yX6_readPlane yX6_readPlane ∈ GW := ⟨gw_in (i := 698) (by decide +kernel) rfl, gw_in (i := 699) (by decide +kernel) rfl, gw_in (i := 700) (by decide +kernel) rfl⟩
theorem fl_X11_85 : FL RX11 85 8 2 2 7 .int false := ⟨RX9, TX9, rfl, by decide, gw_in (i := 62) (by decide +kernel) rfl, rfl, gwX9, rfl, rfl, tyX9_ok, nmX9, rfl, by decide⟩
theorem fl_X11_88 : FL RX11 88 10 1 1 11 .int false := ⟨RX11, TX11, rfl, by decide, gw_in (i := 447) (by decide +kernel) rfl, rfl, gwX11, rfl, rfl, tyX11_ok, nmX11, rfl, by decide⟩
theorem fl_X11_91 : FL RX11 91 8 3 3 7 .int false := ⟨RX9, TX9, rfl, by decide, gw_in (i := 64) (by decide +kernel) rfl, rfl, gwX9, rfl, rfl, tyX9_ok, nmX9, rfl, by decide⟩
theorem ml_X11_94 : Cond.methodLink RX11 94 yX11_startAnew ∈ GW ∧ Cond.instanceMethod yX11_startAnew ∈ GW ∧ Cond.selects yX11_startAnew.cls yX11_startAnew yX11_startAnew ∈ GW := ⟨gw_in (i := 917) (by decide +kernel) rfl, gw_in (i := 919) (by decide +kernel) rfl, gw_in (i := 13) (by decide +kernel) rfl⟩
theorem fl_X11_97 : FL RX11 97 5 7 7 9 (.object "LoadSpans$Floor") true := ⟨RX5, TX5, rfl, by decide, gw_in (i := 261) (by decide +kernel) rfl, rfl, gwX5, rfl, rfl, tyX5_ok, nmX5, rfl, by decide⟩
theorem fl_X11_101 : FL RX11 101 1 4 4 12 .int false := ⟨RX1, TX1, rfl, by decide, gw_in (i := 120) (by decide +kernel) rfl, rfl, gwX1, rfl, rfl, tyX1_ok, nmX1, rfl, by decide⟩
theorem ml_X11_106 : Cond.methodLink RX11 106 yX6_readCargo ∈ GW ∧ Cond.instanceMethod yX6_readCargo ∈ GW ∧ Cond.selects yX6_readCargo.cls yX6_readCargo yX6_readCargo ∈ GW := ⟨gw_in (i := 942) (by decide +kernel) rfl, gw_in (i := 943) (by decide +kernel) rfl, gw_in (i := 944) (by decide +kernel) rfl⟩
theorem fl_X11_110 : FL RX11 110 0 0 0 7 .int false := ⟨RX0, TX0, rfl, by decide, gw_in (i := 293) (by decide +kernel) rfl, rfl, gwX0, rfl, rfl, tyX0_ok, nmX0, rfl, by decide⟩
theorem fl_X11_113 : FL RX11 113 1 0 0 12 .int false := ⟨RX1, TX1, rfl, by decide, gw_in (i := 114) (by decide +kernel) rfl, rfl, gwX1, rfl, rfl, tyX1_ok, nmX1, rfl, by decide⟩
theorem fl_X11_116 : FL RX11 116 1 9 9 12 .int false := ⟨RX1, TX1, rfl, by decide, gw_in (i := 132) (by decide +kernel) rfl, rfl, gwX1, rfl, rfl, tyX1_ok, nmX1, rfl, by decide⟩
theorem fl_X11_119 : FL RX11 119 5 4 4 9 .int false := ⟨RX5, TX5, rfl, by decide, gw_in (i := 251) (by decide +kernel) rfl, rfl, gwX5, rfl, rfl, tyX5_ok, nmX5, rfl, by decide⟩
theorem fl_X11_122 : FL RX11 122 5 8 8 9 (.object "LoadSpans$Voyage") true := ⟨RX5, TX5, rfl, by decide, gw_in (i := 264) (by decide +kernel) rfl, rfl, gwX5, rfl, rfl, tyX5_ok, nmX5, rfl, by decide⟩
theorem fl_X11_126 : FL RX11 126 9 0 0 12 .int false := ⟨RX10, TX10, rfl, by decide, gw_in (i := 171) (by decide +kernel) rfl, rfl, gwX10, rfl, rfl, tyX10_ok, nmX10, rfl, by decide⟩
theorem fl_X11_131 : FL RX11 131 9 5 5 12 .int false := ⟨RX10, TX10, rfl, by decide, gw_in (i := 179) (by decide +kernel) rfl, rfl, gwX10, rfl, rfl, tyX10_ok, nmX10, rfl, by decide⟩
theorem fl_X11_134 : FL RX11 134 9 8 8 12 .int false := ⟨RX10, TX10, rfl, by decide, gw_in (i := 185) (by decide +kernel) rfl, rfl, gwX10, rfl, rfl, tyX10_ok, nmX10, rfl, by decide⟩
theorem fl_X11_137 : FL RX11 137 0 5 5 7 .int false := ⟨RX0, TX0, rfl, by decide, gw_in (i := 308) (by decide +kernel) rfl, rfl, gwX0, rfl, rfl, tyX0_ok, nmX0, rfl, by decide⟩
theorem ml_X11_140 : Cond.methodLink RX11 140 yX0_outCount ∈ GW ∧ Cond.instanceMethod yX0_outCount ∈ GW ∧ Cond.selects yX0_outCount.cls yX0_outCount yX0_outCount ∈ GW := ⟨gw_in (i := 484) (by decide +kernel) rfl, gw_in (i := 485) (by decide +kernel) rfl, gw_in (i := 486) (by decide +kernel) rfl⟩
theorem ml_X11_144 : Cond.methodLink RX11 144 yX0_has ∈ GW ∧ Cond.instanceMethod yX0_has ∈ GW ∧ Cond.selects yX0_has.cls yX0_has yX0_has ∈ GW := ⟨gw_in (i := 492) (by decide +kernel) rfl, gw_in (i := 493) (by decide +kernel) rfl, gw_in (i := 494) (by decide +kernel) rfl⟩
theorem fl_X11_148 : FL RX11 148 0 2 2 7 (.array .int) true := ⟨RX0, TX0, rfl, by decide, gw_in (i := 299) (by decide +kernel) rfl, rfl, gwX0, rfl, rfl, tyX0_ok, nmX0, rfl, by decide⟩
theorem fl_X11_152 : FL RX11 152 0 3 3 7 (.array .int) true := ⟨RX0, TX0, rfl, by decide, gw_in (i := 301) (by decide +kernel) rfl, rfl, gwX0, rfl, rfl, tyX0_ok, nmX0, rfl, by decide⟩
theorem fl_X11_155 : FL RX11 155 0 4 4 7 (.array .int) true := ⟨RX0, TX0, rfl, by decide, gw_in (i := 305) (by decide +kernel) rfl, rfl, gwX0, rfl, rfl, tyX0_ok, nmX0, rfl, by decide⟩
theorem fl_X11_158 : FL RX11 158 0 1 1 7 (.array .long) true := ⟨RX0, TX0, rfl, by decide, gw_in (i := 296) (by decide +kernel) rfl, rfl, gwX0, rfl, rfl, tyX0_ok, nmX0, rfl, by decide⟩
theorem ml_X11_162 : Cond.methodLink RX11 162 yX9_lettersOf ∈ GW ∧ Cond.static yX9_lettersOf ∈ GW := ⟨gw_in (i := 496) (by decide +kernel) rfl, gw_in (i := 497) (by decide +kernel) rfl⟩
theorem ml_X11_192 : Cond.methodLink RX11 192 yX5_hasBin ∈ GW ∧ Cond.instanceMethod yX5_hasBin ∈ GW ∧ Cond.selects yX5_hasBin.cls yX5_hasBin yX5_hasBin ∈ GW := ⟨gw_in (i := 503) (by decide +kernel) rfl, gw_in (i := 504) (by decide +kernel) rfl, gw_in (i := 505) (by decide +kernel) rfl⟩
theorem fl_X11_195 : FL RX11 195 0 6 6 7 (.array .int) true := ⟨RX0, TX0, rfl, by decide, gw_in (i := 311) (by decide +kernel) rfl, rfl, gwX0, rfl, rfl, tyX0_ok, nmX0, rfl, by decide⟩
theorem ml_X11_198 : Cond.methodLink RX11 198 yX10_hasTank ∈ GW ∧ Cond.instanceMethod yX10_hasTank ∈ GW ∧ Cond.selects yX10_hasTank.cls yX10_hasTank yX10_hasTank ∈ GW := ⟨gw_in (i := 507) (by decide +kernel) rfl, gw_in (i := 235) (by decide +kernel) rfl, gw_in (i := 236) (by decide +kernel) rfl⟩
theorem fl_X11_201 : FL RX11 201 9 3 3 12 (.array .int) true := ⟨RX10, TX10, rfl, by decide, gw_in (i := 176) (by decide +kernel) rfl, rfl, gwX10, rfl, rfl, tyX10_ok, nmX10, rfl, by decide⟩
theorem ml_X11_204 : Cond.methodLink RX11 204 yX1_hasHold ∈ GW ∧ Cond.instanceMethod yX1_hasHold ∈ GW ∧ Cond.selects yX1_hasHold.cls yX1_hasHold yX1_hasHold ∈ GW := ⟨gw_in (i := 508) (by decide +kernel) rfl, gw_in (i := 509) (by decide +kernel) rfl, gw_in (i := 510) (by decide +kernel) rfl⟩
theorem ml_X11_207 : Cond.methodLink RX11 207 yX7_loadOfHold ∈ GW ∧ Cond.static yX7_loadOfHold ∈ GW := ⟨gw_in (i := 512) (by decide +kernel) rfl, gw_in (i := 513) (by decide +kernel) rfl⟩
theorem ml_X11_173 : Cond.methodLink RX11 173 yX1_hasSpot ∈ GW ∧ Cond.instanceMethod yX1_hasSpot ∈ GW ∧ Cond.selects yX1_hasSpot.cls yX1_hasSpot yX1_hasSpot ∈ GW := ⟨gw_in (i := 523) (by decide +kernel) rfl, gw_in (i := 516) (by decide +kernel) rfl, gw_in (i := 517) (by decide +kernel) rfl⟩
theorem ml_X11_185 : Cond.methodLink RX11 185 yX0_lyingOn ∈ GW ∧ Cond.instanceMethod yX0_lyingOn ∈ GW ∧ Cond.selects yX0_lyingOn.cls yX0_lyingOn yX0_lyingOn ∈ GW := ⟨gw_in (i := 524) (by decide +kernel) rfl, gw_in (i := 525) (by decide +kernel) rfl, gw_in (i := 526) (by decide +kernel) rfl⟩
theorem ml_X11_213 : Cond.methodLink RX11 213 yX2_keep ∈ GW ∧ Cond.instanceMethod yX2_keep ∈ GW ∧ Cond.selects yX2_keep.cls yX2_keep yX2_keep ∈ GW := ⟨gw_in (i := 528) (by decide +kernel) rfl, gw_in (i := 529) (by decide +kernel) rfl, gw_in (i := 530) (by decide +kernel) rfl⟩
theorem fl_X11_216 : FL RX11 216 5 6 6 9 (.array .int) true := ⟨RX5, TX5, rfl, by decide, gw_in (i := 257) (by decide +kernel) rfl, rfl, gwX5, rfl, rfl, tyX5_ok, nmX5, rfl, by decide⟩
theorem ml_X11_219 : Cond.methodLink RX11 219 yX7_firstBroken ∈ GW ∧ Cond.static yX7_firstBroken ∈ GW := ⟨gw_in (i := 554) (by decide +kernel) rfl, gw_in (i := 555) (by decide +kernel) rfl⟩
theorem ml_X11_223 : Cond.methodLink RX11 223 yX7_brokenAt ∈ GW ∧ Cond.static yX7_brokenAt ∈ GW := ⟨gw_in (i := 609) (by decide +kernel) rfl, gw_in (i := 558) (by decide +kernel) rfl⟩
theorem kl_X11_227 : Cond.constant RX11 227 (-1000000 : Int32) ∈ GW := gw_in (i := 614) (by decide +kernel) rfl
theorem ml_X11_228 : Cond.methodLink RX11 228 yX7_weightAt ∈ GW ∧ Cond.static yX7_weightAt ∈ GW := ⟨gw_in (i := 615) (by decide +kernel) rfl, gw_in (i := 600) (by decide +kernel) rfl⟩
theorem ml_X11_232 : Cond.methodLink RX11 232 yX7_momentAt ∈ GW ∧ Cond.static yX7_momentAt ∈ GW := ⟨gw_in (i := 616) (by decide +kernel) rfl, gw_in (i := 603) (by decide +kernel) rfl⟩
theorem fl_X11_235 : FL RX11 235 5 2 2 9 .int false := ⟨RX5, TX5, rfl, by decide, gw_in (i := 245) (by decide +kernel) rfl, rfl, gwX5, rfl, rfl, tyX5_ok, nmX5, rfl, by decide⟩
theorem fl_X11_238 : FL RX11 238 5 3 3 9 .int false := ⟨RX5, TX5, rfl, by decide, gw_in (i := 249) (by decide +kernel) rfl, rfl, gwX5, rfl, rfl, tyX5_ok, nmX5, rfl, by decide⟩
theorem ml_X11_241 : Cond.methodLink RX11 241 yX7_blockersOf ∈ GW ∧ Cond.static yX7_blockersOf ∈ GW := ⟨gw_in (i := 621) (by decide +kernel) rfl, gw_in (i := 588) (by decide +kernel) rfl⟩
theorem ml_X11_283 : Cond.methodLink RX11 283 yX8_forget ∈ GW ∧ Cond.instanceMethod yX8_forget ∈ GW ∧ Cond.selects yX8_forget.cls yX8_forget yX8_forget ∈ GW := ⟨gw_in (i := 626) (by decide +kernel) rfl, gw_in (i := 627) (by decide +kernel) rfl, gw_in (i := 628) (by decide +kernel) rfl⟩
theorem fl_X11_293 : FL RX11 293 2 2 2 3 .int false := ⟨RX2, TX2, rfl, by decide, gw_in (i := 340) (by decide +kernel) rfl, rfl, gwX2, rfl, rfl, tyX2_ok, nmX2, rfl, by decide⟩
theorem ml_X11_294 : Cond.methodLink RX11 294 yX2_bringBack ∈ GW ∧ Cond.instanceMethod yX2_bringBack ∈ GW ∧ Cond.selects yX2_bringBack.cls yX2_bringBack yX2_bringBack ∈ GW := ⟨gw_in (i := 634) (by decide +kernel) rfl, gw_in (i := 635) (by decide +kernel) rfl, gw_in (i := 636) (by decide +kernel) rfl⟩
theorem ml_X11_316 : Cond.methodLink RX11 316 yX0_clearPlaces ∈ GW ∧ Cond.instanceMethod yX0_clearPlaces ∈ GW ∧ Cond.selects yX0_clearPlaces.cls yX0_clearPlaces yX0_clearPlaces ∈ GW := ⟨gw_in (i := 921) (by decide +kernel) rfl, gw_in (i := 922) (by decide +kernel) rfl, gw_in (i := 923) (by decide +kernel) rfl⟩
theorem ml_J0_335 : Cond.methodLink RJ0 335 yJ0_coder_7d493 ∈ GW ∧ Cond.instanceMethod yJ0_coder_7d493 ∈ GW ∧ Cond.selects yJ0_coder_7d493.cls yJ0_coder_7d493 yJ0_coder_7d493 ∈ GW := ⟨gw_in (i := 737) (by decide +kernel) rfl, gw_in (i := 738) (by decide +kernel) rfl, gw_in (i := 739) (by decide +kernel) rfl⟩
theorem ml_J0_492 : Cond.methodLink RJ0 492 yJ0_isLatin1_aae02 ∈ GW ∧ Cond.instanceMethod yJ0_isLatin1_aae02 ∈ GW ∧ Cond.selects yJ0_isLatin1_aae02.cls yJ0_isLatin1_aae02 yJ0_isLatin1_aae02 ∈ GW := ⟨gw_in (i := 747) (by decide +kernel) rfl, gw_in (i := 748) (by decide +kernel) rfl, gw_in (i := 749) (by decide +kernel) rfl⟩
theorem ml_J0_495 : Cond.methodLink RJ0 495 yJ1_charAt_3b067 ∈ GW ∧ Cond.static yJ1_charAt_3b067 ∈ GW := ⟨gw_in (i := 751) (by decide +kernel) rfl, gw_in (i := 752) (by decide +kernel) rfl⟩
theorem ml_J0_498 : Cond.methodLink RJ0 498 yJ2_charAt_3b067 ∈ GW ∧ Cond.static yJ2_charAt_3b067 ∈ GW := ⟨gw_in (i := 762) (by decide +kernel) rfl, gw_in (i := 763) (by decide +kernel) rfl⟩
theorem ml_J0_1059 : Cond.methodLink RJ0 1059 yJ3_checkIndex_8e157 ∈ GW ∧ Cond.static yJ3_checkIndex_8e157 ∈ GW := ⟨gw_in (i := 759) (by decide +kernel) rfl, gw_in (i := 760) (by decide +kernel) rfl⟩
theorem ml_J1_9 : Cond.methodLink RJ1 9 yJ0_checkIndex_df160 ∈ GW ∧ Cond.static yJ0_checkIndex_df160 ∈ GW := ⟨gw_in (i := 754) (by decide +kernel) rfl, gw_in (i := 755) (by decide +kernel) rfl⟩
theorem ml_L_9 : Cond.methodLink RL 9 yL_sign ∈ GW ∧ Cond.static yL_sign ∈ GW := ⟨gw_in (i := 655) (by decide +kernel) rfl, gw_in (i := 656) (by decide +kernel) rfl⟩
theorem ml_L_15 : Cond.methodLink RL 15 yX11_feed ∈ GW ∧ Cond.instanceMethod yX11_feed ∈ GW ∧ Cond.selects yX11_feed.cls yX11_feed yX11_feed ∈ GW := ⟨gw_in (i := 682) (by decide +kernel) rfl, gw_in (i := 683) (by decide +kernel) rfl, gw_in (i := 684) (by decide +kernel) rfl⟩
theorem ml_L_21 : Cond.methodLink RL 21 yX11_end ∈ GW ∧ Cond.instanceMethod yX11_end ∈ GW ∧ Cond.selects yX11_end.cls yX11_end yX11_end ∈ GW := ⟨gw_in (i := 690) (by decide +kernel) rfl, gw_in (i := 691) (by decide +kernel) rfl, gw_in (i := 692) (by decide +kernel) rfl⟩
theorem ml_L_25 : Cond.methodLink RL 25 yL_number ∈ GW ∧ Cond.static yL_number ∈ GW := ⟨gw_in (i := 661) (by decide +kernel) rfl, gw_in (i := 662) (by decide +kernel) rfl⟩
theorem ml_L_28 : Cond.methodLink RL 28 yL_cell ∈ GW ∧ Cond.static yL_cell ∈ GW := ⟨gw_in (i := 641) (by decide +kernel) rfl, gw_in (i := 642) (by decide +kernel) rfl⟩
theorem ml_L_34 : Cond.methodLink RL 34 yL_text ∈ GW ∧ Cond.static yL_text ∈ GW := ⟨gw_in (i := 651) (by decide +kernel) rfl, gw_in (i := 652) (by decide +kernel) rfl⟩
theorem ml_L_42 : Cond.methodLink RL 42 yL_two ∈ GW ∧ Cond.static yL_two ∈ GW := ⟨gw_in (i := 658) (by decide +kernel) rfl, gw_in (i := 659) (by decide +kernel) rfl⟩
theorem ml_L_50 : Cond.methodLink RL 50 yL_door ∈ GW ∧ Cond.static yL_door ∈ GW := ⟨gw_in (i := 666) (by decide +kernel) rfl, gw_in (i := 667) (by decide +kernel) rfl⟩
theorem ml_L_69 : Cond.methodLink RL 69 yL_send ∈ GW ∧ Cond.static yL_send ∈ GW := ⟨gw_in (i := 679) (by decide +kernel) rfl, gw_in (i := 680) (by decide +kernel) rfl⟩
theorem ml_L_73 : Cond.methodLink RL 73 yX11_plane ∈ GW ∧ Cond.instanceMethod yX11_plane ∈ GW ∧ Cond.selects yX11_plane.cls yX11_plane yX11_plane ∈ GW := ⟨gw_in (i := 694) (by decide +kernel) rfl, gw_in (i := 695) (by decide +kernel) rfl, gw_in (i := 696) (by decide +kernel) rfl⟩
theorem ml_L_77 : Cond.methodLink RL 77 yX11_fault ∈ GW ∧ Cond.instanceMethod yX11_fault ∈ GW ∧ Cond.selects yX11_fault.cls yX11_fault yX11_fault ∈ GW := ⟨gw_in (i := 925) (by decide +kernel) rfl, gw_in (i := 926) (by decide +kernel) rfl, gw_in (i := 927) (by decide +kernel) rfl⟩
theorem ml_L_84 : Cond.methodLink RL 84 yX11_cargo ∈ GW ∧ Cond.instanceMethod yX11_cargo ∈ GW ∧ Cond.selects yX11_cargo.cls yX11_cargo yX11_cargo ∈ GW := ⟨gw_in (i := 938) (by decide +kernel) rfl, gw_in (i := 939) (by decide +kernel) rfl, gw_in (i := 940) (by decide +kernel) rfl⟩
theorem ml_L_87 : Cond.methodLink RL 87 yL_way ∈ GW ∧ Cond.static yL_way ∈ GW := ⟨gw_in (i := 973) (by decide +kernel) rfl, gw_in (i := 974) (by decide +kernel) rfl⟩
theorem ml_L_90 : Cond.methodLink RL 90 yL_stage ∈ GW ∧ Cond.static yL_stage ∈ GW := ⟨gw_in (i := 976) (by decide +kernel) rfl, gw_in (i := 977) (by decide +kernel) rfl⟩
theorem nl_L_16 : NL RL 16 10 11 := ⟨RX11, TX11, rfl, gw_in (i := 36) (by decide +kernel) rfl, gw_in (i := 37) (by decide +kernel) rfl, gw_in (i := 18) (by decide +kernel) rfl, gwX11, tyX11_ok, dfX11, by decide⟩
theorem ml_L_94 : Cond.methodLink RL 94 yX11_init ∈ GW ∧ Cond.instanceMethod yX11_init ∈ GW ∧ yX11_init.name = "<init>" := ⟨gw_in (i := 38) (by decide +kernel) rfl, gw_in (i := 39) (by decide +kernel) rfl, rfl⟩
theorem ml_L_95 : Cond.methodLink RL 95 yL_plane ∈ GW ∧ Cond.static yL_plane ∈ GW := ⟨gw_in (i := 644) (by decide +kernel) rfl, gw_in (i := 645) (by decide +kernel) rfl⟩
theorem ml_L_98 : Cond.methodLink RL 98 yL_cargo ∈ GW ∧ Cond.static yL_cargo ∈ GW := ⟨gw_in (i := 930) (by decide +kernel) rfl, gw_in (i := 931) (by decide +kernel) rfl⟩
theorem ml_L_101 : Cond.methodLink RL 101 yL_isPlane ∈ GW ∧ Cond.static yL_isPlane ∈ GW := ⟨gw_in (i := 647) (by decide +kernel) rfl, gw_in (i := 648) (by decide +kernel) rfl⟩
theorem ml_L_105 : Cond.methodLink RL 105 yL_isCargo ∈ GW ∧ Cond.static yL_isCargo ∈ GW := ⟨gw_in (i := 933) (by decide +kernel) rfl, gw_in (i := 934) (by decide +kernel) rfl⟩
theorem ml_L_108 : Cond.methodLink RL 108 yX11_put ∈ GW ∧ Cond.instanceMethod yX11_put ∈ GW ∧ Cond.selects yX11_put.cls yX11_put yX11_put ∈ GW := ⟨gw_in (i := 519) (by decide +kernel) rfl, gw_in (i := 520) (by decide +kernel) rfl, gw_in (i := 521) (by decide +kernel) rfl⟩
theorem ml_L_112 : Cond.methodLink RL 112 yX11_off ∈ GW ∧ Cond.instanceMethod yX11_off ∈ GW ∧ Cond.selects yX11_off.cls yX11_off yX11_off ∈ GW := ⟨gw_in (i := 542) (by decide +kernel) rfl, gw_in (i := 543) (by decide +kernel) rfl, gw_in (i := 544) (by decide +kernel) rfl⟩
theorem ml_L_116 : Cond.methodLink RL 116 yX11_pour ∈ GW ∧ Cond.instanceMethod yX11_pour ∈ GW ∧ Cond.selects yX11_pour.cls yX11_pour yX11_pour ∈ GW := ⟨gw_in (i := 546) (by decide +kernel) rfl, gw_in (i := 547) (by decide +kernel) rfl, gw_in (i := 548) (by decide +kernel) rfl⟩
theorem ml_L_119 : Cond.methodLink RL 119 yX11_weigh ∈ GW ∧ Cond.instanceMethod yX11_weigh ∈ GW ∧ Cond.selects yX11_weigh.cls yX11_weigh yX11_weigh ∈ GW := ⟨gw_in (i := 622) (by decide +kernel) rfl, gw_in (i := 623) (by decide +kernel) rfl, gw_in (i := 624) (by decide +kernel) rfl⟩
theorem ml_L_122 : Cond.methodLink RL 122 yL_broken ∈ GW ∧ Cond.static yL_broken ∈ GW := ⟨gw_in (i := 979) (by decide +kernel) rfl, gw_in (i := 980) (by decide +kernel) rfl⟩
theorem ml_L_126 : Cond.methodLink RL 126 yX11_why ∈ GW ∧ Cond.instanceMethod yX11_why ∈ GW ∧ Cond.selects yX11_why.cls yX11_why yX11_why ∈ GW := ⟨gw_in (i := 550) (by decide +kernel) rfl, gw_in (i := 551) (by decide +kernel) rfl, gw_in (i := 552) (by decide +kernel) rfl⟩
theorem ml_L_129 : Cond.methodLink RL 129 yX11_where ∈ GW ∧ Cond.instanceMethod yX11_where ∈ GW ∧ Cond.selects yX11_where.cls yX11_where yX11_where ∈ GW := ⟨gw_in (i := 605) (by decide +kernel) rfl, gw_in (i := 606) (by decide +kernel) rfl, gw_in (i := 607) (by decide +kernel) rfl⟩
theorem ml_L_132 : Cond.methodLink RL 132 yX11_in ∈ GW ∧ Cond.instanceMethod yX11_in ∈ GW ∧ Cond.selects yX11_in.cls yX11_in yX11_in ∈ GW := ⟨gw_in (i := 499) (by decide +kernel) rfl, gw_in (i := 500) (by decide +kernel) rfl, gw_in (i := 501) (by decide +kernel) rfl⟩
theorem ml_L_135 : Cond.methodLink RL 135 yX11_pallet ∈ GW ∧ Cond.instanceMethod yX11_pallet ∈ GW ∧ Cond.selects yX11_pallet.cls yX11_pallet yX11_pallet ∈ GW := ⟨gw_in (i := 488) (by decide +kernel) rfl, gw_in (i := 489) (by decide +kernel) rfl, gw_in (i := 490) (by decide +kernel) rfl⟩
theorem ml_L_138 : Cond.methodLink RL 138 yX11_blocks ∈ GW ∧ Cond.instanceMethod yX11_blocks ∈ GW ∧ Cond.selects yX11_blocks.cls yX11_blocks yX11_blocks ∈ GW := ⟨gw_in (i := 617) (by decide +kernel) rfl, gw_in (i := 618) (by decide +kernel) rfl, gw_in (i := 619) (by decide +kernel) rfl⟩
theorem ml_L_141 : Cond.methodLink RL 141 yX11_stage ∈ GW ∧ Cond.instanceMethod yX11_stage ∈ GW ∧ Cond.selects yX11_stage.cls yX11_stage yX11_stage ∈ GW := ⟨gw_in (i := 610) (by decide +kernel) rfl, gw_in (i := 611) (by decide +kernel) rfl, gw_in (i := 612) (by decide +kernel) rfl⟩
theorem ml_L_143 : Cond.methodLink RL 143 yX11_count ∈ GW ∧ Cond.instanceMethod yX11_count ∈ GW ∧ Cond.selects yX11_count.cls yX11_count yX11_count ∈ GW := ⟨gw_in (i := 480) (by decide +kernel) rfl, gw_in (i := 481) (by decide +kernel) rfl, gw_in (i := 482) (by decide +kernel) rfl⟩
theorem kl_L_146 : Cond.constant RL 146 (-1000000 : Int32) ∈ GW := gw_in (i := 983) (by decide +kernel) rfl
theorem ml_L_147 : Cond.methodLink RL 147 yJ9_min_7cf53 ∈ GW ∧ Cond.static yJ9_min_7cf53 ∈ GW := ⟨gw_in (i := 982) (by decide +kernel) rfl, gw_in (i := 540) (by decide +kernel) rfl⟩
theorem ml_L_152 : Cond.methodLink RL 152 yX11_undo ∈ GW ∧ Cond.instanceMethod yX11_undo ∈ GW ∧ Cond.selects yX11_undo.cls yX11_undo yX11_undo ∈ GW := ⟨gw_in (i := 630) (by decide +kernel) rfl, gw_in (i := 631) (by decide +kernel) rfl, gw_in (i := 632) (by decide +kernel) rfl⟩
theorem ac_I : Cond.arrayClass .int ∈ GW := gw_in (i := 84) (by decide +kernel) rfl
theorem ac_L : Cond.arrayClass .long ∈ GW := gw_in (i := 162) (by decide +kernel) rfl
theorem ac_B : Cond.arrayClass .byte ∈ GW := gw_in (i := 929) (by decide +kernel) rfl
theorem ac_Z : Cond.arrayClass .boolean ∈ GW := gw_in (i := 163) (by decide +kernel) rfl

/-! 09.links: classes, methods and links by their places in the tables' words (wip/whole/mk_links.py) -/
theorem gw_list {ws : List Cond} (ps : List Nat) (hp : ws = ps.filterMap (fun i => lw_tbl[i]?)) (h : ws.all goodWord = true) : ∀ w ∈ ws, w ∈ GW := by
  intro w hw
  have h1 := List.all_eq_true.mp h w hw
  rw [hp] at hw
  obtain ⟨i, -, hi⟩ := List.mem_filterMap.mp hw
  exact gw_in hi h1
theorem gwX0 : ∀ w ∈ u_ws RX0 TX0 7, w ∈ GW := gw_list [431, 433, 435, 437, 439, 441, 443] (by decide +kernel) (by decide +kernel)
theorem dfX0 : ∀ j, j < 7 → defaultValue (tyOf 0 j) = if (tyOf 0 j).isReference then .null else .int 0 := by decide +kernel
theorem gwX1 : ∀ w ∈ u_ws RX1 TX1 12, w ∈ GW := gw_list [235, 237, 239, 241, 243, 245, 247, 249, 251, 253, 255, 257] (by decide +kernel) (by decide +kernel)
theorem dfX1 : ∀ j, j < 12 → defaultValue (tyOf 1 j) = if (tyOf 1 j).isReference then .null else .int 0 := by decide +kernel
theorem gwX2 : ∀ w ∈ u_ws RX2 TX2 3, w ∈ GW := gw_list [459, 461, 463] (by decide +kernel) (by decide +kernel)
theorem dfX2 : ∀ j, j < 3 → defaultValue (tyOf 2 j) = if (tyOf 2 j).isReference then .null else .int 0 := by decide +kernel
theorem gwX3 : ∀ w ∈ u_ws RX3 TX3 3, w ∈ GW := gw_list [481, 483, 485] (by decide +kernel) (by decide +kernel)
theorem dfX3 : ∀ j, j < 3 → defaultValue (tyOf 3 j) = if (tyOf 3 j).isReference then .null else .int 0 := by decide +kernel
theorem gwX4 : ∀ w ∈ u_ws RX4 TX4 10, w ∈ GW := gw_list [557, 559, 561, 563, 565, 567, 569, 571, 573, 575] (by decide +kernel) (by decide +kernel)
theorem dfX4 : ∀ j, j < 10 → defaultValue (tyOf 4 j) = if (tyOf 4 j).isReference then .null else .int 0 := by decide +kernel
theorem gwX5 : ∀ w ∈ u_ws RX5 TX5 9, w ∈ GW := gw_list [376, 378, 380, 382, 384, 386, 388, 390, 392] (by decide +kernel) (by decide +kernel)
theorem dfX5 : ∀ j, j < 9 → defaultValue (tyOf 5 j) = if (tyOf 5 j).isReference then .null else .int 0 := by decide +kernel
theorem gwX6 : ∀ w ∈ u_ws RX6 TX6 4, w ∈ GW := gw_list [174, 176, 178, 180] (by decide +kernel) (by decide +kernel)
theorem dfX6 : ∀ j, j < 4 → defaultValue (tyOf 6 j) = if (tyOf 6 j).isReference then .null else .int 0 := by decide +kernel
theorem gwX8 : ∀ w ∈ u_ws RX8 TX8 15, w ∈ GW := gw_list [510, 512, 514, 516, 518, 520, 522, 524, 526, 528, 530, 532, 534, 536, 538] (by decide +kernel) (by decide +kernel)
theorem dfX8 : ∀ j, j < 15 → defaultValue (tyOf 7 j) = if (tyOf 7 j).isReference then .null else .int 0 := by decide +kernel
theorem gwX9 : ∀ w ∈ u_ws RX9 TX9 7, w ∈ GW := gw_list [153, 155, 157, 159, 161, 163, 165] (by decide +kernel) (by decide +kernel)
theorem dfX9 : ∀ j, j < 7 → defaultValue (tyOf 8 j) = if (tyOf 8 j).isReference then .null else .int 0 := by decide +kernel
theorem gwX10 : ∀ w ∈ u_ws RX10 TX10 12, w ∈ GW := gw_list [296, 298, 300, 302, 304, 306, 308, 310, 312, 314, 316, 318] (by decide +kernel) (by decide +kernel)
theorem dfX10 : ∀ j, j < 12 → defaultValue (tyOf 9 j) = if (tyOf 9 j).isReference then .null else .int 0 := by decide +kernel
theorem gwX11 : ∀ w ∈ u_ws RX11 TX11 11, w ∈ GW := gw_list [589, 591, 593, 595, 597, 599, 601, 603, 605, 607, 609] (by decide +kernel) (by decide +kernel)
theorem dfX11 : ∀ j, j < 11 → defaultValue (tyOf 10 j) = if (tyOf 10 j).isReference then .null else .int 0 := by decide +kernel
theorem gwX12 : ∀ w ∈ u_ws RX12 TX12 34, w ∈ GW := gw_list [1338, 1340, 1342, 1344, 1346, 1348, 1350, 1352, 1354, 1356, 1358, 1360, 1362, 1364, 1366, 1368, 1370, 1372, 1374, 1376, 1378, 1380, 1382, 1384, 1386, 1388, 1390, 1392, 1394, 1396, 1398, 1400, 1402, 1404] (by decide +kernel) (by decide +kernel)
theorem dfX12 : ∀ j, j < 34 → defaultValue (tyOf 11 j) = if (tyOf 11 j).isReference then .null else .int 0 := by decide +kernel
def gX0_init : Gm := (RX0, cX0_init, 1, none, true, 2, 5, 22)
theorem yl_X0_init : YL yX0_init gX0_init 0 := ⟨gw_in (i := 399) (by decide +kernel) rfl, gw_in (i := 107) (by decide +kernel) rfl, by decide, by decide, by decide, rfl⟩
def gX0_clear : Gm := (RX0, cX0_clear, 1, none, false, 2, 0, 0)
theorem yl_X0_clear : YL yX0_clear gX0_clear 0 := ⟨gw_in (i := 874) (by decide +kernel) rfl, gw_in (i := 107) (by decide +kernel) rfl, by decide, by decide, by decide, rfl⟩
def gX0_clearPlaces : Gm := (RX0, cX0_clearPlaces, 2, none, false, 1, 0, 0)
theorem yl_X0_clearPlaces : YL yX0_clearPlaces gX0_clearPlaces 0 := ⟨gw_in (i := 857) (by decide +kernel) rfl, gw_in (i := 107) (by decide +kernel) rfl, by decide, by decide, by decide, rfl⟩
def gX0_copyFrom : Gm := (RX0, cX0_copyFrom, 2, none, false, 2, 0, 0)
theorem yl_X0_copyFrom : YL yX0_copyFrom gX0_copyFrom 1 := ⟨gw_in (i := 964) (by decide +kernel) rfl, gw_in (i := 107) (by decide +kernel) rfl, by decide, by decide, by decide, rfl⟩
def gX0_has : Gm := (RX0, cX0_has, 2, some .boolean, false, 1, 0, 0)
theorem yl_X0_has : YL yX0_has gX0_has 1 := ⟨gw_in (i := 917) (by decide +kernel) rfl, gw_in (i := 107) (by decide +kernel) rfl, by decide, by decide, by decide, rfl⟩
def gX0_called : Gm := (RX0, cX0_called, 4, some .int, false, 1, 0, 0)
theorem yl_X0_called : YL yX0_called gX0_called 1 := ⟨gw_in (i := 884) (by decide +kernel) rfl, gw_in (i := 107) (by decide +kernel) rfl, by decide, by decide, by decide, rfl⟩
def gX0_lyingOn : Gm := (RX0, cX0_lyingOn, 3, some .int, false, 1, 0, 0)
theorem yl_X0_lyingOn : YL yX0_lyingOn gX0_lyingOn 1 := ⟨gw_in (i := 938) (by decide +kernel) rfl, gw_in (i := 107) (by decide +kernel) rfl, by decide, by decide, by decide, rfl⟩
def gX0_weightOn : Gm := (RX0, cX0_weightOn, 3, some .int, false, 2, 0, 0)
theorem yl_X0_weightOn : YL yX0_weightOn gX0_weightOn 1 := ⟨gw_in (i := 998) (by decide +kernel) rfl, gw_in (i := 107) (by decide +kernel) rfl, by decide, by decide, by decide, rfl⟩
def gX0_outCount : Gm := (RX0, cX0_outCount, 3, some .int, false, 1, 0, 0)
theorem yl_X0_outCount : YL yX0_outCount gX0_outCount 0 := ⟨gw_in (i := 909) (by decide +kernel) rfl, gw_in (i := 107) (by decide +kernel) rfl, by decide, by decide, by decide, rfl⟩
def gX0_inBins : Gm := (RX0, cX0_inBins, 3, some .int, false, 1, 0, 0)
theorem yl_X0_inBins : YL yX0_inBins gX0_inBins 0 := ⟨gw_in (i := 1011) (by decide +kernel) rfl, gw_in (i := 107) (by decide +kernel) rfl, by decide, by decide, by decide, rfl⟩
def gX0_add : Gm := (RX0, cX0_add, 5, none, false, 2, 0, 0)
theorem yl_X0_add : YL yX0_add gX0_add 3 := ⟨gw_in (i := 888) (by decide +kernel) rfl, gw_in (i := 107) (by decide +kernel) rfl, by decide, by decide, by decide, rfl⟩
def gX0_moveLast : Gm := (RX0, cX0_moveLast, 8, none, false, 2, 0, 0)
theorem yl_X0_moveLast : YL yX0_moveLast gX0_moveLast 1 := ⟨gw_in (i := 1248) (by decide +kernel) rfl, gw_in (i := 107) (by decide +kernel) rfl, by decide, by decide, by decide, rfl⟩
def gX0_write : Gm := (RX0, cX0_write, 7, none, false, 1, 0, 0)
theorem yl_X0_write : YL yX0_write gX0_write 5 := ⟨gw_in (i := 892) (by decide +kernel) rfl, gw_in (i := 107) (by decide +kernel) rfl, by decide, by decide, by decide, rfl⟩
def gX1_init : Gm := (RX1, cX1_init, 1, none, true, 2, 9, 45)
theorem yl_X1_init : YL yX1_init gX1_init 0 := ⟨gw_in (i := 193) (by decide +kernel) rfl, gw_in (i := 105) (by decide +kernel) rfl, by decide, by decide, by decide, rfl⟩
def gX1_clear : Gm := (RX1, cX1_clear, 1, none, false, 1, 0, 0)
theorem yl_X1_clear : YL yX1_clear gX1_clear 0 := ⟨gw_in (i := 328) (by decide +kernel) rfl, gw_in (i := 105) (by decide +kernel) rfl, by decide, by decide, by decide, rfl⟩
def gX1_copyFrom : Gm := (RX1, cX1_copyFrom, 2, none, false, 2, 0, 0)
theorem yl_X1_copyFrom : YL yX1_copyFrom gX1_copyFrom 1 := ⟨gw_in (i := 1282) (by decide +kernel) rfl, gw_in (i := 105) (by decide +kernel) rfl, by decide, by decide, by decide, rfl⟩
def gX1_hasHold : Gm := (RX1, cX1_hasHold, 2, some .boolean, false, 1, 0, 0)
theorem yl_X1_hasHold : YL yX1_hasHold gX1_hasHold 1 := ⟨gw_in (i := 791) (by decide +kernel) rfl, gw_in (i := 105) (by decide +kernel) rfl, by decide, by decide, by decide, rfl⟩
def gX1_hasSpot : Gm := (RX1, cX1_hasSpot, 2, some .boolean, false, 1, 0, 0)
theorem yl_X1_hasSpot : YL yX1_hasSpot gX1_hasSpot 1 := ⟨gw_in (i := 934) (by decide +kernel) rfl, gw_in (i := 105) (by decide +kernel) rfl, by decide, by decide, by decide, rfl⟩
def gX1_isHoldCalled : Gm := (RX1, cX1_isHoldCalled, 4, some .boolean, false, 1, 0, 0)
theorem yl_X1_isHoldCalled : YL yX1_isHoldCalled gX1_isHoldCalled 1 := ⟨gw_in (i := 764) (by decide +kernel) rfl, gw_in (i := 105) (by decide +kernel) rfl, by decide, by decide, by decide, rfl⟩
def gX1_addHold : Gm := (RX1, cX1_addHold, 5, none, false, 1, 0, 0)
theorem yl_X1_addHold : YL yX1_addHold gX1_addHold 3 := ⟨gw_in (i := 778) (by decide +kernel) rfl, gw_in (i := 105) (by decide +kernel) rfl, by decide, by decide, by decide, rfl⟩
def gX1_addSpot : Gm := (RX1, cX1_addSpot, 6, none, false, 2, 0, 0)
theorem yl_X1_addSpot : YL yX1_addSpot gX1_addSpot 2 := ⟨gw_in (i := 787) (by decide +kernel) rfl, gw_in (i := 105) (by decide +kernel) rfl, by decide, by decide, by decide, rfl⟩
def gX1_takesJoint : Gm := (RX1, cX1_takesJoint, 2, some .boolean, false, 1, 0, 0)
theorem yl_X1_takesJoint : YL yX1_takesJoint gX1_takesJoint 0 := ⟨gw_in (i := 800) (by decide +kernel) rfl, gw_in (i := 105) (by decide +kernel) rfl, by decide, by decide, by decide, rfl⟩
def gX1_addJoint : Gm := (RX1, cX1_addJoint, 2, none, false, 1, 0, 0)
theorem yl_X1_addJoint : YL yX1_addJoint gX1_addJoint 1 := ⟨gw_in (i := 804) (by decide +kernel) rfl, gw_in (i := 105) (by decide +kernel) rfl, by decide, by decide, by decide, rfl⟩
def gX1_isOnWay : Gm := (RX1, cX1_isOnWay, 3, some .boolean, false, 2, 0, 0)
theorem yl_X1_isOnWay : YL yX1_isOnWay gX1_isOnWay 2 := ⟨gw_in (i := 1023) (by decide +kernel) rfl, gw_in (i := 105) (by decide +kernel) rfl, by decide, by decide, by decide, rfl⟩
def gX2_init : Gm := (RX2, cX2_init, 2, none, true, 3, 49, 240)
theorem yl_X2_init : YL yX2_init gX2_init 0 := ⟨gw_in (i := 450) (by decide +kernel) rfl, gw_in (i := 108) (by decide +kernel) rfl, by decide, by decide, by decide, rfl⟩
def gX2_keep : Gm := (RX2, cX2_keep, 3, none, false, 3, 0, 0)
theorem yl_X2_keep : YL yX2_keep gX2_keep 1 := ⟨gw_in (i := 960) (by decide +kernel) rfl, gw_in (i := 108) (by decide +kernel) rfl, by decide, by decide, by decide, rfl⟩
def gX2_bringBack : Gm := (RX2, cX2_bringBack, 3, none, false, 3, 0, 0)
theorem yl_X2_bringBack : YL yX2_bringBack gX2_bringBack 1 := ⟨gw_in (i := 1264) (by decide +kernel) rfl, gw_in (i := 108) (by decide +kernel) rfl, by decide, by decide, by decide, rfl⟩
def gX3_init : Gm := (RX3, cX3_init, 1, none, true, 4, 29, 186)
theorem yl_X3_init : YL yX3_init gX3_init 0 := ⟨gw_in (i := 470) (by decide +kernel) rfl, gw_in (i := 109) (by decide +kernel) rfl, by decide, by decide, by decide, rfl⟩
def gX4_init : Gm := (RX4, cX4_init, 1, none, true, 2, 5, 751)
theorem yl_X4_init : YL yX4_init gX4_init 0 := ⟨gw_in (i := 545) (by decide +kernel) rfl, gw_in (i := 111) (by decide +kernel) rfl, by decide, by decide, by decide, rfl⟩
def gX4_seek : Gm := (RX4, cX4_seek, 6, some .int, false, 5, 0, 0)
theorem yl_X4_seek : YL yX4_seek gX4_seek 3 := ⟨gw_in (i := 1150) (by decide +kernel) rfl, gw_in (i := 111) (by decide +kernel) rfl, by decide, by decide, by decide, rfl⟩
def gX4_tell : Gm := (RX4, cX4_tell, 3, none, false, 2, 0, 0)
theorem yl_X4_tell : YL yX4_tell gX4_tell 1 := ⟨gw_in (i := 1207) (by decide +kernel) rfl, gw_in (i := 111) (by decide +kernel) rfl, by decide, by decide, by decide, rfl⟩
def gX4_toldMove : Gm := (RX4, cX4_toldMove, 2, some .int, false, 1, 0, 0)
theorem yl_X4_toldMove : YL yX4_toldMove gX4_toldMove 1 := ⟨gw_in (i := 1215) (by decide +kernel) rfl, gw_in (i := 111) (by decide +kernel) rfl, by decide, by decide, by decide, rfl⟩
def gX4_putAllInto : Gm := (RX4, cX4_putAllInto, 2, none, false, 2, 0, 0)
theorem yl_X4_putAllInto : YL yX4_putAllInto gX4_putAllInto 1 := ⟨gw_in (i := 1223) (by decide +kernel) rfl, gw_in (i := 111) (by decide +kernel) rfl, by decide, by decide, by decide, rfl⟩
def gX4_findNearRows : Gm := (RX4, cX4_findNearRows, 5, some .int, false, 4, 0, 0)
theorem yl_X4_findNearRows : YL yX4_findNearRows gX4_findNearRows 1 := ⟨gw_in (i := 1157) (by decide +kernel) rfl, gw_in (i := 111) (by decide +kernel) rfl, by decide, by decide, by decide, rfl⟩
def gX4_keepNearRows : Gm := (RX4, cX4_keepNearRows, 4, none, false, 4, 0, 0)
theorem yl_X4_keepNearRows : YL yX4_keepNearRows gX4_keepNearRows 1 := ⟨gw_in (i := 1203) (by decide +kernel) rfl, gw_in (i := 111) (by decide +kernel) rfl, by decide, by decide, by decide, rfl⟩
def gX4_movesTo : Gm := (RX4, cX4_movesTo, 4, some .int, false, 3, 0, 0)
theorem yl_X4_movesTo : YL yX4_movesTo gX4_movesTo 1 := ⟨gw_in (i := 1165) (by decide +kernel) rfl, gw_in (i := 111) (by decide +kernel) rfl, by decide, by decide, by decide, rfl⟩
def gX4_leastMove : Gm := (RX4, cX4_leastMove, 5, some .int, false, 4, 0, 0)
theorem yl_X4_leastMove : YL yX4_leastMove gX4_leastMove 1 := ⟨gw_in (i := 1183) (by decide +kernel) rfl, gw_in (i := 111) (by decide +kernel) rfl, by decide, by decide, by decide, rfl⟩
def gX4_leastMoveTo : Gm := (RX4, cX4_leastMoveTo, 5, some .int, false, 3, 0, 0)
theorem yl_X4_leastMoveTo : YL yX4_leastMoveTo gX4_leastMoveTo 2 := ⟨gw_in (i := 1187) (by decide +kernel) rfl, gw_in (i := 111) (by decide +kernel) rfl, by decide, by decide, by decide, rfl⟩
def gX4_shutsLastGap : Gm := (RX4, cX4_shutsLastGap, 3, some .boolean, false, 2, 0, 0)
theorem yl_X4_shutsLastGap : YL yX4_shutsLastGap gX4_shutsLastGap 2 := ⟨gw_in (i := 1191) (by decide +kernel) rfl, gw_in (i := 111) (by decide +kernel) rfl, by decide, by decide, by decide, rfl⟩
def gX4_leastOfRing : Gm := (RX4, cX4_leastOfRing, 6, some .int, false, 2, 0, 0)
theorem yl_X4_leastOfRing : YL yX4_leastOfRing gX4_leastOfRing 2 := ⟨gw_in (i := 1170) (by decide +kernel) rfl, gw_in (i := 111) (by decide +kernel) rfl, by decide, by decide, by decide, rfl⟩
def gX4_doMove : Gm := (RX4, cX4_doMove, 4, none, false, 1, 0, 0)
theorem yl_X4_doMove : YL yX4_doMove gX4_doMove 2 := ⟨gw_in (i := 1199) (by decide +kernel) rfl, gw_in (i := 111) (by decide +kernel) rfl, by decide, by decide, by decide, rfl⟩
def gX4_lyingOn : Gm := (RX4, cX4_lyingOn, 2, some .int, false, 1, 0, 0)
theorem yl_X4_lyingOn : YL yX4_lyingOn gX4_lyingOn 1 := ⟨gw_in (i := 1174) (by decide +kernel) rfl, gw_in (i := 111) (by decide +kernel) rfl, by decide, by decide, by decide, rfl⟩
def gX4_emptySpot : Gm := (RX4, cX4_emptySpot, 2, some .int, false, 1, 0, 0)
theorem yl_X4_emptySpot : YL yX4_emptySpot gX4_emptySpot 0 := ⟨gw_in (i := 1179) (by decide +kernel) rfl, gw_in (i := 111) (by decide +kernel) rfl, by decide, by decide, by decide, rfl⟩
def gX4_emptySpots : Gm := (RX4, cX4_emptySpots, 3, some .int, false, 1, 0, 0)
theorem yl_X4_emptySpots : YL yX4_emptySpots gX4_emptySpots 0 := ⟨gw_in (i := 1195) (by decide +kernel) rfl, gw_in (i := 111) (by decide +kernel) rfl, by decide, by decide, by decide, rfl⟩
def gX5_init : Gm := (RX5, cX5_init, 1, none, true, 3, 22, 148)
theorem yl_X5_init : YL yX5_init gX5_init 0 := ⟨gw_in (i := 187) (by decide +kernel) rfl, gw_in (i := 104) (by decide +kernel) rfl, by decide, by decide, by decide, rfl⟩
def gX5_clear : Gm := (RX5, cX5_clear, 2, none, false, 2, 0, 0)
theorem yl_X5_clear : YL yX5_clear gX5_clear 0 := ⟨gw_in (i := 324) (by decide +kernel) rfl, gw_in (i := 104) (by decide +kernel) rfl, by decide, by decide, by decide, rfl⟩
def gX5_copyFrom : Gm := (RX5, cX5_copyFrom, 2, none, false, 3, 0, 0)
theorem yl_X5_copyFrom : YL yX5_copyFrom gX5_copyFrom 1 := ⟨gw_in (i := 1277) (by decide +kernel) rfl, gw_in (i := 104) (by decide +kernel) rfl, by decide, by decide, by decide, rfl⟩
def gX5_hasBin : Gm := (RX5, cX5_hasBin, 2, some .boolean, false, 1, 0, 0)
theorem yl_X5_hasBin : YL yX5_hasBin gX5_hasBin 1 := ⟨gw_in (i := 946) (by decide +kernel) rfl, gw_in (i := 104) (by decide +kernel) rfl, by decide, by decide, by decide, rfl⟩
def gX5_addBin : Gm := (RX5, cX5_addBin, 3, none, false, 1, 0, 0)
theorem yl_X5_addBin : YL yX5_addBin gX5_addBin 2 := ⟨gw_in (i := 813) (by decide +kernel) rfl, gw_in (i := 104) (by decide +kernel) rfl, by decide, by decide, by decide, rfl⟩
def gX6_init : Gm := (RX6, cX6_init, 1, none, true, 3, 2, 547)
theorem yl_X6_init : YL yX6_init gX6_init 0 := ⟨gw_in (i := 132) (by decide +kernel) rfl, gw_in (i := 102) (by decide +kernel) rfl, by decide, by decide, by decide, rfl⟩
def gX6_readPlane : Gm := (RX6, cX6_readPlane, 3, none, false, 11, 0, 0)
theorem yl_X6_readPlane : YL yX6_readPlane gX6_readPlane 1 := ⟨gw_in (i := 631) (by decide +kernel) rfl, gw_in (i := 102) (by decide +kernel) rfl, by decide, by decide, by decide, rfl⟩
def gX6_readCargo : Gm := (RX6, cX6_readCargo, 3, none, false, 10, 0, 0)
theorem yl_X6_readCargo : YL yX6_readCargo gX6_readCargo 1 := ⟨gw_in (i := 870) (by decide +kernel) rfl, gw_in (i := 102) (by decide +kernel) rfl, by decide, by decide, by decide, rfl⟩
def gX6_atLine : Gm := (RX6, cX6_atLine, 1, some .boolean, false, 3, 0, 0)
theorem yl_X6_atLine : YL yX6_atLine gX6_atLine 0 := ⟨gw_in (i := 644) (by decide +kernel) rfl, gw_in (i := 102) (by decide +kernel) rfl, by decide, by decide, by decide, rfl⟩
def gX6_readEmpty : Gm := (RX6, cX6_readEmpty, 2, none, false, 4, 0, 0)
theorem yl_X6_readEmpty : YL yX6_readEmpty gX6_readEmpty 1 := ⟨gw_in (i := 714) (by decide +kernel) rfl, gw_in (i := 102) (by decide +kernel) rfl, by decide, by decide, by decide, rfl⟩
def gX6_readSpan : Gm := (RX6, cX6_readSpan, 2, none, false, 4, 0, 0)
theorem yl_X6_readSpan : YL yX6_readSpan gX6_readSpan 1 := ⟨gw_in (i := 725) (by decide +kernel) rfl, gw_in (i := 102) (by decide +kernel) rfl, by decide, by decide, by decide, rfl⟩
def gX6_readHold : Gm := (RX6, cX6_readHold, 6, none, false, 10, 0, 0)
theorem yl_X6_readHold : YL yX6_readHold gX6_readHold 1 := ⟨gw_in (i := 730) (by decide +kernel) rfl, gw_in (i := 102) (by decide +kernel) rfl, by decide, by decide, by decide, rfl⟩
def gX6_isFrontDoor : Gm := (RX6, cX6_isFrontDoor, 2, some .boolean, false, 7, 0, 0)
theorem yl_X6_isFrontDoor : YL yX6_isFrontDoor gX6_isFrontDoor 0 := ⟨gw_in (i := 772) (by decide +kernel) rfl, gw_in (i := 102) (by decide +kernel) rfl, by decide, by decide, by decide, rfl⟩
def gX6_readSpot : Gm := (RX6, cX6_readSpot, 4, none, false, 4, 0, 0)
theorem yl_X6_readSpot : YL yX6_readSpot gX6_readSpot 1 := ⟨gw_in (i := 783) (by decide +kernel) rfl, gw_in (i := 102) (by decide +kernel) rfl, by decide, by decide, by decide, rfl⟩
def gX6_readJoint : Gm := (RX6, cX6_readJoint, 3, none, false, 4, 0, 0)
theorem yl_X6_readJoint : YL yX6_readJoint gX6_readJoint 1 := ⟨gw_in (i := 796) (by decide +kernel) rfl, gw_in (i := 102) (by decide +kernel) rfl, by decide, by decide, by decide, rfl⟩
def gX6_readBin : Gm := (RX6, cX6_readBin, 4, none, false, 4, 0, 0)
theorem yl_X6_readBin : YL yX6_readBin gX6_readBin 1 := ⟨gw_in (i := 809) (by decide +kernel) rfl, gw_in (i := 102) (by decide +kernel) rfl, by decide, by decide, by decide, rfl⟩
def gX6_readTank : Gm := (RX6, cX6_readTank, 6, none, false, 10, 0, 0)
theorem yl_X6_readTank : YL yX6_readTank gX6_readTank 1 := ⟨gw_in (i := 818) (by decide +kernel) rfl, gw_in (i := 102) (by decide +kernel) rfl, by decide, by decide, by decide, rfl⟩
def gX6_readBurn : Gm := (RX6, cX6_readBurn, 4, none, false, 9, 0, 0)
theorem yl_X6_readBurn : YL yX6_readBurn gX6_readBurn 1 := ⟨gw_in (i := 827) (by decide +kernel) rfl, gw_in (i := 102) (by decide +kernel) rfl, by decide, by decide, by decide, rfl⟩
def gX6_readStop : Gm := (RX6, cX6_readStop, 2, none, false, 2, 0, 0)
theorem yl_X6_readStop : YL yX6_readStop gX6_readStop 1 := ⟨gw_in (i := 840) (by decide +kernel) rfl, gw_in (i := 102) (by decide +kernel) rfl, by decide, by decide, by decide, rfl⟩
def gX6_newName : Gm := (RX6, cX6_newName, 4, some .long, false, 9, 0, 0)
theorem yl_X6_newName : YL yX6_newName gX6_newName 1 := ⟨gw_in (i := 734) (by decide +kernel) rfl, gw_in (i := 102) (by decide +kernel) rfl, by decide, by decide, by decide, rfl⟩
def gX6_readPallet : Gm := (RX6, cX6_readPallet, 6, none, false, 9, 0, 0)
theorem yl_X6_readPallet : YL yX6_readPallet gX6_readPallet 1 := ⟨gw_in (i := 880) (by decide +kernel) rfl, gw_in (i := 102) (by decide +kernel) rfl, by decide, by decide, by decide, rfl⟩
def gX6_readBulk : Gm := (RX6, cX6_readBulk, 2, none, false, 4, 0, 0)
theorem yl_X6_readBulk : YL yX6_readBulk gX6_readBulk 1 := ⟨gw_in (i := 897) (by decide +kernel) rfl, gw_in (i := 102) (by decide +kernel) rfl, by decide, by decide, by decide, rfl⟩
def gX7_firstBroken : Gm := (RX7, cX7_firstBroken, 3, some .int, false, 6, 0, 0)
theorem yl_X7_firstBroken : YL yX7_firstBroken gX7_firstBroken 2 := ⟨gw_in (i := 985) (by decide +kernel) rfl, gw_in (i := 117) (by decide +kernel) rfl, by decide, by decide, by decide, rfl⟩
def gX7_brokenAt : Gm := (RX7, cX7_brokenAt, 3, some .int, false, 5, 0, 0)
theorem yl_X7_brokenAt : YL yX7_brokenAt gX7_brokenAt 3 := ⟨gw_in (i := 988) (by decide +kernel) rfl, gw_in (i := 117) (by decide +kernel) rfl, by decide, by decide, by decide, rfl⟩
def gX7_outPallet : Gm := (RX7, cX7_outPallet, 2, some .int, false, 1, 0, 0)
theorem yl_X7_outPallet : YL yX7_outPallet gX7_outPallet 1 := ⟨gw_in (i := 991) (by decide +kernel) rfl, gw_in (i := 117) (by decide +kernel) rfl, by decide, by decide, by decide, rfl⟩
def gX7_heavySpot : Gm := (RX7, cX7_heavySpot, 3, some .int, false, 3, 0, 0)
theorem yl_X7_heavySpot : YL yX7_heavySpot gX7_heavySpot 2 := ⟨gw_in (i := 994) (by decide +kernel) rfl, gw_in (i := 117) (by decide +kernel) rfl, by decide, by decide, by decide, rfl⟩
def gX7_heavyJoint : Gm := (RX7, cX7_heavyJoint, 4, some .int, false, 3, 0, 0)
theorem yl_X7_heavyJoint : YL yX7_heavyJoint gX7_heavyJoint 2 := ⟨gw_in (i := 1003) (by decide +kernel) rfl, gw_in (i := 117) (by decide +kernel) rfl, by decide, by decide, by decide, rfl⟩
def gX7_heavyHold : Gm := (RX7, cX7_heavyHold, 3, some .int, false, 3, 0, 0)
theorem yl_X7_heavyHold : YL yX7_heavyHold gX7_heavyHold 2 := ⟨gw_in (i := 1006) (by decide +kernel) rfl, gw_in (i := 117) (by decide +kernel) rfl, by decide, by decide, by decide, rfl⟩
def gX7_loadOfHold : Gm := (RX7, cX7_loadOfHold, 6, some .int, false, 2, 0, 0)
theorem yl_X7_loadOfHold : YL yX7_loadOfHold gX7_loadOfHold 3 := ⟨gw_in (i := 951) (by decide +kernel) rfl, gw_in (i := 117) (by decide +kernel) rfl, by decide, by decide, by decide, rfl⟩
def gX7_blockedSpot : Gm := (RX7, cX7_blockedSpot, 4, some .int, false, 4, 0, 0)
theorem yl_X7_blockedSpot : YL yX7_blockedSpot gX7_blockedSpot 2 := ⟨gw_in (i := 1014) (by decide +kernel) rfl, gw_in (i := 117) (by decide +kernel) rfl, by decide, by decide, by decide, rfl⟩
def gX7_blockersOf : Gm := (RX7, cX7_blockersOf, 6, some .int, false, 3, 0, 0)
theorem yl_X7_blockersOf : YL yX7_blockersOf gX7_blockersOf 3 := ⟨gw_in (i := 1018) (by decide +kernel) rfl, gw_in (i := 117) (by decide +kernel) rfl, by decide, by decide, by decide, rfl⟩
def gX7_stageOutOfSpan : Gm := (RX7, cX7_stageOutOfSpan, 5, some .int, false, 3, 0, 0)
theorem yl_X7_stageOutOfSpan : YL yX7_stageOutOfSpan gX7_stageOutOfSpan 2 := ⟨gw_in (i := 1027) (by decide +kernel) rfl, gw_in (i := 117) (by decide +kernel) rfl, by decide, by decide, by decide, rfl⟩
def gX7_weightAt : Gm := (RX7, cX7_weightAt, 5, some .int, false, 2, 0, 0)
theorem yl_X7_weightAt : YL yX7_weightAt gX7_weightAt 3 := ⟨gw_in (i := 1030) (by decide +kernel) rfl, gw_in (i := 117) (by decide +kernel) rfl, by decide, by decide, by decide, rfl⟩
def gX7_momentAt : Gm := (RX7, cX7_momentAt, 6, some .int, false, 2, 0, 0)
theorem yl_X7_momentAt : YL yX7_momentAt gX7_momentAt 3 := ⟨gw_in (i := 1033) (by decide +kernel) rfl, gw_in (i := 117) (by decide +kernel) rfl, by decide, by decide, by decide, rfl⟩
def gX7_timesThroughDoors : Gm := (RX7, cX7_timesThroughDoors, 7, some .int, false, 3, 0, 0)
theorem yl_X7_timesThroughDoors : YL yX7_timesThroughDoors gX7_timesThroughDoors 4 := ⟨gw_in (i := 1138) (by decide +kernel) rfl, gw_in (i := 117) (by decide +kernel) rfl, by decide, by decide, by decide, rfl⟩
def gX7_standInWay : Gm := (RX7, cX7_standInWay, 8, some .int, false, 2, 0, 0)
theorem yl_X7_standInWay : YL yX7_standInWay gX7_standInWay 5 := ⟨gw_in (i := 1142) (by decide +kernel) rfl, gw_in (i := 117) (by decide +kernel) rfl, by decide, by decide, by decide, rfl⟩
def gX8_init : Gm := (RX8, cX8_init, 1, none, true, 2, 9, 2194)
theorem yl_X8_init : YL yX8_init gX8_init 0 := ⟨gw_in (i := 492) (by decide +kernel) rfl, gw_in (i := 110) (by decide +kernel) rfl, by decide, by decide, by decide, rfl⟩
def gX8_forget : Gm := (RX8, cX8_forget, 1, none, false, 1, 0, 0)
theorem yl_X8_forget : YL yX8_forget gX8_forget 0 := ⟨gw_in (i := 861) (by decide +kernel) rfl, gw_in (i := 110) (by decide +kernel) rfl, by decide, by decide, by decide, rfl⟩
def gX8_makeFor : Gm := (RX8, cX8_makeFor, 3, none, false, 11, 0, 0)
theorem yl_X8_makeFor : YL yX8_makeFor gX8_makeFor 2 := ⟨gw_in (i := 1062) (by decide +kernel) rfl, gw_in (i := 110) (by decide +kernel) rfl, by decide, by decide, by decide, rfl⟩
def gX8_total : Gm := (RX8, cX8_total, 1, some .int, false, 2, 0, 0)
theorem yl_X8_total : YL yX8_total gX8_total 0 := ⟨gw_in (i := 1107) (by decide +kernel) rfl, gw_in (i := 110) (by decide +kernel) rfl, by decide, by decide, by decide, rfl⟩
def gX8_rowOf : Gm := (RX8, cX8_rowOf, 3, some .int, false, 1, 0, 0)
theorem yl_X8_rowOf : YL yX8_rowOf gX8_rowOf 1 := ⟨gw_in (i := 1115) (by decide +kernel) rfl, gw_in (i := 110) (by decide +kernel) rfl, by decide, by decide, by decide, rfl⟩
def gX8_spotIn : Gm := (RX8, cX8_spotIn, 4, some .int, false, 1, 0, 0)
theorem yl_X8_spotIn : YL yX8_spotIn gX8_spotIn 2 := ⟨gw_in (i := 1119) (by decide +kernel) rfl, gw_in (i := 110) (by decide +kernel) rfl, by decide, by decide, by decide, rfl⟩
def gX8_amountIn : Gm := (RX8, cX8_amountIn, 5, some .int, false, 2, 0, 0)
theorem yl_X8_amountIn : YL yX8_amountIn gX8_amountIn 3 := ⟨gw_in (i := 1127) (by decide +kernel) rfl, gw_in (i := 110) (by decide +kernel) rfl, by decide, by decide, by decide, rfl⟩
def gX8_takesAmount : Gm := (RX8, cX8_takesAmount, 4, some .boolean, false, 2, 0, 0)
theorem yl_X8_takesAmount : YL yX8_takesAmount gX8_takesAmount 2 := ⟨gw_in (i := 1161) (by decide +kernel) rfl, gw_in (i := 110) (by decide +kernel) rfl, by decide, by decide, by decide, rfl⟩
def gX8_upTo : Gm := (RX8, cX8_upTo, 2, some .int, false, 1, 0, 0)
theorem yl_X8_upTo : YL yX8_upTo gX8_upTo 1 := ⟨gw_in (i := 1094) (by decide +kernel) rfl, gw_in (i := 110) (by decide +kernel) rfl, by decide, by decide, by decide, rfl⟩
def gX8_reckonMoments : Gm := (RX8, cX8_reckonMoments, 6, none, false, 2, 0, 0)
theorem yl_X8_reckonMoments : YL yX8_reckonMoments gX8_reckonMoments 0 := ⟨gw_in (i := 1070) (by decide +kernel) rfl, gw_in (i := 110) (by decide +kernel) rfl, by decide, by decide, by decide, rfl⟩
def gX8_weightBehind : Gm := (RX8, cX8_weightBehind, 4, some .int, false, 1, 0, 0)
theorem yl_X8_weightBehind : YL yX8_weightBehind gX8_weightBehind 1 := ⟨gw_in (i := 1076) (by decide +kernel) rfl, gw_in (i := 110) (by decide +kernel) rfl, by decide, by decide, by decide, rfl⟩
def gX8_layFrom (d : Nat) : Gm := (RX8, cX8_layFrom, 3, none, false, d, 0, 0)
theorem yl_X8_layFrom (d : Nat) : YL yX8_layFrom (gX8_layFrom d) 2 := ⟨show Cond.code yX8_layFrom cX8_layFrom 3 none ∈ GW from gw_in (i := 1079) (by decide +kernel) rfl, gw_in (i := 110) (by decide +kernel) rfl, by decide, by decide, by decide, rfl⟩
def gX8_mayLie : Gm := (RX8, cX8_mayLie, 9, some .boolean, false, 3, 0, 0)
theorem yl_X8_mayLie : YL yX8_mayLie gX8_mayLie 2 := ⟨gw_in (i := 1098) (by decide +kernel) rfl, gw_in (i := 110) (by decide +kernel) rfl, by decide, by decide, by decide, rfl⟩
def gX8_lay : Gm := (RX8, cX8_lay, 5, none, false, 1, 0, 0)
theorem yl_X8_lay : YL yX8_lay gX8_lay 3 := ⟨gw_in (i := 1103) (by decide +kernel) rfl, gw_in (i := 110) (by decide +kernel) rfl, by decide, by decide, by decide, rfl⟩
def gX8_keepRow : Gm := (RX8, cX8_keepRow, 7, none, false, 2, 0, 0)
theorem yl_X8_keepRow : YL yX8_keepRow gX8_keepRow 0 := ⟨gw_in (i := 1083) (by decide +kernel) rfl, gw_in (i := 110) (by decide +kernel) rfl, by decide, by decide, by decide, rfl⟩
def gX8_packedPlaces : Gm := (RX8, cX8_packedPlaces, 3, some .int, false, 1, 0, 0)
theorem yl_X8_packedPlaces : YL yX8_packedPlaces gX8_packedPlaces 0 := ⟨gw_in (i := 1090) (by decide +kernel) rfl, gw_in (i := 110) (by decide +kernel) rfl, by decide, by decide, by decide, rfl⟩
def gX9_init : Gm := (RX9, cX9_init, 1, none, true, 2, 1, 540)
theorem yl_X9_init : YL yX9_init gX9_init 0 := ⟨gw_in (i := 138) (by decide +kernel) rfl, gw_in (i := 103) (by decide +kernel) rfl, by decide, by decide, by decide, rfl⟩
def gX9_addBytes : Gm := (RX9, cX9_addBytes, 3, none, false, 1, 0, 0)
theorem yl_X9_addBytes : YL yX9_addBytes gX9_addBytes 1 := ⟨gw_in (i := 619) (by decide +kernel) rfl, gw_in (i := 103) (by decide +kernel) rfl, by decide, by decide, by decide, rfl⟩
def gX9_begin : Gm := (RX9, cX9_begin, 2, none, false, 2, 0, 0)
theorem yl_X9_begin : YL yX9_begin gX9_begin 1 := ⟨gw_in (i := 636) (by decide +kernel) rfl, gw_in (i := 103) (by decide +kernel) rfl, by decide, by decide, by decide, rfl⟩
def gX9_fail : Gm := (RX9, cX9_fail, 2, none, false, 1, 0, 0)
theorem yl_X9_fail : YL yX9_fail gX9_fail 1 := ⟨gw_in (i := 640) (by decide +kernel) rfl, gw_in (i := 103) (by decide +kernel) rfl, by decide, by decide, by decide, rfl⟩
def gX9_next : Gm := (RX9, cX9_next, 2, none, false, 2, 0, 0)
theorem yl_X9_next : YL yX9_next gX9_next 0 := ⟨gw_in (i := 648) (by decide +kernel) rfl, gw_in (i := 103) (by decide +kernel) rfl, by decide, by decide, by decide, rfl⟩
def gX9_number : Gm := (RX9, cX9_number, 5, some .int, false, 3, 0, 0)
theorem yl_X9_number : YL yX9_number gX9_number 2 := ⟨gw_in (i := 719) (by decide +kernel) rfl, gw_in (i := 103) (by decide +kernel) rfl, by decide, by decide, by decide, rfl⟩
def gX9_newWord : Gm := (RX9, cX9_newWord, 1, some .long, false, 8, 0, 0)
theorem yl_X9_newWord : YL yX9_newWord gX9_newWord 0 := ⟨gw_in (i := 738) (by decide +kernel) rfl, gw_in (i := 103) (by decide +kernel) rfl, by decide, by decide, by decide, rfl⟩
def gX9_lineEnd : Gm := (RX9, cX9_lineEnd, 1, none, false, 3, 0, 0)
theorem yl_X9_lineEnd : YL yX9_lineEnd gX9_lineEnd 0 := ⟨gw_in (i := 848) (by decide +kernel) rfl, gw_in (i := 103) (by decide +kernel) rfl, by decide, by decide, by decide, rfl⟩
def gX9_tells : Gm := (RX9, cX9_tells, 3, some .boolean, false, 6, 0, 0)
theorem yl_X9_tells : YL yX9_tells gX9_tells 1 := ⟨gw_in (i := 662) (by decide +kernel) rfl, gw_in (i := 103) (by decide +kernel) rfl, by decide, by decide, by decide, rfl⟩
def gX9_isQuoted : Gm := (RX9, cX9_isQuoted, 1, some .boolean, false, 7, 0, 0)
theorem yl_X9_isQuoted : YL yX9_isQuoted gX9_isQuoted 0 := ⟨gw_in (i := 742) (by decide +kernel) rfl, gw_in (i := 103) (by decide +kernel) rfl, by decide, by decide, by decide, rfl⟩
def gX9_kindOf : Gm := (RX9, cX9_kindOf, 2, some .int, false, 1, 0, 0)
theorem yl_X9_kindOf : YL yX9_kindOf gX9_kindOf 2 := ⟨gw_in (i := 657) (by decide +kernel) rfl, gw_in (i := 103) (by decide +kernel) rfl, by decide, by decide, by decide, rfl⟩
def gX9_isLetter : Gm := (RX9, cX9_isLetter, 1, some .boolean, false, 1, 0, 0)
theorem yl_X9_isLetter : YL yX9_isLetter gX9_isLetter 1 := ⟨gw_in (i := 651) (by decide +kernel) rfl, gw_in (i := 103) (by decide +kernel) rfl, by decide, by decide, by decide, rfl⟩
def gX9_isDigit : Gm := (RX9, cX9_isDigit, 1, some .boolean, false, 1, 0, 0)
theorem yl_X9_isDigit : YL yX9_isDigit gX9_isDigit 1 := ⟨gw_in (i := 654) (by decide +kernel) rfl, gw_in (i := 103) (by decide +kernel) rfl, by decide, by decide, by decide, rfl⟩
def gX9_packed : Gm := (RX9, cX9_packed, 6, some .long, false, 2, 0, 0)
theorem yl_X9_packed : YL yX9_packed gX9_packed 2 := ⟨gw_in (i := 760) (by decide +kernel) rfl, gw_in (i := 103) (by decide +kernel) rfl, by decide, by decide, by decide, rfl⟩
def gX9_lettersOf : Gm := (RX9, cX9_lettersOf, 4, some .int, false, 1, 0, 0)
theorem yl_X9_lettersOf : YL yX9_lettersOf gX9_lettersOf 1 := ⟨gw_in (i := 920) (by decide +kernel) rfl, gw_in (i := 103) (by decide +kernel) rfl, by decide, by decide, by decide, rfl⟩
def gX10_init : Gm := (RX10, cX10_init, 1, none, true, 2, 9, 75)
theorem yl_X10_init : YL yX10_init gX10_init 0 := ⟨gw_in (i := 266) (by decide +kernel) rfl, gw_in (i := 106) (by decide +kernel) rfl, by decide, by decide, by decide, rfl⟩
def gX10_clear : Gm := (RX10, cX10_clear, 1, none, false, 1, 0, 0)
theorem yl_X10_clear : YL yX10_clear gX10_clear 0 := ⟨gw_in (i := 332) (by decide +kernel) rfl, gw_in (i := 106) (by decide +kernel) rfl, by decide, by decide, by decide, rfl⟩
def gX10_copyFrom : Gm := (RX10, cX10_copyFrom, 2, none, false, 2, 0, 0)
theorem yl_X10_copyFrom : YL yX10_copyFrom gX10_copyFrom 1 := ⟨gw_in (i := 1287) (by decide +kernel) rfl, gw_in (i := 106) (by decide +kernel) rfl, by decide, by decide, by decide, rfl⟩
def gX10_hasTank : Gm := (RX10, cX10_hasTank, 2, some .boolean, false, 1, 0, 0)
theorem yl_X10_hasTank : YL yX10_hasTank gX10_hasTank 1 := ⟨gw_in (i := 340) (by decide +kernel) rfl, gw_in (i := 106) (by decide +kernel) rfl, by decide, by decide, by decide, rfl⟩
def gX10_tankCalled : Gm := (RX10, cX10_tankCalled, 4, some .int, false, 1, 0, 0)
theorem yl_X10_tankCalled : YL yX10_tankCalled gX10_tankCalled 1 := ⟨gw_in (i := 768) (by decide +kernel) rfl, gw_in (i := 106) (by decide +kernel) rfl, by decide, by decide, by decide, rfl⟩
def gX10_leftIn : Gm := (RX10, cX10_leftIn, 2, some .int, false, 2, 0, 0)
theorem yl_X10_leftIn : YL yX10_leftIn gX10_leftIn 1 := ⟨gw_in (i := 831) (by decide +kernel) rfl, gw_in (i := 106) (by decide +kernel) rfl, by decide, by decide, by decide, rfl⟩
def gX10_addTank : Gm := (RX10, cX10_addTank, 5, none, false, 1, 0, 0)
theorem yl_X10_addTank : YL yX10_addTank gX10_addTank 3 := ⟨gw_in (i := 822) (by decide +kernel) rfl, gw_in (i := 106) (by decide +kernel) rfl, by decide, by decide, by decide, rfl⟩
def gX10_addBurn : Gm := (RX10, cX10_addBurn, 3, none, false, 2, 0, 0)
theorem yl_X10_addBurn : YL yX10_addBurn gX10_addBurn 2 := ⟨gw_in (i := 835) (by decide +kernel) rfl, gw_in (i := 106) (by decide +kernel) rfl, by decide, by decide, by decide, rfl⟩
def gX10_addStop : Gm := (RX10, cX10_addStop, 1, none, false, 1, 0, 0)
theorem yl_X10_addStop : YL yX10_addStop gX10_addStop 0 := ⟨gw_in (i := 844) (by decide +kernel) rfl, gw_in (i := 106) (by decide +kernel) rfl, by decide, by decide, by decide, rfl⟩
def gX10_reckon : Gm := (RX10, cX10_reckon, 6, none, false, 2, 0, 0)
theorem yl_X10_reckon : YL yX10_reckon gX10_reckon 2 := ⟨gw_in (i := 336) (by decide +kernel) rfl, gw_in (i := 106) (by decide +kernel) rfl, by decide, by decide, by decide, rfl⟩
def gX11_init : Gm := (RX11, cX11_init, 1, none, true, 5, 187, 4514)
theorem yl_X11_init : YL yX11_init gX11_init 0 := ⟨gw_in (i := 124) (by decide +kernel) rfl, gw_in (i := 101) (by decide +kernel) rfl, by decide, by decide, by decide, rfl⟩
def gX11_feed : Gm := (RX11, cX11_feed, 7, some .int, false, 2, 0, 0)
theorem yl_X11_feed : YL yX11_feed gX11_feed 5 := ⟨gw_in (i := 615) (by decide +kernel) rfl, gw_in (i := 101) (by decide +kernel) rfl, by decide, by decide, by decide, rfl⟩
def gX11_end : Gm := (RX11, cX11_end, 2, some .boolean, false, 1, 0, 0)
theorem yl_X11_end : YL yX11_end gX11_end 1 := ⟨gw_in (i := 623) (by decide +kernel) rfl, gw_in (i := 101) (by decide +kernel) rfl, by decide, by decide, by decide, rfl⟩
def gX11_plane : Gm := (RX11, cX11_plane, 2, some .int, false, 12, 0, 0)
theorem yl_X11_plane : YL yX11_plane gX11_plane 0 := ⟨gw_in (i := 627) (by decide +kernel) rfl, gw_in (i := 101) (by decide +kernel) rfl, by decide, by decide, by decide, rfl⟩
def gX11_cargo : Gm := (RX11, cX11_cargo, 2, some .int, false, 11, 0, 0)
theorem yl_X11_cargo : YL yX11_cargo gX11_cargo 0 := ⟨gw_in (i := 866) (by decide +kernel) rfl, gw_in (i := 101) (by decide +kernel) rfl, by decide, by decide, by decide, rfl⟩
def gX11_fault : Gm := (RX11, cX11_fault, 1, some .int, false, 1, 0, 0)
theorem yl_X11_fault : YL yX11_fault gX11_fault 0 := ⟨gw_in (i := 901) (by decide +kernel) rfl, gw_in (i := 101) (by decide +kernel) rfl, by decide, by decide, by decide, rfl⟩
def gX11_count : Gm := (RX11, cX11_count, 2, some .int, false, 2, 0, 0)
theorem yl_X11_count : YL yX11_count gX11_count 1 := ⟨gw_in (i := 905) (by decide +kernel) rfl, gw_in (i := 101) (by decide +kernel) rfl, by decide, by decide, by decide, rfl⟩
def gX11_pallet : Gm := (RX11, cX11_pallet, 3, some .int, false, 2, 0, 0)
theorem yl_X11_pallet : YL yX11_pallet gX11_pallet 2 := ⟨gw_in (i := 913) (by decide +kernel) rfl, gw_in (i := 101) (by decide +kernel) rfl, by decide, by decide, by decide, rfl⟩
def gX11_named : Gm := (RX11, cX11_named, 4, some .int, false, 3, 0, 0)
theorem yl_X11_named : YL yX11_named gX11_named 0 := ⟨gw_in (i := 924) (by decide +kernel) rfl, gw_in (i := 101) (by decide +kernel) rfl, by decide, by decide, by decide, rfl⟩
def gX11_spot : Gm := (RX11, cX11_spot, 4, some .int, false, 2, 0, 0)
theorem yl_X11_spot : YL yX11_spot gX11_spot 2 := ⟨gw_in (i := 930) (by decide +kernel) rfl, gw_in (i := 101) (by decide +kernel) rfl, by decide, by decide, by decide, rfl⟩
def gX11_in : Gm := (RX11, cX11_in, 3, some .int, false, 3, 0, 0)
theorem yl_X11_in : YL yX11_in gX11_in 2 := ⟨gw_in (i := 942) (by decide +kernel) rfl, gw_in (i := 101) (by decide +kernel) rfl, by decide, by decide, by decide, rfl⟩
def gX11_put : Gm := (RX11, cX11_put, 4, some .int, false, 4, 0, 0)
theorem yl_X11_put : YL yX11_put gX11_put 2 := ⟨gw_in (i := 956) (by decide +kernel) rfl, gw_in (i := 101) (by decide +kernel) rfl, by decide, by decide, by decide, rfl⟩
def gX11_off : Gm := (RX11, cX11_off, 3, some .int, false, 4, 0, 0)
theorem yl_X11_off : YL yX11_off gX11_off 1 := ⟨gw_in (i := 974) (by decide +kernel) rfl, gw_in (i := 101) (by decide +kernel) rfl, by decide, by decide, by decide, rfl⟩
def gX11_pour : Gm := (RX11, cX11_pour, 3, some .int, false, 4, 0, 0)
theorem yl_X11_pour : YL yX11_pour gX11_pour 2 := ⟨gw_in (i := 978) (by decide +kernel) rfl, gw_in (i := 101) (by decide +kernel) rfl, by decide, by decide, by decide, rfl⟩
def gX11_why : Gm := (RX11, cX11_why, 1, some .int, false, 7, 0, 0)
theorem yl_X11_why : YL yX11_why gX11_why 0 := ⟨gw_in (i := 982) (by decide +kernel) rfl, gw_in (i := 101) (by decide +kernel) rfl, by decide, by decide, by decide, rfl⟩
def gX11_where : Gm := (RX11, cX11_where, 1, some .int, false, 7, 0, 0)
theorem yl_X11_where : YL yX11_where gX11_where 0 := ⟨gw_in (i := 1037) (by decide +kernel) rfl, gw_in (i := 101) (by decide +kernel) rfl, by decide, by decide, by decide, rfl⟩
def gX11_stage : Gm := (RX11, cX11_stage, 5, some .int, false, 3, 0, 0)
theorem yl_X11_stage : YL yX11_stage gX11_stage 2 := ⟨gw_in (i := 1042) (by decide +kernel) rfl, gw_in (i := 101) (by decide +kernel) rfl, by decide, by decide, by decide, rfl⟩
def gX11_blocks : Gm := (RX11, cX11_blocks, 2, some .int, false, 4, 0, 0)
theorem yl_X11_blocks : YL yX11_blocks gX11_blocks 1 := ⟨gw_in (i := 1049) (by decide +kernel) rfl, gw_in (i := 101) (by decide +kernel) rfl, by decide, by decide, by decide, rfl⟩
def gX11_loadings : Gm := (RX11, cX11_loadings, 1, some .int, false, 13, 0, 0)
theorem yl_X11_loadings : YL yX11_loadings gX11_loadings 0 := ⟨gw_in (i := 1054) (by decide +kernel) rfl, gw_in (i := 101) (by decide +kernel) rfl, by decide, by decide, by decide, rfl⟩
def gX11_loading : Gm := (RX11, cX11_loading, 4, some .int, false, 13, 0, 0)
theorem yl_X11_loading : YL yX11_loading gX11_loading 2 := ⟨gw_in (i := 1111) (by decide +kernel) rfl, gw_in (i := 101) (by decide +kernel) rfl, by decide, by decide, by decide, rfl⟩
def gX11_poured : Gm := (RX11, cX11_poured, 4, some .int, false, 13, 0, 0)
theorem yl_X11_poured : YL yX11_poured gX11_poured 2 := ⟨gw_in (i := 1123) (by decide +kernel) rfl, gw_in (i := 101) (by decide +kernel) rfl, by decide, by decide, by decide, rfl⟩
def gX11_take : Gm := (RX11, cX11_take, 6, some .int, false, 13, 0, 0)
theorem yl_X11_take : YL yX11_take gX11_take 1 := ⟨gw_in (i := 1131) (by decide +kernel) rfl, gw_in (i := 101) (by decide +kernel) rfl, by decide, by decide, by decide, rfl⟩
def gX11_handlings : Gm := (RX11, cX11_handlings, 3, some .int, false, 13, 0, 0)
theorem yl_X11_handlings : YL yX11_handlings gX11_handlings 1 := ⟨gw_in (i := 1135) (by decide +kernel) rfl, gw_in (i := 101) (by decide +kernel) rfl, by decide, by decide, by decide, rfl⟩
def gX11_mend : Gm := (RX11, cX11_mend, 2, some .int, false, 13, 0, 0)
theorem yl_X11_mend : YL yX11_mend gX11_mend 0 := ⟨gw_in (i := 1146) (by decide +kernel) rfl, gw_in (i := 101) (by decide +kernel) rfl, by decide, by decide, by decide, rfl⟩
def gX11_move : Gm := (RX11, cX11_move, 2, some .int, false, 2, 0, 0)
theorem yl_X11_move : YL yX11_move gX11_move 1 := ⟨gw_in (i := 1211) (by decide +kernel) rfl, gw_in (i := 101) (by decide +kernel) rfl, by decide, by decide, by decide, rfl⟩
def gX11_mended : Gm := (RX11, cX11_mended, 2, some .int, false, 13, 0, 0)
theorem yl_X11_mended : YL yX11_mended gX11_mended 0 := ⟨gw_in (i := 1219) (by decide +kernel) rfl, gw_in (i := 101) (by decide +kernel) rfl, by decide, by decide, by decide, rfl⟩
def gX11_spare : Gm := (RX11, cX11_spare, 5, some .int, false, 7, 0, 0)
theorem yl_X11_spare : YL yX11_spare gX11_spare 1 := ⟨gw_in (i := 1227) (by decide +kernel) rfl, gw_in (i := 101) (by decide +kernel) rfl, by decide, by decide, by decide, rfl⟩
def gX11_swaps : Gm := (RX11, cX11_swaps, 4, some .int, false, 7, 0, 0)
theorem yl_X11_swaps : YL yX11_swaps gX11_swaps 0 := ⟨gw_in (i := 1231) (by decide +kernel) rfl, gw_in (i := 101) (by decide +kernel) rfl, by decide, by decide, by decide, rfl⟩
def gX11_come : Gm := (RX11, cX11_come, 4, some .int, false, 4, 0, 0)
theorem yl_X11_come : YL yX11_come gX11_come 2 := ⟨gw_in (i := 1239) (by decide +kernel) rfl, gw_in (i := 101) (by decide +kernel) rfl, by decide, by decide, by decide, rfl⟩
def gX11_drop : Gm := (RX11, cX11_drop, 2, some .int, false, 4, 0, 0)
theorem yl_X11_drop : YL yX11_drop gX11_drop 1 := ⟨gw_in (i := 1244) (by decide +kernel) rfl, gw_in (i := 101) (by decide +kernel) rfl, by decide, by decide, by decide, rfl⟩
def gX11_again : Gm := (RX11, cX11_again, 2, some .int, false, 4, 0, 0)
theorem yl_X11_again : YL yX11_again gX11_again 1 := ⟨gw_in (i := 1252) (by decide +kernel) rfl, gw_in (i := 101) (by decide +kernel) rfl, by decide, by decide, by decide, rfl⟩
def gX11_weigh : Gm := (RX11, cX11_weigh, 3, some .int, false, 4, 0, 0)
theorem yl_X11_weigh : YL yX11_weigh gX11_weigh 2 := ⟨gw_in (i := 1256) (by decide +kernel) rfl, gw_in (i := 101) (by decide +kernel) rfl, by decide, by decide, by decide, rfl⟩
def gX11_undo : Gm := (RX11, cX11_undo, 1, some .int, false, 4, 0, 0)
theorem yl_X11_undo : YL yX11_undo gX11_undo 0 := ⟨gw_in (i := 1260) (by decide +kernel) rfl, gw_in (i := 101) (by decide +kernel) rfl, by decide, by decide, by decide, rfl⟩
def gX11_image : Gm := (RX11, cX11_image, 3, some .boolean, false, 4, 0, 0)
theorem yl_X11_image : YL yX11_image gX11_image 1 := ⟨gw_in (i := 1269) (by decide +kernel) rfl, gw_in (i := 101) (by decide +kernel) rfl, by decide, by decide, by decide, rfl⟩
def gX11_restore : Gm := (RX11, cX11_restore, 3, some .boolean, false, 4, 0, 0)
theorem yl_X11_restore : YL yX11_restore gX11_restore 1 := ⟨gw_in (i := 1293) (by decide +kernel) rfl, gw_in (i := 101) (by decide +kernel) rfl, by decide, by decide, by decide, rfl⟩
def gX11_startAnew : Gm := (RX11, cX11_startAnew, 1, none, false, 2, 0, 0)
theorem yl_X11_startAnew : YL yX11_startAnew gX11_startAnew 0 := ⟨gw_in (i := 853) (by decide +kernel) rfl, gw_in (i := 101) (by decide +kernel) rfl, by decide, by decide, by decide, rfl⟩
def gX11_freshTable : Gm := (RX11, cX11_freshTable, 1, some (.object "LoadSpans$Table"), false, 12, 0, 0)
theorem yl_X11_freshTable : YL yX11_freshTable gX11_freshTable 0 := ⟨gw_in (i := 1058) (by decide +kernel) rfl, gw_in (i := 101) (by decide +kernel) rfl, by decide, by decide, by decide, rfl⟩
def gX11_changePlaces : Gm := (RX11, cX11_changePlaces, 4, none, false, 1, 0, 0)
theorem yl_X11_changePlaces : YL yX11_changePlaces gX11_changePlaces 2 := ⟨gw_in (i := 1235) (by decide +kernel) rfl, gw_in (i := 101) (by decide +kernel) rfl, by decide, by decide, by decide, rfl⟩
def gX11_imageAt : Gm := (RX11, cX11_imageAt, 2, some (.object "LoadSpans$Image"), false, 1, 0, 0)
theorem yl_X11_imageAt : YL yX11_imageAt gX11_imageAt 1 := ⟨gw_in (i := 1273) (by decide +kernel) rfl, gw_in (i := 101) (by decide +kernel) rfl, by decide, by decide, by decide, rfl⟩
def gX12_init : Gm := (RX12, cX12_init, 1, none, true, 2, 14, 95368)
theorem yl_X12_init : YL yX12_init gX12_init 0 := ⟨gw_in (i := 1298) (by decide +kernel) rfl, gw_in (i := 112) (by decide +kernel) rfl, by decide, by decide, by decide, rfl⟩
def gX12_bare : Gm := (RX12, cX12_bare, 2, none, false, 1, 0, 0)
theorem yl_X12_bare : YL yX12_bare gX12_bare 1 := ⟨gw_in (i := 1303) (by decide +kernel) rfl, gw_in (i := 112) (by decide +kernel) rfl, by decide, by decide, by decide, rfl⟩
def gX12_copies : Gm := (RX12, cX12_copies, 5, none, false, 1, 0, 0)
theorem yl_X12_copies : YL yX12_copies gX12_copies 4 := ⟨gw_in (i := 1532) (by decide +kernel) rfl, gw_in (i := 112) (by decide +kernel) rfl, by decide, by decide, by decide, rfl⟩
def gX12_feed : Gm := (RX12, cX12_feed, 6, some .int, false, 2, 0, 0)
theorem yl_X12_feed : YL yX12_feed gX12_feed 5 := ⟨gw_in (i := 1410) (by decide +kernel) rfl, gw_in (i := 112) (by decide +kernel) rfl, by decide, by decide, by decide, rfl⟩
def gX12_four : Gm := (RX12, cX12_four, 3, none, false, 1, 0, 0)
theorem yl_X12_four : YL yX12_four gX12_four 1 := ⟨gw_in (i := 1414) (by decide +kernel) rfl, gw_in (i := 112) (by decide +kernel) rfl, by decide, by decide, by decide, rfl⟩
def gX12_end : Gm := (RX12, cX12_end, 2, some .boolean, false, 1, 0, 0)
theorem yl_X12_end : YL yX12_end gX12_end 1 := ⟨gw_in (i := 1418) (by decide +kernel) rfl, gw_in (i := 112) (by decide +kernel) rfl, by decide, by decide, by decide, rfl⟩
def gX12_isIn : Gm := (RX12, cX12_isIn, 3, some .boolean, false, 1, 0, 0)
theorem yl_X12_isIn : YL yX12_isIn gX12_isIn 3 := ⟨gw_in (i := 1448) (by decide +kernel) rfl, gw_in (i := 112) (by decide +kernel) rfl, by decide, by decide, by decide, rfl⟩
def gX12_bitOf : Gm := (RX12, cX12_bitOf, 2, some .boolean, false, 1, 0, 0)
theorem yl_X12_bitOf : YL yX12_bitOf gX12_bitOf 2 := ⟨gw_in (i := 1678) (by decide +kernel) rfl, gw_in (i := 112) (by decide +kernel) rfl, by decide, by decide, by decide, rfl⟩
def gX12_peek : Gm := (RX12, cX12_peek, 1, some .int, false, 1, 0, 0)
theorem yl_X12_peek : YL yX12_peek gX12_peek 0 := ⟨gw_in (i := 1442) (by decide +kernel) rfl, gw_in (i := 112) (by decide +kernel) rfl, by decide, by decide, by decide, rfl⟩
def gX12_isSmall : Gm := (RX12, cX12_isSmall, 1, some .boolean, false, 2, 0, 0)
theorem yl_X12_isSmall : YL yX12_isSmall gX12_isSmall 1 := ⟨gw_in (i := 1445) (by decide +kernel) rfl, gw_in (i := 112) (by decide +kernel) rfl, by decide, by decide, by decide, rfl⟩
def gX12_isDigit : Gm := (RX12, cX12_isDigit, 1, some .boolean, false, 2, 0, 0)
theorem yl_X12_isDigit : YL yX12_isDigit gX12_isDigit 1 := ⟨gw_in (i := 1451) (by decide +kernel) rfl, gw_in (i := 112) (by decide +kernel) rfl, by decide, by decide, by decide, rfl⟩
def gX12_bad : Gm := (RX12, cX12_bad, 3, some .boolean, false, 1, 0, 0)
theorem yl_X12_bad : YL yX12_bad gX12_bad 2 := ⟨gw_in (i := 1434) (by decide +kernel) rfl, gw_in (i := 112) (by decide +kernel) rfl, by decide, by decide, by decide, rfl⟩
def gX12_badHere : Gm := (RX12, cX12_badHere, 2, some .boolean, false, 2, 0, 0)
theorem yl_X12_badHere : YL yX12_badHere gX12_badHere 1 := ⟨gw_in (i := 1461) (by decide +kernel) rfl, gw_in (i := 112) (by decide +kernel) rfl, by decide, by decide, by decide, rfl⟩
def gX12_next : Gm := (RX12, cX12_next, 4, none, false, 3, 0, 0)
theorem yl_X12_next : YL yX12_next gX12_next 0 := ⟨gw_in (i := 1438) (by decide +kernel) rfl, gw_in (i := 112) (by decide +kernel) rfl, by decide, by decide, by decide, rfl⟩
def gX12_known : Gm := (RX12, cX12_known, 4, some .int, false, 1, 0, 0)
theorem yl_X12_known : YL yX12_known gX12_known 0 := ⟨gw_in (i := 1455) (by decide +kernel) rfl, gw_in (i := 112) (by decide +kernel) rfl, by decide, by decide, by decide, rfl⟩
def gX12_isName : Gm := (RX12, cX12_isName, 1, some .boolean, false, 2, 0, 0)
theorem yl_X12_isName : YL yX12_isName gX12_isName 0 := ⟨gw_in (i := 1497) (by decide +kernel) rfl, gw_in (i := 112) (by decide +kernel) rfl, by decide, by decide, by decide, rfl⟩
def gX12_number : Gm := (RX12, cX12_number, 3, some .boolean, false, 3, 0, 0)
theorem yl_X12_number : YL yX12_number gX12_number 2 := ⟨gw_in (i := 1481) (by decide +kernel) rfl, gw_in (i := 112) (by decide +kernel) rfl, by decide, by decide, by decide, rfl⟩
def gX12_takes : Gm := (RX12, cX12_takes, 4, some .boolean, false, 4, 0, 0)
theorem yl_X12_takes : YL yX12_takes gX12_takes 3 := ⟨gw_in (i := 1477) (by decide +kernel) rfl, gw_in (i := 112) (by decide +kernel) rfl, by decide, by decide, by decide, rfl⟩
def gX12_isNamed : Gm := (RX12, cX12_isNamed, 4, some .boolean, false, 1, 0, 0)
theorem yl_X12_isNamed : YL yX12_isNamed gX12_isNamed 1 := ⟨gw_in (i := 1505) (by decide +kernel) rfl, gw_in (i := 112) (by decide +kernel) rfl, by decide, by decide, by decide, rfl⟩
def gX12_named0 : Gm := (RX12, cX12_named0, 3, some .int, false, 2, 0, 0)
theorem yl_X12_named0 : YL yX12_named0 gX12_named0 1 := ⟨gw_in (i := 1501) (by decide +kernel) rfl, gw_in (i := 112) (by decide +kernel) rfl, by decide, by decide, by decide, rfl⟩
def gX12_takesName : Gm := (RX12, cX12_takesName, 3, some .boolean, false, 4, 0, 0)
theorem yl_X12_takesName : YL yX12_takesName gX12_takesName 1 := ⟨gw_in (i := 1493) (by decide +kernel) rfl, gw_in (i := 112) (by decide +kernel) rfl, by decide, by decide, by decide, rfl⟩
def gX12_begins : Gm := (RX12, cX12_begins, 2, some .boolean, false, 4, 0, 0)
theorem yl_X12_begins : YL yX12_begins gX12_begins 1 := ⟨gw_in (i := 1430) (by decide +kernel) rfl, gw_in (i := 112) (by decide +kernel) rfl, by decide, by decide, by decide, rfl⟩
def gX12_spanLine : Gm := (RX12, cX12_spanLine, 1, some .boolean, false, 5, 0, 0)
theorem yl_X12_spanLine : YL yX12_spanLine gX12_spanLine 0 := ⟨gw_in (i := 1485) (by decide +kernel) rfl, gw_in (i := 112) (by decide +kernel) rfl, by decide, by decide, by decide, rfl⟩
def gX12_holdLine : Gm := (RX12, cX12_holdLine, 3, some .boolean, false, 5, 0, 0)
theorem yl_X12_holdLine : YL yX12_holdLine gX12_holdLine 0 := ⟨gw_in (i := 1489) (by decide +kernel) rfl, gw_in (i := 112) (by decide +kernel) rfl, by decide, by decide, by decide, rfl⟩
def gX12_spotLine : Gm := (RX12, cX12_spotLine, 2, some .boolean, false, 5, 0, 0)
theorem yl_X12_spotLine : YL yX12_spotLine gX12_spotLine 0 := ⟨gw_in (i := 1509) (by decide +kernel) rfl, gw_in (i := 112) (by decide +kernel) rfl, by decide, by decide, by decide, rfl⟩
def gX12_canJoint : Gm := (RX12, cX12_canJoint, 2, some .boolean, false, 1, 0, 0)
theorem yl_X12_canJoint : YL yX12_canJoint gX12_canJoint 0 := ⟨gw_in (i := 1469) (by decide +kernel) rfl, gw_in (i := 112) (by decide +kernel) rfl, by decide, by decide, by decide, rfl⟩
def gX12_jointLine : Gm := (RX12, cX12_jointLine, 2, some .boolean, false, 5, 0, 0)
theorem yl_X12_jointLine : YL yX12_jointLine gX12_jointLine 0 := ⟨gw_in (i := 1513) (by decide +kernel) rfl, gw_in (i := 112) (by decide +kernel) rfl, by decide, by decide, by decide, rfl⟩
def gX12_binLine : Gm := (RX12, cX12_binLine, 2, some .boolean, false, 5, 0, 0)
theorem yl_X12_binLine : YL yX12_binLine gX12_binLine 0 := ⟨gw_in (i := 1517) (by decide +kernel) rfl, gw_in (i := 112) (by decide +kernel) rfl, by decide, by decide, by decide, rfl⟩
def gX12_tankLine : Gm := (RX12, cX12_tankLine, 2, some .boolean, false, 5, 0, 0)
theorem yl_X12_tankLine : YL yX12_tankLine gX12_tankLine 0 := ⟨gw_in (i := 1521) (by decide +kernel) rfl, gw_in (i := 112) (by decide +kernel) rfl, by decide, by decide, by decide, rfl⟩
def gX12_burnLine : Gm := (RX12, cX12_burnLine, 4, some .boolean, false, 5, 0, 0)
theorem yl_X12_burnLine : YL yX12_burnLine gX12_burnLine 0 := ⟨gw_in (i := 1525) (by decide +kernel) rfl, gw_in (i := 112) (by decide +kernel) rfl, by decide, by decide, by decide, rfl⟩
def gX12_isTooMany : Gm := (RX12, cX12_isTooMany, 2, some .boolean, false, 1, 0, 0)
theorem yl_X12_isTooMany : YL yX12_isTooMany gX12_isTooMany 1 := ⟨gw_in (i := 1465) (by decide +kernel) rfl, gw_in (i := 112) (by decide +kernel) rfl, by decide, by decide, by decide, rfl⟩
def gX12_planeLine : Gm := (RX12, cX12_planeLine, 2, some .boolean, false, 6, 0, 0)
theorem yl_X12_planeLine : YL yX12_planeLine gX12_planeLine 1 := ⟨gw_in (i := 1473) (by decide +kernel) rfl, gw_in (i := 112) (by decide +kernel) rfl, by decide, by decide, by decide, rfl⟩
def gX12_readsPlane : Gm := (RX12, cX12_readsPlane, 2, some .boolean, false, 7, 0, 0)
theorem yl_X12_readsPlane : YL yX12_readsPlane gX12_readsPlane 0 := ⟨gw_in (i := 1426) (by decide +kernel) rfl, gw_in (i := 112) (by decide +kernel) rfl, by decide, by decide, by decide, rfl⟩
def gX12_plane : Gm := (RX12, cX12_plane, 2, some .int, false, 8, 0, 0)
theorem yl_X12_plane : YL yX12_plane gX12_plane 0 := ⟨gw_in (i := 1422) (by decide +kernel) rfl, gw_in (i := 112) (by decide +kernel) rfl, by decide, by decide, by decide, rfl⟩
def gX12_settles : Gm := (RX12, cX12_settles, 2, none, false, 2, 0, 0)
theorem yl_X12_settles : YL yX12_settles gX12_settles 0 := ⟨gw_in (i := 1529) (by decide +kernel) rfl, gw_in (i := 112) (by decide +kernel) rfl, by decide, by decide, by decide, rfl⟩
def gX12_palletLine : Gm := (RX12, cX12_palletLine, 3, some .boolean, false, 5, 0, 0)
theorem yl_X12_palletLine : YL yX12_palletLine gX12_palletLine 0 := ⟨gw_in (i := 1544) (by decide +kernel) rfl, gw_in (i := 112) (by decide +kernel) rfl, by decide, by decide, by decide, rfl⟩
def gX12_palletOf : Gm := (RX12, cX12_palletOf, 7, some .int, false, 1, 0, 0)
theorem yl_X12_palletOf : YL yX12_palletOf gX12_palletOf 4 := ⟨gw_in (i := 1547) (by decide +kernel) rfl, gw_in (i := 112) (by decide +kernel) rfl, by decide, by decide, by decide, rfl⟩
def gX12_bulkLine : Gm := (RX12, cX12_bulkLine, 1, some .boolean, false, 5, 0, 0)
theorem yl_X12_bulkLine : YL yX12_bulkLine gX12_bulkLine 0 := ⟨gw_in (i := 1551) (by decide +kernel) rfl, gw_in (i := 112) (by decide +kernel) rfl, by decide, by decide, by decide, rfl⟩
def gX12_readsCargo : Gm := (RX12, cX12_readsCargo, 2, some .boolean, false, 6, 0, 0)
theorem yl_X12_readsCargo : YL yX12_readsCargo gX12_readsCargo 0 := ⟨gw_in (i := 1540) (by decide +kernel) rfl, gw_in (i := 112) (by decide +kernel) rfl, by decide, by decide, by decide, rfl⟩
def gX12_cargo : Gm := (RX12, cX12_cargo, 1, some .int, false, 7, 0, 0)
theorem yl_X12_cargo : YL yX12_cargo gX12_cargo 0 := ⟨gw_in (i := 1536) (by decide +kernel) rfl, gw_in (i := 112) (by decide +kernel) rfl, by decide, by decide, by decide, rfl⟩
def gX12_fault : Gm := (RX12, cX12_fault, 1, some .int, false, 1, 0, 0)
theorem yl_X12_fault : YL yX12_fault gX12_fault 0 := ⟨gw_in (i := 1555) (by decide +kernel) rfl, gw_in (i := 112) (by decide +kernel) rfl, by decide, by decide, by decide, rfl⟩
def gX12_isPallet : Gm := (RX12, cX12_isPallet, 2, some .boolean, false, 2, 0, 0)
theorem yl_X12_isPallet : YL yX12_isPallet gX12_isPallet 1 := ⟨gw_in (i := 1567) (by decide +kernel) rfl, gw_in (i := 112) (by decide +kernel) rfl, by decide, by decide, by decide, rfl⟩
def gX12_isSpot : Gm := (RX12, cX12_isSpot, 2, some .boolean, false, 2, 0, 0)
theorem yl_X12_isSpot : YL yX12_isSpot gX12_isSpot 1 := ⟨gw_in (i := 1579) (by decide +kernel) rfl, gw_in (i := 112) (by decide +kernel) rfl, by decide, by decide, by decide, rfl⟩
def gX12_on : Gm := (RX12, cX12_on, 3, some .int, false, 1, 0, 0)
theorem yl_X12_on : YL yX12_on gX12_on 1 := ⟨gw_in (i := 1583) (by decide +kernel) rfl, gw_in (i := 112) (by decide +kernel) rfl, by decide, by decide, by decide, rfl⟩
def gX12_wayOf : Gm := (RX12, cX12_wayOf, 5, some .int, false, 1, 0, 0)
theorem yl_X12_wayOf : YL yX12_wayOf gX12_wayOf 1 := ⟨gw_in (i := 1587) (by decide +kernel) rfl, gw_in (i := 112) (by decide +kernel) rfl, by decide, by decide, by decide, rfl⟩
def gX12_weightOn : Gm := (RX12, cX12_weightOn, 3, some .int, false, 2, 0, 0)
theorem yl_X12_weightOn : YL yX12_weightOn gX12_weightOn 1 := ⟨gw_in (i := 1599) (by decide +kernel) rfl, gw_in (i := 112) (by decide +kernel) rfl, by decide, by decide, by decide, rfl⟩
def gX12_inHold : Gm := (RX12, cX12_inHold, 4, some .int, false, 3, 0, 0)
theorem yl_X12_inHold : YL yX12_inHold gX12_inHold 1 := ⟨gw_in (i := 1595) (by decide +kernel) rfl, gw_in (i := 112) (by decide +kernel) rfl, by decide, by decide, by decide, rfl⟩
def gX12_count : Gm := (RX12, cX12_count, 4, some .int, false, 2, 0, 0)
theorem yl_X12_count : YL yX12_count gX12_count 1 := ⟨gw_in (i := 1559) (by decide +kernel) rfl, gw_in (i := 112) (by decide +kernel) rfl, by decide, by decide, by decide, rfl⟩
def gX12_pallet : Gm := (RX12, cX12_pallet, 3, some .int, false, 3, 0, 0)
theorem yl_X12_pallet : YL yX12_pallet gX12_pallet 2 := ⟨gw_in (i := 1563) (by decide +kernel) rfl, gw_in (i := 112) (by decide +kernel) rfl, by decide, by decide, by decide, rfl⟩
def gX12_named : Gm := (RX12, cX12_named, 1, some .int, false, 2, 0, 0)
theorem yl_X12_named : YL yX12_named gX12_named 0 := ⟨gw_in (i := 1571) (by decide +kernel) rfl, gw_in (i := 112) (by decide +kernel) rfl, by decide, by decide, by decide, rfl⟩
def gX12_spot : Gm := (RX12, cX12_spot, 3, some .int, false, 3, 0, 0)
theorem yl_X12_spot : YL yX12_spot gX12_spot 2 := ⟨gw_in (i := 1575) (by decide +kernel) rfl, gw_in (i := 112) (by decide +kernel) rfl, by decide, by decide, by decide, rfl⟩
def gX12_in : Gm := (RX12, cX12_in, 3, some .int, false, 4, 0, 0)
theorem yl_X12_in : YL yX12_in gX12_in 2 := ⟨gw_in (i := 1591) (by decide +kernel) rfl, gw_in (i := 112) (by decide +kernel) rfl, by decide, by decide, by decide, rfl⟩
def gX12_keeps : Gm := (RX12, cX12_keeps, 2, none, false, 2, 0, 0)
theorem yl_X12_keeps : YL yX12_keeps gX12_keeps 0 := ⟨gw_in (i := 1623) (by decide +kernel) rfl, gw_in (i := 112) (by decide +kernel) rfl, by decide, by decide, by decide, rfl⟩
def gX12_undo : Gm := (RX12, cX12_undo, 1, some .int, false, 2, 0, 0)
theorem yl_X12_undo : YL yX12_undo gX12_undo 0 := ⟨gw_in (i := 1603) (by decide +kernel) rfl, gw_in (i := 112) (by decide +kernel) rfl, by decide, by decide, by decide, rfl⟩
def gX12_image : Gm := (RX12, cX12_image, 2, some .boolean, false, 2, 0, 0)
theorem yl_X12_image : YL yX12_image gX12_image 1 := ⟨gw_in (i := 1607) (by decide +kernel) rfl, gw_in (i := 112) (by decide +kernel) rfl, by decide, by decide, by decide, rfl⟩
def gX12_restore : Gm := (RX12, cX12_restore, 2, some .boolean, false, 2, 0, 0)
theorem yl_X12_restore : YL yX12_restore gX12_restore 1 := ⟨gw_in (i := 1611) (by decide +kernel) rfl, gw_in (i := 112) (by decide +kernel) rfl, by decide, by decide, by decide, rfl⟩
def gX12_sets0 : Gm := (RX12, cX12_sets0, 3, some .int, false, 3, 0, 0)
theorem yl_X12_sets0 : YL yX12_sets0 gX12_sets0 2 := ⟨gw_in (i := 1619) (by decide +kernel) rfl, gw_in (i := 112) (by decide +kernel) rfl, by decide, by decide, by decide, rfl⟩
def gX12_put : Gm := (RX12, cX12_put, 3, some .int, false, 4, 0, 0)
theorem yl_X12_put : YL yX12_put gX12_put 2 := ⟨gw_in (i := 1615) (by decide +kernel) rfl, gw_in (i := 112) (by decide +kernel) rfl, by decide, by decide, by decide, rfl⟩
def gX12_off : Gm := (RX12, cX12_off, 3, some .int, false, 3, 0, 0)
theorem yl_X12_off : YL yX12_off gX12_off 1 := ⟨gw_in (i := 1627) (by decide +kernel) rfl, gw_in (i := 112) (by decide +kernel) rfl, by decide, by decide, by decide, rfl⟩
def gX12_pour : Gm := (RX12, cX12_pour, 3, some .int, false, 4, 0, 0)
theorem yl_X12_pour : YL yX12_pour gX12_pour 2 := ⟨gw_in (i := 1631) (by decide +kernel) rfl, gw_in (i := 112) (by decide +kernel) rfl, by decide, by decide, by decide, rfl⟩
def gX12_weigh : Gm := (RX12, cX12_weigh, 3, some .int, false, 4, 0, 0)
theorem yl_X12_weigh : YL yX12_weigh gX12_weigh 2 := ⟨gw_in (i := 1635) (by decide +kernel) rfl, gw_in (i := 112) (by decide +kernel) rfl, by decide, by decide, by decide, rfl⟩
def gX12_movesPallet : Gm := (RX12, cX12_movesPallet, 5, none, false, 1, 0, 0)
theorem yl_X12_movesPallet : YL yX12_movesPallet gX12_movesPallet 3 := ⟨gw_in (i := 1651) (by decide +kernel) rfl, gw_in (i := 112) (by decide +kernel) rfl, by decide, by decide, by decide, rfl⟩
def gX12_come : Gm := (RX12, cX12_come, 5, some .int, false, 3, 0, 0)
theorem yl_X12_come : YL yX12_come gX12_come 2 := ⟨gw_in (i := 1639) (by decide +kernel) rfl, gw_in (i := 112) (by decide +kernel) rfl, by decide, by decide, by decide, rfl⟩
def gX12_goes : Gm := (RX12, cX12_goes, 3, none, false, 2, 0, 0)
theorem yl_X12_goes : YL yX12_goes gX12_goes 1 := ⟨gw_in (i := 1647) (by decide +kernel) rfl, gw_in (i := 112) (by decide +kernel) rfl, by decide, by decide, by decide, rfl⟩
def gX12_drop : Gm := (RX12, cX12_drop, 2, some .int, false, 3, 0, 0)
theorem yl_X12_drop : YL yX12_drop gX12_drop 1 := ⟨gw_in (i := 1643) (by decide +kernel) rfl, gw_in (i := 112) (by decide +kernel) rfl, by decide, by decide, by decide, rfl⟩
def gX12_again : Gm := (RX12, cX12_again, 2, some .int, false, 3, 0, 0)
theorem yl_X12_again : YL yX12_again gX12_again 1 := ⟨gw_in (i := 1655) (by decide +kernel) rfl, gw_in (i := 112) (by decide +kernel) rfl, by decide, by decide, by decide, rfl⟩
def gX12_adds : Gm := (RX12, cX12_adds, 3, none, false, 1, 0, 0)
theorem yl_X12_adds : YL yX12_adds gX12_adds 2 := ⟨gw_in (i := 1690) (by decide +kernel) rfl, gw_in (i := 112) (by decide +kernel) rfl, by decide, by decide, by decide, rfl⟩
def gX12_stageAt : Gm := (RX12, cX12_stageAt, 4, none, false, 2, 0, 0)
theorem yl_X12_stageAt : YL yX12_stageAt gX12_stageAt 1 := ⟨gw_in (i := 1686) (by decide +kernel) rfl, gw_in (i := 112) (by decide +kernel) rfl, by decide, by decide, by decide, rfl⟩
def gX12_isInSpan : Gm := (RX12, cX12_isInSpan, 2, some .boolean, false, 3, 0, 0)
theorem yl_X12_isInSpan : YL yX12_isInSpan gX12_isInSpan 1 := ⟨gw_in (i := 1682) (by decide +kernel) rfl, gw_in (i := 112) (by decide +kernel) rfl, by decide, by decide, by decide, rfl⟩
def gX12_blockers : Gm := (RX12, cX12_blockers, 5, some .int, false, 2, 0, 0)
theorem yl_X12_blockers : YL yX12_blockers gX12_blockers 1 := ⟨gw_in (i := 1675) (by decide +kernel) rfl, gw_in (i := 112) (by decide +kernel) rfl, by decide, by decide, by decide, rfl⟩
def gX12_isBroken : Gm := (RX12, cX12_isBroken, 3, some .boolean, false, 4, 0, 0)
theorem yl_X12_isBroken : YL yX12_isBroken gX12_isBroken 2 := ⟨gw_in (i := 1671) (by decide +kernel) rfl, gw_in (i := 112) (by decide +kernel) rfl, by decide, by decide, by decide, rfl⟩
def gX12_places : Gm := (RX12, cX12_places, 2, some .int, false, 1, 0, 0)
theorem yl_X12_places : YL yX12_places gX12_places 1 := ⟨gw_in (i := 1667) (by decide +kernel) rfl, gw_in (i := 112) (by decide +kernel) rfl, by decide, by decide, by decide, rfl⟩
def gX12_broken : Gm := (RX12, cX12_broken, 3, some .int, false, 5, 0, 0)
theorem yl_X12_broken : YL yX12_broken gX12_broken 0 := ⟨gw_in (i := 1663) (by decide +kernel) rfl, gw_in (i := 112) (by decide +kernel) rfl, by decide, by decide, by decide, rfl⟩
def gX12_why : Gm := (RX12, cX12_why, 1, some .int, false, 6, 0, 0)
theorem yl_X12_why : YL yX12_why gX12_why 0 := ⟨gw_in (i := 1659) (by decide +kernel) rfl, gw_in (i := 112) (by decide +kernel) rfl, by decide, by decide, by decide, rfl⟩
def gX12_where : Gm := (RX12, cX12_where, 1, some .int, false, 6, 0, 0)
theorem yl_X12_where : YL yX12_where gX12_where 0 := ⟨gw_in (i := 1694) (by decide +kernel) rfl, gw_in (i := 112) (by decide +kernel) rfl, by decide, by decide, by decide, rfl⟩
def gX12_stage : Gm := (RX12, cX12_stage, 3, some .int, false, 3, 0, 0)
theorem yl_X12_stage : YL yX12_stage gX12_stage 2 := ⟨gw_in (i := 1698) (by decide +kernel) rfl, gw_in (i := 112) (by decide +kernel) rfl, by decide, by decide, by decide, rfl⟩
def gX12_blocks : Gm := (RX12, cX12_blocks, 2, some .int, false, 3, 0, 0)
theorem yl_X12_blocks : YL yX12_blocks gX12_blocks 1 := ⟨gw_in (i := 1703) (by decide +kernel) rfl, gw_in (i := 112) (by decide +kernel) rfl, by decide, by decide, by decide, rfl⟩
def gX12_spare : Gm := (RX12, cX12_spare, 4, some .int, false, 6, 0, 0)
theorem yl_X12_spare : YL yX12_spare gX12_spare 1 := ⟨gw_in (i := 1707) (by decide +kernel) rfl, gw_in (i := 112) (by decide +kernel) rfl, by decide, by decide, by decide, rfl⟩
def gX12_changesPlaces : Gm := (RX12, cX12_changesPlaces, 4, none, false, 1, 0, 0)
theorem yl_X12_changesPlaces : YL yX12_changesPlaces gX12_changesPlaces 2 := ⟨gw_in (i := 1715) (by decide +kernel) rfl, gw_in (i := 112) (by decide +kernel) rfl, by decide, by decide, by decide, rfl⟩
def gX12_swaps : Gm := (RX12, cX12_swaps, 4, some .int, false, 6, 0, 0)
theorem yl_X12_swaps : YL yX12_swaps gX12_swaps 0 := ⟨gw_in (i := 1711) (by decide +kernel) rfl, gw_in (i := 112) (by decide +kernel) rfl, by decide, by decide, by decide, rfl⟩
def gX12_code : Gm := (RX12, cX12_code, 3, some .int, false, 1, 0, 0)
theorem yl_X12_code : YL yX12_code gX12_code 0 := ⟨gw_in (i := 1783) (by decide +kernel) rfl, gw_in (i := 112) (by decide +kernel) rfl, by decide, by decide, by decide, rfl⟩
def gX12_lays : Gm := (RX12, cX12_lays, 4, none, false, 1, 0, 0)
theorem yl_X12_lays : YL yX12_lays gX12_lays 1 := ⟨gw_in (i := 1735) (by decide +kernel) rfl, gw_in (i := 112) (by decide +kernel) rfl, by decide, by decide, by decide, rfl⟩
def gX12_codes : Gm := (RX12, cX12_codes, 3, some .int, false, 1, 0, 0)
theorem yl_X12_codes : YL yX12_codes gX12_codes 0 := ⟨gw_in (i := 1731) (by decide +kernel) rfl, gw_in (i := 112) (by decide +kernel) rfl, by decide, by decide, by decide, rfl⟩
def gX12_isWhole : Gm := (RX12, cX12_isWhole, 4, some .boolean, false, 2, 0, 0)
theorem yl_X12_isWhole : YL yX12_isWhole gX12_isWhole 0 := ⟨gw_in (i := 1739) (by decide +kernel) rfl, gw_in (i := 112) (by decide +kernel) rfl, by decide, by decide, by decide, rfl⟩
def gX12_keepsLaid : Gm := (RX12, cX12_keepsLaid, 2, none, false, 1, 0, 0)
theorem yl_X12_keepsLaid : YL yX12_keepsLaid gX12_keepsLaid 0 := ⟨gw_in (i := 1727) (by decide +kernel) rfl, gw_in (i := 112) (by decide +kernel) rfl, by decide, by decide, by decide, rfl⟩
def gX12_laysBack : Gm := (RX12, cX12_laysBack, 2, none, false, 1, 0, 0)
theorem yl_X12_laysBack : YL yX12_laysBack gX12_laysBack 0 := ⟨gw_in (i := 1747) (by decide +kernel) rfl, gw_in (i := 112) (by decide +kernel) rfl, by decide, by decide, by decide, rfl⟩
def gX12_pours : Gm := (RX12, cX12_pours, 2, some .boolean, false, 2, 0, 0)
theorem yl_X12_pours : YL yX12_pours gX12_pours 1 := ⟨gw_in (i := 1743) (by decide +kernel) rfl, gw_in (i := 112) (by decide +kernel) rfl, by decide, by decide, by decide, rfl⟩
def gX12_laysGood : Gm := (RX12, cX12_laysGood, 5, none, false, 6, 0, 0)
theorem yl_X12_laysGood : YL yX12_laysGood gX12_laysGood 0 := ⟨gw_in (i := 1723) (by decide +kernel) rfl, gw_in (i := 112) (by decide +kernel) rfl, by decide, by decide, by decide, rfl⟩
def gX12_isGood : Gm := (RX12, cX12_isGood, 2, some .boolean, false, 7, 0, 0)
theorem yl_X12_isGood : YL yX12_isGood gX12_isGood 1 := ⟨gw_in (i := 1755) (by decide +kernel) rfl, gw_in (i := 112) (by decide +kernel) rfl, by decide, by decide, by decide, rfl⟩
def gX12_loadings : Gm := (RX12, cX12_loadings, 1, some .int, false, 7, 0, 0)
theorem yl_X12_loadings : YL yX12_loadings gX12_loadings 0 := ⟨gw_in (i := 1719) (by decide +kernel) rfl, gw_in (i := 112) (by decide +kernel) rfl, by decide, by decide, by decide, rfl⟩
def gX12_spotBy : Gm := (RX12, cX12_spotBy, 5, some .int, false, 1, 0, 0)
theorem yl_X12_spotBy : YL yX12_spotBy gX12_spotBy 2 := ⟨gw_in (i := 1759) (by decide +kernel) rfl, gw_in (i := 112) (by decide +kernel) rfl, by decide, by decide, by decide, rfl⟩
def gX12_loading : Gm := (RX12, cX12_loading, 3, some .int, false, 8, 0, 0)
theorem yl_X12_loading : YL yX12_loading gX12_loading 2 := ⟨gw_in (i := 1751) (by decide +kernel) rfl, gw_in (i := 112) (by decide +kernel) rfl, by decide, by decide, by decide, rfl⟩
def gX12_poured : Gm := (RX12, cX12_poured, 3, some .int, false, 8, 0, 0)
theorem yl_X12_poured : YL yX12_poured gX12_poured 2 := ⟨gw_in (i := 1763) (by decide +kernel) rfl, gw_in (i := 112) (by decide +kernel) rfl, by decide, by decide, by decide, rfl⟩
def gX12_take : Gm := (RX12, cX12_take, 4, some .int, false, 8, 0, 0)
theorem yl_X12_take : YL yX12_take gX12_take 1 := ⟨gw_in (i := 1767) (by decide +kernel) rfl, gw_in (i := 112) (by decide +kernel) rfl, by decide, by decide, by decide, rfl⟩
def gX12_starts : Gm := (RX12, cX12_starts, 2, none, false, 2, 0, 0)
theorem yl_X12_starts : YL yX12_starts gX12_starts 0 := ⟨gw_in (i := 1779) (by decide +kernel) rfl, gw_in (i := 112) (by decide +kernel) rfl, by decide, by decide, by decide, rfl⟩
def gX12_waits : Gm := (RX12, cX12_waits, 3, none, false, 1, 0, 0)
theorem yl_X12_waits : YL yX12_waits gX12_waits 2 := ⟨gw_in (i := 1787) (by decide +kernel) rfl, gw_in (i := 112) (by decide +kernel) rfl, by decide, by decide, by decide, rfl⟩
def gX12_moves : Gm := (RX12, cX12_moves, 4, none, false, 2, 0, 0)
theorem yl_X12_moves : YL yX12_moves gX12_moves 1 := ⟨gw_in (i := 1791) (by decide +kernel) rfl, gw_in (i := 112) (by decide +kernel) rfl, by decide, by decide, by decide, rfl⟩
def gX12_mends : Gm := (RX12, cX12_mends, 5, some .boolean, false, 6, 0, 0)
theorem yl_X12_mends : YL yX12_mends gX12_mends 0 := ⟨gw_in (i := 1775) (by decide +kernel) rfl, gw_in (i := 112) (by decide +kernel) rfl, by decide, by decide, by decide, rfl⟩
def gX12_mend : Gm := (RX12, cX12_mend, 2, some .int, false, 7, 0, 0)
theorem yl_X12_mend : YL yX12_mend gX12_mend 0 := ⟨gw_in (i := 1771) (by decide +kernel) rfl, gw_in (i := 112) (by decide +kernel) rfl, by decide, by decide, by decide, rfl⟩
def gX12_move : Gm := (RX12, cX12_move, 2, some .int, false, 2, 0, 0)
theorem yl_X12_move : YL yX12_move gX12_move 1 := ⟨gw_in (i := 1795) (by decide +kernel) rfl, gw_in (i := 112) (by decide +kernel) rfl, by decide, by decide, by decide, rfl⟩
def gX12_mended : Gm := (RX12, cX12_mended, 2, some .int, false, 7, 0, 0)
theorem yl_X12_mended : YL yX12_mended gX12_mended 0 := ⟨gw_in (i := 1799) (by decide +kernel) rfl, gw_in (i := 112) (by decide +kernel) rfl, by decide, by decide, by decide, rfl⟩
def gX12_taken : Gm := (RX12, cX12_taken, 3, some .int, false, 1, 0, 0)
theorem yl_X12_taken : YL yX12_taken gX12_taken 0 := ⟨gw_in (i := 1811) (by decide +kernel) rfl, gw_in (i := 112) (by decide +kernel) rfl, by decide, by decide, by decide, rfl⟩
def gX12_handles : Gm := (RX12, cX12_handles, 7, none, false, 2, 0, 0)
theorem yl_X12_handles : YL yX12_handles gX12_handles 1 := ⟨gw_in (i := 1807) (by decide +kernel) rfl, gw_in (i := 112) (by decide +kernel) rfl, by decide, by decide, by decide, rfl⟩
def gX12_handlings : Gm := (RX12, cX12_handlings, 5, some .int, false, 8, 0, 0)
theorem yl_X12_handlings : YL yX12_handlings gX12_handlings 1 := ⟨gw_in (i := 1803) (by decide +kernel) rfl, gw_in (i := 112) (by decide +kernel) rfl, by decide, by decide, by decide, rfl⟩
def gJ9_floorDiv_7cf53 : Gm := (RJ9, cJ9_floorDiv_7cf53, 3, some .int, false, 1, 0, 0)
theorem yl_J9_floorDiv_7cf53 : YL yJ9_floorDiv_7cf53 gJ9_floorDiv_7cf53 2 := ⟨gw_in (i := 1086) (by decide +kernel) rfl, gw_in (i := 119) (by decide +kernel) rfl, by decide, by decide, by decide, rfl⟩
def gJ9_max_7cf53 : Gm := (RJ9, cJ9_max_7cf53, 2, some .int, false, 1, 0, 0)
theorem yl_J9_max_7cf53 : YL yJ9_max_7cf53 gJ9_max_7cf53 2 := ⟨gw_in (i := 1065) (by decide +kernel) rfl, gw_in (i := 119) (by decide +kernel) rfl, by decide, by decide, by decide, rfl⟩
def gJ9_min_7cf53 : Gm := (RJ9, cJ9_min_7cf53, 2, some .int, false, 1, 0, 0)
theorem yl_J9_min_7cf53 : YL yJ9_min_7cf53 gJ9_min_7cf53 2 := ⟨gw_in (i := 970) (by decide +kernel) rfl, gw_in (i := 119) (by decide +kernel) rfl, by decide, by decide, by decide, rfl⟩
def gJ0_length_8abf5 : Gm := (RJ0, cJ0_length_8abf5, 1, some .int, false, 2, 0, 0)
theorem yl_J0_length_8abf5 : YL yJ0_length_8abf5 gJ0_length_8abf5 0 := ⟨gw_in (i := 666) (by decide +kernel) rfl, gw_in (i := 113) (by decide +kernel) rfl, by decide, by decide, by decide, rfl⟩
def gJ0_charAt_5068e : Gm := (RJ0, cJ0_charAt_5068e, 2, some .char, false, 5, 0, 0)
theorem yl_J0_charAt_5068e : YL yJ0_charAt_5068e gJ0_charAt_5068e 1 := ⟨gw_in (i := 676) (by decide +kernel) rfl, gw_in (i := 113) (by decide +kernel) rfl, by decide, by decide, by decide, rfl⟩
def gJ0_coder_7d493 : Gm := (RJ0, cJ0_coder_7d493, 1, some .byte, false, 1, 0, 0)
theorem yl_J0_coder_7d493 : YL yJ0_coder_7d493 gJ0_coder_7d493 0 := ⟨gw_in (i := 670) (by decide +kernel) rfl, gw_in (i := 113) (by decide +kernel) rfl, by decide, by decide, by decide, rfl⟩
def gJ0_isLatin1_aae02 : Gm := (RJ0, cJ0_isLatin1_aae02, 1, some .boolean, false, 1, 0, 0)
theorem yl_J0_isLatin1_aae02 : YL yJ0_isLatin1_aae02 gJ0_isLatin1_aae02 0 := ⟨gw_in (i := 680) (by decide +kernel) rfl, gw_in (i := 113) (by decide +kernel) rfl, by decide, by decide, by decide, rfl⟩
def gJ0_checkIndex_df160 : Gm := (RJ0, cJ0_checkIndex_df160, 2, none, false, 2, 0, 0)
theorem yl_J0_checkIndex_df160 : YL yJ0_checkIndex_df160 gJ0_checkIndex_df160 2 := ⟨gw_in (i := 686) (by decide +kernel) rfl, gw_in (i := 113) (by decide +kernel) rfl, by decide, by decide, by decide, rfl⟩
def gJ1_charAt_3b067 : Gm := (RJ1, cJ1_charAt_3b067, 2, some .char, false, 3, 0, 0)
theorem yl_J1_charAt_3b067 : YL yJ1_charAt_3b067 gJ1_charAt_3b067 2 := ⟨gw_in (i := 683) (by decide +kernel) rfl, gw_in (i := 114) (by decide +kernel) rfl, by decide, by decide, by decide, rfl⟩
def gJ3_checkIndex_8e157 : Gm := (RJ3, cJ3_checkIndex_8e157, 3, some .int, false, 1, 0, 0)
theorem yl_J3_checkIndex_8e157 : YL yJ3_checkIndex_8e157 gJ3_checkIndex_8e157 3 := ⟨gw_in (i := 691) (by decide +kernel) rfl, gw_in (i := 115) (by decide +kernel) rfl, by decide, by decide, by decide, rfl⟩
theorem ml_X0_3 : Cond.methodLink RX0 3 objectInit ∈ GW ∧ Cond.instanceMethod objectInit ∈ GW ∧ Cond.code objectInit ⟨#[0xb1]⟩ 1 none ∈ GW := ⟨gw_in (i := 400) (by decide +kernel) rfl, gw_in (i := 126) (by decide +kernel) rfl, gw_in (i := 127) (by decide +kernel) rfl⟩
theorem fl_X0_9 : FL RX0 9 0 1 1 7 (.array .long) true := ⟨RX0, TX0, rfl, by decide, gw_in (i := 407) (by decide +kernel) rfl, rfl, gwX0, rfl, rfl, tyX0_ok, nmX0, rfl, by decide⟩
theorem fl_X0_15 : FL RX0 15 0 2 2 7 (.array .int) true := ⟨RX0, TX0, rfl, by decide, gw_in (i := 409) (by decide +kernel) rfl, rfl, gwX0, rfl, rfl, tyX0_ok, nmX0, rfl, by decide⟩
theorem fl_X0_19 : FL RX0 19 0 3 3 7 (.array .int) true := ⟨RX0, TX0, rfl, by decide, gw_in (i := 413) (by decide +kernel) rfl, rfl, gwX0, rfl, rfl, tyX0_ok, nmX0, rfl, by decide⟩
theorem fl_X0_22 : FL RX0 22 0 4 4 7 (.array .int) true := ⟨RX0, TX0, rfl, by decide, gw_in (i := 417) (by decide +kernel) rfl, rfl, gwX0, rfl, rfl, tyX0_ok, nmX0, rfl, by decide⟩
theorem fl_X0_25 : FL RX0 25 0 6 6 7 (.array .int) true := ⟨RX0, TX0, rfl, by decide, gw_in (i := 427) (by decide +kernel) rfl, rfl, gwX0, rfl, rfl, tyX0_ok, nmX0, rfl, by decide⟩
theorem fl_X0_28 : FL RX0 28 0 0 0 7 .int false := ⟨RX0, TX0, rfl, by decide, gw_in (i := 401) (by decide +kernel) rfl, rfl, gwX0, rfl, rfl, tyX0_ok, nmX0, rfl, by decide⟩
theorem fl_X0_32 : FL RX0 32 0 5 5 7 .int false := ⟨RX0, TX0, rfl, by decide, gw_in (i := 422) (by decide +kernel) rfl, rfl, gwX0, rfl, rfl, tyX0_ok, nmX0, rfl, by decide⟩
theorem ml_X0_35 : Cond.methodLink RX0 35 yX0_clearPlaces ∈ GW ∧ Cond.instanceMethod yX0_clearPlaces ∈ GW ∧ Cond.selects yX0_clearPlaces.cls yX0_clearPlaces yX0_clearPlaces ∈ GW := ⟨gw_in (i := 875) (by decide +kernel) rfl, gw_in (i := 855) (by decide +kernel) rfl, gw_in (i := 856) (by decide +kernel) rfl⟩
theorem ml_X0_38 : CopyL RX0 38 := ⟨gw_in (i := 965) (by decide +kernel) rfl, gw_in (i := 967) (by decide +kernel) rfl, gw_in (i := 966) (by decide +kernel) rfl, gw_in (i := 118) (by decide +kernel) rfl⟩
theorem ml_X0_44 : Cond.methodLink RX0 44 yX0_lyingOn ∈ GW ∧ Cond.instanceMethod yX0_lyingOn ∈ GW ∧ Cond.selects yX0_lyingOn.cls yX0_lyingOn yX0_lyingOn ∈ GW := ⟨gw_in (i := 999) (by decide +kernel) rfl, gw_in (i := 936) (by decide +kernel) rfl, gw_in (i := 937) (by decide +kernel) rfl⟩
theorem ml_X0_48 : Cond.methodLink RX0 48 yX0_has ∈ GW ∧ Cond.instanceMethod yX0_has ∈ GW ∧ Cond.selects yX0_has.cls yX0_has yX0_has ∈ GW := ⟨gw_in (i := 1000) (by decide +kernel) rfl, gw_in (i := 915) (by decide +kernel) rfl, gw_in (i := 916) (by decide +kernel) rfl⟩
theorem ml_X0_52 : Cond.methodLink RX0 52 yX0_write ∈ GW ∧ Cond.instanceMethod yX0_write ∈ GW ∧ Cond.selects yX0_write.cls yX0_write yX0_write ∈ GW := ⟨gw_in (i := 889) (by decide +kernel) rfl, gw_in (i := 891) (by decide +kernel) rfl, gw_in (i := 15) (by decide +kernel) rfl⟩
theorem ml_X1_3 : Cond.methodLink RX1 3 objectInit ∈ GW ∧ Cond.instanceMethod objectInit ∈ GW ∧ Cond.code objectInit ⟨#[0xb1]⟩ 1 none ∈ GW := ⟨gw_in (i := 194) (by decide +kernel) rfl, gw_in (i := 126) (by decide +kernel) rfl, gw_in (i := 127) (by decide +kernel) rfl⟩
theorem fl_X1_9 : FL RX1 9 1 1 1 12 (.array .long) true := ⟨RX1, TX1, rfl, by decide, gw_in (i := 199) (by decide +kernel) rfl, rfl, gwX1, rfl, rfl, tyX1_ok, nmX1, rfl, by decide⟩
theorem fl_X1_15 : FL RX1 15 1 2 2 12 (.array .int) true := ⟨RX1, TX1, rfl, by decide, gw_in (i := 200) (by decide +kernel) rfl, rfl, gwX1, rfl, rfl, tyX1_ok, nmX1, rfl, by decide⟩
theorem fl_X1_19 : FL RX1 19 1 3 3 12 (.array .boolean) true := ⟨RX1, TX1, rfl, by decide, gw_in (i := 203) (by decide +kernel) rfl, rfl, gwX1, rfl, rfl, tyX1_ok, nmX1, rfl, by decide⟩
theorem fl_X1_23 : FL RX1 23 1 5 5 12 (.array .int) true := ⟨RX1, TX1, rfl, by decide, gw_in (i := 210) (by decide +kernel) rfl, rfl, gwX1, rfl, rfl, tyX1_ok, nmX1, rfl, by decide⟩
theorem fl_X1_26 : FL RX1 26 1 6 6 12 (.array .int) true := ⟨RX1, TX1, rfl, by decide, gw_in (i := 214) (by decide +kernel) rfl, rfl, gwX1, rfl, rfl, tyX1_ok, nmX1, rfl, by decide⟩
theorem fl_X1_29 : FL RX1 29 1 7 7 12 (.array .int) true := ⟨RX1, TX1, rfl, by decide, gw_in (i := 218) (by decide +kernel) rfl, rfl, gwX1, rfl, rfl, tyX1_ok, nmX1, rfl, by decide⟩
theorem fl_X1_32 : FL RX1 32 1 8 8 12 (.array .int) true := ⟨RX1, TX1, rfl, by decide, gw_in (i := 222) (by decide +kernel) rfl, rfl, gwX1, rfl, rfl, tyX1_ok, nmX1, rfl, by decide⟩
theorem fl_X1_35 : FL RX1 35 1 10 10 12 (.array .int) true := ⟨RX1, TX1, rfl, by decide, gw_in (i := 229) (by decide +kernel) rfl, rfl, gwX1, rfl, rfl, tyX1_ok, nmX1, rfl, by decide⟩
theorem fl_X1_38 : FL RX1 38 1 11 11 12 (.array .int) true := ⟨RX1, TX1, rfl, by decide, gw_in (i := 232) (by decide +kernel) rfl, rfl, gwX1, rfl, rfl, tyX1_ok, nmX1, rfl, by decide⟩
theorem fl_X1_41 : FL RX1 41 1 0 0 12 .int false := ⟨RX1, TX1, rfl, by decide, gw_in (i := 195) (by decide +kernel) rfl, rfl, gwX1, rfl, rfl, tyX1_ok, nmX1, rfl, by decide⟩
theorem fl_X1_45 : FL RX1 45 1 4 4 12 .int false := ⟨RX1, TX1, rfl, by decide, gw_in (i := 204) (by decide +kernel) rfl, rfl, gwX1, rfl, rfl, tyX1_ok, nmX1, rfl, by decide⟩
theorem fl_X1_48 : FL RX1 48 1 9 9 12 .int false := ⟨RX1, TX1, rfl, by decide, gw_in (i := 225) (by decide +kernel) rfl, rfl, gwX1, rfl, rfl, tyX1_ok, nmX1, rfl, by decide⟩
theorem ml_X1_51 : CopyL RX1 51 := ⟨gw_in (i := 1283) (by decide +kernel) rfl, gw_in (i := 967) (by decide +kernel) rfl, gw_in (i := 966) (by decide +kernel) rfl, gw_in (i := 118) (by decide +kernel) rfl⟩
theorem ml_X1_57 : Cond.methodLink RX1 57 yX1_hasHold ∈ GW ∧ Cond.instanceMethod yX1_hasHold ∈ GW ∧ Cond.selects yX1_hasHold.cls yX1_hasHold yX1_hasHold ∈ GW := ⟨gw_in (i := 788) (by decide +kernel) rfl, gw_in (i := 789) (by decide +kernel) rfl, gw_in (i := 790) (by decide +kernel) rfl⟩
theorem ml_X1_61 : Cond.methodLink RX1 61 yX1_hasSpot ∈ GW ∧ Cond.instanceMethod yX1_hasSpot ∈ GW ∧ Cond.selects yX1_hasSpot.cls yX1_hasSpot yX1_hasSpot ∈ GW := ⟨gw_in (i := 1024) (by decide +kernel) rfl, gw_in (i := 932) (by decide +kernel) rfl, gw_in (i := 933) (by decide +kernel) rfl⟩
theorem ml_X2_3 : Cond.methodLink RX2 3 objectInit ∈ GW ∧ Cond.instanceMethod objectInit ∈ GW ∧ Cond.code objectInit ⟨#[0xb1]⟩ 1 none ∈ GW := ⟨gw_in (i := 451) (by decide +kernel) rfl, gw_in (i := 126) (by decide +kernel) rfl, gw_in (i := 127) (by decide +kernel) rfl⟩
theorem ql_X2_9 : Cond.classLink RX2 9 "LoadSpans$Cargo" ∈ GW := gw_in (i := 452) (by decide +kernel) rfl
theorem fl_X2_11 : FL RX2 11 2 0 0 3 (.array (.object "LoadSpans$Cargo")) true := ⟨RX2, TX2, rfl, by decide, gw_in (i := 455) (by decide +kernel) rfl, rfl, gwX2, rfl, rfl, tyX2_ok, nmX2, rfl, by decide⟩
theorem nl_X2_9 : NL RX2 9 0 7 := ⟨RX0, TX0, rfl, gw_in (i := 452) (by decide +kernel) rfl, gw_in (i := 396) (by decide +kernel) rfl, gw_in (i := 107) (by decide +kernel) rfl, gwX0, tyX0_ok, dfX0, by decide⟩
theorem ml_X2_17 : (RX2, 17, yX0_init, "LoadSpans") ∈ nestL := by decide +kernel
theorem mi_X2_17 : Cond.instanceMethod yX0_init ∈ GW ∧ yX0_init.name = "<init>" := ⟨gw_in (i := 398) (by decide +kernel) rfl, rfl⟩
theorem fl_X2_18 : FL RX2 18 2 1 1 3 .int false := ⟨RX2, TX2, rfl, by decide, gw_in (i := 456) (by decide +kernel) rfl, rfl, gwX2, rfl, rfl, tyX2_ok, nmX2, rfl, by decide⟩
theorem ml_X2_22 : Cond.methodLink RX2 22 yX0_copyFrom ∈ GW ∧ Cond.instanceMethod yX0_copyFrom ∈ GW ∧ Cond.selects yX0_copyFrom.cls yX0_copyFrom yX0_copyFrom ∈ GW := ⟨gw_in (i := 961) (by decide +kernel) rfl, gw_in (i := 962) (by decide +kernel) rfl, gw_in (i := 963) (by decide +kernel) rfl⟩
theorem fl_X2_26 : FL RX2 26 2 2 2 3 .int false := ⟨RX2, TX2, rfl, by decide, gw_in (i := 457) (by decide +kernel) rfl, rfl, gwX2, rfl, rfl, tyX2_ok, nmX2, rfl, by decide⟩
theorem ml_X2_29 : Cond.methodLink RX2 29 yJ9_min_7cf53 ∈ GW ∧ Cond.static yJ9_min_7cf53 ∈ GW := ⟨gw_in (i := 968) (by decide +kernel) rfl, gw_in (i := 969) (by decide +kernel) rfl⟩
theorem ml_X2_35 : Cond.methodLink RX2 35 yJ9_max_7cf53 ∈ GW ∧ Cond.static yJ9_max_7cf53 ∈ GW := ⟨gw_in (i := 1265) (by decide +kernel) rfl, gw_in (i := 1064) (by decide +kernel) rfl⟩
theorem ml_X3_1 : Cond.methodLink RX3 1 objectInit ∈ GW ∧ Cond.instanceMethod objectInit ∈ GW ∧ Cond.code objectInit ⟨#[0xb1]⟩ 1 none ∈ GW := ⟨gw_in (i := 471) (by decide +kernel) rfl, gw_in (i := 126) (by decide +kernel) rfl, gw_in (i := 127) (by decide +kernel) rfl⟩
theorem nl_X3_7 : NL RX3 7 5 9 := ⟨RX5, TX5, rfl, gw_in (i := 472) (by decide +kernel) rfl, gw_in (i := 184) (by decide +kernel) rfl, gw_in (i := 104) (by decide +kernel) rfl, gwX5, tyX5_ok, dfX5, by decide⟩
theorem ml_X3_9 : Cond.methodLink RX3 9 yX5_init ∈ GW ∧ Cond.instanceMethod yX5_init ∈ GW ∧ yX5_init.name = "<init>" := ⟨gw_in (i := 473) (by decide +kernel) rfl, gw_in (i := 186) (by decide +kernel) rfl, rfl⟩
theorem fl_X3_10 : FL RX3 10 3 1 1 3 (.object "LoadSpans$Plane") true := ⟨RX3, TX3, rfl, by decide, gw_in (i := 477) (by decide +kernel) rfl, rfl, gwX3, rfl, rfl, tyX3_ok, nmX3, rfl, by decide⟩
theorem nl_X3_16 : NL RX3 16 0 7 := ⟨RX0, TX0, rfl, gw_in (i := 474) (by decide +kernel) rfl, gw_in (i := 396) (by decide +kernel) rfl, gw_in (i := 107) (by decide +kernel) rfl, gwX0, tyX0_ok, dfX0, by decide⟩
theorem ml_X3_18 : (RX3, 18, yX0_init, "LoadSpans") ∈ nestL := by decide +kernel
theorem mi_X3_18 : Cond.instanceMethod yX0_init ∈ GW ∧ yX0_init.name = "<init>" := ⟨gw_in (i := 398) (by decide +kernel) rfl, rfl⟩
theorem fl_X3_19 : FL RX3 19 3 2 2 3 (.object "LoadSpans$Cargo") true := ⟨RX3, TX3, rfl, by decide, gw_in (i := 479) (by decide +kernel) rfl, rfl, gwX3, rfl, rfl, tyX3_ok, nmX3, rfl, by decide⟩
theorem ml_X4_3 : Cond.methodLink RX4 3 objectInit ∈ GW ∧ Cond.instanceMethod objectInit ∈ GW ∧ Cond.code objectInit ⟨#[0xb1]⟩ 1 none ∈ GW := ⟨gw_in (i := 546) (by decide +kernel) rfl, gw_in (i := 126) (by decide +kernel) rfl, gw_in (i := 127) (by decide +kernel) rfl⟩
theorem fl_X4_11 : FL RX4 11 4 0 0 10 (.array .int) true := ⟨RX4, TX4, rfl, by decide, gw_in (i := 547) (by decide +kernel) rfl, rfl, gwX4, rfl, rfl, tyX4_ok, nmX4, rfl, by decide⟩
theorem fl_X4_15 : FL RX4 15 4 2 2 10 (.array .int) true := ⟨RX4, TX4, rfl, by decide, gw_in (i := 549) (by decide +kernel) rfl, rfl, gwX4, rfl, rfl, tyX4_ok, nmX4, rfl, by decide⟩
theorem fl_X4_18 : FL RX4 18 4 3 3 10 (.array .int) true := ⟨RX4, TX4, rfl, by decide, gw_in (i := 550) (by decide +kernel) rfl, rfl, gwX4, rfl, rfl, tyX4_ok, nmX4, rfl, by decide⟩
theorem fl_X4_21 : FL RX4 21 4 4 4 10 (.array .int) true := ⟨RX4, TX4, rfl, by decide, gw_in (i := 551) (by decide +kernel) rfl, rfl, gwX4, rfl, rfl, tyX4_ok, nmX4, rfl, by decide⟩
theorem fl_X4_26 : FL RX4 26 4 5 5 10 (.array .int) true := ⟨RX4, TX4, rfl, by decide, gw_in (i := 552) (by decide +kernel) rfl, rfl, gwX4, rfl, rfl, tyX4_ok, nmX4, rfl, by decide⟩
theorem ml_X4_29 : Cond.methodLink RX4 29 yX0_inBins ∈ GW ∧ Cond.instanceMethod yX0_inBins ∈ GW ∧ Cond.selects yX0_inBins.cls yX0_inBins yX0_inBins ∈ GW := ⟨gw_in (i := 1151) (by decide +kernel) rfl, gw_in (i := 1009) (by decide +kernel) rfl, gw_in (i := 1010) (by decide +kernel) rfl⟩
theorem fl_X4_35 : FL RX4 35 0 5 5 7 .int false := ⟨RX0, TX0, rfl, by decide, gw_in (i := 421) (by decide +kernel) rfl, rfl, gwX0, rfl, rfl, tyX0_ok, nmX0, rfl, by decide⟩
theorem fl_X4_39 : FL RX4 39 4 9 9 10 (.object "LoadSpans$Table") false := ⟨RX4, TX4, rfl, by decide, gw_in (i := 556) (by decide +kernel) rfl, rfl, gwX4, rfl, rfl, tyX4_ok, nmX4, rfl, by decide⟩
theorem fl_X4_43 : FL RX4 43 0 0 0 7 .int false := ⟨RX0, TX0, rfl, by decide, gw_in (i := 402) (by decide +kernel) rfl, rfl, gwX0, rfl, rfl, tyX0_ok, nmX0, rfl, by decide⟩
theorem fl_X4_46 : FL RX4 46 4 7 7 10 .int false := ⟨RX4, TX4, rfl, by decide, gw_in (i := 554) (by decide +kernel) rfl, rfl, gwX4, rfl, rfl, tyX4_ok, nmX4, rfl, by decide⟩
theorem fl_X4_47 : FL RX4 47 5 7 7 9 (.object "LoadSpans$Floor") true := ⟨RX5, TX5, rfl, by decide, gw_in (i := 366) (by decide +kernel) rfl, rfl, gwX5, rfl, rfl, tyX5_ok, nmX5, rfl, by decide⟩
theorem fl_X4_53 : FL RX4 53 1 4 4 12 .int false := ⟨RX1, TX1, rfl, by decide, gw_in (i := 205) (by decide +kernel) rfl, rfl, gwX1, rfl, rfl, tyX1_ok, nmX1, rfl, by decide⟩
theorem fl_X4_58 : FL RX4 58 4 8 8 10 .int false := ⟨RX4, TX4, rfl, by decide, gw_in (i := 555) (by decide +kernel) rfl, rfl, gwX4, rfl, rfl, tyX4_ok, nmX4, rfl, by decide⟩
theorem ml_X4_59 : Cond.methodLink RX4 59 yX0_lyingOn ∈ GW ∧ Cond.instanceMethod yX0_lyingOn ∈ GW ∧ Cond.selects yX0_lyingOn.cls yX0_lyingOn yX0_lyingOn ∈ GW := ⟨gw_in (i := 1152) (by decide +kernel) rfl, gw_in (i := 936) (by decide +kernel) rfl, gw_in (i := 937) (by decide +kernel) rfl⟩
theorem fl_X4_63 : FL RX4 63 0 4 4 7 (.array .int) true := ⟨RX0, TX0, rfl, by decide, gw_in (i := 418) (by decide +kernel) rfl, rfl, gwX0, rfl, rfl, tyX0_ok, nmX0, rfl, by decide⟩
theorem ml_X4_66 : CopyL RX4 66 := ⟨gw_in (i := 1153) (by decide +kernel) rfl, gw_in (i := 967) (by decide +kernel) rfl, gw_in (i := 966) (by decide +kernel) rfl, gw_in (i := 118) (by decide +kernel) rfl⟩
theorem fl_X4_72 : FL RX4 72 0 6 6 7 (.array .int) true := ⟨RX0, TX0, rfl, by decide, gw_in (i := 428) (by decide +kernel) rfl, rfl, gwX0, rfl, rfl, tyX0_ok, nmX0, rfl, by decide⟩
theorem ml_X4_75 : Cond.methodLink RX4 75 yX4_findNearRows ∈ GW ∧ Cond.instanceMethod yX4_findNearRows ∈ GW ∧ Cond.selects yX4_findNearRows.cls yX4_findNearRows yX4_findNearRows ∈ GW := ⟨gw_in (i := 1154) (by decide +kernel) rfl, gw_in (i := 1156) (by decide +kernel) rfl, gw_in (i := 25) (by decide +kernel) rfl⟩
theorem ml_X4_78 : Cond.methodLink RX4 78 yX4_leastMove ∈ GW ∧ Cond.instanceMethod yX4_leastMove ∈ GW ∧ Cond.selects yX4_leastMove.cls yX4_leastMove yX4_leastMove ∈ GW := ⟨gw_in (i := 1180) (by decide +kernel) rfl, gw_in (i := 1182) (by decide +kernel) rfl, gw_in (i := 30) (by decide +kernel) rfl⟩
theorem ml_X4_81 : Cond.methodLink RX4 81 yX4_doMove ∈ GW ∧ Cond.instanceMethod yX4_doMove ∈ GW ∧ Cond.selects yX4_doMove.cls yX4_doMove yX4_doMove ∈ GW := ⟨gw_in (i := 1196) (by decide +kernel) rfl, gw_in (i := 1198) (by decide +kernel) rfl, gw_in (i := 34) (by decide +kernel) rfl⟩
theorem ml_X4_85 : Cond.methodLink RX4 85 yX4_keepNearRows ∈ GW ∧ Cond.instanceMethod yX4_keepNearRows ∈ GW ∧ Cond.selects yX4_keepNearRows.cls yX4_keepNearRows yX4_keepNearRows ∈ GW := ⟨gw_in (i := 1200) (by decide +kernel) rfl, gw_in (i := 1202) (by decide +kernel) rfl, gw_in (i := 35) (by decide +kernel) rfl⟩
theorem ml_X4_89 : Cond.methodLink RX4 89 yJ9_min_7cf53 ∈ GW ∧ Cond.static yJ9_min_7cf53 ∈ GW := ⟨gw_in (i := 1175) (by decide +kernel) rfl, gw_in (i := 969) (by decide +kernel) rfl⟩
theorem fl_X4_95 : FL RX4 95 4 1 1 10 .int false := ⟨RX4, TX4, rfl, by decide, gw_in (i := 548) (by decide +kernel) rfl, rfl, gwX4, rfl, rfl, tyX4_ok, nmX4, rfl, by decide⟩
theorem fl_X4_98 : FL RX4 98 4 6 6 10 .int false := ⟨RX4, TX4, rfl, by decide, gw_in (i := 553) (by decide +kernel) rfl, rfl, gwX4, rfl, rfl, tyX4_ok, nmX4, rfl, by decide⟩
theorem fl_X4_101 : FL RX4 101 7 1 1 15 .int false := ⟨RX8, TX8, rfl, by decide, gw_in (i := 496) (by decide +kernel) rfl, rfl, gwX8, rfl, rfl, tyX8_ok, nmX8, rfl, by decide⟩
theorem ml_X4_104 : Cond.methodLink RX4 104 yX8_takesAmount ∈ GW ∧ Cond.instanceMethod yX8_takesAmount ∈ GW ∧ Cond.selects yX8_takesAmount.cls yX8_takesAmount yX8_takesAmount ∈ GW := ⟨gw_in (i := 1158) (by decide +kernel) rfl, gw_in (i := 1159) (by decide +kernel) rfl, gw_in (i := 1160) (by decide +kernel) rfl⟩
theorem ml_X4_108 : Cond.methodLink RX4 108 yX4_movesTo ∈ GW ∧ Cond.instanceMethod yX4_movesTo ∈ GW ∧ Cond.selects yX4_movesTo.cls yX4_movesTo yX4_movesTo ∈ GW := ⟨gw_in (i := 1162) (by decide +kernel) rfl, gw_in (i := 1164) (by decide +kernel) rfl, gw_in (i := 26) (by decide +kernel) rfl⟩
theorem ml_X4_111 : Cond.methodLink RX4 111 yX8_spotIn ∈ GW ∧ Cond.instanceMethod yX8_spotIn ∈ GW ∧ Cond.selects yX8_spotIn.cls yX8_spotIn yX8_spotIn ∈ GW := ⟨gw_in (i := 1166) (by decide +kernel) rfl, gw_in (i := 1117) (by decide +kernel) rfl, gw_in (i := 1118) (by decide +kernel) rfl⟩
theorem ml_X4_114 : Cond.methodLink RX4 114 yX4_leastOfRing ∈ GW ∧ Cond.instanceMethod yX4_leastOfRing ∈ GW ∧ Cond.selects yX4_leastOfRing.cls yX4_leastOfRing yX4_leastOfRing ∈ GW := ⟨gw_in (i := 1167) (by decide +kernel) rfl, gw_in (i := 1169) (by decide +kernel) rfl, gw_in (i := 27) (by decide +kernel) rfl⟩
theorem ml_X4_117 : Cond.methodLink RX4 117 yX4_emptySpot ∈ GW ∧ Cond.instanceMethod yX4_emptySpot ∈ GW ∧ Cond.selects yX4_emptySpot.cls yX4_emptySpot yX4_emptySpot ∈ GW := ⟨gw_in (i := 1176) (by decide +kernel) rfl, gw_in (i := 1178) (by decide +kernel) rfl, gw_in (i := 29) (by decide +kernel) rfl⟩
theorem ml_X4_120 : Cond.methodLink RX4 120 yX4_leastMoveTo ∈ GW ∧ Cond.instanceMethod yX4_leastMoveTo ∈ GW ∧ Cond.selects yX4_leastMoveTo.cls yX4_leastMoveTo yX4_leastMoveTo ∈ GW := ⟨gw_in (i := 1184) (by decide +kernel) rfl, gw_in (i := 1186) (by decide +kernel) rfl, gw_in (i := 31) (by decide +kernel) rfl⟩
theorem ml_X4_123 : Cond.methodLink RX4 123 yX4_lyingOn ∈ GW ∧ Cond.instanceMethod yX4_lyingOn ∈ GW ∧ Cond.selects yX4_lyingOn.cls yX4_lyingOn yX4_lyingOn ∈ GW := ⟨gw_in (i := 1171) (by decide +kernel) rfl, gw_in (i := 1173) (by decide +kernel) rfl, gw_in (i := 28) (by decide +kernel) rfl⟩
theorem ml_X4_124 : Cond.methodLink RX4 124 yX4_shutsLastGap ∈ GW ∧ Cond.instanceMethod yX4_shutsLastGap ∈ GW ∧ Cond.selects yX4_shutsLastGap.cls yX4_shutsLastGap yX4_shutsLastGap ∈ GW := ⟨gw_in (i := 1188) (by decide +kernel) rfl, gw_in (i := 1190) (by decide +kernel) rfl, gw_in (i := 32) (by decide +kernel) rfl⟩
theorem ml_X4_127 : Cond.methodLink RX4 127 yX4_emptySpots ∈ GW ∧ Cond.instanceMethod yX4_emptySpots ∈ GW ∧ Cond.selects yX4_emptySpots.cls yX4_emptySpots yX4_emptySpots ∈ GW := ⟨gw_in (i := 1192) (by decide +kernel) rfl, gw_in (i := 1194) (by decide +kernel) rfl, gw_in (i := 33) (by decide +kernel) rfl⟩
theorem ml_X5_3 : Cond.methodLink RX5 3 objectInit ∈ GW ∧ Cond.instanceMethod objectInit ∈ GW ∧ Cond.code objectInit ⟨#[0xb1]⟩ 1 none ∈ GW := ⟨gw_in (i := 188) (by decide +kernel) rfl, gw_in (i := 126) (by decide +kernel) rfl, gw_in (i := 127) (by decide +kernel) rfl⟩
theorem fl_X5_9 : FL RX5 9 5 5 5 9 (.array .int) true := ⟨RX5, TX5, rfl, by decide, gw_in (i := 359) (by decide +kernel) rfl, rfl, gwX5, rfl, rfl, tyX5_ok, nmX5, rfl, by decide⟩
theorem fl_X5_15 : FL RX5 15 5 6 6 9 (.array .int) true := ⟨RX5, TX5, rfl, by decide, gw_in (i := 362) (by decide +kernel) rfl, rfl, gwX5, rfl, rfl, tyX5_ok, nmX5, rfl, by decide⟩
theorem nl_X5_18 : NL RX5 18 1 12 := ⟨RX1, TX1, rfl, gw_in (i := 189) (by decide +kernel) rfl, gw_in (i := 190) (by decide +kernel) rfl, gw_in (i := 105) (by decide +kernel) rfl, gwX1, tyX1_ok, dfX1, by decide⟩
theorem ml_X5_20 : (RX5, 20, yX1_init, "LoadSpans") ∈ nestL := by decide +kernel
theorem mi_X5_20 : Cond.instanceMethod yX1_init ∈ GW ∧ yX1_init.name = "<init>" := ⟨gw_in (i := 192) (by decide +kernel) rfl, rfl⟩
theorem fl_X5_21 : FL RX5 21 5 7 7 9 (.object "LoadSpans$Floor") true := ⟨RX5, TX5, rfl, by decide, gw_in (i := 365) (by decide +kernel) rfl, rfl, gwX5, rfl, rfl, tyX5_ok, nmX5, rfl, by decide⟩
theorem nl_X5_25 : NL RX5 25 9 12 := ⟨RX10, TX10, rfl, gw_in (i := 262) (by decide +kernel) rfl, gw_in (i := 263) (by decide +kernel) rfl, gw_in (i := 106) (by decide +kernel) rfl, gwX10, tyX10_ok, dfX10, by decide⟩
theorem ml_X5_27 : (RX5, 27, yX10_init, "LoadSpans") ∈ nestL := by decide +kernel
theorem mi_X5_27 : Cond.instanceMethod yX10_init ∈ GW ∧ yX10_init.name = "<init>" := ⟨gw_in (i := 265) (by decide +kernel) rfl, rfl⟩
theorem fl_X5_28 : FL RX5 28 5 8 8 9 (.object "LoadSpans$Voyage") true := ⟨RX5, TX5, rfl, by decide, gw_in (i := 371) (by decide +kernel) rfl, rfl, gwX5, rfl, rfl, tyX5_ok, nmX5, rfl, by decide⟩
theorem ml_X5_32 : Cond.methodLink RX5 32 yX5_clear ∈ GW ∧ Cond.instanceMethod yX5_clear ∈ GW ∧ Cond.selects yX5_clear.cls yX5_clear yX5_clear ∈ GW := ⟨gw_in (i := 321) (by decide +kernel) rfl, gw_in (i := 322) (by decide +kernel) rfl, gw_in (i := 323) (by decide +kernel) rfl⟩
theorem fl_X5_35 : FL RX5 35 5 0 0 9 .int false := ⟨RX5, TX5, rfl, by decide, gw_in (i := 341) (by decide +kernel) rfl, rfl, gwX5, rfl, rfl, tyX5_ok, nmX5, rfl, by decide⟩
theorem fl_X5_39 : FL RX5 39 5 1 1 9 .int false := ⟨RX5, TX5, rfl, by decide, gw_in (i := 343) (by decide +kernel) rfl, rfl, gwX5, rfl, rfl, tyX5_ok, nmX5, rfl, by decide⟩
theorem ml_X5_42 : Cond.methodLink RX5 42 yX10_reckon ∈ GW ∧ Cond.instanceMethod yX10_reckon ∈ GW ∧ Cond.selects yX10_reckon.cls yX10_reckon yX10_reckon ∈ GW := ⟨gw_in (i := 333) (by decide +kernel) rfl, gw_in (i := 334) (by decide +kernel) rfl, gw_in (i := 335) (by decide +kernel) rfl⟩
theorem fl_X5_46 : FL RX5 46 5 2 2 9 .int false := ⟨RX5, TX5, rfl, by decide, gw_in (i := 345) (by decide +kernel) rfl, rfl, gwX5, rfl, rfl, tyX5_ok, nmX5, rfl, by decide⟩
theorem fl_X5_49 : FL RX5 49 5 3 3 9 .int false := ⟨RX5, TX5, rfl, by decide, gw_in (i := 350) (by decide +kernel) rfl, rfl, gwX5, rfl, rfl, tyX5_ok, nmX5, rfl, by decide⟩
theorem fl_X5_52 : FL RX5 52 5 4 4 9 .int false := ⟨RX5, TX5, rfl, by decide, gw_in (i := 355) (by decide +kernel) rfl, rfl, gwX5, rfl, rfl, tyX5_ok, nmX5, rfl, by decide⟩
theorem ml_X5_55 : Cond.methodLink RX5 55 yX1_clear ∈ GW ∧ Cond.instanceMethod yX1_clear ∈ GW ∧ Cond.selects yX1_clear.cls yX1_clear yX1_clear ∈ GW := ⟨gw_in (i := 325) (by decide +kernel) rfl, gw_in (i := 326) (by decide +kernel) rfl, gw_in (i := 327) (by decide +kernel) rfl⟩
theorem ml_X5_56 : Cond.methodLink RX5 56 yX10_clear ∈ GW ∧ Cond.instanceMethod yX10_clear ∈ GW ∧ Cond.selects yX10_clear.cls yX10_clear yX10_clear ∈ GW := ⟨gw_in (i := 329) (by decide +kernel) rfl, gw_in (i := 330) (by decide +kernel) rfl, gw_in (i := 331) (by decide +kernel) rfl⟩
theorem ml_X5_57 : CopyL RX5 57 := ⟨gw_in (i := 1278) (by decide +kernel) rfl, gw_in (i := 967) (by decide +kernel) rfl, gw_in (i := 966) (by decide +kernel) rfl, gw_in (i := 118) (by decide +kernel) rfl⟩
theorem ml_X5_63 : Cond.methodLink RX5 63 yX1_copyFrom ∈ GW ∧ Cond.instanceMethod yX1_copyFrom ∈ GW ∧ Cond.selects yX1_copyFrom.cls yX1_copyFrom yX1_copyFrom ∈ GW := ⟨gw_in (i := 1279) (by decide +kernel) rfl, gw_in (i := 1280) (by decide +kernel) rfl, gw_in (i := 1281) (by decide +kernel) rfl⟩
theorem ml_X5_67 : Cond.methodLink RX5 67 yX10_copyFrom ∈ GW ∧ Cond.instanceMethod yX10_copyFrom ∈ GW ∧ Cond.selects yX10_copyFrom.cls yX10_copyFrom yX10_copyFrom ∈ GW := ⟨gw_in (i := 1284) (by decide +kernel) rfl, gw_in (i := 1285) (by decide +kernel) rfl, gw_in (i := 1286) (by decide +kernel) rfl⟩
theorem ml_X6_3 : Cond.methodLink RX6 3 objectInit ∈ GW ∧ Cond.instanceMethod objectInit ∈ GW ∧ Cond.code objectInit ⟨#[0xb1]⟩ 1 none ∈ GW := ⟨gw_in (i := 133) (by decide +kernel) rfl, gw_in (i := 126) (by decide +kernel) rfl, gw_in (i := 127) (by decide +kernel) rfl⟩
theorem nl_X6_9 : NL RX6 9 8 7 := ⟨RX9, TX9, rfl, gw_in (i := 134) (by decide +kernel) rfl, gw_in (i := 135) (by decide +kernel) rfl, gw_in (i := 103) (by decide +kernel) rfl, gwX9, tyX9_ok, dfX9, by decide⟩
theorem ml_X6_11 : (RX6, 11, yX9_init, "LoadSpans") ∈ nestL := by decide +kernel
theorem mi_X6_11 : Cond.instanceMethod yX9_init ∈ GW ∧ yX9_init.name = "<init>" := ⟨gw_in (i := 137) (by decide +kernel) rfl, rfl⟩
theorem fl_X6_12 : FL RX6 12 6 0 0 4 (.object "LoadSpans$Tokens") true := ⟨RX6, TX6, rfl, by decide, gw_in (i := 169) (by decide +kernel) rfl, rfl, gwX6, rfl, rfl, tyX6_ok, nmX6, rfl, by decide⟩
theorem fl_X6_18 : FL RX6 18 6 1 1 4 .boolean false := ⟨RX6, TX6, rfl, by decide, gw_in (i := 171) (by decide +kernel) rfl, rfl, gwX6, rfl, rfl, tyX6_ok, nmX6, rfl, by decide⟩
theorem fl_X6_22 : FL RX6 22 6 2 2 4 .boolean false := ⟨RX6, TX6, rfl, by decide, gw_in (i := 172) (by decide +kernel) rfl, rfl, gwX6, rfl, rfl, tyX6_ok, nmX6, rfl, by decide⟩
theorem ml_X6_25 : Cond.methodLink RX6 25 yX5_clear ∈ GW ∧ Cond.instanceMethod yX5_clear ∈ GW ∧ Cond.selects yX5_clear.cls yX5_clear yX5_clear ∈ GW := ⟨gw_in (i := 632) (by decide +kernel) rfl, gw_in (i := 322) (by decide +kernel) rfl, gw_in (i := 323) (by decide +kernel) rfl⟩
theorem ml_X6_30 : Cond.methodLink RX6 30 yX9_begin ∈ GW ∧ Cond.instanceMethod yX9_begin ∈ GW ∧ Cond.selects yX9_begin.cls yX9_begin yX9_begin ∈ GW := ⟨gw_in (i := 633) (by decide +kernel) rfl, gw_in (i := 634) (by decide +kernel) rfl, gw_in (i := 635) (by decide +kernel) rfl⟩
theorem ml_X6_34 : Cond.methodLink RX6 34 yX6_atLine ∈ GW ∧ Cond.instanceMethod yX6_atLine ∈ GW ∧ Cond.selects yX6_atLine.cls yX6_atLine yX6_atLine ∈ GW := ⟨gw_in (i := 641) (by decide +kernel) rfl, gw_in (i := 643) (by decide +kernel) rfl, gw_in (i := 0) (by decide +kernel) rfl⟩
theorem ml_X6_40 : Cond.methodLink RX6 40 yX9_tells ∈ GW ∧ Cond.instanceMethod yX9_tells ∈ GW ∧ Cond.selects yX9_tells.cls yX9_tells yX9_tells ∈ GW := ⟨gw_in (i := 659) (by decide +kernel) rfl, gw_in (i := 660) (by decide +kernel) rfl, gw_in (i := 661) (by decide +kernel) rfl⟩
theorem ml_X6_44 : Cond.methodLink RX6 44 yX6_readEmpty ∈ GW ∧ Cond.instanceMethod yX6_readEmpty ∈ GW ∧ Cond.selects yX6_readEmpty.cls yX6_readEmpty yX6_readEmpty ∈ GW := ⟨gw_in (i := 711) (by decide +kernel) rfl, gw_in (i := 713) (by decide +kernel) rfl, gw_in (i := 1) (by decide +kernel) rfl⟩
theorem ml_X6_50 : Cond.methodLink RX6 50 yX6_readSpan ∈ GW ∧ Cond.instanceMethod yX6_readSpan ∈ GW ∧ Cond.selects yX6_readSpan.cls yX6_readSpan yX6_readSpan ∈ GW := ⟨gw_in (i := 722) (by decide +kernel) rfl, gw_in (i := 724) (by decide +kernel) rfl, gw_in (i := 2) (by decide +kernel) rfl⟩
theorem ml_X6_55 : Cond.methodLink RX6 55 yX6_readHold ∈ GW ∧ Cond.instanceMethod yX6_readHold ∈ GW ∧ Cond.selects yX6_readHold.cls yX6_readHold yX6_readHold ∈ GW := ⟨gw_in (i := 727) (by decide +kernel) rfl, gw_in (i := 729) (by decide +kernel) rfl, gw_in (i := 3) (by decide +kernel) rfl⟩
theorem fl_X6_60 : FL RX6 60 5 7 7 9 (.object "LoadSpans$Floor") true := ⟨RX5, TX5, rfl, by decide, gw_in (i := 367) (by decide +kernel) rfl, rfl, gwX5, rfl, rfl, tyX5_ok, nmX5, rfl, by decide⟩
theorem ml_X6_64 : Cond.methodLink RX6 64 yX6_readSpot ∈ GW ∧ Cond.instanceMethod yX6_readSpot ∈ GW ∧ Cond.selects yX6_readSpot.cls yX6_readSpot yX6_readSpot ∈ GW := ⟨gw_in (i := 780) (by decide +kernel) rfl, gw_in (i := 782) (by decide +kernel) rfl, gw_in (i := 7) (by decide +kernel) rfl⟩
theorem ml_X6_70 : Cond.methodLink RX6 70 yX6_readJoint ∈ GW ∧ Cond.instanceMethod yX6_readJoint ∈ GW ∧ Cond.selects yX6_readJoint.cls yX6_readJoint yX6_readJoint ∈ GW := ⟨gw_in (i := 793) (by decide +kernel) rfl, gw_in (i := 795) (by decide +kernel) rfl, gw_in (i := 8) (by decide +kernel) rfl⟩
theorem ml_X6_75 : Cond.methodLink RX6 75 yX6_readBin ∈ GW ∧ Cond.instanceMethod yX6_readBin ∈ GW ∧ Cond.selects yX6_readBin.cls yX6_readBin yX6_readBin ∈ GW := ⟨gw_in (i := 806) (by decide +kernel) rfl, gw_in (i := 808) (by decide +kernel) rfl, gw_in (i := 9) (by decide +kernel) rfl⟩
theorem ml_X6_80 : Cond.methodLink RX6 80 yX6_readTank ∈ GW ∧ Cond.instanceMethod yX6_readTank ∈ GW ∧ Cond.selects yX6_readTank.cls yX6_readTank yX6_readTank ∈ GW := ⟨gw_in (i := 815) (by decide +kernel) rfl, gw_in (i := 817) (by decide +kernel) rfl, gw_in (i := 10) (by decide +kernel) rfl⟩
theorem fl_X6_85 : FL RX6 85 5 8 8 9 (.object "LoadSpans$Voyage") true := ⟨RX5, TX5, rfl, by decide, gw_in (i := 372) (by decide +kernel) rfl, rfl, gwX5, rfl, rfl, tyX5_ok, nmX5, rfl, by decide⟩
theorem ml_X6_89 : Cond.methodLink RX6 89 yX6_readBurn ∈ GW ∧ Cond.instanceMethod yX6_readBurn ∈ GW ∧ Cond.selects yX6_readBurn.cls yX6_readBurn yX6_readBurn ∈ GW := ⟨gw_in (i := 824) (by decide +kernel) rfl, gw_in (i := 826) (by decide +kernel) rfl, gw_in (i := 11) (by decide +kernel) rfl⟩
theorem ml_X6_95 : Cond.methodLink RX6 95 yX6_readStop ∈ GW ∧ Cond.instanceMethod yX6_readStop ∈ GW ∧ Cond.selects yX6_readStop.cls yX6_readStop yX6_readStop ∈ GW := ⟨gw_in (i := 837) (by decide +kernel) rfl, gw_in (i := 839) (by decide +kernel) rfl, gw_in (i := 12) (by decide +kernel) rfl⟩
theorem ml_X6_98 : Cond.methodLink RX6 98 yX9_fail ∈ GW ∧ Cond.instanceMethod yX9_fail ∈ GW ∧ Cond.selects yX9_fail.cls yX9_fail yX9_fail ∈ GW := ⟨gw_in (i := 715) (by decide +kernel) rfl, gw_in (i := 638) (by decide +kernel) rfl, gw_in (i := 639) (by decide +kernel) rfl⟩
theorem ml_X6_101 : Cond.methodLink RX6 101 yX9_lineEnd ∈ GW ∧ Cond.instanceMethod yX9_lineEnd ∈ GW ∧ Cond.selects yX9_lineEnd.cls yX9_lineEnd yX9_lineEnd ∈ GW := ⟨gw_in (i := 845) (by decide +kernel) rfl, gw_in (i := 846) (by decide +kernel) rfl, gw_in (i := 847) (by decide +kernel) rfl⟩
theorem fl_X6_104 : FL RX6 104 5 0 0 9 .int false := ⟨RX5, TX5, rfl, by decide, gw_in (i := 342) (by decide +kernel) rfl, rfl, gwX5, rfl, rfl, tyX5_ok, nmX5, rfl, by decide⟩
theorem fl_X6_108 : FL RX6 108 5 1 1 9 .int false := ⟨RX5, TX5, rfl, by decide, gw_in (i := 344) (by decide +kernel) rfl, rfl, gwX5, rfl, rfl, tyX5_ok, nmX5, rfl, by decide⟩
theorem ml_X6_111 : Cond.methodLink RX6 111 yX10_reckon ∈ GW ∧ Cond.instanceMethod yX10_reckon ∈ GW ∧ Cond.selects yX10_reckon.cls yX10_reckon yX10_reckon ∈ GW := ⟨gw_in (i := 849) (by decide +kernel) rfl, gw_in (i := 334) (by decide +kernel) rfl, gw_in (i := 335) (by decide +kernel) rfl⟩
theorem fl_X6_117 : FL RX6 117 8 1 1 7 .int false := ⟨RX9, TX9, rfl, by decide, gw_in (i := 143) (by decide +kernel) rfl, rfl, gwX9, rfl, rfl, tyX9_ok, nmX9, rfl, by decide⟩
theorem fl_X6_120 : FL RX6 120 6 3 3 4 .boolean false := ⟨RX6, TX6, rfl, by decide, gw_in (i := 173) (by decide +kernel) rfl, rfl, gwX6, rfl, rfl, tyX6_ok, nmX6, rfl, by decide⟩
theorem ml_X6_123 : Cond.methodLink RX6 123 yX0_clear ∈ GW ∧ Cond.instanceMethod yX0_clear ∈ GW ∧ Cond.selects yX0_clear.cls yX0_clear yX0_clear ∈ GW := ⟨gw_in (i := 871) (by decide +kernel) rfl, gw_in (i := 872) (by decide +kernel) rfl, gw_in (i := 873) (by decide +kernel) rfl⟩
theorem ml_X6_128 : Cond.methodLink RX6 128 yX6_readPallet ∈ GW ∧ Cond.instanceMethod yX6_readPallet ∈ GW ∧ Cond.selects yX6_readPallet.cls yX6_readPallet yX6_readPallet ∈ GW := ⟨gw_in (i := 877) (by decide +kernel) rfl, gw_in (i := 879) (by decide +kernel) rfl, gw_in (i := 14) (by decide +kernel) rfl⟩
theorem ml_X6_134 : Cond.methodLink RX6 134 yX6_readBulk ∈ GW ∧ Cond.instanceMethod yX6_readBulk ∈ GW ∧ Cond.selects yX6_readBulk.cls yX6_readBulk yX6_readBulk ∈ GW := ⟨gw_in (i := 894) (by decide +kernel) rfl, gw_in (i := 896) (by decide +kernel) rfl, gw_in (i := 16) (by decide +kernel) rfl⟩
theorem ml_X6_137 : Cond.methodLink RX6 137 yX9_next ∈ GW ∧ Cond.instanceMethod yX9_next ∈ GW ∧ Cond.selects yX9_next.cls yX9_next yX9_next ∈ GW := ⟨gw_in (i := 645) (by decide +kernel) rfl, gw_in (i := 646) (by decide +kernel) rfl, gw_in (i := 647) (by decide +kernel) rfl⟩
theorem fl_X6_140 : FL RX6 140 8 2 2 7 .int false := ⟨RX9, TX9, rfl, by decide, gw_in (i := 145) (by decide +kernel) rfl, rfl, gwX9, rfl, rfl, tyX9_ok, nmX9, rfl, by decide⟩
theorem fl_X6_143 : FL RX6 143 8 4 4 7 .int false := ⟨RX9, TX9, rfl, by decide, gw_in (i := 150) (by decide +kernel) rfl, rfl, gwX9, rfl, rfl, tyX9_ok, nmX9, rfl, by decide⟩
theorem ml_X6_146 : Cond.methodLink RX6 146 yX9_number ∈ GW ∧ Cond.instanceMethod yX9_number ∈ GW ∧ Cond.selects yX9_number.cls yX9_number yX9_number ∈ GW := ⟨gw_in (i := 716) (by decide +kernel) rfl, gw_in (i := 717) (by decide +kernel) rfl, gw_in (i := 718) (by decide +kernel) rfl⟩
theorem fl_X6_150 : FL RX6 150 5 2 2 9 .int false := ⟨RX5, TX5, rfl, by decide, gw_in (i := 346) (by decide +kernel) rfl, rfl, gwX5, rfl, rfl, tyX5_ok, nmX5, rfl, by decide⟩
theorem fl_X6_153 : FL RX6 153 5 3 3 9 .int false := ⟨RX5, TX5, rfl, by decide, gw_in (i := 351) (by decide +kernel) rfl, rfl, gwX5, rfl, rfl, tyX5_ok, nmX5, rfl, by decide⟩
theorem fl_X6_156 : FL RX6 156 1 0 0 12 .int false := ⟨RX1, TX1, rfl, by decide, gw_in (i := 196) (by decide +kernel) rfl, rfl, gwX1, rfl, rfl, tyX1_ok, nmX1, rfl, by decide⟩
theorem ml_X6_161 : Cond.methodLink RX6 161 yX6_newName ∈ GW ∧ Cond.instanceMethod yX6_newName ∈ GW ∧ Cond.selects yX6_newName.cls yX6_newName yX6_newName ∈ GW := ⟨gw_in (i := 731) (by decide +kernel) rfl, gw_in (i := 733) (by decide +kernel) rfl, gw_in (i := 4) (by decide +kernel) rfl⟩
theorem ml_X6_165 : Cond.methodLink RX6 165 yX6_isFrontDoor ∈ GW ∧ Cond.instanceMethod yX6_isFrontDoor ∈ GW ∧ Cond.selects yX6_isFrontDoor.cls yX6_isFrontDoor yX6_isFrontDoor ∈ GW := ⟨gw_in (i := 769) (by decide +kernel) rfl, gw_in (i := 771) (by decide +kernel) rfl, gw_in (i := 6) (by decide +kernel) rfl⟩
theorem ml_X6_168 : Cond.methodLink RX6 168 yX1_addHold ∈ GW ∧ Cond.instanceMethod yX1_addHold ∈ GW ∧ Cond.selects yX1_addHold.cls yX1_addHold yX1_addHold ∈ GW := ⟨gw_in (i := 775) (by decide +kernel) rfl, gw_in (i := 776) (by decide +kernel) rfl, gw_in (i := 777) (by decide +kernel) rfl⟩
theorem fl_X6_176 : FL RX6 176 1 4 4 12 .int false := ⟨RX1, TX1, rfl, by decide, gw_in (i := 209) (by decide +kernel) rfl, rfl, gwX1, rfl, rfl, tyX1_ok, nmX1, rfl, by decide⟩
theorem ml_X6_179 : Cond.methodLink RX6 179 yX1_addSpot ∈ GW ∧ Cond.instanceMethod yX1_addSpot ∈ GW ∧ Cond.selects yX1_addSpot.cls yX1_addSpot yX1_addSpot ∈ GW := ⟨gw_in (i := 784) (by decide +kernel) rfl, gw_in (i := 785) (by decide +kernel) rfl, gw_in (i := 786) (by decide +kernel) rfl⟩
theorem ml_X6_182 : Cond.methodLink RX6 182 yX1_takesJoint ∈ GW ∧ Cond.instanceMethod yX1_takesJoint ∈ GW ∧ Cond.selects yX1_takesJoint.cls yX1_takesJoint yX1_takesJoint ∈ GW := ⟨gw_in (i := 797) (by decide +kernel) rfl, gw_in (i := 798) (by decide +kernel) rfl, gw_in (i := 799) (by decide +kernel) rfl⟩
theorem ml_X6_185 : Cond.methodLink RX6 185 yX1_addJoint ∈ GW ∧ Cond.instanceMethod yX1_addJoint ∈ GW ∧ Cond.selects yX1_addJoint.cls yX1_addJoint yX1_addJoint ∈ GW := ⟨gw_in (i := 801) (by decide +kernel) rfl, gw_in (i := 802) (by decide +kernel) rfl, gw_in (i := 803) (by decide +kernel) rfl⟩
theorem fl_X6_188 : FL RX6 188 5 4 4 9 .int false := ⟨RX5, TX5, rfl, by decide, gw_in (i := 357) (by decide +kernel) rfl, rfl, gwX5, rfl, rfl, tyX5_ok, nmX5, rfl, by decide⟩
theorem ml_X6_191 : Cond.methodLink RX6 191 yX5_addBin ∈ GW ∧ Cond.instanceMethod yX5_addBin ∈ GW ∧ Cond.selects yX5_addBin.cls yX5_addBin yX5_addBin ∈ GW := ⟨gw_in (i := 810) (by decide +kernel) rfl, gw_in (i := 811) (by decide +kernel) rfl, gw_in (i := 812) (by decide +kernel) rfl⟩
theorem fl_X6_194 : FL RX6 194 9 0 0 12 .int false := ⟨RX10, TX10, rfl, by decide, gw_in (i := 270) (by decide +kernel) rfl, rfl, gwX10, rfl, rfl, tyX10_ok, nmX10, rfl, by decide⟩
theorem ml_X6_197 : Cond.methodLink RX6 197 yX10_addTank ∈ GW ∧ Cond.instanceMethod yX10_addTank ∈ GW ∧ Cond.selects yX10_addTank.cls yX10_addTank yX10_addTank ∈ GW := ⟨gw_in (i := 819) (by decide +kernel) rfl, gw_in (i := 820) (by decide +kernel) rfl, gw_in (i := 821) (by decide +kernel) rfl⟩
theorem fl_X6_201 : FL RX6 201 9 5 5 12 .int false := ⟨RX10, TX10, rfl, by decide, gw_in (i := 280) (by decide +kernel) rfl, rfl, gwX10, rfl, rfl, tyX10_ok, nmX10, rfl, by decide⟩
theorem ml_X6_204 : Cond.methodLink RX6 204 yX9_newWord ∈ GW ∧ Cond.instanceMethod yX9_newWord ∈ GW ∧ Cond.selects yX9_newWord.cls yX9_newWord yX9_newWord ∈ GW := ⟨gw_in (i := 735) (by decide +kernel) rfl, gw_in (i := 736) (by decide +kernel) rfl, gw_in (i := 737) (by decide +kernel) rfl⟩
theorem ml_X6_208 : Cond.methodLink RX6 208 yX10_tankCalled ∈ GW ∧ Cond.instanceMethod yX10_tankCalled ∈ GW ∧ Cond.selects yX10_tankCalled.cls yX10_tankCalled yX10_tankCalled ∈ GW := ⟨gw_in (i := 765) (by decide +kernel) rfl, gw_in (i := 766) (by decide +kernel) rfl, gw_in (i := 767) (by decide +kernel) rfl⟩
theorem ml_X6_212 : Cond.methodLink RX6 212 yX10_leftIn ∈ GW ∧ Cond.instanceMethod yX10_leftIn ∈ GW ∧ Cond.selects yX10_leftIn.cls yX10_leftIn yX10_leftIn ∈ GW := ⟨gw_in (i := 828) (by decide +kernel) rfl, gw_in (i := 829) (by decide +kernel) rfl, gw_in (i := 830) (by decide +kernel) rfl⟩
theorem ml_X6_216 : Cond.methodLink RX6 216 yX10_addBurn ∈ GW ∧ Cond.instanceMethod yX10_addBurn ∈ GW ∧ Cond.selects yX10_addBurn.cls yX10_addBurn yX10_addBurn ∈ GW := ⟨gw_in (i := 832) (by decide +kernel) rfl, gw_in (i := 833) (by decide +kernel) rfl, gw_in (i := 834) (by decide +kernel) rfl⟩
theorem fl_X6_219 : FL RX6 219 9 8 8 12 .int false := ⟨RX10, TX10, rfl, by decide, gw_in (i := 285) (by decide +kernel) rfl, rfl, gwX10, rfl, rfl, tyX10_ok, nmX10, rfl, by decide⟩
theorem ml_X6_222 : Cond.methodLink RX6 222 yX10_addStop ∈ GW ∧ Cond.instanceMethod yX10_addStop ∈ GW ∧ Cond.selects yX10_addStop.cls yX10_addStop yX10_addStop ∈ GW := ⟨gw_in (i := 841) (by decide +kernel) rfl, gw_in (i := 842) (by decide +kernel) rfl, gw_in (i := 843) (by decide +kernel) rfl⟩
theorem ml_X6_225 : Cond.methodLink RX6 225 yX1_isHoldCalled ∈ GW ∧ Cond.instanceMethod yX1_isHoldCalled ∈ GW ∧ Cond.selects yX1_isHoldCalled.cls yX1_isHoldCalled yX1_isHoldCalled ∈ GW := ⟨gw_in (i := 761) (by decide +kernel) rfl, gw_in (i := 762) (by decide +kernel) rfl, gw_in (i := 763) (by decide +kernel) rfl⟩
theorem fl_X6_229 : FL RX6 229 0 0 0 7 .int false := ⟨RX0, TX0, rfl, by decide, gw_in (i := 406) (by decide +kernel) rfl, rfl, gwX0, rfl, rfl, tyX0_ok, nmX0, rfl, by decide⟩
theorem ml_X6_232 : Cond.methodLink RX6 232 yX0_called ∈ GW ∧ Cond.instanceMethod yX0_called ∈ GW ∧ Cond.selects yX0_called.cls yX0_called yX0_called ∈ GW := ⟨gw_in (i := 881) (by decide +kernel) rfl, gw_in (i := 882) (by decide +kernel) rfl, gw_in (i := 883) (by decide +kernel) rfl⟩
theorem ml_X6_235 : Cond.methodLink RX6 235 yX0_add ∈ GW ∧ Cond.instanceMethod yX0_add ∈ GW ∧ Cond.selects yX0_add.cls yX0_add yX0_add ∈ GW := ⟨gw_in (i := 885) (by decide +kernel) rfl, gw_in (i := 886) (by decide +kernel) rfl, gw_in (i := 887) (by decide +kernel) rfl⟩
theorem fl_X6_238 : FL RX6 238 0 5 5 7 .int false := ⟨RX0, TX0, rfl, by decide, gw_in (i := 426) (by decide +kernel) rfl, rfl, gwX0, rfl, rfl, tyX0_ok, nmX0, rfl, by decide⟩
theorem ml_X7_9 : Cond.methodLink RX7 9 yX7_brokenAt ∈ GW ∧ Cond.static yX7_brokenAt ∈ GW := ⟨gw_in (i := 986) (by decide +kernel) rfl, gw_in (i := 987) (by decide +kernel) rfl⟩
theorem ml_X7_15 : Cond.methodLink RX7 15 yX7_outPallet ∈ GW ∧ Cond.static yX7_outPallet ∈ GW := ⟨gw_in (i := 989) (by decide +kernel) rfl, gw_in (i := 990) (by decide +kernel) rfl⟩
theorem fl_X7_19 : FL RX7 19 5 7 7 9 (.object "LoadSpans$Floor") true := ⟨RX5, TX5, rfl, by decide, gw_in (i := 368) (by decide +kernel) rfl, rfl, gwX5, rfl, rfl, tyX5_ok, nmX5, rfl, by decide⟩
theorem ml_X7_25 : Cond.methodLink RX7 25 yX7_heavySpot ∈ GW ∧ Cond.static yX7_heavySpot ∈ GW := ⟨gw_in (i := 992) (by decide +kernel) rfl, gw_in (i := 993) (by decide +kernel) rfl⟩
theorem ml_X7_29 : Cond.methodLink RX7 29 yX7_heavyJoint ∈ GW ∧ Cond.static yX7_heavyJoint ∈ GW := ⟨gw_in (i := 1001) (by decide +kernel) rfl, gw_in (i := 1002) (by decide +kernel) rfl⟩
theorem ml_X7_32 : Cond.methodLink RX7 32 yX7_heavyHold ∈ GW ∧ Cond.static yX7_heavyHold ∈ GW := ⟨gw_in (i := 1004) (by decide +kernel) rfl, gw_in (i := 1005) (by decide +kernel) rfl⟩
theorem ml_X7_35 : Cond.methodLink RX7 35 yX0_inBins ∈ GW ∧ Cond.instanceMethod yX0_inBins ∈ GW ∧ Cond.selects yX0_inBins.cls yX0_inBins yX0_inBins ∈ GW := ⟨gw_in (i := 1008) (by decide +kernel) rfl, gw_in (i := 1009) (by decide +kernel) rfl, gw_in (i := 1010) (by decide +kernel) rfl⟩
theorem fl_X7_41 : FL RX7 41 0 5 5 7 .int false := ⟨RX0, TX0, rfl, by decide, gw_in (i := 424) (by decide +kernel) rfl, rfl, gwX0, rfl, rfl, tyX0_ok, nmX0, rfl, by decide⟩
theorem ml_X7_45 : Cond.methodLink RX7 45 yX7_blockedSpot ∈ GW ∧ Cond.static yX7_blockedSpot ∈ GW := ⟨gw_in (i := 1012) (by decide +kernel) rfl, gw_in (i := 1013) (by decide +kernel) rfl⟩
theorem ml_X7_48 : Cond.methodLink RX7 48 yX7_stageOutOfSpan ∈ GW ∧ Cond.static yX7_stageOutOfSpan ∈ GW := ⟨gw_in (i := 1025) (by decide +kernel) rfl, gw_in (i := 1026) (by decide +kernel) rfl⟩
theorem fl_X7_52 : FL RX7 52 0 0 0 7 .int false := ⟨RX0, TX0, rfl, by decide, gw_in (i := 404) (by decide +kernel) rfl, rfl, gwX0, rfl, rfl, tyX0_ok, nmX0, rfl, by decide⟩
theorem fl_X7_55 : FL RX7 55 0 4 4 7 (.array .int) true := ⟨RX0, TX0, rfl, by decide, gw_in (i := 419) (by decide +kernel) rfl, rfl, gwX0, rfl, rfl, tyX0_ok, nmX0, rfl, by decide⟩
theorem fl_X7_59 : FL RX7 59 1 4 4 12 .int false := ⟨RX1, TX1, rfl, by decide, gw_in (i := 208) (by decide +kernel) rfl, rfl, gwX1, rfl, rfl, tyX1_ok, nmX1, rfl, by decide⟩
theorem ml_X7_64 : Cond.methodLink RX7 64 yX0_weightOn ∈ GW ∧ Cond.instanceMethod yX0_weightOn ∈ GW ∧ Cond.selects yX0_weightOn.cls yX0_weightOn yX0_weightOn ∈ GW := ⟨gw_in (i := 995) (by decide +kernel) rfl, gw_in (i := 996) (by decide +kernel) rfl, gw_in (i := 997) (by decide +kernel) rfl⟩
theorem fl_X7_68 : FL RX7 68 1 7 7 12 (.array .int) true := ⟨RX1, TX1, rfl, by decide, gw_in (i := 219) (by decide +kernel) rfl, rfl, gwX1, rfl, rfl, tyX1_ok, nmX1, rfl, by decide⟩
theorem fl_X7_71 : FL RX7 71 1 9 9 12 .int false := ⟨RX1, TX1, rfl, by decide, gw_in (i := 226) (by decide +kernel) rfl, rfl, gwX1, rfl, rfl, tyX1_ok, nmX1, rfl, by decide⟩
theorem fl_X7_74 : FL RX7 74 1 10 10 12 (.array .int) true := ⟨RX1, TX1, rfl, by decide, gw_in (i := 230) (by decide +kernel) rfl, rfl, gwX1, rfl, rfl, tyX1_ok, nmX1, rfl, by decide⟩
theorem fl_X7_77 : FL RX7 77 1 11 11 12 (.array .int) true := ⟨RX1, TX1, rfl, by decide, gw_in (i := 233) (by decide +kernel) rfl, rfl, gwX1, rfl, rfl, tyX1_ok, nmX1, rfl, by decide⟩
theorem fl_X7_80 : FL RX7 80 1 0 0 12 .int false := ⟨RX1, TX1, rfl, by decide, gw_in (i := 197) (by decide +kernel) rfl, rfl, gwX1, rfl, rfl, tyX1_ok, nmX1, rfl, by decide⟩
theorem ml_X7_83 : Cond.methodLink RX7 83 yX7_loadOfHold ∈ GW ∧ Cond.static yX7_loadOfHold ∈ GW := ⟨gw_in (i := 1007) (by decide +kernel) rfl, gw_in (i := 950) (by decide +kernel) rfl⟩
theorem fl_X7_87 : FL RX7 87 1 2 2 12 (.array .int) true := ⟨RX1, TX1, rfl, by decide, gw_in (i := 201) (by decide +kernel) rfl, rfl, gwX1, rfl, rfl, tyX1_ok, nmX1, rfl, by decide⟩
theorem ml_X7_90 : Cond.methodLink RX7 90 yX1_hasSpot ∈ GW ∧ Cond.instanceMethod yX1_hasSpot ∈ GW ∧ Cond.selects yX1_hasSpot.cls yX1_hasSpot yX1_hasSpot ∈ GW := ⟨gw_in (i := 952) (by decide +kernel) rfl, gw_in (i := 932) (by decide +kernel) rfl, gw_in (i := 933) (by decide +kernel) rfl⟩
theorem fl_X7_94 : FL RX7 94 1 5 5 12 (.array .int) true := ⟨RX1, TX1, rfl, by decide, gw_in (i := 211) (by decide +kernel) rfl, rfl, gwX1, rfl, rfl, tyX1_ok, nmX1, rfl, by decide⟩
theorem fl_X7_97 : FL RX7 97 0 2 2 7 (.array .int) true := ⟨RX0, TX0, rfl, by decide, gw_in (i := 410) (by decide +kernel) rfl, rfl, gwX0, rfl, rfl, tyX0_ok, nmX0, rfl, by decide⟩
theorem ml_X7_100 : Cond.methodLink RX7 100 yX0_lyingOn ∈ GW ∧ Cond.instanceMethod yX0_lyingOn ∈ GW ∧ Cond.selects yX0_lyingOn.cls yX0_lyingOn yX0_lyingOn ∈ GW := ⟨gw_in (i := 1015) (by decide +kernel) rfl, gw_in (i := 936) (by decide +kernel) rfl, gw_in (i := 937) (by decide +kernel) rfl⟩
theorem ml_X7_103 : Cond.methodLink RX7 103 yX7_blockersOf ∈ GW ∧ Cond.static yX7_blockersOf ∈ GW := ⟨gw_in (i := 1016) (by decide +kernel) rfl, gw_in (i := 1017) (by decide +kernel) rfl⟩
theorem ml_X7_106 : Cond.methodLink RX7 106 yX0_has ∈ GW ∧ Cond.instanceMethod yX0_has ∈ GW ∧ Cond.selects yX0_has.cls yX0_has yX0_has ∈ GW := ⟨gw_in (i := 1019) (by decide +kernel) rfl, gw_in (i := 915) (by decide +kernel) rfl, gw_in (i := 916) (by decide +kernel) rfl⟩
theorem fl_X7_109 : FL RX7 109 0 3 3 7 (.array .int) true := ⟨RX0, TX0, rfl, by decide, gw_in (i := 415) (by decide +kernel) rfl, rfl, gwX0, rfl, rfl, tyX0_ok, nmX0, rfl, by decide⟩
theorem ml_X7_112 : Cond.methodLink RX7 112 yX1_isOnWay ∈ GW ∧ Cond.instanceMethod yX1_isOnWay ∈ GW ∧ Cond.selects yX1_isOnWay.cls yX1_isOnWay yX1_isOnWay ∈ GW := ⟨gw_in (i := 1020) (by decide +kernel) rfl, gw_in (i := 1021) (by decide +kernel) rfl, gw_in (i := 1022) (by decide +kernel) rfl⟩
theorem fl_X7_116 : FL RX7 116 5 8 8 9 (.object "LoadSpans$Voyage") true := ⟨RX5, TX5, rfl, by decide, gw_in (i := 375) (by decide +kernel) rfl, rfl, gwX5, rfl, rfl, tyX5_ok, nmX5, rfl, by decide⟩
theorem fl_X7_120 : FL RX7 120 9 5 5 12 .int false := ⟨RX10, TX10, rfl, by decide, gw_in (i := 279) (by decide +kernel) rfl, rfl, gwX10, rfl, rfl, tyX10_ok, nmX10, rfl, by decide⟩
theorem ml_X7_125 : Cond.methodLink RX7 125 yX7_weightAt ∈ GW ∧ Cond.static yX7_weightAt ∈ GW := ⟨gw_in (i := 1028) (by decide +kernel) rfl, gw_in (i := 1029) (by decide +kernel) rfl⟩
theorem ml_X7_129 : Cond.methodLink RX7 129 yX7_momentAt ∈ GW ∧ Cond.static yX7_momentAt ∈ GW := ⟨gw_in (i := 1031) (by decide +kernel) rfl, gw_in (i := 1032) (by decide +kernel) rfl⟩
theorem fl_X7_132 : FL RX7 132 5 2 2 9 .int false := ⟨RX5, TX5, rfl, by decide, gw_in (i := 348) (by decide +kernel) rfl, rfl, gwX5, rfl, rfl, tyX5_ok, nmX5, rfl, by decide⟩
theorem fl_X7_135 : FL RX7 135 5 3 3 9 .int false := ⟨RX5, TX5, rfl, by decide, gw_in (i := 353) (by decide +kernel) rfl, rfl, gwX5, rfl, rfl, tyX5_ok, nmX5, rfl, by decide⟩
theorem fl_X7_138 : FL RX7 138 9 9 9 12 (.array .int) true := ⟨RX10, TX10, rfl, by decide, gw_in (i := 289) (by decide +kernel) rfl, rfl, gwX10, rfl, rfl, tyX10_ok, nmX10, rfl, by decide⟩
theorem fl_X7_140 : FL RX7 140 9 11 11 12 (.array .int) true := ⟨RX10, TX10, rfl, by decide, gw_in (i := 295) (by decide +kernel) rfl, rfl, gwX10, rfl, rfl, tyX10_ok, nmX10, rfl, by decide⟩
theorem fl_X7_143 : FL RX7 143 9 10 10 12 (.array .int) true := ⟨RX10, TX10, rfl, by decide, gw_in (i := 292) (by decide +kernel) rfl, rfl, gwX10, rfl, rfl, tyX10_ok, nmX10, rfl, by decide⟩
theorem fl_X7_145 : FL RX7 145 5 4 4 9 .int false := ⟨RX5, TX5, rfl, by decide, gw_in (i := 358) (by decide +kernel) rfl, rfl, gwX5, rfl, rfl, tyX5_ok, nmX5, rfl, by decide⟩
theorem fl_X7_148 : FL RX7 148 0 6 6 7 (.array .int) true := ⟨RX0, TX0, rfl, by decide, gw_in (i := 430) (by decide +kernel) rfl, rfl, gwX0, rfl, rfl, tyX0_ok, nmX0, rfl, by decide⟩
theorem fl_X7_151 : FL RX7 151 5 5 5 9 (.array .int) true := ⟨RX5, TX5, rfl, by decide, gw_in (i := 361) (by decide +kernel) rfl, rfl, gwX5, rfl, rfl, tyX5_ok, nmX5, rfl, by decide⟩
theorem fl_X7_154 : FL RX7 154 1 6 6 12 (.array .int) true := ⟨RX1, TX1, rfl, by decide, gw_in (i := 216) (by decide +kernel) rfl, rfl, gwX1, rfl, rfl, tyX1_ok, nmX1, rfl, by decide⟩
theorem ml_X7_157 : Cond.methodLink RX7 157 yX8_spotIn ∈ GW ∧ Cond.instanceMethod yX8_spotIn ∈ GW ∧ Cond.selects yX8_spotIn.cls yX8_spotIn yX8_spotIn ∈ GW := ⟨gw_in (i := 1139) (by decide +kernel) rfl, gw_in (i := 1117) (by decide +kernel) rfl, gw_in (i := 1118) (by decide +kernel) rfl⟩
theorem ml_X7_163 : Cond.methodLink RX7 163 yX7_standInWay ∈ GW ∧ Cond.static yX7_standInWay ∈ GW := ⟨gw_in (i := 1140) (by decide +kernel) rfl, gw_in (i := 1141) (by decide +kernel) rfl⟩
theorem fl_X7_167 : FL RX7 167 1 8 8 12 (.array .int) true := ⟨RX1, TX1, rfl, by decide, gw_in (i := 224) (by decide +kernel) rfl, rfl, gwX1, rfl, rfl, tyX1_ok, nmX1, rfl, by decide⟩
theorem ml_X8_3 : Cond.methodLink RX8 3 objectInit ∈ GW ∧ Cond.instanceMethod objectInit ∈ GW ∧ Cond.code objectInit ⟨#[0xb1]⟩ 1 none ∈ GW := ⟨gw_in (i := 493) (by decide +kernel) rfl, gw_in (i := 126) (by decide +kernel) rfl, gw_in (i := 127) (by decide +kernel) rfl⟩
theorem fl_X8_11 : FL RX8 11 7 2 2 15 (.array .int) true := ⟨RX8, TX8, rfl, by decide, gw_in (i := 497) (by decide +kernel) rfl, rfl, gwX8, rfl, rfl, tyX8_ok, nmX8, rfl, by decide⟩
theorem fl_X8_15 : FL RX8 15 7 3 3 15 (.array .int) true := ⟨RX8, TX8, rfl, by decide, gw_in (i := 498) (by decide +kernel) rfl, rfl, gwX8, rfl, rfl, tyX8_ok, nmX8, rfl, by decide⟩
theorem fl_X8_18 : FL RX8 18 7 4 4 15 (.array .int) true := ⟨RX8, TX8, rfl, by decide, gw_in (i := 499) (by decide +kernel) rfl, rfl, gwX8, rfl, rfl, tyX8_ok, nmX8, rfl, by decide⟩
theorem fl_X8_21 : FL RX8 21 7 9 9 15 (.array .int) true := ⟨RX8, TX8, rfl, by decide, gw_in (i := 504) (by decide +kernel) rfl, rfl, gwX8, rfl, rfl, tyX8_ok, nmX8, rfl, by decide⟩
theorem fl_X8_24 : FL RX8 24 7 10 10 15 (.array .int) true := ⟨RX8, TX8, rfl, by decide, gw_in (i := 505) (by decide +kernel) rfl, rfl, gwX8, rfl, rfl, tyX8_ok, nmX8, rfl, by decide⟩
theorem fl_X8_27 : FL RX8 27 7 11 11 15 (.array .int) true := ⟨RX8, TX8, rfl, by decide, gw_in (i := 506) (by decide +kernel) rfl, rfl, gwX8, rfl, rfl, tyX8_ok, nmX8, rfl, by decide⟩
theorem fl_X8_30 : FL RX8 30 7 12 12 15 (.array .int) true := ⟨RX8, TX8, rfl, by decide, gw_in (i := 507) (by decide +kernel) rfl, rfl, gwX8, rfl, rfl, tyX8_ok, nmX8, rfl, by decide⟩
theorem fl_X8_33 : FL RX8 33 7 13 13 15 (.array .int) true := ⟨RX8, TX8, rfl, by decide, gw_in (i := 508) (by decide +kernel) rfl, rfl, gwX8, rfl, rfl, tyX8_ok, nmX8, rfl, by decide⟩
theorem fl_X8_36 : FL RX8 36 7 14 14 15 (.array .int) true := ⟨RX8, TX8, rfl, by decide, gw_in (i := 509) (by decide +kernel) rfl, rfl, gwX8, rfl, rfl, tyX8_ok, nmX8, rfl, by decide⟩
theorem fl_X8_39 : FL RX8 39 7 0 0 15 .boolean false := ⟨RX8, TX8, rfl, by decide, gw_in (i := 494) (by decide +kernel) rfl, rfl, gwX8, rfl, rfl, tyX8_ok, nmX8, rfl, by decide⟩
theorem fl_X8_43 : FL RX8 43 7 1 1 15 .int false := ⟨RX8, TX8, rfl, by decide, gw_in (i := 495) (by decide +kernel) rfl, rfl, gwX8, rfl, rfl, tyX8_ok, nmX8, rfl, by decide⟩
theorem fl_X8_47 : FL RX8 47 7 5 5 15 (.object "LoadSpans$Plane") false := ⟨RX8, TX8, rfl, by decide, gw_in (i := 500) (by decide +kernel) rfl, rfl, gwX8, rfl, rfl, tyX8_ok, nmX8, rfl, by decide⟩
theorem fl_X8_51 : FL RX8 51 7 6 6 15 (.object "LoadSpans$Cargo") false := ⟨RX8, TX8, rfl, by decide, gw_in (i := 501) (by decide +kernel) rfl, rfl, gwX8, rfl, rfl, tyX8_ok, nmX8, rfl, by decide⟩
theorem fl_X8_55 : FL RX8 55 0 5 5 7 .int false := ⟨RX0, TX0, rfl, by decide, gw_in (i := 423) (by decide +kernel) rfl, rfl, gwX0, rfl, rfl, tyX0_ok, nmX0, rfl, by decide⟩
theorem fl_X8_60 : FL RX8 60 5 6 6 9 (.array .int) true := ⟨RX5, TX5, rfl, by decide, gw_in (i := 363) (by decide +kernel) rfl, rfl, gwX5, rfl, rfl, tyX5_ok, nmX5, rfl, by decide⟩
theorem ml_X8_65 : Cond.methodLink RX8 65 yJ9_max_7cf53 ∈ GW ∧ Cond.static yJ9_max_7cf53 ∈ GW := ⟨gw_in (i := 1063) (by decide +kernel) rfl, gw_in (i := 1064) (by decide +kernel) rfl⟩
theorem fl_X8_71 : FL RX8 71 7 7 7 15 .int false := ⟨RX8, TX8, rfl, by decide, gw_in (i := 502) (by decide +kernel) rfl, rfl, gwX8, rfl, rfl, tyX8_ok, nmX8, rfl, by decide⟩
theorem ml_X8_74 : Cond.methodLink RX8 74 yJ9_min_7cf53 ∈ GW ∧ Cond.static yJ9_min_7cf53 ∈ GW := ⟨gw_in (i := 1066) (by decide +kernel) rfl, gw_in (i := 969) (by decide +kernel) rfl⟩
theorem fl_X8_77 : FL RX8 77 7 8 8 15 .int false := ⟨RX8, TX8, rfl, by decide, gw_in (i := 503) (by decide +kernel) rfl, rfl, gwX8, rfl, rfl, tyX8_ok, nmX8, rfl, by decide⟩
theorem fl_X8_80 : FL RX8 80 0 0 0 7 .int false := ⟨RX0, TX0, rfl, by decide, gw_in (i := 403) (by decide +kernel) rfl, rfl, gwX0, rfl, rfl, tyX0_ok, nmX0, rfl, by decide⟩
theorem fl_X8_83 : FL RX8 83 5 7 7 9 (.object "LoadSpans$Floor") true := ⟨RX5, TX5, rfl, by decide, gw_in (i := 369) (by decide +kernel) rfl, rfl, gwX5, rfl, rfl, tyX5_ok, nmX5, rfl, by decide⟩
theorem fl_X8_87 : FL RX8 87 1 4 4 12 .int false := ⟨RX1, TX1, rfl, by decide, gw_in (i := 206) (by decide +kernel) rfl, rfl, gwX1, rfl, rfl, tyX1_ok, nmX1, rfl, by decide⟩
theorem ml_X8_92 : Cond.methodLink RX8 92 yX8_reckonMoments ∈ GW ∧ Cond.instanceMethod yX8_reckonMoments ∈ GW ∧ Cond.selects yX8_reckonMoments.cls yX8_reckonMoments yX8_reckonMoments ∈ GW := ⟨gw_in (i := 1067) (by decide +kernel) rfl, gw_in (i := 1069) (by decide +kernel) rfl, gw_in (i := 18) (by decide +kernel) rfl⟩
theorem ml_X8_95 : Cond.methodLink RX8 95 yX8_layFrom ∈ GW ∧ Cond.static yX8_layFrom ∈ GW := ⟨gw_in (i := 1077) (by decide +kernel) rfl, gw_in (i := 1078) (by decide +kernel) rfl⟩
theorem ml_X8_99 : Cond.methodLink RX8 99 yX8_upTo ∈ GW ∧ Cond.instanceMethod yX8_upTo ∈ GW ∧ Cond.selects yX8_upTo.cls yX8_upTo yX8_upTo ∈ GW := ⟨gw_in (i := 1091) (by decide +kernel) rfl, gw_in (i := 1093) (by decide +kernel) rfl, gw_in (i := 22) (by decide +kernel) rfl⟩
theorem kl_X8_103 : Cond.constant RX8 103 (-1000000000 : Int32) ∈ GW := gw_in (i := 1071) (by decide +kernel) rfl
theorem kl_X8_104 : Cond.constant RX8 104 (1000000000 : Int32) ∈ GW := gw_in (i := 1072) (by decide +kernel) rfl
theorem fl_X8_105 : FL RX8 105 5 8 8 9 (.object "LoadSpans$Voyage") true := ⟨RX5, TX5, rfl, by decide, gw_in (i := 374) (by decide +kernel) rfl, rfl, gwX5, rfl, rfl, tyX5_ok, nmX5, rfl, by decide⟩
theorem fl_X8_109 : FL RX8 109 9 5 5 12 .int false := ⟨RX10, TX10, rfl, by decide, gw_in (i := 278) (by decide +kernel) rfl, rfl, gwX10, rfl, rfl, tyX10_ok, nmX10, rfl, by decide⟩
theorem fl_X8_114 : FL RX8 114 9 11 11 12 (.array .int) true := ⟨RX10, TX10, rfl, by decide, gw_in (i := 294) (by decide +kernel) rfl, rfl, gwX10, rfl, rfl, tyX10_ok, nmX10, rfl, by decide⟩
theorem fl_X8_117 : FL RX8 117 9 9 9 12 (.array .int) true := ⟨RX10, TX10, rfl, by decide, gw_in (i := 288) (by decide +kernel) rfl, rfl, gwX10, rfl, rfl, tyX10_ok, nmX10, rfl, by decide⟩
theorem ml_X8_120 : Cond.methodLink RX8 120 yX8_weightBehind ∈ GW ∧ Cond.instanceMethod yX8_weightBehind ∈ GW ∧ Cond.selects yX8_weightBehind.cls yX8_weightBehind yX8_weightBehind ∈ GW := ⟨gw_in (i := 1073) (by decide +kernel) rfl, gw_in (i := 1075) (by decide +kernel) rfl, gw_in (i := 19) (by decide +kernel) rfl⟩
theorem fl_X8_123 : FL RX8 123 9 10 10 12 (.array .int) true := ⟨RX10, TX10, rfl, by decide, gw_in (i := 291) (by decide +kernel) rfl, rfl, gwX10, rfl, rfl, tyX10_ok, nmX10, rfl, by decide⟩
theorem fl_X8_126 : FL RX8 126 5 5 5 9 (.array .int) true := ⟨RX5, TX5, rfl, by decide, gw_in (i := 360) (by decide +kernel) rfl, rfl, gwX5, rfl, rfl, tyX5_ok, nmX5, rfl, by decide⟩
theorem fl_X8_129 : FL RX8 129 5 2 2 9 .int false := ⟨RX5, TX5, rfl, by decide, gw_in (i := 347) (by decide +kernel) rfl, rfl, gwX5, rfl, rfl, tyX5_ok, nmX5, rfl, by decide⟩
theorem fl_X8_132 : FL RX8 132 5 3 3 9 .int false := ⟨RX5, TX5, rfl, by decide, gw_in (i := 352) (by decide +kernel) rfl, rfl, gwX5, rfl, rfl, tyX5_ok, nmX5, rfl, by decide⟩
theorem fl_X8_135 : FL RX8 135 0 3 3 7 (.array .int) true := ⟨RX0, TX0, rfl, by decide, gw_in (i := 416) (by decide +kernel) rfl, rfl, gwX0, rfl, rfl, tyX0_ok, nmX0, rfl, by decide⟩
theorem fl_X8_138 : FL RX8 138 0 2 2 7 (.array .int) true := ⟨RX0, TX0, rfl, by decide, gw_in (i := 412) (by decide +kernel) rfl, rfl, gwX0, rfl, rfl, tyX0_ok, nmX0, rfl, by decide⟩
theorem ml_X8_141 : Cond.methodLink RX8 141 yX8_keepRow ∈ GW ∧ Cond.instanceMethod yX8_keepRow ∈ GW ∧ Cond.selects yX8_keepRow.cls yX8_keepRow yX8_keepRow ∈ GW := ⟨gw_in (i := 1080) (by decide +kernel) rfl, gw_in (i := 1082) (by decide +kernel) rfl, gw_in (i := 20) (by decide +kernel) rfl⟩
theorem ml_X8_144 : Cond.methodLink RX8 144 yX8_mayLie ∈ GW ∧ Cond.instanceMethod yX8_mayLie ∈ GW ∧ Cond.selects yX8_mayLie.cls yX8_mayLie yX8_mayLie ∈ GW := ⟨gw_in (i := 1095) (by decide +kernel) rfl, gw_in (i := 1097) (by decide +kernel) rfl, gw_in (i := 23) (by decide +kernel) rfl⟩
theorem ml_X8_148 : Cond.methodLink RX8 148 yX8_lay ∈ GW ∧ Cond.instanceMethod yX8_lay ∈ GW ∧ Cond.selects yX8_lay.cls yX8_lay yX8_lay ∈ GW := ⟨gw_in (i := 1100) (by decide +kernel) rfl, gw_in (i := 1102) (by decide +kernel) rfl, gw_in (i := 24) (by decide +kernel) rfl⟩
theorem fl_X8_152 : FL RX8 152 1 5 5 12 (.array .int) true := ⟨RX1, TX1, rfl, by decide, gw_in (i := 213) (by decide +kernel) rfl, rfl, gwX1, rfl, rfl, tyX1_ok, nmX1, rfl, by decide⟩
theorem fl_X8_155 : FL RX8 155 1 7 7 12 (.array .int) true := ⟨RX1, TX1, rfl, by decide, gw_in (i := 221) (by decide +kernel) rfl, rfl, gwX1, rfl, rfl, tyX1_ok, nmX1, rfl, by decide⟩
theorem fl_X8_158 : FL RX8 158 1 2 2 12 (.array .int) true := ⟨RX1, TX1, rfl, by decide, gw_in (i := 202) (by decide +kernel) rfl, rfl, gwX1, rfl, rfl, tyX1_ok, nmX1, rfl, by decide⟩
theorem fl_X8_161 : FL RX8 161 1 9 9 12 .int false := ⟨RX1, TX1, rfl, by decide, gw_in (i := 228) (by decide +kernel) rfl, rfl, gwX1, rfl, rfl, tyX1_ok, nmX1, rfl, by decide⟩
theorem fl_X8_164 : FL RX8 164 1 10 10 12 (.array .int) true := ⟨RX1, TX1, rfl, by decide, gw_in (i := 231) (by decide +kernel) rfl, rfl, gwX1, rfl, rfl, tyX1_ok, nmX1, rfl, by decide⟩
theorem fl_X8_167 : FL RX8 167 1 11 11 12 (.array .int) true := ⟨RX1, TX1, rfl, by decide, gw_in (i := 234) (by decide +kernel) rfl, rfl, gwX1, rfl, rfl, tyX1_ok, nmX1, rfl, by decide⟩
theorem ml_X8_170 : Cond.methodLink RX8 170 yX1_isOnWay ∈ GW ∧ Cond.instanceMethod yX1_isOnWay ∈ GW ∧ Cond.selects yX1_isOnWay.cls yX1_isOnWay yX1_isOnWay ∈ GW := ⟨gw_in (i := 1099) (by decide +kernel) rfl, gw_in (i := 1021) (by decide +kernel) rfl, gw_in (i := 1022) (by decide +kernel) rfl⟩
theorem fl_X8_173 : FL RX8 173 1 6 6 12 (.array .int) true := ⟨RX1, TX1, rfl, by decide, gw_in (i := 217) (by decide +kernel) rfl, rfl, gwX1, rfl, rfl, tyX1_ok, nmX1, rfl, by decide⟩
theorem fl_X8_176 : FL RX8 176 9 8 8 12 .int false := ⟨RX10, TX10, rfl, by decide, gw_in (i := 286) (by decide +kernel) rfl, rfl, gwX10, rfl, rfl, tyX10_ok, nmX10, rfl, by decide⟩
theorem ml_X8_179 : Cond.methodLink RX8 179 yJ9_floorDiv_7cf53 ∈ GW ∧ Cond.static yJ9_floorDiv_7cf53 ∈ GW := ⟨gw_in (i := 1084) (by decide +kernel) rfl, gw_in (i := 1085) (by decide +kernel) rfl⟩
theorem ml_X8_182 : Cond.methodLink RX8 182 yX8_packedPlaces ∈ GW ∧ Cond.instanceMethod yX8_packedPlaces ∈ GW ∧ Cond.selects yX8_packedPlaces.cls yX8_packedPlaces yX8_packedPlaces ∈ GW := ⟨gw_in (i := 1087) (by decide +kernel) rfl, gw_in (i := 1089) (by decide +kernel) rfl, gw_in (i := 21) (by decide +kernel) rfl⟩
theorem ml_X9_3 : Cond.methodLink RX9 3 objectInit ∈ GW ∧ Cond.instanceMethod objectInit ∈ GW ∧ Cond.code objectInit ⟨#[0xb1]⟩ 1 none ∈ GW := ⟨gw_in (i := 139) (by decide +kernel) rfl, gw_in (i := 126) (by decide +kernel) rfl, gw_in (i := 127) (by decide +kernel) rfl⟩
theorem fl_X9_9 : FL RX9 9 8 0 0 7 (.array .int) true := ⟨RX9, TX9, rfl, by decide, gw_in (i := 140) (by decide +kernel) rfl, rfl, gwX9, rfl, rfl, tyX9_ok, nmX9, rfl, by decide⟩
theorem fl_X9_15 : FL RX9 15 8 1 1 7 .int false := ⟨RX9, TX9, rfl, by decide, gw_in (i := 141) (by decide +kernel) rfl, rfl, gwX9, rfl, rfl, tyX9_ok, nmX9, rfl, by decide⟩
theorem fl_X9_19 : FL RX9 19 8 5 5 7 .int false := ⟨RX9, TX9, rfl, by decide, gw_in (i := 151) (by decide +kernel) rfl, rfl, gwX9, rfl, rfl, tyX9_ok, nmX9, rfl, by decide⟩
theorem fl_X9_22 : FL RX9 22 8 6 6 7 .int false := ⟨RX9, TX9, rfl, by decide, gw_in (i := 152) (by decide +kernel) rfl, rfl, gwX9, rfl, rfl, tyX9_ok, nmX9, rfl, by decide⟩
theorem fl_X9_25 : FL RX9 25 8 4 4 7 .int false := ⟨RX9, TX9, rfl, by decide, gw_in (i := 149) (by decide +kernel) rfl, rfl, gwX9, rfl, rfl, tyX9_ok, nmX9, rfl, by decide⟩
theorem fl_X9_28 : FL RX9 28 8 2 2 7 .int false := ⟨RX9, TX9, rfl, by decide, gw_in (i := 144) (by decide +kernel) rfl, rfl, gwX9, rfl, rfl, tyX9_ok, nmX9, rfl, by decide⟩
theorem fl_X9_31 : FL RX9 31 8 3 3 7 .int false := ⟨RX9, TX9, rfl, by decide, gw_in (i := 147) (by decide +kernel) rfl, rfl, gwX9, rfl, rfl, tyX9_ok, nmX9, rfl, by decide⟩
theorem ml_X9_34 : Cond.methodLink RX9 34 yX9_fail ∈ GW ∧ Cond.instanceMethod yX9_fail ∈ GW ∧ Cond.selects yX9_fail.cls yX9_fail yX9_fail ∈ GW := ⟨gw_in (i := 637) (by decide +kernel) rfl, gw_in (i := 638) (by decide +kernel) rfl, gw_in (i := 639) (by decide +kernel) rfl⟩
theorem ml_X9_38 : Cond.methodLink RX9 38 yX9_isLetter ∈ GW ∧ Cond.static yX9_isLetter ∈ GW := ⟨gw_in (i := 649) (by decide +kernel) rfl, gw_in (i := 650) (by decide +kernel) rfl⟩
theorem ml_X9_42 : Cond.methodLink RX9 42 yX9_isDigit ∈ GW ∧ Cond.static yX9_isDigit ∈ GW := ⟨gw_in (i := 652) (by decide +kernel) rfl, gw_in (i := 653) (by decide +kernel) rfl⟩
theorem ml_X9_45 : Cond.methodLink RX9 45 yX9_kindOf ∈ GW ∧ Cond.static yX9_kindOf ∈ GW := ⟨gw_in (i := 655) (by decide +kernel) rfl, gw_in (i := 656) (by decide +kernel) rfl⟩
theorem ml_X9_49 : Cond.methodLink RX9 49 yX9_next ∈ GW ∧ Cond.instanceMethod yX9_next ∈ GW ∧ Cond.selects yX9_next.cls yX9_next yX9_next ∈ GW := ⟨gw_in (i := 720) (by decide +kernel) rfl, gw_in (i := 646) (by decide +kernel) rfl, gw_in (i := 647) (by decide +kernel) rfl⟩
theorem ml_X9_52 : Cond.methodLink RX9 52 yX9_isQuoted ∈ GW ∧ Cond.instanceMethod yX9_isQuoted ∈ GW ∧ Cond.selects yX9_isQuoted.cls yX9_isQuoted yX9_isQuoted ∈ GW := ⟨gw_in (i := 739) (by decide +kernel) rfl, gw_in (i := 741) (by decide +kernel) rfl, gw_in (i := 5) (by decide +kernel) rfl⟩
theorem ml_X9_56 : Cond.methodLink RX9 56 yX9_packed ∈ GW ∧ Cond.instanceMethod yX9_packed ∈ GW ∧ Cond.selects yX9_packed.cls yX9_packed yX9_packed ∈ GW := ⟨gw_in (i := 757) (by decide +kernel) rfl, gw_in (i := 758) (by decide +kernel) rfl, gw_in (i := 759) (by decide +kernel) rfl⟩
theorem ml_X9_60 : Cond.methodLink RX9 60 yJ0_length_8abf5 ∈ GW ∧ Cond.instanceMethod yJ0_length_8abf5 ∈ GW ∧ Cond.selects yJ0_length_8abf5.cls yJ0_length_8abf5 yJ0_length_8abf5 ∈ GW := ⟨gw_in (i := 663) (by decide +kernel) rfl, gw_in (i := 664) (by decide +kernel) rfl, gw_in (i := 665) (by decide +kernel) rfl⟩
theorem ml_X9_65 : Cond.methodLink RX9 65 yJ0_charAt_5068e ∈ GW ∧ Cond.instanceMethod yJ0_charAt_5068e ∈ GW ∧ Cond.selects yJ0_charAt_5068e.cls yJ0_charAt_5068e yJ0_charAt_5068e ∈ GW := ⟨gw_in (i := 673) (by decide +kernel) rfl, gw_in (i := 674) (by decide +kernel) rfl, gw_in (i := 675) (by decide +kernel) rfl⟩
theorem ml_X9_71 : Cond.methodLink RX9 71 yX9_tells ∈ GW ∧ Cond.instanceMethod yX9_tells ∈ GW ∧ Cond.selects yX9_tells.cls yX9_tells yX9_tells ∈ GW := ⟨gw_in (i := 744) (by decide +kernel) rfl, gw_in (i := 660) (by decide +kernel) rfl, gw_in (i := 661) (by decide +kernel) rfl⟩
theorem ml_X10_3 : Cond.methodLink RX10 3 objectInit ∈ GW ∧ Cond.instanceMethod objectInit ∈ GW ∧ Cond.code objectInit ⟨#[0xb1]⟩ 1 none ∈ GW := ⟨gw_in (i := 267) (by decide +kernel) rfl, gw_in (i := 126) (by decide +kernel) rfl, gw_in (i := 127) (by decide +kernel) rfl⟩
theorem fl_X10_9 : FL RX10 9 9 1 1 12 (.array .long) true := ⟨RX10, TX10, rfl, by decide, gw_in (i := 271) (by decide +kernel) rfl, rfl, gwX10, rfl, rfl, tyX10_ok, nmX10, rfl, by decide⟩
theorem fl_X10_15 : FL RX10 15 9 2 2 12 (.array .int) true := ⟨RX10, TX10, rfl, by decide, gw_in (i := 272) (by decide +kernel) rfl, rfl, gwX10, rfl, rfl, tyX10_ok, nmX10, rfl, by decide⟩
theorem fl_X10_19 : FL RX10 19 9 3 3 12 (.array .int) true := ⟨RX10, TX10, rfl, by decide, gw_in (i := 273) (by decide +kernel) rfl, rfl, gwX10, rfl, rfl, tyX10_ok, nmX10, rfl, by decide⟩
theorem fl_X10_22 : FL RX10 22 9 4 4 12 (.array .int) true := ⟨RX10, TX10, rfl, by decide, gw_in (i := 275) (by decide +kernel) rfl, rfl, gwX10, rfl, rfl, tyX10_ok, nmX10, rfl, by decide⟩
theorem fl_X10_25 : FL RX10 25 9 6 6 12 (.array .int) true := ⟨RX10, TX10, rfl, by decide, gw_in (i := 281) (by decide +kernel) rfl, rfl, gwX10, rfl, rfl, tyX10_ok, nmX10, rfl, by decide⟩
theorem fl_X10_28 : FL RX10 28 9 7 7 12 (.array .int) true := ⟨RX10, TX10, rfl, by decide, gw_in (i := 282) (by decide +kernel) rfl, rfl, gwX10, rfl, rfl, tyX10_ok, nmX10, rfl, by decide⟩
theorem fl_X10_31 : FL RX10 31 9 9 9 12 (.array .int) true := ⟨RX10, TX10, rfl, by decide, gw_in (i := 287) (by decide +kernel) rfl, rfl, gwX10, rfl, rfl, tyX10_ok, nmX10, rfl, by decide⟩
theorem fl_X10_34 : FL RX10 34 9 10 10 12 (.array .int) true := ⟨RX10, TX10, rfl, by decide, gw_in (i := 290) (by decide +kernel) rfl, rfl, gwX10, rfl, rfl, tyX10_ok, nmX10, rfl, by decide⟩
theorem fl_X10_37 : FL RX10 37 9 11 11 12 (.array .int) true := ⟨RX10, TX10, rfl, by decide, gw_in (i := 293) (by decide +kernel) rfl, rfl, gwX10, rfl, rfl, tyX10_ok, nmX10, rfl, by decide⟩
theorem fl_X10_40 : FL RX10 40 9 0 0 12 .int false := ⟨RX10, TX10, rfl, by decide, gw_in (i := 268) (by decide +kernel) rfl, rfl, gwX10, rfl, rfl, tyX10_ok, nmX10, rfl, by decide⟩
theorem fl_X10_44 : FL RX10 44 9 5 5 12 .int false := ⟨RX10, TX10, rfl, by decide, gw_in (i := 276) (by decide +kernel) rfl, rfl, gwX10, rfl, rfl, tyX10_ok, nmX10, rfl, by decide⟩
theorem fl_X10_47 : FL RX10 47 9 8 8 12 .int false := ⟨RX10, TX10, rfl, by decide, gw_in (i := 283) (by decide +kernel) rfl, rfl, gwX10, rfl, rfl, tyX10_ok, nmX10, rfl, by decide⟩
theorem ml_X10_50 : CopyL RX10 50 := ⟨gw_in (i := 1288) (by decide +kernel) rfl, gw_in (i := 967) (by decide +kernel) rfl, gw_in (i := 966) (by decide +kernel) rfl, gw_in (i := 118) (by decide +kernel) rfl⟩
theorem ml_X10_56 : Cond.methodLink RX10 56 yX10_hasTank ∈ GW ∧ Cond.instanceMethod yX10_hasTank ∈ GW ∧ Cond.selects yX10_hasTank.cls yX10_hasTank yX10_hasTank ∈ GW := ⟨gw_in (i := 337) (by decide +kernel) rfl, gw_in (i := 338) (by decide +kernel) rfl, gw_in (i := 339) (by decide +kernel) rfl⟩
theorem ml_X11_1 : Cond.methodLink RX11 1 objectInit ∈ GW ∧ Cond.instanceMethod objectInit ∈ GW ∧ Cond.code objectInit ⟨#[0xb1]⟩ 1 none ∈ GW := ⟨gw_in (i := 125) (by decide +kernel) rfl, gw_in (i := 126) (by decide +kernel) rfl, gw_in (i := 127) (by decide +kernel) rfl⟩
theorem nl_X11_7 : NL RX11 7 6 4 := ⟨RX6, TX6, rfl, gw_in (i := 128) (by decide +kernel) rfl, gw_in (i := 129) (by decide +kernel) rfl, gw_in (i := 102) (by decide +kernel) rfl, gwX6, tyX6_ok, dfX6, by decide⟩
theorem ml_X11_9 : (RX11, 9, yX6_init, "LoadSpans") ∈ nestL := by decide +kernel
theorem mi_X11_9 : Cond.instanceMethod yX6_init ∈ GW ∧ yX6_init.name = "<init>" := ⟨gw_in (i := 131) (by decide +kernel) rfl, rfl⟩
theorem fl_X11_10 : FL RX11 10 10 0 0 11 (.object "LoadSpans$Reader") true := ⟨RX11, TX11, rfl, by decide, gw_in (i := 578) (by decide +kernel) rfl, rfl, gwX11, rfl, rfl, tyX11_ok, nmX11, rfl, by decide⟩
theorem nl_X11_16 : NL RX11 16 5 9 := ⟨RX5, TX5, rfl, gw_in (i := 183) (by decide +kernel) rfl, gw_in (i := 184) (by decide +kernel) rfl, gw_in (i := 104) (by decide +kernel) rfl, gwX5, tyX5_ok, dfX5, by decide⟩
theorem ml_X11_18 : Cond.methodLink RX11 18 yX5_init ∈ GW ∧ Cond.instanceMethod yX5_init ∈ GW ∧ yX5_init.name = "<init>" := ⟨gw_in (i := 185) (by decide +kernel) rfl, gw_in (i := 186) (by decide +kernel) rfl, rfl⟩
theorem fl_X11_19 : FL RX11 19 10 2 2 11 (.object "LoadSpans$Plane") false := ⟨RX11, TX11, rfl, by decide, gw_in (i := 580) (by decide +kernel) rfl, rfl, gwX11, rfl, rfl, tyX11_ok, nmX11, rfl, by decide⟩
theorem fl_X11_23 : FL RX11 23 10 3 3 11 (.object "LoadSpans$Plane") false := ⟨RX11, TX11, rfl, by decide, gw_in (i := 581) (by decide +kernel) rfl, rfl, gwX11, rfl, rfl, tyX11_ok, nmX11, rfl, by decide⟩
theorem nl_X11_26 : NL RX11 26 0 7 := ⟨RX0, TX0, rfl, gw_in (i := 395) (by decide +kernel) rfl, gw_in (i := 396) (by decide +kernel) rfl, gw_in (i := 107) (by decide +kernel) rfl, gwX0, tyX0_ok, dfX0, by decide⟩
theorem ml_X11_28 : (RX11, 28, yX0_init, "LoadSpans") ∈ nestL := by decide +kernel
theorem mi_X11_28 : Cond.instanceMethod yX0_init ∈ GW ∧ yX0_init.name = "<init>" := ⟨gw_in (i := 398) (by decide +kernel) rfl, rfl⟩
theorem fl_X11_29 : FL RX11 29 10 4 4 11 (.object "LoadSpans$Cargo") false := ⟨RX11, TX11, rfl, by decide, gw_in (i := 582) (by decide +kernel) rfl, rfl, gwX11, rfl, rfl, tyX11_ok, nmX11, rfl, by decide⟩
theorem fl_X11_33 : FL RX11 33 10 5 5 11 (.object "LoadSpans$Cargo") false := ⟨RX11, TX11, rfl, by decide, gw_in (i := 583) (by decide +kernel) rfl, rfl, gwX11, rfl, rfl, tyX11_ok, nmX11, rfl, by decide⟩
theorem nl_X11_36 : NL RX11 36 2 3 := ⟨RX2, TX2, rfl, gw_in (i := 446) (by decide +kernel) rfl, gw_in (i := 447) (by decide +kernel) rfl, gw_in (i := 108) (by decide +kernel) rfl, gwX2, tyX2_ok, dfX2, by decide⟩
theorem ml_X11_38 : Cond.methodLink RX11 38 yX2_init ∈ GW ∧ Cond.instanceMethod yX2_init ∈ GW ∧ yX2_init.name = "<init>" := ⟨gw_in (i := 448) (by decide +kernel) rfl, gw_in (i := 449) (by decide +kernel) rfl, rfl⟩
theorem fl_X11_39 : FL RX11 39 10 6 6 11 (.object "LoadSpans$History") true := ⟨RX11, TX11, rfl, by decide, gw_in (i := 584) (by decide +kernel) rfl, rfl, gwX11, rfl, rfl, tyX11_ok, nmX11, rfl, by decide⟩
theorem nl_X11_43 : NL RX11 43 3 3 := ⟨RX3, TX3, rfl, gw_in (i := 466) (by decide +kernel) rfl, gw_in (i := 467) (by decide +kernel) rfl, gw_in (i := 109) (by decide +kernel) rfl, gwX3, tyX3_ok, dfX3, by decide⟩
theorem ml_X11_45 : (RX11, 45, yX3_init, "LoadSpans") ∈ nestL := by decide +kernel
theorem mi_X11_45 : Cond.instanceMethod yX3_init ∈ GW ∧ yX3_init.name = "<init>" := ⟨gw_in (i := 469) (by decide +kernel) rfl, rfl⟩
theorem fl_X11_46 : FL RX11 46 10 7 7 11 (.object "LoadSpans$Image") true := ⟨RX11, TX11, rfl, by decide, gw_in (i := 585) (by decide +kernel) rfl, rfl, gwX11, rfl, rfl, tyX11_ok, nmX11, rfl, by decide⟩
theorem fl_X11_50 : FL RX11 50 10 8 8 11 (.object "LoadSpans$Image") true := ⟨RX11, TX11, rfl, by decide, gw_in (i := 586) (by decide +kernel) rfl, rfl, gwX11, rfl, rfl, tyX11_ok, nmX11, rfl, by decide⟩
theorem nl_X11_53 : NL RX11 53 7 15 := ⟨RX8, TX8, rfl, gw_in (i := 488) (by decide +kernel) rfl, gw_in (i := 489) (by decide +kernel) rfl, gw_in (i := 110) (by decide +kernel) rfl, gwX8, tyX8_ok, dfX8, by decide⟩
theorem ml_X11_55 : (RX11, 55, yX8_init, "LoadSpans") ∈ nestL := by decide +kernel
theorem mi_X11_55 : Cond.instanceMethod yX8_init ∈ GW ∧ yX8_init.name = "<init>" := ⟨gw_in (i := 491) (by decide +kernel) rfl, rfl⟩
theorem fl_X11_56 : FL RX11 56 10 9 9 11 (.object "LoadSpans$Table") true := ⟨RX11, TX11, rfl, by decide, gw_in (i := 587) (by decide +kernel) rfl, rfl, gwX11, rfl, rfl, tyX11_ok, nmX11, rfl, by decide⟩
theorem nl_X11_60 : NL RX11 60 4 10 := ⟨RX4, TX4, rfl, gw_in (i := 541) (by decide +kernel) rfl, gw_in (i := 542) (by decide +kernel) rfl, gw_in (i := 111) (by decide +kernel) rfl, gwX4, tyX4_ok, dfX4, by decide⟩
theorem ml_X11_62 : (RX11, 62, yX4_init, "LoadSpans") ∈ nestL := by decide +kernel
theorem mi_X11_62 : Cond.instanceMethod yX4_init ∈ GW ∧ yX4_init.name = "<init>" := ⟨gw_in (i := 544) (by decide +kernel) rfl, rfl⟩
theorem fl_X11_63 : FL RX11 63 10 10 10 11 (.object "LoadSpans$Mender") true := ⟨RX11, TX11, rfl, by decide, gw_in (i := 588) (by decide +kernel) rfl, rfl, gwX11, rfl, rfl, tyX11_ok, nmX11, rfl, by decide⟩
theorem fl_X11_67 : FL RX11 67 6 0 0 4 (.object "LoadSpans$Tokens") true := ⟨RX6, TX6, rfl, by decide, gw_in (i := 170) (by decide +kernel) rfl, rfl, gwX6, rfl, rfl, tyX6_ok, nmX6, rfl, by decide⟩
theorem fl_X11_71 : FL RX11 71 8 1 1 7 .int false := ⟨RX9, TX9, rfl, by decide, gw_in (i := 142) (by decide +kernel) rfl, rfl, gwX9, rfl, rfl, tyX9_ok, nmX9, rfl, by decide⟩
theorem ml_X11_77 : Cond.methodLink RX11 77 yX9_addBytes ∈ GW ∧ Cond.instanceMethod yX9_addBytes ∈ GW ∧ Cond.selects yX9_addBytes.cls yX9_addBytes yX9_addBytes ∈ GW := ⟨gw_in (i := 616) (by decide +kernel) rfl, gw_in (i := 617) (by decide +kernel) rfl, gw_in (i := 618) (by decide +kernel) rfl⟩
theorem ml_X11_81 : Cond.methodLink RX11 81 yX6_readPlane ∈ GW ∧ Cond.instanceMethod yX6_readPlane ∈ GW ∧ Cond.selects yX6_readPlane.cls yX6_readPlane yX6_readPlane ∈ GW := ⟨gw_in (i := 628) (by decide +kernel) rfl, gw_in (i := 629) (by decide +kernel) rfl, gw_in (i := 630) (by decide +kernel) rfl⟩
theorem fl_X11_85 : FL RX11 85 8 2 2 7 .int false := ⟨RX9, TX9, rfl, by decide, gw_in (i := 146) (by decide +kernel) rfl, rfl, gwX9, rfl, rfl, tyX9_ok, nmX9, rfl, by decide⟩
theorem fl_X11_88 : FL RX11 88 10 1 1 11 .int false := ⟨RX11, TX11, rfl, by decide, gw_in (i := 579) (by decide +kernel) rfl, rfl, gwX11, rfl, rfl, tyX11_ok, nmX11, rfl, by decide⟩
theorem fl_X11_91 : FL RX11 91 8 3 3 7 .int false := ⟨RX9, TX9, rfl, by decide, gw_in (i := 148) (by decide +kernel) rfl, rfl, gwX9, rfl, rfl, tyX9_ok, nmX9, rfl, by decide⟩
theorem ml_X11_94 : Cond.methodLink RX11 94 yX11_startAnew ∈ GW ∧ Cond.instanceMethod yX11_startAnew ∈ GW ∧ Cond.selects yX11_startAnew.cls yX11_startAnew yX11_startAnew ∈ GW := ⟨gw_in (i := 850) (by decide +kernel) rfl, gw_in (i := 852) (by decide +kernel) rfl, gw_in (i := 13) (by decide +kernel) rfl⟩
theorem fl_X11_97 : FL RX11 97 5 7 7 9 (.object "LoadSpans$Floor") true := ⟨RX5, TX5, rfl, by decide, gw_in (i := 370) (by decide +kernel) rfl, rfl, gwX5, rfl, rfl, tyX5_ok, nmX5, rfl, by decide⟩
theorem fl_X11_101 : FL RX11 101 1 4 4 12 .int false := ⟨RX1, TX1, rfl, by decide, gw_in (i := 207) (by decide +kernel) rfl, rfl, gwX1, rfl, rfl, tyX1_ok, nmX1, rfl, by decide⟩
theorem ml_X11_106 : Cond.methodLink RX11 106 yX6_readCargo ∈ GW ∧ Cond.instanceMethod yX6_readCargo ∈ GW ∧ Cond.selects yX6_readCargo.cls yX6_readCargo yX6_readCargo ∈ GW := ⟨gw_in (i := 867) (by decide +kernel) rfl, gw_in (i := 868) (by decide +kernel) rfl, gw_in (i := 869) (by decide +kernel) rfl⟩
theorem fl_X11_110 : FL RX11 110 0 0 0 7 .int false := ⟨RX0, TX0, rfl, by decide, gw_in (i := 405) (by decide +kernel) rfl, rfl, gwX0, rfl, rfl, tyX0_ok, nmX0, rfl, by decide⟩
theorem fl_X11_113 : FL RX11 113 1 0 0 12 .int false := ⟨RX1, TX1, rfl, by decide, gw_in (i := 198) (by decide +kernel) rfl, rfl, gwX1, rfl, rfl, tyX1_ok, nmX1, rfl, by decide⟩
theorem fl_X11_116 : FL RX11 116 1 9 9 12 .int false := ⟨RX1, TX1, rfl, by decide, gw_in (i := 227) (by decide +kernel) rfl, rfl, gwX1, rfl, rfl, tyX1_ok, nmX1, rfl, by decide⟩
theorem fl_X11_119 : FL RX11 119 5 4 4 9 .int false := ⟨RX5, TX5, rfl, by decide, gw_in (i := 356) (by decide +kernel) rfl, rfl, gwX5, rfl, rfl, tyX5_ok, nmX5, rfl, by decide⟩
theorem fl_X11_122 : FL RX11 122 5 8 8 9 (.object "LoadSpans$Voyage") true := ⟨RX5, TX5, rfl, by decide, gw_in (i := 373) (by decide +kernel) rfl, rfl, gwX5, rfl, rfl, tyX5_ok, nmX5, rfl, by decide⟩
theorem fl_X11_126 : FL RX11 126 9 0 0 12 .int false := ⟨RX10, TX10, rfl, by decide, gw_in (i := 269) (by decide +kernel) rfl, rfl, gwX10, rfl, rfl, tyX10_ok, nmX10, rfl, by decide⟩
theorem fl_X11_131 : FL RX11 131 9 5 5 12 .int false := ⟨RX10, TX10, rfl, by decide, gw_in (i := 277) (by decide +kernel) rfl, rfl, gwX10, rfl, rfl, tyX10_ok, nmX10, rfl, by decide⟩
theorem fl_X11_134 : FL RX11 134 9 8 8 12 .int false := ⟨RX10, TX10, rfl, by decide, gw_in (i := 284) (by decide +kernel) rfl, rfl, gwX10, rfl, rfl, tyX10_ok, nmX10, rfl, by decide⟩
theorem fl_X11_137 : FL RX11 137 0 5 5 7 .int false := ⟨RX0, TX0, rfl, by decide, gw_in (i := 425) (by decide +kernel) rfl, rfl, gwX0, rfl, rfl, tyX0_ok, nmX0, rfl, by decide⟩
theorem ml_X11_140 : Cond.methodLink RX11 140 yX0_outCount ∈ GW ∧ Cond.instanceMethod yX0_outCount ∈ GW ∧ Cond.selects yX0_outCount.cls yX0_outCount yX0_outCount ∈ GW := ⟨gw_in (i := 906) (by decide +kernel) rfl, gw_in (i := 907) (by decide +kernel) rfl, gw_in (i := 908) (by decide +kernel) rfl⟩
theorem ml_X11_144 : Cond.methodLink RX11 144 yX0_has ∈ GW ∧ Cond.instanceMethod yX0_has ∈ GW ∧ Cond.selects yX0_has.cls yX0_has yX0_has ∈ GW := ⟨gw_in (i := 914) (by decide +kernel) rfl, gw_in (i := 915) (by decide +kernel) rfl, gw_in (i := 916) (by decide +kernel) rfl⟩
theorem fl_X11_148 : FL RX11 148 0 2 2 7 (.array .int) true := ⟨RX0, TX0, rfl, by decide, gw_in (i := 411) (by decide +kernel) rfl, rfl, gwX0, rfl, rfl, tyX0_ok, nmX0, rfl, by decide⟩
theorem fl_X11_152 : FL RX11 152 0 3 3 7 (.array .int) true := ⟨RX0, TX0, rfl, by decide, gw_in (i := 414) (by decide +kernel) rfl, rfl, gwX0, rfl, rfl, tyX0_ok, nmX0, rfl, by decide⟩
theorem fl_X11_155 : FL RX11 155 0 4 4 7 (.array .int) true := ⟨RX0, TX0, rfl, by decide, gw_in (i := 420) (by decide +kernel) rfl, rfl, gwX0, rfl, rfl, tyX0_ok, nmX0, rfl, by decide⟩
theorem fl_X11_158 : FL RX11 158 0 1 1 7 (.array .long) true := ⟨RX0, TX0, rfl, by decide, gw_in (i := 408) (by decide +kernel) rfl, rfl, gwX0, rfl, rfl, tyX0_ok, nmX0, rfl, by decide⟩
theorem ml_X11_162 : Cond.methodLink RX11 162 yX9_lettersOf ∈ GW ∧ Cond.static yX9_lettersOf ∈ GW := ⟨gw_in (i := 918) (by decide +kernel) rfl, gw_in (i := 919) (by decide +kernel) rfl⟩
theorem ml_X11_166 : Cond.methodLink RX11 166 yX9_packed ∈ GW ∧ Cond.instanceMethod yX9_packed ∈ GW ∧ Cond.selects yX9_packed.cls yX9_packed yX9_packed ∈ GW := ⟨gw_in (i := 925) (by decide +kernel) rfl, gw_in (i := 758) (by decide +kernel) rfl, gw_in (i := 759) (by decide +kernel) rfl⟩
theorem ml_X11_170 : Cond.methodLink RX11 170 yX0_called ∈ GW ∧ Cond.instanceMethod yX0_called ∈ GW ∧ Cond.selects yX0_called.cls yX0_called yX0_called ∈ GW := ⟨gw_in (i := 926) (by decide +kernel) rfl, gw_in (i := 882) (by decide +kernel) rfl, gw_in (i := 883) (by decide +kernel) rfl⟩
theorem ml_X11_173 : Cond.methodLink RX11 173 yX1_hasSpot ∈ GW ∧ Cond.instanceMethod yX1_hasSpot ∈ GW ∧ Cond.selects yX1_hasSpot.cls yX1_hasSpot yX1_hasSpot ∈ GW := ⟨gw_in (i := 931) (by decide +kernel) rfl, gw_in (i := 932) (by decide +kernel) rfl, gw_in (i := 933) (by decide +kernel) rfl⟩
theorem fl_X11_176 : FL RX11 176 1 5 5 12 (.array .int) true := ⟨RX1, TX1, rfl, by decide, gw_in (i := 212) (by decide +kernel) rfl, rfl, gwX1, rfl, rfl, tyX1_ok, nmX1, rfl, by decide⟩
theorem fl_X11_179 : FL RX11 179 1 6 6 12 (.array .int) true := ⟨RX1, TX1, rfl, by decide, gw_in (i := 215) (by decide +kernel) rfl, rfl, gwX1, rfl, rfl, tyX1_ok, nmX1, rfl, by decide⟩
theorem fl_X11_182 : FL RX11 182 1 7 7 12 (.array .int) true := ⟨RX1, TX1, rfl, by decide, gw_in (i := 220) (by decide +kernel) rfl, rfl, gwX1, rfl, rfl, tyX1_ok, nmX1, rfl, by decide⟩
theorem ml_X11_185 : Cond.methodLink RX11 185 yX0_lyingOn ∈ GW ∧ Cond.instanceMethod yX0_lyingOn ∈ GW ∧ Cond.selects yX0_lyingOn.cls yX0_lyingOn yX0_lyingOn ∈ GW := ⟨gw_in (i := 935) (by decide +kernel) rfl, gw_in (i := 936) (by decide +kernel) rfl, gw_in (i := 937) (by decide +kernel) rfl⟩
theorem fl_X11_189 : FL RX11 189 1 8 8 12 (.array .int) true := ⟨RX1, TX1, rfl, by decide, gw_in (i := 223) (by decide +kernel) rfl, rfl, gwX1, rfl, rfl, tyX1_ok, nmX1, rfl, by decide⟩
theorem ml_X11_192 : Cond.methodLink RX11 192 yX5_hasBin ∈ GW ∧ Cond.instanceMethod yX5_hasBin ∈ GW ∧ Cond.selects yX5_hasBin.cls yX5_hasBin yX5_hasBin ∈ GW := ⟨gw_in (i := 943) (by decide +kernel) rfl, gw_in (i := 944) (by decide +kernel) rfl, gw_in (i := 945) (by decide +kernel) rfl⟩
theorem fl_X11_195 : FL RX11 195 0 6 6 7 (.array .int) true := ⟨RX0, TX0, rfl, by decide, gw_in (i := 429) (by decide +kernel) rfl, rfl, gwX0, rfl, rfl, tyX0_ok, nmX0, rfl, by decide⟩
theorem ml_X11_198 : Cond.methodLink RX11 198 yX10_hasTank ∈ GW ∧ Cond.instanceMethod yX10_hasTank ∈ GW ∧ Cond.selects yX10_hasTank.cls yX10_hasTank yX10_hasTank ∈ GW := ⟨gw_in (i := 947) (by decide +kernel) rfl, gw_in (i := 338) (by decide +kernel) rfl, gw_in (i := 339) (by decide +kernel) rfl⟩
theorem fl_X11_201 : FL RX11 201 9 3 3 12 (.array .int) true := ⟨RX10, TX10, rfl, by decide, gw_in (i := 274) (by decide +kernel) rfl, rfl, gwX10, rfl, rfl, tyX10_ok, nmX10, rfl, by decide⟩
theorem ml_X11_204 : Cond.methodLink RX11 204 yX1_hasHold ∈ GW ∧ Cond.instanceMethod yX1_hasHold ∈ GW ∧ Cond.selects yX1_hasHold.cls yX1_hasHold yX1_hasHold ∈ GW := ⟨gw_in (i := 948) (by decide +kernel) rfl, gw_in (i := 789) (by decide +kernel) rfl, gw_in (i := 790) (by decide +kernel) rfl⟩
theorem ml_X11_207 : Cond.methodLink RX11 207 yX7_loadOfHold ∈ GW ∧ Cond.static yX7_loadOfHold ∈ GW := ⟨gw_in (i := 949) (by decide +kernel) rfl, gw_in (i := 950) (by decide +kernel) rfl⟩
theorem ml_X11_213 : Cond.methodLink RX11 213 yX2_keep ∈ GW ∧ Cond.instanceMethod yX2_keep ∈ GW ∧ Cond.selects yX2_keep.cls yX2_keep yX2_keep ∈ GW := ⟨gw_in (i := 957) (by decide +kernel) rfl, gw_in (i := 958) (by decide +kernel) rfl, gw_in (i := 959) (by decide +kernel) rfl⟩
theorem fl_X11_216 : FL RX11 216 5 6 6 9 (.array .int) true := ⟨RX5, TX5, rfl, by decide, gw_in (i := 364) (by decide +kernel) rfl, rfl, gwX5, rfl, rfl, tyX5_ok, nmX5, rfl, by decide⟩
theorem ml_X11_219 : Cond.methodLink RX11 219 yX7_firstBroken ∈ GW ∧ Cond.static yX7_firstBroken ∈ GW := ⟨gw_in (i := 983) (by decide +kernel) rfl, gw_in (i := 984) (by decide +kernel) rfl⟩
theorem ml_X11_223 : Cond.methodLink RX11 223 yX7_brokenAt ∈ GW ∧ Cond.static yX7_brokenAt ∈ GW := ⟨gw_in (i := 1038) (by decide +kernel) rfl, gw_in (i := 987) (by decide +kernel) rfl⟩
theorem kl_X11_227 : Cond.constant RX11 227 (-1000000 : Int32) ∈ GW := gw_in (i := 1043) (by decide +kernel) rfl
theorem ml_X11_228 : Cond.methodLink RX11 228 yX7_weightAt ∈ GW ∧ Cond.static yX7_weightAt ∈ GW := ⟨gw_in (i := 1044) (by decide +kernel) rfl, gw_in (i := 1029) (by decide +kernel) rfl⟩
theorem ml_X11_232 : Cond.methodLink RX11 232 yX7_momentAt ∈ GW ∧ Cond.static yX7_momentAt ∈ GW := ⟨gw_in (i := 1045) (by decide +kernel) rfl, gw_in (i := 1032) (by decide +kernel) rfl⟩
theorem fl_X11_235 : FL RX11 235 5 2 2 9 .int false := ⟨RX5, TX5, rfl, by decide, gw_in (i := 349) (by decide +kernel) rfl, rfl, gwX5, rfl, rfl, tyX5_ok, nmX5, rfl, by decide⟩
theorem fl_X11_238 : FL RX11 238 5 3 3 9 .int false := ⟨RX5, TX5, rfl, by decide, gw_in (i := 354) (by decide +kernel) rfl, rfl, gwX5, rfl, rfl, tyX5_ok, nmX5, rfl, by decide⟩
theorem ml_X11_241 : Cond.methodLink RX11 241 yX7_blockersOf ∈ GW ∧ Cond.static yX7_blockersOf ∈ GW := ⟨gw_in (i := 1050) (by decide +kernel) rfl, gw_in (i := 1017) (by decide +kernel) rfl⟩
theorem ml_X11_244 : Cond.methodLink RX11 244 yX11_freshTable ∈ GW ∧ Cond.instanceMethod yX11_freshTable ∈ GW ∧ Cond.selects yX11_freshTable.cls yX11_freshTable yX11_freshTable ∈ GW := ⟨gw_in (i := 1055) (by decide +kernel) rfl, gw_in (i := 1057) (by decide +kernel) rfl, gw_in (i := 17) (by decide +kernel) rfl⟩
theorem ml_X11_248 : Cond.methodLink RX11 248 yX8_total ∈ GW ∧ Cond.instanceMethod yX8_total ∈ GW ∧ Cond.selects yX8_total.cls yX8_total yX8_total ∈ GW := ⟨gw_in (i := 1104) (by decide +kernel) rfl, gw_in (i := 1105) (by decide +kernel) rfl, gw_in (i := 1106) (by decide +kernel) rfl⟩
theorem ml_X11_251 : Cond.methodLink RX11 251 yX8_rowOf ∈ GW ∧ Cond.instanceMethod yX8_rowOf ∈ GW ∧ Cond.selects yX8_rowOf.cls yX8_rowOf yX8_rowOf ∈ GW := ⟨gw_in (i := 1112) (by decide +kernel) rfl, gw_in (i := 1113) (by decide +kernel) rfl, gw_in (i := 1114) (by decide +kernel) rfl⟩
theorem ml_X11_254 : Cond.methodLink RX11 254 yX8_spotIn ∈ GW ∧ Cond.instanceMethod yX8_spotIn ∈ GW ∧ Cond.selects yX8_spotIn.cls yX8_spotIn yX8_spotIn ∈ GW := ⟨gw_in (i := 1116) (by decide +kernel) rfl, gw_in (i := 1117) (by decide +kernel) rfl, gw_in (i := 1118) (by decide +kernel) rfl⟩
theorem ml_X11_258 : Cond.methodLink RX11 258 yX8_amountIn ∈ GW ∧ Cond.instanceMethod yX8_amountIn ∈ GW ∧ Cond.selects yX8_amountIn.cls yX8_amountIn yX8_amountIn ∈ GW := ⟨gw_in (i := 1124) (by decide +kernel) rfl, gw_in (i := 1125) (by decide +kernel) rfl, gw_in (i := 1126) (by decide +kernel) rfl⟩
theorem ml_X11_262 : Cond.methodLink RX11 262 yX7_timesThroughDoors ∈ GW ∧ Cond.static yX7_timesThroughDoors ∈ GW := ⟨gw_in (i := 1136) (by decide +kernel) rfl, gw_in (i := 1137) (by decide +kernel) rfl⟩
theorem ml_X11_266 : Cond.methodLink RX11 266 yX4_seek ∈ GW ∧ Cond.instanceMethod yX4_seek ∈ GW ∧ Cond.selects yX4_seek.cls yX4_seek yX4_seek ∈ GW := ⟨gw_in (i := 1147) (by decide +kernel) rfl, gw_in (i := 1148) (by decide +kernel) rfl, gw_in (i := 1149) (by decide +kernel) rfl⟩
theorem ml_X11_270 : Cond.methodLink RX11 270 yX4_tell ∈ GW ∧ Cond.instanceMethod yX4_tell ∈ GW ∧ Cond.selects yX4_tell.cls yX4_tell yX4_tell ∈ GW := ⟨gw_in (i := 1204) (by decide +kernel) rfl, gw_in (i := 1205) (by decide +kernel) rfl, gw_in (i := 1206) (by decide +kernel) rfl⟩
theorem ml_X11_273 : Cond.methodLink RX11 273 yX4_toldMove ∈ GW ∧ Cond.instanceMethod yX4_toldMove ∈ GW ∧ Cond.selects yX4_toldMove.cls yX4_toldMove yX4_toldMove ∈ GW := ⟨gw_in (i := 1212) (by decide +kernel) rfl, gw_in (i := 1213) (by decide +kernel) rfl, gw_in (i := 1214) (by decide +kernel) rfl⟩
theorem ml_X11_276 : Cond.methodLink RX11 276 yX4_putAllInto ∈ GW ∧ Cond.instanceMethod yX4_putAllInto ∈ GW ∧ Cond.selects yX4_putAllInto.cls yX4_putAllInto yX4_putAllInto ∈ GW := ⟨gw_in (i := 1220) (by decide +kernel) rfl, gw_in (i := 1221) (by decide +kernel) rfl, gw_in (i := 1222) (by decide +kernel) rfl⟩
theorem ml_X11_279 : Cond.methodLink RX11 279 yX11_changePlaces ∈ GW ∧ Cond.instanceMethod yX11_changePlaces ∈ GW ∧ Cond.selects yX11_changePlaces.cls yX11_changePlaces yX11_changePlaces ∈ GW := ⟨gw_in (i := 1232) (by decide +kernel) rfl, gw_in (i := 1234) (by decide +kernel) rfl, gw_in (i := 36) (by decide +kernel) rfl⟩
theorem ml_X11_283 : Cond.methodLink RX11 283 yX8_forget ∈ GW ∧ Cond.instanceMethod yX8_forget ∈ GW ∧ Cond.selects yX8_forget.cls yX8_forget yX8_forget ∈ GW := ⟨gw_in (i := 858) (by decide +kernel) rfl, gw_in (i := 859) (by decide +kernel) rfl, gw_in (i := 860) (by decide +kernel) rfl⟩
theorem ml_X11_286 : Cond.methodLink RX11 286 yX0_add ∈ GW ∧ Cond.instanceMethod yX0_add ∈ GW ∧ Cond.selects yX0_add.cls yX0_add yX0_add ∈ GW := ⟨gw_in (i := 1240) (by decide +kernel) rfl, gw_in (i := 886) (by decide +kernel) rfl, gw_in (i := 887) (by decide +kernel) rfl⟩
theorem ml_X11_290 : Cond.methodLink RX11 290 yX0_moveLast ∈ GW ∧ Cond.instanceMethod yX0_moveLast ∈ GW ∧ Cond.selects yX0_moveLast.cls yX0_moveLast yX0_moveLast ∈ GW := ⟨gw_in (i := 1245) (by decide +kernel) rfl, gw_in (i := 1246) (by decide +kernel) rfl, gw_in (i := 1247) (by decide +kernel) rfl⟩
theorem fl_X11_293 : FL RX11 293 2 2 2 3 .int false := ⟨RX2, TX2, rfl, by decide, gw_in (i := 458) (by decide +kernel) rfl, rfl, gwX2, rfl, rfl, tyX2_ok, nmX2, rfl, by decide⟩
theorem ml_X11_294 : Cond.methodLink RX11 294 yX2_bringBack ∈ GW ∧ Cond.instanceMethod yX2_bringBack ∈ GW ∧ Cond.selects yX2_bringBack.cls yX2_bringBack yX2_bringBack ∈ GW := ⟨gw_in (i := 1261) (by decide +kernel) rfl, gw_in (i := 1262) (by decide +kernel) rfl, gw_in (i := 1263) (by decide +kernel) rfl⟩
theorem ml_X11_297 : Cond.methodLink RX11 297 yX11_imageAt ∈ GW ∧ Cond.instanceMethod yX11_imageAt ∈ GW ∧ Cond.selects yX11_imageAt.cls yX11_imageAt yX11_imageAt ∈ GW := ⟨gw_in (i := 1270) (by decide +kernel) rfl, gw_in (i := 1272) (by decide +kernel) rfl, gw_in (i := 37) (by decide +kernel) rfl⟩
theorem fl_X11_301 : FL RX11 301 3 0 0 3 .boolean false := ⟨RX3, TX3, rfl, by decide, gw_in (i := 476) (by decide +kernel) rfl, rfl, gwX3, rfl, rfl, tyX3_ok, nmX3, rfl, by decide⟩
theorem fl_X11_305 : FL RX11 305 3 1 1 3 (.object "LoadSpans$Plane") true := ⟨RX3, TX3, rfl, by decide, gw_in (i := 478) (by decide +kernel) rfl, rfl, gwX3, rfl, rfl, tyX3_ok, nmX3, rfl, by decide⟩
theorem ml_X11_308 : Cond.methodLink RX11 308 yX5_copyFrom ∈ GW ∧ Cond.instanceMethod yX5_copyFrom ∈ GW ∧ Cond.selects yX5_copyFrom.cls yX5_copyFrom yX5_copyFrom ∈ GW := ⟨gw_in (i := 1274) (by decide +kernel) rfl, gw_in (i := 1275) (by decide +kernel) rfl, gw_in (i := 1276) (by decide +kernel) rfl⟩
theorem fl_X11_311 : FL RX11 311 3 2 2 3 (.object "LoadSpans$Cargo") true := ⟨RX3, TX3, rfl, by decide, gw_in (i := 480) (by decide +kernel) rfl, rfl, gwX3, rfl, rfl, tyX3_ok, nmX3, rfl, by decide⟩
theorem ml_X11_314 : Cond.methodLink RX11 314 yX0_copyFrom ∈ GW ∧ Cond.instanceMethod yX0_copyFrom ∈ GW ∧ Cond.selects yX0_copyFrom.cls yX0_copyFrom yX0_copyFrom ∈ GW := ⟨gw_in (i := 1289) (by decide +kernel) rfl, gw_in (i := 962) (by decide +kernel) rfl, gw_in (i := 963) (by decide +kernel) rfl⟩
theorem ml_X11_316 : Cond.methodLink RX11 316 yX0_clearPlaces ∈ GW ∧ Cond.instanceMethod yX0_clearPlaces ∈ GW ∧ Cond.selects yX0_clearPlaces.cls yX0_clearPlaces yX0_clearPlaces ∈ GW := ⟨gw_in (i := 854) (by decide +kernel) rfl, gw_in (i := 855) (by decide +kernel) rfl, gw_in (i := 856) (by decide +kernel) rfl⟩
theorem ml_X11_319 : Cond.methodLink RX11 319 yX8_makeFor ∈ GW ∧ Cond.instanceMethod yX8_makeFor ∈ GW ∧ Cond.selects yX8_makeFor.cls yX8_makeFor yX8_makeFor ∈ GW := ⟨gw_in (i := 1059) (by decide +kernel) rfl, gw_in (i := 1060) (by decide +kernel) rfl, gw_in (i := 1061) (by decide +kernel) rfl⟩
theorem ml_X12_1 : Cond.methodLink RX12 1 objectInit ∈ GW ∧ Cond.instanceMethod objectInit ∈ GW ∧ Cond.code objectInit ⟨#[0xb1]⟩ 1 none ∈ GW := ⟨gw_in (i := 1299) (by decide +kernel) rfl, gw_in (i := 126) (by decide +kernel) rfl, gw_in (i := 127) (by decide +kernel) rfl⟩
theorem fl_X12_7 : FL RX12 7 11 0 0 34 (.array .int) true := ⟨RX12, TX12, rfl, by decide, gw_in (i := 1304) (by decide +kernel) rfl, rfl, gwX12, rfl, rfl, tyX12_ok, nmX12, rfl, by decide⟩
theorem fl_X12_13 : FL RX12 13 11 1 1 34 (.array .int) true := ⟨RX12, TX12, rfl, by decide, gw_in (i := 1305) (by decide +kernel) rfl, rfl, gwX12, rfl, rfl, tyX12_ok, nmX12, rfl, by decide⟩
theorem fl_X12_16 : FL RX12 16 11 2 2 34 (.array .int) true := ⟨RX12, TX12, rfl, by decide, gw_in (i := 1306) (by decide +kernel) rfl, rfl, gwX12, rfl, rfl, tyX12_ok, nmX12, rfl, by decide⟩
theorem fl_X12_19 : FL RX12 19 11 3 3 34 (.array .int) true := ⟨RX12, TX12, rfl, by decide, gw_in (i := 1307) (by decide +kernel) rfl, rfl, gwX12, rfl, rfl, tyX12_ok, nmX12, rfl, by decide⟩
theorem fl_X12_22 : FL RX12 22 11 4 4 34 (.array .boolean) true := ⟨RX12, TX12, rfl, by decide, gw_in (i := 1308) (by decide +kernel) rfl, rfl, gwX12, rfl, rfl, tyX12_ok, nmX12, rfl, by decide⟩
theorem fl_X12_26 : FL RX12 26 11 6 6 34 (.array .byte) true := ⟨RX12, TX12, rfl, by decide, gw_in (i := 1310) (by decide +kernel) rfl, rfl, gwX12, rfl, rfl, tyX12_ok, nmX12, rfl, by decide⟩
theorem fl_X12_30 : FL RX12 30 11 16 16 34 (.array .byte) true := ⟨RX12, TX12, rfl, by decide, gw_in (i := 1320) (by decide +kernel) rfl, rfl, gwX12, rfl, rfl, tyX12_ok, nmX12, rfl, by decide⟩
theorem fl_X12_33 : FL RX12 33 11 17 17 34 (.array .byte) true := ⟨RX12, TX12, rfl, by decide, gw_in (i := 1321) (by decide +kernel) rfl, rfl, gwX12, rfl, rfl, tyX12_ok, nmX12, rfl, by decide⟩
theorem fl_X12_36 : FL RX12 36 11 24 24 34 (.array .int) true := ⟨RX12, TX12, rfl, by decide, gw_in (i := 1328) (by decide +kernel) rfl, rfl, gwX12, rfl, rfl, tyX12_ok, nmX12, rfl, by decide⟩
theorem kl_X12_39 : Cond.constant RX12 39 (72000 : Int32) ∈ GW := gw_in (i := 1300) (by decide +kernel) rfl
theorem fl_X12_40 : FL RX12 40 11 25 25 34 (.array .int) true := ⟨RX12, TX12, rfl, by decide, gw_in (i := 1329) (by decide +kernel) rfl, rfl, gwX12, rfl, rfl, tyX12_ok, nmX12, rfl, by decide⟩
theorem fl_X12_43 : FL RX12 43 11 27 27 34 (.array .int) true := ⟨RX12, TX12, rfl, by decide, gw_in (i := 1331) (by decide +kernel) rfl, rfl, gwX12, rfl, rfl, tyX12_ok, nmX12, rfl, by decide⟩
theorem fl_X12_46 : FL RX12 46 11 28 28 34 (.array .int) true := ⟨RX12, TX12, rfl, by decide, gw_in (i := 1332) (by decide +kernel) rfl, rfl, gwX12, rfl, rfl, tyX12_ok, nmX12, rfl, by decide⟩
theorem fl_X12_49 : FL RX12 49 11 30 30 34 (.array .int) true := ⟨RX12, TX12, rfl, by decide, gw_in (i := 1334) (by decide +kernel) rfl, rfl, gwX12, rfl, rfl, tyX12_ok, nmX12, rfl, by decide⟩
theorem fl_X12_52 : FL RX12 52 11 32 32 34 (.array .int) true := ⟨RX12, TX12, rfl, by decide, gw_in (i := 1336) (by decide +kernel) rfl, rfl, gwX12, rfl, rfl, tyX12_ok, nmX12, rfl, by decide⟩
theorem ml_X12_55 : Cond.methodLink RX12 55 yX12_bare ∈ GW ∧ Cond.static yX12_bare ∈ GW := ⟨gw_in (i := 1301) (by decide +kernel) rfl, gw_in (i := 1302) (by decide +kernel) rfl⟩
theorem fl_X12_59 : FL RX12 59 11 7 7 34 .int false := ⟨RX12, TX12, rfl, by decide, gw_in (i := 1311) (by decide +kernel) rfl, rfl, gwX12, rfl, rfl, tyX12_ok, nmX12, rfl, by decide⟩
theorem ml_X12_63 : Cond.methodLink RX12 63 yX12_four ∈ GW ∧ Cond.instanceMethod yX12_four ∈ GW ∧ Cond.selects yX12_four.cls yX12_four yX12_four ∈ GW := ⟨gw_in (i := 1411) (by decide +kernel) rfl, gw_in (i := 1413) (by decide +kernel) rfl, gw_in (i := 38) (by decide +kernel) rfl⟩
theorem fl_X12_67 : FL RX12 67 11 9 9 34 .int false := ⟨RX12, TX12, rfl, by decide, gw_in (i := 1313) (by decide +kernel) rfl, rfl, gwX12, rfl, rfl, tyX12_ok, nmX12, rfl, by decide⟩
theorem fl_X12_70 : FL RX12 70 11 8 8 34 .int false := ⟨RX12, TX12, rfl, by decide, gw_in (i := 1312) (by decide +kernel) rfl, rfl, gwX12, rfl, rfl, tyX12_ok, nmX12, rfl, by decide⟩
theorem ml_X12_73 : Cond.methodLink RX12 73 yX12_isIn ∈ GW ∧ Cond.static yX12_isIn ∈ GW := ⟨gw_in (i := 1446) (by decide +kernel) rfl, gw_in (i := 1447) (by decide +kernel) rfl⟩
theorem fl_X12_77 : FL RX12 77 11 14 14 34 .int false := ⟨RX12, TX12, rfl, by decide, gw_in (i := 1318) (by decide +kernel) rfl, rfl, gwX12, rfl, rfl, tyX12_ok, nmX12, rfl, by decide⟩
theorem fl_X12_80 : FL RX12 80 11 15 15 34 .int false := ⟨RX12, TX12, rfl, by decide, gw_in (i := 1319) (by decide +kernel) rfl, rfl, gwX12, rfl, rfl, tyX12_ok, nmX12, rfl, by decide⟩
theorem fl_X12_83 : FL RX12 83 11 10 10 34 .int false := ⟨RX12, TX12, rfl, by decide, gw_in (i := 1314) (by decide +kernel) rfl, rfl, gwX12, rfl, rfl, tyX12_ok, nmX12, rfl, by decide⟩
theorem ml_X12_86 : Cond.methodLink RX12 86 yX12_bad ∈ GW ∧ Cond.instanceMethod yX12_bad ∈ GW ∧ Cond.selects yX12_bad.cls yX12_bad yX12_bad ∈ GW := ⟨gw_in (i := 1431) (by decide +kernel) rfl, gw_in (i := 1433) (by decide +kernel) rfl, gw_in (i := 41) (by decide +kernel) rfl⟩
theorem ml_X12_90 : Cond.methodLink RX12 90 yX12_peek ∈ GW ∧ Cond.instanceMethod yX12_peek ∈ GW ∧ Cond.selects yX12_peek.cls yX12_peek yX12_peek ∈ GW := ⟨gw_in (i := 1439) (by decide +kernel) rfl, gw_in (i := 1441) (by decide +kernel) rfl, gw_in (i := 43) (by decide +kernel) rfl⟩
theorem fl_X12_94 : FL RX12 94 11 11 11 34 .int false := ⟨RX12, TX12, rfl, by decide, gw_in (i := 1315) (by decide +kernel) rfl, rfl, gwX12, rfl, rfl, tyX12_ok, nmX12, rfl, by decide⟩
theorem ml_X12_97 : Cond.methodLink RX12 97 yX12_isSmall ∈ GW ∧ Cond.static yX12_isSmall ∈ GW := ⟨gw_in (i := 1443) (by decide +kernel) rfl, gw_in (i := 1444) (by decide +kernel) rfl⟩
theorem ml_X12_101 : Cond.methodLink RX12 101 yX12_isDigit ∈ GW ∧ Cond.static yX12_isDigit ∈ GW := ⟨gw_in (i := 1449) (by decide +kernel) rfl, gw_in (i := 1450) (by decide +kernel) rfl⟩
theorem fl_X12_104 : FL RX12 104 11 12 12 34 .int false := ⟨RX12, TX12, rfl, by decide, gw_in (i := 1316) (by decide +kernel) rfl, rfl, gwX12, rfl, rfl, tyX12_ok, nmX12, rfl, by decide⟩
theorem fl_X12_107 : FL RX12 107 11 13 13 34 .int false := ⟨RX12, TX12, rfl, by decide, gw_in (i := 1317) (by decide +kernel) rfl, rfl, gwX12, rfl, rfl, tyX12_ok, nmX12, rfl, by decide⟩
theorem ml_X12_113 : Cond.methodLink RX12 113 yX12_known ∈ GW ∧ Cond.instanceMethod yX12_known ∈ GW ∧ Cond.selects yX12_known.cls yX12_known yX12_known ∈ GW := ⟨gw_in (i := 1452) (by decide +kernel) rfl, gw_in (i := 1454) (by decide +kernel) rfl, gw_in (i := 44) (by decide +kernel) rfl⟩
theorem ml_X12_116 : Cond.methodLink RX12 116 yX12_badHere ∈ GW ∧ Cond.instanceMethod yX12_badHere ∈ GW ∧ Cond.selects yX12_badHere.cls yX12_badHere yX12_badHere ∈ GW := ⟨gw_in (i := 1458) (by decide +kernel) rfl, gw_in (i := 1460) (by decide +kernel) rfl, gw_in (i := 45) (by decide +kernel) rfl⟩
theorem ml_X12_119 : Cond.methodLink RX12 119 yX12_number ∈ GW ∧ Cond.instanceMethod yX12_number ∈ GW ∧ Cond.selects yX12_number.cls yX12_number yX12_number ∈ GW := ⟨gw_in (i := 1478) (by decide +kernel) rfl, gw_in (i := 1480) (by decide +kernel) rfl, gw_in (i := 50) (by decide +kernel) rfl⟩
theorem ml_X12_121 : Cond.methodLink RX12 121 yX12_next ∈ GW ∧ Cond.instanceMethod yX12_next ∈ GW ∧ Cond.selects yX12_next.cls yX12_next yX12_next ∈ GW := ⟨gw_in (i := 1435) (by decide +kernel) rfl, gw_in (i := 1437) (by decide +kernel) rfl, gw_in (i := 42) (by decide +kernel) rfl⟩
theorem ml_X12_124 : Cond.methodLink RX12 124 yX12_isNamed ∈ GW ∧ Cond.instanceMethod yX12_isNamed ∈ GW ∧ Cond.selects yX12_isNamed.cls yX12_isNamed yX12_isNamed ∈ GW := ⟨gw_in (i := 1502) (by decide +kernel) rfl, gw_in (i := 1504) (by decide +kernel) rfl, gw_in (i := 56) (by decide +kernel) rfl⟩
theorem ml_X12_127 : Cond.methodLink RX12 127 yX12_isName ∈ GW ∧ Cond.instanceMethod yX12_isName ∈ GW ∧ Cond.selects yX12_isName.cls yX12_isName yX12_isName ∈ GW := ⟨gw_in (i := 1494) (by decide +kernel) rfl, gw_in (i := 1496) (by decide +kernel) rfl, gw_in (i := 54) (by decide +kernel) rfl⟩
theorem ml_X12_131 : Cond.methodLink RX12 131 yX12_named0 ∈ GW ∧ Cond.instanceMethod yX12_named0 ∈ GW ∧ Cond.selects yX12_named0.cls yX12_named0 yX12_named0 ∈ GW := ⟨gw_in (i := 1498) (by decide +kernel) rfl, gw_in (i := 1500) (by decide +kernel) rfl, gw_in (i := 55) (by decide +kernel) rfl⟩
theorem ml_X12_135 : Cond.methodLink RX12 135 yX12_takes ∈ GW ∧ Cond.instanceMethod yX12_takes ∈ GW ∧ Cond.selects yX12_takes.cls yX12_takes yX12_takes ∈ GW := ⟨gw_in (i := 1474) (by decide +kernel) rfl, gw_in (i := 1476) (by decide +kernel) rfl, gw_in (i := 49) (by decide +kernel) rfl⟩
theorem ml_X12_138 : Cond.methodLink RX12 138 yX12_takesName ∈ GW ∧ Cond.instanceMethod yX12_takesName ∈ GW ∧ Cond.selects yX12_takesName.cls yX12_takesName yX12_takesName ∈ GW := ⟨gw_in (i := 1490) (by decide +kernel) rfl, gw_in (i := 1492) (by decide +kernel) rfl, gw_in (i := 53) (by decide +kernel) rfl⟩
theorem ml_X12_141 : Cond.methodLink RX12 141 yX12_spanLine ∈ GW ∧ Cond.instanceMethod yX12_spanLine ∈ GW ∧ Cond.selects yX12_spanLine.cls yX12_spanLine yX12_spanLine ∈ GW := ⟨gw_in (i := 1482) (by decide +kernel) rfl, gw_in (i := 1484) (by decide +kernel) rfl, gw_in (i := 51) (by decide +kernel) rfl⟩
theorem ml_X12_144 : Cond.methodLink RX12 144 yX12_holdLine ∈ GW ∧ Cond.instanceMethod yX12_holdLine ∈ GW ∧ Cond.selects yX12_holdLine.cls yX12_holdLine yX12_holdLine ∈ GW := ⟨gw_in (i := 1486) (by decide +kernel) rfl, gw_in (i := 1488) (by decide +kernel) rfl, gw_in (i := 52) (by decide +kernel) rfl⟩
theorem ml_X12_147 : Cond.methodLink RX12 147 yX12_spotLine ∈ GW ∧ Cond.instanceMethod yX12_spotLine ∈ GW ∧ Cond.selects yX12_spotLine.cls yX12_spotLine yX12_spotLine ∈ GW := ⟨gw_in (i := 1506) (by decide +kernel) rfl, gw_in (i := 1508) (by decide +kernel) rfl, gw_in (i := 57) (by decide +kernel) rfl⟩
theorem ml_X12_150 : Cond.methodLink RX12 150 yX12_jointLine ∈ GW ∧ Cond.instanceMethod yX12_jointLine ∈ GW ∧ Cond.selects yX12_jointLine.cls yX12_jointLine yX12_jointLine ∈ GW := ⟨gw_in (i := 1510) (by decide +kernel) rfl, gw_in (i := 1512) (by decide +kernel) rfl, gw_in (i := 58) (by decide +kernel) rfl⟩
theorem ml_X12_153 : Cond.methodLink RX12 153 yX12_binLine ∈ GW ∧ Cond.instanceMethod yX12_binLine ∈ GW ∧ Cond.selects yX12_binLine.cls yX12_binLine yX12_binLine ∈ GW := ⟨gw_in (i := 1514) (by decide +kernel) rfl, gw_in (i := 1516) (by decide +kernel) rfl, gw_in (i := 59) (by decide +kernel) rfl⟩
theorem ml_X12_156 : Cond.methodLink RX12 156 yX12_tankLine ∈ GW ∧ Cond.instanceMethod yX12_tankLine ∈ GW ∧ Cond.selects yX12_tankLine.cls yX12_tankLine yX12_tankLine ∈ GW := ⟨gw_in (i := 1518) (by decide +kernel) rfl, gw_in (i := 1520) (by decide +kernel) rfl, gw_in (i := 60) (by decide +kernel) rfl⟩
theorem ml_X12_159 : Cond.methodLink RX12 159 yX12_burnLine ∈ GW ∧ Cond.instanceMethod yX12_burnLine ∈ GW ∧ Cond.selects yX12_burnLine.cls yX12_burnLine yX12_burnLine ∈ GW := ⟨gw_in (i := 1522) (by decide +kernel) rfl, gw_in (i := 1524) (by decide +kernel) rfl, gw_in (i := 61) (by decide +kernel) rfl⟩
theorem ml_X12_162 : Cond.methodLink RX12 162 yX12_begins ∈ GW ∧ Cond.instanceMethod yX12_begins ∈ GW ∧ Cond.selects yX12_begins.cls yX12_begins yX12_begins ∈ GW := ⟨gw_in (i := 1427) (by decide +kernel) rfl, gw_in (i := 1429) (by decide +kernel) rfl, gw_in (i := 40) (by decide +kernel) rfl⟩
theorem fl_X12_165 : FL RX12 165 11 18 18 34 .boolean false := ⟨RX12, TX12, rfl, by decide, gw_in (i := 1322) (by decide +kernel) rfl, rfl, gwX12, rfl, rfl, tyX12_ok, nmX12, rfl, by decide⟩
theorem fl_X12_169 : FL RX12 169 11 19 19 34 .boolean false := ⟨RX12, TX12, rfl, by decide, gw_in (i := 1323) (by decide +kernel) rfl, rfl, gwX12, rfl, rfl, tyX12_ok, nmX12, rfl, by decide⟩
theorem ml_X12_172 : Cond.methodLink RX12 172 yX12_isTooMany ∈ GW ∧ Cond.instanceMethod yX12_isTooMany ∈ GW ∧ Cond.selects yX12_isTooMany.cls yX12_isTooMany yX12_isTooMany ∈ GW := ⟨gw_in (i := 1462) (by decide +kernel) rfl, gw_in (i := 1464) (by decide +kernel) rfl, gw_in (i := 46) (by decide +kernel) rfl⟩
theorem ml_X12_175 : Cond.methodLink RX12 175 yX12_canJoint ∈ GW ∧ Cond.instanceMethod yX12_canJoint ∈ GW ∧ Cond.selects yX12_canJoint.cls yX12_canJoint yX12_canJoint ∈ GW := ⟨gw_in (i := 1466) (by decide +kernel) rfl, gw_in (i := 1468) (by decide +kernel) rfl, gw_in (i := 47) (by decide +kernel) rfl⟩
theorem ml_X12_178 : Cond.methodLink RX12 178 yX12_planeLine ∈ GW ∧ Cond.instanceMethod yX12_planeLine ∈ GW ∧ Cond.selects yX12_planeLine.cls yX12_planeLine yX12_planeLine ∈ GW := ⟨gw_in (i := 1470) (by decide +kernel) rfl, gw_in (i := 1472) (by decide +kernel) rfl, gw_in (i := 48) (by decide +kernel) rfl⟩
theorem ml_X12_181 : Cond.methodLink RX12 181 yX12_readsPlane ∈ GW ∧ Cond.instanceMethod yX12_readsPlane ∈ GW ∧ Cond.selects yX12_readsPlane.cls yX12_readsPlane yX12_readsPlane ∈ GW := ⟨gw_in (i := 1423) (by decide +kernel) rfl, gw_in (i := 1425) (by decide +kernel) rfl, gw_in (i := 39) (by decide +kernel) rfl⟩
theorem ml_X12_184 : Cond.methodLink RX12 184 yX12_settles ∈ GW ∧ Cond.instanceMethod yX12_settles ∈ GW ∧ Cond.selects yX12_settles.cls yX12_settles yX12_settles ∈ GW := ⟨gw_in (i := 1526) (by decide +kernel) rfl, gw_in (i := 1528) (by decide +kernel) rfl, gw_in (i := 62) (by decide +kernel) rfl⟩
theorem ml_X12_187 : Cond.methodLink RX12 187 yX12_copies ∈ GW ∧ Cond.static yX12_copies ∈ GW := ⟨gw_in (i := 1530) (by decide +kernel) rfl, gw_in (i := 1531) (by decide +kernel) rfl⟩
theorem fl_X12_191 : FL RX12 191 11 5 5 34 .int false := ⟨RX12, TX12, rfl, by decide, gw_in (i := 1309) (by decide +kernel) rfl, rfl, gwX12, rfl, rfl, tyX12_ok, nmX12, rfl, by decide⟩
theorem ml_X12_194 : Cond.methodLink RX12 194 yX12_palletOf ∈ GW ∧ Cond.static yX12_palletOf ∈ GW := ⟨gw_in (i := 1545) (by decide +kernel) rfl, gw_in (i := 1546) (by decide +kernel) rfl⟩
theorem fl_X12_198 : FL RX12 198 11 20 20 34 .boolean false := ⟨RX12, TX12, rfl, by decide, gw_in (i := 1324) (by decide +kernel) rfl, rfl, gwX12, rfl, rfl, tyX12_ok, nmX12, rfl, by decide⟩
theorem ml_X12_201 : Cond.methodLink RX12 201 yX12_palletLine ∈ GW ∧ Cond.instanceMethod yX12_palletLine ∈ GW ∧ Cond.selects yX12_palletLine.cls yX12_palletLine yX12_palletLine ∈ GW := ⟨gw_in (i := 1541) (by decide +kernel) rfl, gw_in (i := 1543) (by decide +kernel) rfl, gw_in (i := 64) (by decide +kernel) rfl⟩
theorem ml_X12_204 : Cond.methodLink RX12 204 yX12_bulkLine ∈ GW ∧ Cond.instanceMethod yX12_bulkLine ∈ GW ∧ Cond.selects yX12_bulkLine.cls yX12_bulkLine yX12_bulkLine ∈ GW := ⟨gw_in (i := 1548) (by decide +kernel) rfl, gw_in (i := 1550) (by decide +kernel) rfl, gw_in (i := 65) (by decide +kernel) rfl⟩
theorem ml_X12_207 : Cond.methodLink RX12 207 yX12_readsCargo ∈ GW ∧ Cond.instanceMethod yX12_readsCargo ∈ GW ∧ Cond.selects yX12_readsCargo.cls yX12_readsCargo yX12_readsCargo ∈ GW := ⟨gw_in (i := 1537) (by decide +kernel) rfl, gw_in (i := 1539) (by decide +kernel) rfl, gw_in (i := 63) (by decide +kernel) rfl⟩
theorem ml_X12_210 : Cond.methodLink RX12 210 yX12_on ∈ GW ∧ Cond.instanceMethod yX12_on ∈ GW ∧ Cond.selects yX12_on.cls yX12_on yX12_on ∈ GW := ⟨gw_in (i := 1580) (by decide +kernel) rfl, gw_in (i := 1582) (by decide +kernel) rfl, gw_in (i := 68) (by decide +kernel) rfl⟩
theorem ml_X12_213 : Cond.methodLink RX12 213 yX12_weightOn ∈ GW ∧ Cond.instanceMethod yX12_weightOn ∈ GW ∧ Cond.selects yX12_weightOn.cls yX12_weightOn yX12_weightOn ∈ GW := ⟨gw_in (i := 1596) (by decide +kernel) rfl, gw_in (i := 1598) (by decide +kernel) rfl, gw_in (i := 71) (by decide +kernel) rfl⟩
theorem ml_X12_216 : Cond.methodLink RX12 216 yX12_isPallet ∈ GW ∧ Cond.instanceMethod yX12_isPallet ∈ GW ∧ Cond.selects yX12_isPallet.cls yX12_isPallet yX12_isPallet ∈ GW := ⟨gw_in (i := 1564) (by decide +kernel) rfl, gw_in (i := 1566) (by decide +kernel) rfl, gw_in (i := 66) (by decide +kernel) rfl⟩
theorem ml_X12_219 : Cond.methodLink RX12 219 yX12_isSpot ∈ GW ∧ Cond.instanceMethod yX12_isSpot ∈ GW ∧ Cond.selects yX12_isSpot.cls yX12_isSpot yX12_isSpot ∈ GW := ⟨gw_in (i := 1576) (by decide +kernel) rfl, gw_in (i := 1578) (by decide +kernel) rfl, gw_in (i := 67) (by decide +kernel) rfl⟩
theorem ml_X12_222 : Cond.methodLink RX12 222 yX12_wayOf ∈ GW ∧ Cond.instanceMethod yX12_wayOf ∈ GW ∧ Cond.selects yX12_wayOf.cls yX12_wayOf yX12_wayOf ∈ GW := ⟨gw_in (i := 1584) (by decide +kernel) rfl, gw_in (i := 1586) (by decide +kernel) rfl, gw_in (i := 69) (by decide +kernel) rfl⟩
theorem ml_X12_225 : Cond.methodLink RX12 225 yX12_inHold ∈ GW ∧ Cond.instanceMethod yX12_inHold ∈ GW ∧ Cond.selects yX12_inHold.cls yX12_inHold yX12_inHold ∈ GW := ⟨gw_in (i := 1592) (by decide +kernel) rfl, gw_in (i := 1594) (by decide +kernel) rfl, gw_in (i := 70) (by decide +kernel) rfl⟩
theorem ml_X12_228 : Cond.methodLink RX12 228 yX12_keeps ∈ GW ∧ Cond.instanceMethod yX12_keeps ∈ GW ∧ Cond.selects yX12_keeps.cls yX12_keeps yX12_keeps ∈ GW := ⟨gw_in (i := 1620) (by decide +kernel) rfl, gw_in (i := 1622) (by decide +kernel) rfl, gw_in (i := 73) (by decide +kernel) rfl⟩
theorem ml_X12_231 : Cond.methodLink RX12 231 yX12_sets0 ∈ GW ∧ Cond.instanceMethod yX12_sets0 ∈ GW ∧ Cond.selects yX12_sets0.cls yX12_sets0 yX12_sets0 ∈ GW := ⟨gw_in (i := 1616) (by decide +kernel) rfl, gw_in (i := 1618) (by decide +kernel) rfl, gw_in (i := 72) (by decide +kernel) rfl⟩
theorem ml_X12_235 : Cond.methodLink RX12 235 yX12_movesPallet ∈ GW ∧ Cond.instanceMethod yX12_movesPallet ∈ GW ∧ Cond.selects yX12_movesPallet.cls yX12_movesPallet yX12_movesPallet ∈ GW := ⟨gw_in (i := 1648) (by decide +kernel) rfl, gw_in (i := 1650) (by decide +kernel) rfl, gw_in (i := 75) (by decide +kernel) rfl⟩
theorem ml_X12_239 : Cond.methodLink RX12 239 yX12_goes ∈ GW ∧ Cond.instanceMethod yX12_goes ∈ GW ∧ Cond.selects yX12_goes.cls yX12_goes yX12_goes ∈ GW := ⟨gw_in (i := 1644) (by decide +kernel) rfl, gw_in (i := 1646) (by decide +kernel) rfl, gw_in (i := 74) (by decide +kernel) rfl⟩
theorem fl_X12_242 : FL RX12 242 11 21 21 34 .int false := ⟨RX12, TX12, rfl, by decide, gw_in (i := 1325) (by decide +kernel) rfl, rfl, gwX12, rfl, rfl, tyX12_ok, nmX12, rfl, by decide⟩
theorem fl_X12_245 : FL RX12 245 11 22 22 34 .int false := ⟨RX12, TX12, rfl, by decide, gw_in (i := 1326) (by decide +kernel) rfl, rfl, gwX12, rfl, rfl, tyX12_ok, nmX12, rfl, by decide⟩
theorem ml_X12_248 : Cond.methodLink RX12 248 yX12_adds ∈ GW ∧ Cond.instanceMethod yX12_adds ∈ GW ∧ Cond.selects yX12_adds.cls yX12_adds yX12_adds ∈ GW := ⟨gw_in (i := 1687) (by decide +kernel) rfl, gw_in (i := 1689) (by decide +kernel) rfl, gw_in (i := 82) (by decide +kernel) rfl⟩
theorem ml_X12_252 : Cond.methodLink RX12 252 yX12_stageAt ∈ GW ∧ Cond.instanceMethod yX12_stageAt ∈ GW ∧ Cond.selects yX12_stageAt.cls yX12_stageAt yX12_stageAt ∈ GW := ⟨gw_in (i := 1683) (by decide +kernel) rfl, gw_in (i := 1685) (by decide +kernel) rfl, gw_in (i := 81) (by decide +kernel) rfl⟩
theorem ml_X12_255 : Cond.methodLink RX12 255 yX12_bitOf ∈ GW ∧ Cond.static yX12_bitOf ∈ GW := ⟨gw_in (i := 1676) (by decide +kernel) rfl, gw_in (i := 1677) (by decide +kernel) rfl⟩
theorem ml_X12_258 : Cond.methodLink RX12 258 yX12_blockers ∈ GW ∧ Cond.instanceMethod yX12_blockers ∈ GW ∧ Cond.selects yX12_blockers.cls yX12_blockers yX12_blockers ∈ GW := ⟨gw_in (i := 1672) (by decide +kernel) rfl, gw_in (i := 1674) (by decide +kernel) rfl, gw_in (i := 79) (by decide +kernel) rfl⟩
theorem ml_X12_261 : Cond.methodLink RX12 261 yX12_isInSpan ∈ GW ∧ Cond.instanceMethod yX12_isInSpan ∈ GW ∧ Cond.selects yX12_isInSpan.cls yX12_isInSpan yX12_isInSpan ∈ GW := ⟨gw_in (i := 1679) (by decide +kernel) rfl, gw_in (i := 1681) (by decide +kernel) rfl, gw_in (i := 80) (by decide +kernel) rfl⟩
theorem ml_X12_264 : Cond.methodLink RX12 264 yX12_places ∈ GW ∧ Cond.instanceMethod yX12_places ∈ GW ∧ Cond.selects yX12_places.cls yX12_places yX12_places ∈ GW := ⟨gw_in (i := 1664) (by decide +kernel) rfl, gw_in (i := 1666) (by decide +kernel) rfl, gw_in (i := 77) (by decide +kernel) rfl⟩
theorem ml_X12_267 : Cond.methodLink RX12 267 yX12_isBroken ∈ GW ∧ Cond.instanceMethod yX12_isBroken ∈ GW ∧ Cond.selects yX12_isBroken.cls yX12_isBroken yX12_isBroken ∈ GW := ⟨gw_in (i := 1668) (by decide +kernel) rfl, gw_in (i := 1670) (by decide +kernel) rfl, gw_in (i := 78) (by decide +kernel) rfl⟩
theorem fl_X12_270 : FL RX12 270 11 23 23 34 .int false := ⟨RX12, TX12, rfl, by decide, gw_in (i := 1327) (by decide +kernel) rfl, rfl, gwX12, rfl, rfl, tyX12_ok, nmX12, rfl, by decide⟩
theorem ml_X12_273 : Cond.methodLink RX12 273 yX12_broken ∈ GW ∧ Cond.instanceMethod yX12_broken ∈ GW ∧ Cond.selects yX12_broken.cls yX12_broken yX12_broken ∈ GW := ⟨gw_in (i := 1660) (by decide +kernel) rfl, gw_in (i := 1662) (by decide +kernel) rfl, gw_in (i := 76) (by decide +kernel) rfl⟩
theorem kl_X12_276 : Cond.constant RX12 276 (-1000000 : Int32) ∈ GW := gw_in (i := 1699) (by decide +kernel) rfl
theorem ml_X12_277 : Cond.methodLink RX12 277 yX12_changesPlaces ∈ GW ∧ Cond.instanceMethod yX12_changesPlaces ∈ GW ∧ Cond.selects yX12_changesPlaces.cls yX12_changesPlaces yX12_changesPlaces ∈ GW := ⟨gw_in (i := 1712) (by decide +kernel) rfl, gw_in (i := 1714) (by decide +kernel) rfl, gw_in (i := 83) (by decide +kernel) rfl⟩
theorem ml_X12_280 : Cond.methodLink RX12 280 yX12_keepsLaid ∈ GW ∧ Cond.instanceMethod yX12_keepsLaid ∈ GW ∧ Cond.selects yX12_keepsLaid.cls yX12_keepsLaid yX12_keepsLaid ∈ GW := ⟨gw_in (i := 1724) (by decide +kernel) rfl, gw_in (i := 1726) (by decide +kernel) rfl, gw_in (i := 85) (by decide +kernel) rfl⟩
theorem fl_X12_283 : FL RX12 283 11 26 26 34 .int false := ⟨RX12, TX12, rfl, by decide, gw_in (i := 1330) (by decide +kernel) rfl, rfl, gwX12, rfl, rfl, tyX12_ok, nmX12, rfl, by decide⟩
theorem ml_X12_286 : Cond.methodLink RX12 286 yX12_codes ∈ GW ∧ Cond.instanceMethod yX12_codes ∈ GW ∧ Cond.selects yX12_codes.cls yX12_codes yX12_codes ∈ GW := ⟨gw_in (i := 1728) (by decide +kernel) rfl, gw_in (i := 1730) (by decide +kernel) rfl, gw_in (i := 86) (by decide +kernel) rfl⟩
theorem ml_X12_289 : Cond.methodLink RX12 289 yX12_lays ∈ GW ∧ Cond.instanceMethod yX12_lays ∈ GW ∧ Cond.selects yX12_lays.cls yX12_lays yX12_lays ∈ GW := ⟨gw_in (i := 1732) (by decide +kernel) rfl, gw_in (i := 1734) (by decide +kernel) rfl, gw_in (i := 87) (by decide +kernel) rfl⟩
theorem ml_X12_292 : Cond.methodLink RX12 292 yX12_isWhole ∈ GW ∧ Cond.instanceMethod yX12_isWhole ∈ GW ∧ Cond.selects yX12_isWhole.cls yX12_isWhole yX12_isWhole ∈ GW := ⟨gw_in (i := 1736) (by decide +kernel) rfl, gw_in (i := 1738) (by decide +kernel) rfl, gw_in (i := 88) (by decide +kernel) rfl⟩
theorem ml_X12_295 : Cond.methodLink RX12 295 yX12_pours ∈ GW ∧ Cond.instanceMethod yX12_pours ∈ GW ∧ Cond.selects yX12_pours.cls yX12_pours yX12_pours ∈ GW := ⟨gw_in (i := 1740) (by decide +kernel) rfl, gw_in (i := 1742) (by decide +kernel) rfl, gw_in (i := 89) (by decide +kernel) rfl⟩
theorem ml_X12_298 : Cond.methodLink RX12 298 yX12_laysBack ∈ GW ∧ Cond.instanceMethod yX12_laysBack ∈ GW ∧ Cond.selects yX12_laysBack.cls yX12_laysBack yX12_laysBack ∈ GW := ⟨gw_in (i := 1744) (by decide +kernel) rfl, gw_in (i := 1746) (by decide +kernel) rfl, gw_in (i := 90) (by decide +kernel) rfl⟩
theorem ml_X12_301 : Cond.methodLink RX12 301 yX12_laysGood ∈ GW ∧ Cond.instanceMethod yX12_laysGood ∈ GW ∧ Cond.selects yX12_laysGood.cls yX12_laysGood yX12_laysGood ∈ GW := ⟨gw_in (i := 1720) (by decide +kernel) rfl, gw_in (i := 1722) (by decide +kernel) rfl, gw_in (i := 84) (by decide +kernel) rfl⟩
theorem ml_X12_304 : Cond.methodLink RX12 304 yX12_isGood ∈ GW ∧ Cond.instanceMethod yX12_isGood ∈ GW ∧ Cond.selects yX12_isGood.cls yX12_isGood yX12_isGood ∈ GW := ⟨gw_in (i := 1752) (by decide +kernel) rfl, gw_in (i := 1754) (by decide +kernel) rfl, gw_in (i := 91) (by decide +kernel) rfl⟩
theorem ml_X12_307 : Cond.methodLink RX12 307 yX12_spotBy ∈ GW ∧ Cond.instanceMethod yX12_spotBy ∈ GW ∧ Cond.selects yX12_spotBy.cls yX12_spotBy yX12_spotBy ∈ GW := ⟨gw_in (i := 1756) (by decide +kernel) rfl, gw_in (i := 1758) (by decide +kernel) rfl, gw_in (i := 92) (by decide +kernel) rfl⟩
theorem fl_X12_310 : FL RX12 310 11 29 29 34 .int false := ⟨RX12, TX12, rfl, by decide, gw_in (i := 1333) (by decide +kernel) rfl, rfl, gwX12, rfl, rfl, tyX12_ok, nmX12, rfl, by decide⟩
theorem ml_X12_313 : Cond.methodLink RX12 313 yX12_code ∈ GW ∧ Cond.instanceMethod yX12_code ∈ GW ∧ Cond.selects yX12_code.cls yX12_code yX12_code ∈ GW := ⟨gw_in (i := 1780) (by decide +kernel) rfl, gw_in (i := 1782) (by decide +kernel) rfl, gw_in (i := 95) (by decide +kernel) rfl⟩
theorem ml_X12_316 : Cond.methodLink RX12 316 yX12_waits ∈ GW ∧ Cond.instanceMethod yX12_waits ∈ GW ∧ Cond.selects yX12_waits.cls yX12_waits yX12_waits ∈ GW := ⟨gw_in (i := 1784) (by decide +kernel) rfl, gw_in (i := 1786) (by decide +kernel) rfl, gw_in (i := 96) (by decide +kernel) rfl⟩
theorem ml_X12_318 : Cond.methodLink RX12 318 yX12_starts ∈ GW ∧ Cond.instanceMethod yX12_starts ∈ GW ∧ Cond.selects yX12_starts.cls yX12_starts yX12_starts ∈ GW := ⟨gw_in (i := 1776) (by decide +kernel) rfl, gw_in (i := 1778) (by decide +kernel) rfl, gw_in (i := 94) (by decide +kernel) rfl⟩
theorem ml_X12_321 : Cond.methodLink RX12 321 yX12_moves ∈ GW ∧ Cond.instanceMethod yX12_moves ∈ GW ∧ Cond.selects yX12_moves.cls yX12_moves yX12_moves ∈ GW := ⟨gw_in (i := 1788) (by decide +kernel) rfl, gw_in (i := 1790) (by decide +kernel) rfl, gw_in (i := 97) (by decide +kernel) rfl⟩
theorem fl_X12_324 : FL RX12 324 11 31 31 34 .int false := ⟨RX12, TX12, rfl, by decide, gw_in (i := 1335) (by decide +kernel) rfl, rfl, gwX12, rfl, rfl, tyX12_ok, nmX12, rfl, by decide⟩
theorem ml_X12_327 : Cond.methodLink RX12 327 yX12_mends ∈ GW ∧ Cond.instanceMethod yX12_mends ∈ GW ∧ Cond.selects yX12_mends.cls yX12_mends yX12_mends ∈ GW := ⟨gw_in (i := 1772) (by decide +kernel) rfl, gw_in (i := 1774) (by decide +kernel) rfl, gw_in (i := 93) (by decide +kernel) rfl⟩
theorem fl_X12_330 : FL RX12 330 11 33 33 34 .int false := ⟨RX12, TX12, rfl, by decide, gw_in (i := 1337) (by decide +kernel) rfl, rfl, gwX12, rfl, rfl, tyX12_ok, nmX12, rfl, by decide⟩
theorem ml_X12_333 : Cond.methodLink RX12 333 yX12_taken ∈ GW ∧ Cond.instanceMethod yX12_taken ∈ GW ∧ Cond.selects yX12_taken.cls yX12_taken yX12_taken ∈ GW := ⟨gw_in (i := 1808) (by decide +kernel) rfl, gw_in (i := 1810) (by decide +kernel) rfl, gw_in (i := 99) (by decide +kernel) rfl⟩
theorem ml_X12_336 : Cond.methodLink RX12 336 yX12_handles ∈ GW ∧ Cond.instanceMethod yX12_handles ∈ GW ∧ Cond.selects yX12_handles.cls yX12_handles yX12_handles ∈ GW := ⟨gw_in (i := 1804) (by decide +kernel) rfl, gw_in (i := 1806) (by decide +kernel) rfl, gw_in (i := 98) (by decide +kernel) rfl⟩
theorem ml_J0_335 : Cond.methodLink RJ0 335 yJ0_coder_7d493 ∈ GW ∧ Cond.instanceMethod yJ0_coder_7d493 ∈ GW ∧ Cond.selects yJ0_coder_7d493.cls yJ0_coder_7d493 yJ0_coder_7d493 ∈ GW := ⟨gw_in (i := 667) (by decide +kernel) rfl, gw_in (i := 668) (by decide +kernel) rfl, gw_in (i := 669) (by decide +kernel) rfl⟩
theorem ml_J0_492 : Cond.methodLink RJ0 492 yJ0_isLatin1_aae02 ∈ GW ∧ Cond.instanceMethod yJ0_isLatin1_aae02 ∈ GW ∧ Cond.selects yJ0_isLatin1_aae02.cls yJ0_isLatin1_aae02 yJ0_isLatin1_aae02 ∈ GW := ⟨gw_in (i := 677) (by decide +kernel) rfl, gw_in (i := 678) (by decide +kernel) rfl, gw_in (i := 679) (by decide +kernel) rfl⟩
theorem ml_J0_495 : Cond.methodLink RJ0 495 yJ1_charAt_3b067 ∈ GW ∧ Cond.static yJ1_charAt_3b067 ∈ GW := ⟨gw_in (i := 681) (by decide +kernel) rfl, gw_in (i := 682) (by decide +kernel) rfl⟩
theorem ml_J0_498 : Cond.methodLink RJ0 498 yJ2_charAt_3b067 ∈ GW ∧ Cond.static yJ2_charAt_3b067 ∈ GW := ⟨gw_in (i := 692) (by decide +kernel) rfl, gw_in (i := 693) (by decide +kernel) rfl⟩
theorem ml_J0_1059 : Cond.methodLink RJ0 1059 yJ3_checkIndex_8e157 ∈ GW ∧ Cond.static yJ3_checkIndex_8e157 ∈ GW := ⟨gw_in (i := 689) (by decide +kernel) rfl, gw_in (i := 690) (by decide +kernel) rfl⟩
theorem ml_J1_9 : Cond.methodLink RJ1 9 yJ0_checkIndex_df160 ∈ GW ∧ Cond.static yJ0_checkIndex_df160 ∈ GW := ⟨gw_in (i := 684) (by decide +kernel) rfl, gw_in (i := 685) (by decide +kernel) rfl⟩
theorem nl_L_7 : NL RL 7 10 11 := ⟨RX11, TX11, rfl, gw_in (i := 120) (by decide +kernel) rfl, gw_in (i := 121) (by decide +kernel) rfl, gw_in (i := 101) (by decide +kernel) rfl, gwX11, tyX11_ok, dfX11, by decide⟩
theorem ml_L_9 : Cond.methodLink RL 9 yX11_init ∈ GW ∧ Cond.instanceMethod yX11_init ∈ GW ∧ yX11_init.name = "<init>" := ⟨gw_in (i := 122) (by decide +kernel) rfl, gw_in (i := 123) (by decide +kernel) rfl, rfl⟩
theorem nl_L_10 : NL RL 10 11 34 := ⟨RX12, TX12, rfl, gw_in (i := 1294) (by decide +kernel) rfl, gw_in (i := 1295) (by decide +kernel) rfl, gw_in (i := 112) (by decide +kernel) rfl, gwX12, tyX12_ok, dfX12, by decide⟩
theorem ml_L_12 : Cond.methodLink RL 12 yX12_init ∈ GW ∧ Cond.instanceMethod yX12_init ∈ GW ∧ yX12_init.name = "<init>" := ⟨gw_in (i := 1296) (by decide +kernel) rfl, gw_in (i := 1297) (by decide +kernel) rfl, rfl⟩
theorem ml_L_13 : Cond.methodLink RL 13 yX11_feed ∈ GW ∧ Cond.instanceMethod yX11_feed ∈ GW ∧ Cond.selects yX11_feed.cls yX11_feed yX11_feed ∈ GW := ⟨gw_in (i := 612) (by decide +kernel) rfl, gw_in (i := 613) (by decide +kernel) rfl, gw_in (i := 614) (by decide +kernel) rfl⟩
theorem ml_L_17 : Cond.methodLink RL 17 yX12_feed ∈ GW ∧ Cond.instanceMethod yX12_feed ∈ GW ∧ Cond.selects yX12_feed.cls yX12_feed yX12_feed ∈ GW := ⟨gw_in (i := 1407) (by decide +kernel) rfl, gw_in (i := 1408) (by decide +kernel) rfl, gw_in (i := 1409) (by decide +kernel) rfl⟩
theorem ml_L_18 : Cond.methodLink RL 18 yX11_end ∈ GW ∧ Cond.instanceMethod yX11_end ∈ GW ∧ Cond.selects yX11_end.cls yX11_end yX11_end ∈ GW := ⟨gw_in (i := 620) (by decide +kernel) rfl, gw_in (i := 621) (by decide +kernel) rfl, gw_in (i := 622) (by decide +kernel) rfl⟩
theorem ml_L_22 : Cond.methodLink RL 22 yX12_end ∈ GW ∧ Cond.instanceMethod yX12_end ∈ GW ∧ Cond.selects yX12_end.cls yX12_end yX12_end ∈ GW := ⟨gw_in (i := 1415) (by decide +kernel) rfl, gw_in (i := 1416) (by decide +kernel) rfl, gw_in (i := 1417) (by decide +kernel) rfl⟩
theorem ml_L_23 : Cond.methodLink RL 23 yX11_plane ∈ GW ∧ Cond.instanceMethod yX11_plane ∈ GW ∧ Cond.selects yX11_plane.cls yX11_plane yX11_plane ∈ GW := ⟨gw_in (i := 624) (by decide +kernel) rfl, gw_in (i := 625) (by decide +kernel) rfl, gw_in (i := 626) (by decide +kernel) rfl⟩
theorem ml_L_27 : Cond.methodLink RL 27 yX12_plane ∈ GW ∧ Cond.instanceMethod yX12_plane ∈ GW ∧ Cond.selects yX12_plane.cls yX12_plane yX12_plane ∈ GW := ⟨gw_in (i := 1419) (by decide +kernel) rfl, gw_in (i := 1420) (by decide +kernel) rfl, gw_in (i := 1421) (by decide +kernel) rfl⟩
theorem ml_L_28 : Cond.methodLink RL 28 yX11_cargo ∈ GW ∧ Cond.instanceMethod yX11_cargo ∈ GW ∧ Cond.selects yX11_cargo.cls yX11_cargo yX11_cargo ∈ GW := ⟨gw_in (i := 863) (by decide +kernel) rfl, gw_in (i := 864) (by decide +kernel) rfl, gw_in (i := 865) (by decide +kernel) rfl⟩
theorem ml_L_31 : Cond.methodLink RL 31 yX12_cargo ∈ GW ∧ Cond.instanceMethod yX12_cargo ∈ GW ∧ Cond.selects yX12_cargo.cls yX12_cargo yX12_cargo ∈ GW := ⟨gw_in (i := 1533) (by decide +kernel) rfl, gw_in (i := 1534) (by decide +kernel) rfl, gw_in (i := 1535) (by decide +kernel) rfl⟩
theorem ml_L_32 : Cond.methodLink RL 32 yX11_fault ∈ GW ∧ Cond.instanceMethod yX11_fault ∈ GW ∧ Cond.selects yX11_fault.cls yX11_fault yX11_fault ∈ GW := ⟨gw_in (i := 898) (by decide +kernel) rfl, gw_in (i := 899) (by decide +kernel) rfl, gw_in (i := 900) (by decide +kernel) rfl⟩
theorem ml_L_35 : Cond.methodLink RL 35 yX12_fault ∈ GW ∧ Cond.instanceMethod yX12_fault ∈ GW ∧ Cond.selects yX12_fault.cls yX12_fault yX12_fault ∈ GW := ⟨gw_in (i := 1552) (by decide +kernel) rfl, gw_in (i := 1553) (by decide +kernel) rfl, gw_in (i := 1554) (by decide +kernel) rfl⟩
theorem ml_L_36 : Cond.methodLink RL 36 yX11_count ∈ GW ∧ Cond.instanceMethod yX11_count ∈ GW ∧ Cond.selects yX11_count.cls yX11_count yX11_count ∈ GW := ⟨gw_in (i := 902) (by decide +kernel) rfl, gw_in (i := 903) (by decide +kernel) rfl, gw_in (i := 904) (by decide +kernel) rfl⟩
theorem ml_L_40 : Cond.methodLink RL 40 yX12_count ∈ GW ∧ Cond.instanceMethod yX12_count ∈ GW ∧ Cond.selects yX12_count.cls yX12_count yX12_count ∈ GW := ⟨gw_in (i := 1556) (by decide +kernel) rfl, gw_in (i := 1557) (by decide +kernel) rfl, gw_in (i := 1558) (by decide +kernel) rfl⟩
theorem ml_L_41 : Cond.methodLink RL 41 yX11_pallet ∈ GW ∧ Cond.instanceMethod yX11_pallet ∈ GW ∧ Cond.selects yX11_pallet.cls yX11_pallet yX11_pallet ∈ GW := ⟨gw_in (i := 910) (by decide +kernel) rfl, gw_in (i := 911) (by decide +kernel) rfl, gw_in (i := 912) (by decide +kernel) rfl⟩
theorem ml_L_45 : Cond.methodLink RL 45 yX12_pallet ∈ GW ∧ Cond.instanceMethod yX12_pallet ∈ GW ∧ Cond.selects yX12_pallet.cls yX12_pallet yX12_pallet ∈ GW := ⟨gw_in (i := 1560) (by decide +kernel) rfl, gw_in (i := 1561) (by decide +kernel) rfl, gw_in (i := 1562) (by decide +kernel) rfl⟩
theorem ml_L_46 : Cond.methodLink RL 46 yX11_named ∈ GW ∧ Cond.instanceMethod yX11_named ∈ GW ∧ Cond.selects yX11_named.cls yX11_named yX11_named ∈ GW := ⟨gw_in (i := 921) (by decide +kernel) rfl, gw_in (i := 922) (by decide +kernel) rfl, gw_in (i := 923) (by decide +kernel) rfl⟩
theorem ml_L_49 : Cond.methodLink RL 49 yX12_named ∈ GW ∧ Cond.instanceMethod yX12_named ∈ GW ∧ Cond.selects yX12_named.cls yX12_named yX12_named ∈ GW := ⟨gw_in (i := 1568) (by decide +kernel) rfl, gw_in (i := 1569) (by decide +kernel) rfl, gw_in (i := 1570) (by decide +kernel) rfl⟩
theorem ml_L_50 : Cond.methodLink RL 50 yX11_spot ∈ GW ∧ Cond.instanceMethod yX11_spot ∈ GW ∧ Cond.selects yX11_spot.cls yX11_spot yX11_spot ∈ GW := ⟨gw_in (i := 927) (by decide +kernel) rfl, gw_in (i := 928) (by decide +kernel) rfl, gw_in (i := 929) (by decide +kernel) rfl⟩
theorem ml_L_53 : Cond.methodLink RL 53 yX12_spot ∈ GW ∧ Cond.instanceMethod yX12_spot ∈ GW ∧ Cond.selects yX12_spot.cls yX12_spot yX12_spot ∈ GW := ⟨gw_in (i := 1572) (by decide +kernel) rfl, gw_in (i := 1573) (by decide +kernel) rfl, gw_in (i := 1574) (by decide +kernel) rfl⟩
theorem ml_L_54 : Cond.methodLink RL 54 yX11_in ∈ GW ∧ Cond.instanceMethod yX11_in ∈ GW ∧ Cond.selects yX11_in.cls yX11_in yX11_in ∈ GW := ⟨gw_in (i := 939) (by decide +kernel) rfl, gw_in (i := 940) (by decide +kernel) rfl, gw_in (i := 941) (by decide +kernel) rfl⟩
theorem ml_L_57 : Cond.methodLink RL 57 yX12_in ∈ GW ∧ Cond.instanceMethod yX12_in ∈ GW ∧ Cond.selects yX12_in.cls yX12_in yX12_in ∈ GW := ⟨gw_in (i := 1588) (by decide +kernel) rfl, gw_in (i := 1589) (by decide +kernel) rfl, gw_in (i := 1590) (by decide +kernel) rfl⟩
theorem ml_L_58 : Cond.methodLink RL 58 yX11_put ∈ GW ∧ Cond.instanceMethod yX11_put ∈ GW ∧ Cond.selects yX11_put.cls yX11_put yX11_put ∈ GW := ⟨gw_in (i := 953) (by decide +kernel) rfl, gw_in (i := 954) (by decide +kernel) rfl, gw_in (i := 955) (by decide +kernel) rfl⟩
theorem ml_L_61 : Cond.methodLink RL 61 yX12_put ∈ GW ∧ Cond.instanceMethod yX12_put ∈ GW ∧ Cond.selects yX12_put.cls yX12_put yX12_put ∈ GW := ⟨gw_in (i := 1612) (by decide +kernel) rfl, gw_in (i := 1613) (by decide +kernel) rfl, gw_in (i := 1614) (by decide +kernel) rfl⟩
theorem ml_L_62 : Cond.methodLink RL 62 yX11_off ∈ GW ∧ Cond.instanceMethod yX11_off ∈ GW ∧ Cond.selects yX11_off.cls yX11_off yX11_off ∈ GW := ⟨gw_in (i := 971) (by decide +kernel) rfl, gw_in (i := 972) (by decide +kernel) rfl, gw_in (i := 973) (by decide +kernel) rfl⟩
theorem ml_L_65 : Cond.methodLink RL 65 yX12_off ∈ GW ∧ Cond.instanceMethod yX12_off ∈ GW ∧ Cond.selects yX12_off.cls yX12_off yX12_off ∈ GW := ⟨gw_in (i := 1624) (by decide +kernel) rfl, gw_in (i := 1625) (by decide +kernel) rfl, gw_in (i := 1626) (by decide +kernel) rfl⟩
theorem ml_L_66 : Cond.methodLink RL 66 yX11_pour ∈ GW ∧ Cond.instanceMethod yX11_pour ∈ GW ∧ Cond.selects yX11_pour.cls yX11_pour yX11_pour ∈ GW := ⟨gw_in (i := 975) (by decide +kernel) rfl, gw_in (i := 976) (by decide +kernel) rfl, gw_in (i := 977) (by decide +kernel) rfl⟩
theorem ml_L_69 : Cond.methodLink RL 69 yX12_pour ∈ GW ∧ Cond.instanceMethod yX12_pour ∈ GW ∧ Cond.selects yX12_pour.cls yX12_pour yX12_pour ∈ GW := ⟨gw_in (i := 1628) (by decide +kernel) rfl, gw_in (i := 1629) (by decide +kernel) rfl, gw_in (i := 1630) (by decide +kernel) rfl⟩
theorem ml_L_70 : Cond.methodLink RL 70 yX11_why ∈ GW ∧ Cond.instanceMethod yX11_why ∈ GW ∧ Cond.selects yX11_why.cls yX11_why yX11_why ∈ GW := ⟨gw_in (i := 979) (by decide +kernel) rfl, gw_in (i := 980) (by decide +kernel) rfl, gw_in (i := 981) (by decide +kernel) rfl⟩
theorem ml_L_73 : Cond.methodLink RL 73 yX12_why ∈ GW ∧ Cond.instanceMethod yX12_why ∈ GW ∧ Cond.selects yX12_why.cls yX12_why yX12_why ∈ GW := ⟨gw_in (i := 1656) (by decide +kernel) rfl, gw_in (i := 1657) (by decide +kernel) rfl, gw_in (i := 1658) (by decide +kernel) rfl⟩
theorem ml_L_74 : Cond.methodLink RL 74 yX11_where ∈ GW ∧ Cond.instanceMethod yX11_where ∈ GW ∧ Cond.selects yX11_where.cls yX11_where yX11_where ∈ GW := ⟨gw_in (i := 1034) (by decide +kernel) rfl, gw_in (i := 1035) (by decide +kernel) rfl, gw_in (i := 1036) (by decide +kernel) rfl⟩
theorem ml_L_77 : Cond.methodLink RL 77 yX12_where ∈ GW ∧ Cond.instanceMethod yX12_where ∈ GW ∧ Cond.selects yX12_where.cls yX12_where yX12_where ∈ GW := ⟨gw_in (i := 1691) (by decide +kernel) rfl, gw_in (i := 1692) (by decide +kernel) rfl, gw_in (i := 1693) (by decide +kernel) rfl⟩
theorem ml_L_78 : Cond.methodLink RL 78 yX11_stage ∈ GW ∧ Cond.instanceMethod yX11_stage ∈ GW ∧ Cond.selects yX11_stage.cls yX11_stage yX11_stage ∈ GW := ⟨gw_in (i := 1039) (by decide +kernel) rfl, gw_in (i := 1040) (by decide +kernel) rfl, gw_in (i := 1041) (by decide +kernel) rfl⟩
theorem ml_L_81 : Cond.methodLink RL 81 yX12_stage ∈ GW ∧ Cond.instanceMethod yX12_stage ∈ GW ∧ Cond.selects yX12_stage.cls yX12_stage yX12_stage ∈ GW := ⟨gw_in (i := 1695) (by decide +kernel) rfl, gw_in (i := 1696) (by decide +kernel) rfl, gw_in (i := 1697) (by decide +kernel) rfl⟩
theorem ml_L_82 : Cond.methodLink RL 82 yX11_blocks ∈ GW ∧ Cond.instanceMethod yX11_blocks ∈ GW ∧ Cond.selects yX11_blocks.cls yX11_blocks yX11_blocks ∈ GW := ⟨gw_in (i := 1046) (by decide +kernel) rfl, gw_in (i := 1047) (by decide +kernel) rfl, gw_in (i := 1048) (by decide +kernel) rfl⟩
theorem ml_L_85 : Cond.methodLink RL 85 yX12_blocks ∈ GW ∧ Cond.instanceMethod yX12_blocks ∈ GW ∧ Cond.selects yX12_blocks.cls yX12_blocks yX12_blocks ∈ GW := ⟨gw_in (i := 1700) (by decide +kernel) rfl, gw_in (i := 1701) (by decide +kernel) rfl, gw_in (i := 1702) (by decide +kernel) rfl⟩
theorem ml_L_86 : Cond.methodLink RL 86 yX11_loadings ∈ GW ∧ Cond.instanceMethod yX11_loadings ∈ GW ∧ Cond.selects yX11_loadings.cls yX11_loadings yX11_loadings ∈ GW := ⟨gw_in (i := 1051) (by decide +kernel) rfl, gw_in (i := 1052) (by decide +kernel) rfl, gw_in (i := 1053) (by decide +kernel) rfl⟩
theorem ml_L_89 : Cond.methodLink RL 89 yX12_loadings ∈ GW ∧ Cond.instanceMethod yX12_loadings ∈ GW ∧ Cond.selects yX12_loadings.cls yX12_loadings yX12_loadings ∈ GW := ⟨gw_in (i := 1716) (by decide +kernel) rfl, gw_in (i := 1717) (by decide +kernel) rfl, gw_in (i := 1718) (by decide +kernel) rfl⟩
theorem ml_L_90 : Cond.methodLink RL 90 yX11_loading ∈ GW ∧ Cond.instanceMethod yX11_loading ∈ GW ∧ Cond.selects yX11_loading.cls yX11_loading yX11_loading ∈ GW := ⟨gw_in (i := 1108) (by decide +kernel) rfl, gw_in (i := 1109) (by decide +kernel) rfl, gw_in (i := 1110) (by decide +kernel) rfl⟩
theorem ml_L_93 : Cond.methodLink RL 93 yX12_loading ∈ GW ∧ Cond.instanceMethod yX12_loading ∈ GW ∧ Cond.selects yX12_loading.cls yX12_loading yX12_loading ∈ GW := ⟨gw_in (i := 1748) (by decide +kernel) rfl, gw_in (i := 1749) (by decide +kernel) rfl, gw_in (i := 1750) (by decide +kernel) rfl⟩
theorem ml_L_94 : Cond.methodLink RL 94 yX11_poured ∈ GW ∧ Cond.instanceMethod yX11_poured ∈ GW ∧ Cond.selects yX11_poured.cls yX11_poured yX11_poured ∈ GW := ⟨gw_in (i := 1120) (by decide +kernel) rfl, gw_in (i := 1121) (by decide +kernel) rfl, gw_in (i := 1122) (by decide +kernel) rfl⟩
theorem ml_L_97 : Cond.methodLink RL 97 yX12_poured ∈ GW ∧ Cond.instanceMethod yX12_poured ∈ GW ∧ Cond.selects yX12_poured.cls yX12_poured yX12_poured ∈ GW := ⟨gw_in (i := 1760) (by decide +kernel) rfl, gw_in (i := 1761) (by decide +kernel) rfl, gw_in (i := 1762) (by decide +kernel) rfl⟩
theorem ml_L_98 : Cond.methodLink RL 98 yX11_take ∈ GW ∧ Cond.instanceMethod yX11_take ∈ GW ∧ Cond.selects yX11_take.cls yX11_take yX11_take ∈ GW := ⟨gw_in (i := 1128) (by decide +kernel) rfl, gw_in (i := 1129) (by decide +kernel) rfl, gw_in (i := 1130) (by decide +kernel) rfl⟩
theorem ml_L_101 : Cond.methodLink RL 101 yX12_take ∈ GW ∧ Cond.instanceMethod yX12_take ∈ GW ∧ Cond.selects yX12_take.cls yX12_take yX12_take ∈ GW := ⟨gw_in (i := 1764) (by decide +kernel) rfl, gw_in (i := 1765) (by decide +kernel) rfl, gw_in (i := 1766) (by decide +kernel) rfl⟩
theorem ml_L_102 : Cond.methodLink RL 102 yX11_handlings ∈ GW ∧ Cond.instanceMethod yX11_handlings ∈ GW ∧ Cond.selects yX11_handlings.cls yX11_handlings yX11_handlings ∈ GW := ⟨gw_in (i := 1132) (by decide +kernel) rfl, gw_in (i := 1133) (by decide +kernel) rfl, gw_in (i := 1134) (by decide +kernel) rfl⟩
theorem ml_L_105 : Cond.methodLink RL 105 yX12_handlings ∈ GW ∧ Cond.instanceMethod yX12_handlings ∈ GW ∧ Cond.selects yX12_handlings.cls yX12_handlings yX12_handlings ∈ GW := ⟨gw_in (i := 1800) (by decide +kernel) rfl, gw_in (i := 1801) (by decide +kernel) rfl, gw_in (i := 1802) (by decide +kernel) rfl⟩
theorem ml_L_106 : Cond.methodLink RL 106 yX11_mend ∈ GW ∧ Cond.instanceMethod yX11_mend ∈ GW ∧ Cond.selects yX11_mend.cls yX11_mend yX11_mend ∈ GW := ⟨gw_in (i := 1143) (by decide +kernel) rfl, gw_in (i := 1144) (by decide +kernel) rfl, gw_in (i := 1145) (by decide +kernel) rfl⟩
theorem ml_L_109 : Cond.methodLink RL 109 yX12_mend ∈ GW ∧ Cond.instanceMethod yX12_mend ∈ GW ∧ Cond.selects yX12_mend.cls yX12_mend yX12_mend ∈ GW := ⟨gw_in (i := 1768) (by decide +kernel) rfl, gw_in (i := 1769) (by decide +kernel) rfl, gw_in (i := 1770) (by decide +kernel) rfl⟩
theorem ml_L_110 : Cond.methodLink RL 110 yX11_move ∈ GW ∧ Cond.instanceMethod yX11_move ∈ GW ∧ Cond.selects yX11_move.cls yX11_move yX11_move ∈ GW := ⟨gw_in (i := 1208) (by decide +kernel) rfl, gw_in (i := 1209) (by decide +kernel) rfl, gw_in (i := 1210) (by decide +kernel) rfl⟩
theorem ml_L_113 : Cond.methodLink RL 113 yX12_move ∈ GW ∧ Cond.instanceMethod yX12_move ∈ GW ∧ Cond.selects yX12_move.cls yX12_move yX12_move ∈ GW := ⟨gw_in (i := 1792) (by decide +kernel) rfl, gw_in (i := 1793) (by decide +kernel) rfl, gw_in (i := 1794) (by decide +kernel) rfl⟩
theorem ml_L_114 : Cond.methodLink RL 114 yX11_mended ∈ GW ∧ Cond.instanceMethod yX11_mended ∈ GW ∧ Cond.selects yX11_mended.cls yX11_mended yX11_mended ∈ GW := ⟨gw_in (i := 1216) (by decide +kernel) rfl, gw_in (i := 1217) (by decide +kernel) rfl, gw_in (i := 1218) (by decide +kernel) rfl⟩
theorem ml_L_117 : Cond.methodLink RL 117 yX12_mended ∈ GW ∧ Cond.instanceMethod yX12_mended ∈ GW ∧ Cond.selects yX12_mended.cls yX12_mended yX12_mended ∈ GW := ⟨gw_in (i := 1796) (by decide +kernel) rfl, gw_in (i := 1797) (by decide +kernel) rfl, gw_in (i := 1798) (by decide +kernel) rfl⟩
theorem ml_L_118 : Cond.methodLink RL 118 yX11_spare ∈ GW ∧ Cond.instanceMethod yX11_spare ∈ GW ∧ Cond.selects yX11_spare.cls yX11_spare yX11_spare ∈ GW := ⟨gw_in (i := 1224) (by decide +kernel) rfl, gw_in (i := 1225) (by decide +kernel) rfl, gw_in (i := 1226) (by decide +kernel) rfl⟩
theorem ml_L_121 : Cond.methodLink RL 121 yX12_spare ∈ GW ∧ Cond.instanceMethod yX12_spare ∈ GW ∧ Cond.selects yX12_spare.cls yX12_spare yX12_spare ∈ GW := ⟨gw_in (i := 1704) (by decide +kernel) rfl, gw_in (i := 1705) (by decide +kernel) rfl, gw_in (i := 1706) (by decide +kernel) rfl⟩
theorem ml_L_122 : Cond.methodLink RL 122 yX11_swaps ∈ GW ∧ Cond.instanceMethod yX11_swaps ∈ GW ∧ Cond.selects yX11_swaps.cls yX11_swaps yX11_swaps ∈ GW := ⟨gw_in (i := 1228) (by decide +kernel) rfl, gw_in (i := 1229) (by decide +kernel) rfl, gw_in (i := 1230) (by decide +kernel) rfl⟩
theorem ml_L_125 : Cond.methodLink RL 125 yX12_swaps ∈ GW ∧ Cond.instanceMethod yX12_swaps ∈ GW ∧ Cond.selects yX12_swaps.cls yX12_swaps yX12_swaps ∈ GW := ⟨gw_in (i := 1708) (by decide +kernel) rfl, gw_in (i := 1709) (by decide +kernel) rfl, gw_in (i := 1710) (by decide +kernel) rfl⟩
theorem ml_L_126 : Cond.methodLink RL 126 yX11_come ∈ GW ∧ Cond.instanceMethod yX11_come ∈ GW ∧ Cond.selects yX11_come.cls yX11_come yX11_come ∈ GW := ⟨gw_in (i := 1236) (by decide +kernel) rfl, gw_in (i := 1237) (by decide +kernel) rfl, gw_in (i := 1238) (by decide +kernel) rfl⟩
theorem ml_L_129 : Cond.methodLink RL 129 yX12_come ∈ GW ∧ Cond.instanceMethod yX12_come ∈ GW ∧ Cond.selects yX12_come.cls yX12_come yX12_come ∈ GW := ⟨gw_in (i := 1636) (by decide +kernel) rfl, gw_in (i := 1637) (by decide +kernel) rfl, gw_in (i := 1638) (by decide +kernel) rfl⟩
theorem ml_L_130 : Cond.methodLink RL 130 yX11_drop ∈ GW ∧ Cond.instanceMethod yX11_drop ∈ GW ∧ Cond.selects yX11_drop.cls yX11_drop yX11_drop ∈ GW := ⟨gw_in (i := 1241) (by decide +kernel) rfl, gw_in (i := 1242) (by decide +kernel) rfl, gw_in (i := 1243) (by decide +kernel) rfl⟩
theorem ml_L_133 : Cond.methodLink RL 133 yX12_drop ∈ GW ∧ Cond.instanceMethod yX12_drop ∈ GW ∧ Cond.selects yX12_drop.cls yX12_drop yX12_drop ∈ GW := ⟨gw_in (i := 1640) (by decide +kernel) rfl, gw_in (i := 1641) (by decide +kernel) rfl, gw_in (i := 1642) (by decide +kernel) rfl⟩
theorem ml_L_134 : Cond.methodLink RL 134 yX11_again ∈ GW ∧ Cond.instanceMethod yX11_again ∈ GW ∧ Cond.selects yX11_again.cls yX11_again yX11_again ∈ GW := ⟨gw_in (i := 1249) (by decide +kernel) rfl, gw_in (i := 1250) (by decide +kernel) rfl, gw_in (i := 1251) (by decide +kernel) rfl⟩
theorem ml_L_137 : Cond.methodLink RL 137 yX12_again ∈ GW ∧ Cond.instanceMethod yX12_again ∈ GW ∧ Cond.selects yX12_again.cls yX12_again yX12_again ∈ GW := ⟨gw_in (i := 1652) (by decide +kernel) rfl, gw_in (i := 1653) (by decide +kernel) rfl, gw_in (i := 1654) (by decide +kernel) rfl⟩
theorem ml_L_138 : Cond.methodLink RL 138 yX11_weigh ∈ GW ∧ Cond.instanceMethod yX11_weigh ∈ GW ∧ Cond.selects yX11_weigh.cls yX11_weigh yX11_weigh ∈ GW := ⟨gw_in (i := 1253) (by decide +kernel) rfl, gw_in (i := 1254) (by decide +kernel) rfl, gw_in (i := 1255) (by decide +kernel) rfl⟩
theorem ml_L_141 : Cond.methodLink RL 141 yX12_weigh ∈ GW ∧ Cond.instanceMethod yX12_weigh ∈ GW ∧ Cond.selects yX12_weigh.cls yX12_weigh yX12_weigh ∈ GW := ⟨gw_in (i := 1632) (by decide +kernel) rfl, gw_in (i := 1633) (by decide +kernel) rfl, gw_in (i := 1634) (by decide +kernel) rfl⟩
theorem ml_L_142 : Cond.methodLink RL 142 yX11_undo ∈ GW ∧ Cond.instanceMethod yX11_undo ∈ GW ∧ Cond.selects yX11_undo.cls yX11_undo yX11_undo ∈ GW := ⟨gw_in (i := 1257) (by decide +kernel) rfl, gw_in (i := 1258) (by decide +kernel) rfl, gw_in (i := 1259) (by decide +kernel) rfl⟩
theorem ml_L_145 : Cond.methodLink RL 145 yX12_undo ∈ GW ∧ Cond.instanceMethod yX12_undo ∈ GW ∧ Cond.selects yX12_undo.cls yX12_undo yX12_undo ∈ GW := ⟨gw_in (i := 1600) (by decide +kernel) rfl, gw_in (i := 1601) (by decide +kernel) rfl, gw_in (i := 1602) (by decide +kernel) rfl⟩
theorem ml_L_146 : Cond.methodLink RL 146 yX11_image ∈ GW ∧ Cond.instanceMethod yX11_image ∈ GW ∧ Cond.selects yX11_image.cls yX11_image yX11_image ∈ GW := ⟨gw_in (i := 1266) (by decide +kernel) rfl, gw_in (i := 1267) (by decide +kernel) rfl, gw_in (i := 1268) (by decide +kernel) rfl⟩
theorem ml_L_149 : Cond.methodLink RL 149 yX12_image ∈ GW ∧ Cond.instanceMethod yX12_image ∈ GW ∧ Cond.selects yX12_image.cls yX12_image yX12_image ∈ GW := ⟨gw_in (i := 1604) (by decide +kernel) rfl, gw_in (i := 1605) (by decide +kernel) rfl, gw_in (i := 1606) (by decide +kernel) rfl⟩
theorem ml_L_150 : Cond.methodLink RL 150 yX11_restore ∈ GW ∧ Cond.instanceMethod yX11_restore ∈ GW ∧ Cond.selects yX11_restore.cls yX11_restore yX11_restore ∈ GW := ⟨gw_in (i := 1290) (by decide +kernel) rfl, gw_in (i := 1291) (by decide +kernel) rfl, gw_in (i := 1292) (by decide +kernel) rfl⟩
theorem ml_L_153 : Cond.methodLink RL 153 yX12_restore ∈ GW ∧ Cond.instanceMethod yX12_restore ∈ GW ∧ Cond.selects yX12_restore.cls yX12_restore yX12_restore ∈ GW := ⟨gw_in (i := 1608) (by decide +kernel) rfl, gw_in (i := 1609) (by decide +kernel) rfl, gw_in (i := 1610) (by decide +kernel) rfl⟩
theorem ac_I : Cond.arrayClass .int ∈ GW := gw_in (i := 168) (by decide +kernel) rfl
theorem ac_L : Cond.arrayClass .long ∈ GW := gw_in (i := 260) (by decide +kernel) rfl
theorem ac_B : Cond.arrayClass .byte ∈ GW := gw_in (i := 862) (by decide +kernel) rfl
theorem ac_Z : Cond.arrayClass .boolean ∈ GW := gw_in (i := 261) (by decide +kernel) rfl

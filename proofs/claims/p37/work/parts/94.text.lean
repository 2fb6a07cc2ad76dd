/-! 94.text: the law's plane and cargo, as texts and as rows -/
def lk : List (Int × Int) → Int → Int
  | [], j => bareR j
  | (i, x) :: t, j => if j = i then x else lk t j
def nk : List (Int × Int) → Int → Int
  | [], _ => 0
  | (i, x) :: t, j => if j = i then x else nk t j
def ZOK (z : Int → Int) : Prop := (20 ≤ z 0 ∧ z 0 ≤ 83) ∧ (40 ≤ z 1 ∧ z 1 ≤ 55) ∧ (35 ≤ z 2 ∧ z 2 ≤ 42) ∧ (50 ≤ z 3 ∧ z 3 ≤ 65) ∧ (20 ≤ z 4 ∧ z 4 ≤ 83) ∧ (20 ≤ z 5 ∧ z 5 ≤ 83) ∧ (z 6 = 0 ∨ z 6 = 1) ∧ (z 7 = 0 ∨ z 7 = 1) ∧
  (∀ k, 0 ≤ k → k < 4 → (0 ≤ z (8 + k) ∧ z (8 + k) ≤ 67) ∧ (10 ≤ z (12 + k) ∧ z (12 + k) ≤ 41)) ∧ (15 ≤ z 16 ∧ z 16 ≤ 78) ∧ (0 ≤ z 17 ∧ z 17 ≤ 63) ∧ (1 ≤ z 18 ∧ z 18 ≤ 4) ∧ (30 ≤ z 19 ∧ z 19 ≤ 61) ∧ (20 ≤ z 20 ∧ z 20 ≤ 51) ∧ (1 ≤ z 21 ∧ z 21 ≤ 8) ∧ z 22 = 5
def COK2 (z c : Int → Int) : Prop := (0 ≤ c 11 ∧ c 11 ≤ 3) ∧ (∀ k, 0 ≤ k → k < c 11 → (1 ≤ c (2 * k) ∧ c (2 * k) ≤ 32) ∧ (1 ≤ c (2 * k + 1) ∧ c (2 * k + 1) ≤ 3)) ∧ 0 ≤ c 10 ∧ c 10 ≤ z 18 + 1
def planeTx (z : Int → Int) : List Int :=
  [101, 109, 112, 116, 121] ++ (32 :: (dig (z 0) ++ 32 :: (dig (z 1) ++ 59 ::
  ([115, 112, 97, 110] ++ (32 :: (dig (z 2) ++ 32 :: (dig (z 3) ++ 59 ::
  ([104, 111, 108, 100] ++ (32 :: 97 :: 32 :: (dig (z 4) ++ 32 :: (doorT (z 6) ++ 59 ::
  ([115, 112, 111, 116] ++ (32 :: (dig (z 8) ++ 32 :: (dig (z 12) ++ 59 ::
  ([115, 112, 111, 116] ++ (32 :: (dig (z 9) ++ 32 :: (dig (z 13) ++ 59 ::
  ([106, 111, 105, 110, 116] ++ (32 :: (dig (z 16) ++ 59 ::
  ([104, 111, 108, 100] ++ (32 :: 98 :: 32 :: (dig (z 5) ++ 32 :: (doorT (z 7) ++ 59 ::
  ([115, 112, 111, 116] ++ (32 :: (dig (z 10) ++ 32 :: (dig (z 14) ++ 59 ::
  ([115, 112, 111, 116] ++ (32 :: (dig (z 11) ++ 32 :: (dig (z 15) ++ 59 ::
  ([98, 105, 110] ++ (32 :: (dig (z 17) ++ 32 :: (dig (z 18) ++ 59 ::
  ([116, 97, 110, 107] ++ (32 :: 116 :: 32 :: (dig (z 19) ++ 32 :: (dig (z 20) ++ 59 ::
  ([98, 117, 114, 110] ++ (32 :: 116 :: 32 :: (dig (z 21) ++ 59 ::
  ([115, 116, 111, 112] ++ (59 ::
  ([98, 117, 114, 110] ++ (32 :: 116 :: 32 :: (dig (z 22) ++ 59 ::
  ([115, 116, 111, 112] ++ (59 ::
  []))))))))))))))))))))))))))))))))))))))))))))))))))))
theorem lt0 {a : Int} (h : a = -1) : a < 0 := by omega
theorem ne0 {a : Int} {b : Nat} (h : a = ((b + 1 : Nat) : Int)) : a ≠ 0 := by omega
theorem ltN {a b c : Int} (h : a = b) (h2 : b < c) : a < c := by omega
theorem le_of_eq2 {a b c : Int} (h : c = b) (h2 : a ≤ b) : a ≤ c := by omega
def endL (z : Int → Int) : List (Int × Int) := [(10, 1 + 1), (9, 3 + 1), (62, -1), (9, 2 + 1), (61, 0), (73, z 22), (10, 0 + 1), (9, 1 + 1), (60, -1), (9, 0 + 1), (59, 0), (71, z 21), (8, 0 + 1), (56, z 20), (53, z 19), (7, 0 + 1), (49, z 18), (47, z 17), (5, 3 + 1), (34, z 15), (28, z 11), (22, 2 - 1), (5, 2 + 1), (33, z 14), (27, z 10), (21, 2 - 1), (4, 1 + 1), (17, 1 - (1 - z 7)), (14, z 5), (6, 0 + 1), (42, z 16), (37, 2 - 2), (5, 1 + 1), (32, z 13), (26, z 9), (20, 1 - 1), (5, 0 + 1), (31, z 12), (25, z 8), (19, 1 - 1), (4, 0 + 1), (16, 1 - (1 - z 6)), (13, z 4), (3, z 3), (2, z 2), (1, z 1), (0, z 0)]
def endN : List (Int × Int) := [(3, 116 - 96), (1, 98 - 96), (0, 97 - 96)]
set_option maxRecDepth 100000 in
set_option maxHeartbeats 4000000 in
theorem plane_read {T : Tq} {z : Int → Int} (hz : ZOK z) (hT : T.2 ≤ 500) (h0 : At T (0, 0, 0, 0, 0) (planeTx z)) : sE (planeR T).1 = 0 ∧ (planeR T).2 = (lk (endL z), nk endN, 1, 1) := by
  obtain ⟨b0, b1, b2, b3, b4, b5, hz6, hz7, bk, b16, b17, b18, b19, b20, b21, b22⟩ := hz
  obtain ⟨⟨s0, t0⟩, ⟨s1, t1⟩, ⟨s2, t2⟩, ⟨s3, t3⟩⟩ := And.intro (bk 0 (by omega) (by omega)) (And.intro (bk 1 (by omega) (by omega)) (And.intro (bk 2 (by omega) (by omega)) (bk 3 (by omega) (by omega))))
  simp only [Int.add_zero, show (8 : Int) + 1 = 9 from rfl, show (8 : Int) + 2 = 10 from rfl, show (8 : Int) + 3 = 11 from rfl, show (12 : Int) + 1 = 13 from rfl, show (12 : Int) + 2 = 14 from rfl, show (12 : Int) + 3 = 15 from rfl] at s0 t0 s1 t1 s2 t2 s3 t3
  unfold planeTx at h0
  have e0 : planeR T = loopP T 500 (0, 0, 0, 0, 0) (lk [], nk [], 0, 0) := by
    unfold planeR beginC
    rw [if_neg (by omega)]
    rfl
  rw [e0]
  obtain ⟨σ1, e1, h1⟩ := tx_loop (n := 499) (L := emptyL) (w := [101, 109, 112, 116, 121]) (D' := (lk [(1, z 1), (0, z 0)], nk [], 1, 0)) h0 rfl (by simp) (by decide) rfl (fun σ c => ln_0 c) (fun σ h => tx_empty h (by omega) (by omega) rfl)
  rw [e1]
  obtain ⟨σ2, e2, h2⟩ := tx_loop (n := 498) (L := spanL) (w := [115, 112, 97, 110]) (D' := (lk [(3, z 3), (2, z 2), (1, z 1), (0, z 0)], nk [], 1, 1)) h1 rfl (by simp) (by decide) rfl (fun σ c => ln_1 c) (fun σ h => tx_span h (by omega) (by omega) rfl)
  rw [e2]
  obtain ⟨σ3, e3, h3⟩ := tx_loop (n := 497) (L := holdL) (w := [104, 111, 108, 100]) (D' := (lk [(4, 0 + 1), (16, 1 - (1 - z 6)), (13, z 4), (3, z 3), (2, z 2), (1, z 1), (0, z 0)], nk [(0, 97 - 96)], 1, 1)) h2 rfl (by simp) (by decide) rfl (fun σ c => ln_2 c) (fun σ h => tx_hold h rfl (by omega) hz6 (lt0 rfl) (lt0 rfl) (ltN (b := 0) rfl (by decide)))
  rw [e3]
  obtain ⟨σ4, e4, h4⟩ := tx_loop (n := 496) (L := spotL) (w := [115, 112, 111, 116]) (D' := (lk [(5, 0 + 1), (31, z 12), (25, z 8), (19, 1 - 1), (4, 0 + 1), (16, 1 - (1 - z 6)), (13, z 4), (3, z 3), (2, z 2), (1, z 1), (0, z 0)], nk [(0, 97 - 96)], 1, 1)) h3 rfl (by simp) (by decide) rfl (fun σ c => ln_3 c) (fun σ h => tx_spot h (by omega) (by omega) (ne0 (b := 0) rfl) (ltN (b := 0) rfl (by decide)))
  rw [e4]
  obtain ⟨σ5, e5, h5⟩ := tx_loop (n := 495) (L := spotL) (w := [115, 112, 111, 116]) (D' := (lk [(5, 1 + 1), (32, z 13), (26, z 9), (20, 1 - 1), (5, 0 + 1), (31, z 12), (25, z 8), (19, 1 - 1), (4, 0 + 1), (16, 1 - (1 - z 6)), (13, z 4), (3, z 3), (2, z 2), (1, z 1), (0, z 0)], nk [(0, 97 - 96)], 1, 1)) h4 rfl (by simp) (by decide) rfl (fun σ c => ln_3 c) (fun σ h => tx_spot h (by omega) (by omega) (ne0 (b := 0) rfl) (ltN (b := 1) rfl (by decide)))
  rw [e5]
  obtain ⟨σ6, e6, h6⟩ := tx_loop (n := 494) (L := jointL) (w := [106, 111, 105, 110, 116]) (D' := (lk [(6, 0 + 1), (42, z 16), (37, 2 - 2), (5, 1 + 1), (32, z 13), (26, z 9), (20, 1 - 1), (5, 0 + 1), (31, z 12), (25, z 8), (19, 1 - 1), (4, 0 + 1), (16, 1 - (1 - z 6)), (13, z 4), (3, z 3), (2, z 2), (1, z 1), (0, z 0)], nk [(0, 97 - 96)], 1, 1)) h5 rfl (by simp) (by decide) rfl (fun σ c => ln_4 c) (fun σ h => tx_joint h (by omega) rfl)
  rw [e6]
  obtain ⟨σ7, e7, h7⟩ := tx_loop (n := 493) (L := holdL) (w := [104, 111, 108, 100]) (D' := (lk [(4, 1 + 1), (17, 1 - (1 - z 7)), (14, z 5), (6, 0 + 1), (42, z 16), (37, 2 - 2), (5, 1 + 1), (32, z 13), (26, z 9), (20, 1 - 1), (5, 0 + 1), (31, z 12), (25, z 8), (19, 1 - 1), (4, 0 + 1), (16, 1 - (1 - z 6)), (13, z 4), (3, z 3), (2, z 2), (1, z 1), (0, z 0)], nk [(1, 98 - 96), (0, 97 - 96)], 1, 1)) h6 rfl (by simp) (by decide) rfl (fun σ c => ln_2 c) (fun σ h => tx_hold h rfl (by omega) hz7 (lt0 rfl) (lt0 rfl) (ltN (b := 1) rfl (by decide)))
  rw [e7]
  obtain ⟨σ8, e8, h8⟩ := tx_loop (n := 492) (L := spotL) (w := [115, 112, 111, 116]) (D' := (lk [(5, 2 + 1), (33, z 14), (27, z 10), (21, 2 - 1), (4, 1 + 1), (17, 1 - (1 - z 7)), (14, z 5), (6, 0 + 1), (42, z 16), (37, 2 - 2), (5, 1 + 1), (32, z 13), (26, z 9), (20, 1 - 1), (5, 0 + 1), (31, z 12), (25, z 8), (19, 1 - 1), (4, 0 + 1), (16, 1 - (1 - z 6)), (13, z 4), (3, z 3), (2, z 2), (1, z 1), (0, z 0)], nk [(1, 98 - 96), (0, 97 - 96)], 1, 1)) h7 rfl (by simp) (by decide) rfl (fun σ c => ln_3 c) (fun σ h => tx_spot h (by omega) (by omega) (ne0 (b := 1) rfl) (ltN (b := 2) rfl (by decide)))
  rw [e8]
  obtain ⟨σ9, e9, h9⟩ := tx_loop (n := 491) (L := spotL) (w := [115, 112, 111, 116]) (D' := (lk [(5, 3 + 1), (34, z 15), (28, z 11), (22, 2 - 1), (5, 2 + 1), (33, z 14), (27, z 10), (21, 2 - 1), (4, 1 + 1), (17, 1 - (1 - z 7)), (14, z 5), (6, 0 + 1), (42, z 16), (37, 2 - 2), (5, 1 + 1), (32, z 13), (26, z 9), (20, 1 - 1), (5, 0 + 1), (31, z 12), (25, z 8), (19, 1 - 1), (4, 0 + 1), (16, 1 - (1 - z 6)), (13, z 4), (3, z 3), (2, z 2), (1, z 1), (0, z 0)], nk [(1, 98 - 96), (0, 97 - 96)], 1, 1)) h8 rfl (by simp) (by decide) rfl (fun σ c => ln_3 c) (fun σ h => tx_spot h (by omega) (by omega) (ne0 (b := 1) rfl) (ltN (b := 3) rfl (by decide)))
  rw [e9]
  obtain ⟨σ10, e10, h10⟩ := tx_loop (n := 490) (L := binL) (w := [98, 105, 110]) (D' := (lk [(7, 0 + 1), (49, z 18), (47, z 17), (5, 3 + 1), (34, z 15), (28, z 11), (22, 2 - 1), (5, 2 + 1), (33, z 14), (27, z 10), (21, 2 - 1), (4, 1 + 1), (17, 1 - (1 - z 7)), (14, z 5), (6, 0 + 1), (42, z 16), (37, 2 - 2), (5, 1 + 1), (32, z 13), (26, z 9), (20, 1 - 1), (5, 0 + 1), (31, z 12), (25, z 8), (19, 1 - 1), (4, 0 + 1), (16, 1 - (1 - z 6)), (13, z 4), (3, z 3), (2, z 2), (1, z 1), (0, z 0)], nk [(1, 98 - 96), (0, 97 - 96)], 1, 1)) h9 rfl (by simp) (by decide) rfl (fun σ c => ln_5 c) (fun σ h => tx_bin h (by omega) (by omega) (ltN (b := 0) rfl (by decide)))
  rw [e10]
  obtain ⟨σ11, e11, h11⟩ := tx_loop (n := 489) (L := tankL) (w := [116, 97, 110, 107]) (D' := (lk [(8, 0 + 1), (56, z 20), (53, z 19), (7, 0 + 1), (49, z 18), (47, z 17), (5, 3 + 1), (34, z 15), (28, z 11), (22, 2 - 1), (5, 2 + 1), (33, z 14), (27, z 10), (21, 2 - 1), (4, 1 + 1), (17, 1 - (1 - z 7)), (14, z 5), (6, 0 + 1), (42, z 16), (37, 2 - 2), (5, 1 + 1), (32, z 13), (26, z 9), (20, 1 - 1), (5, 0 + 1), (31, z 12), (25, z 8), (19, 1 - 1), (4, 0 + 1), (16, 1 - (1 - z 6)), (13, z 4), (3, z 3), (2, z 2), (1, z 1), (0, z 0)], nk [(3, 116 - 96), (1, 98 - 96), (0, 97 - 96)], 1, 1)) h10 rfl (by simp) (by decide) rfl (fun σ c => ln_6 c) (fun σ h => tx_tank h rfl (by omega) (by omega) (lt0 rfl) (lt0 rfl) (ltN (b := 0) rfl (by decide)))
  rw [e11]
  obtain ⟨σ12, e12, h12⟩ := tx_loop (n := 488) (L := burnL) (w := [98, 117, 114, 110]) (D' := (lk [(9, 0 + 1), (59, 0), (71, z 21), (8, 0 + 1), (56, z 20), (53, z 19), (7, 0 + 1), (49, z 18), (47, z 17), (5, 3 + 1), (34, z 15), (28, z 11), (22, 2 - 1), (5, 2 + 1), (33, z 14), (27, z 10), (21, 2 - 1), (4, 1 + 1), (17, 1 - (1 - z 7)), (14, z 5), (6, 0 + 1), (42, z 16), (37, 2 - 2), (5, 1 + 1), (32, z 13), (26, z 9), (20, 1 - 1), (5, 0 + 1), (31, z 12), (25, z 8), (19, 1 - 1), (4, 0 + 1), (16, 1 - (1 - z 6)), (13, z 4), (3, z 3), (2, z 2), (1, z 1), (0, z 0)], nk [(3, 116 - 96), (1, 98 - 96), (0, 97 - 96)], 1, 1)) h11 rfl (by simp) (by decide) rfl (fun σ c => ln_7 c) (fun σ h => tx_burn (t := 0) h rfl (by omega) rfl (by omega) (le_of_eq2 (b := z 20 - 0) rfl (by omega)) (ltN (b := 0) rfl (by decide)))
  rw [e12]
  obtain ⟨σ13, e13, h13⟩ := tx_loop (n := 487) (L := stopL) (w := [115, 116, 111, 112]) (D' := (lk [(10, 0 + 1), (9, 1 + 1), (60, -1), (9, 0 + 1), (59, 0), (71, z 21), (8, 0 + 1), (56, z 20), (53, z 19), (7, 0 + 1), (49, z 18), (47, z 17), (5, 3 + 1), (34, z 15), (28, z 11), (22, 2 - 1), (5, 2 + 1), (33, z 14), (27, z 10), (21, 2 - 1), (4, 1 + 1), (17, 1 - (1 - z 7)), (14, z 5), (6, 0 + 1), (42, z 16), (37, 2 - 2), (5, 1 + 1), (32, z 13), (26, z 9), (20, 1 - 1), (5, 0 + 1), (31, z 12), (25, z 8), (19, 1 - 1), (4, 0 + 1), (16, 1 - (1 - z 6)), (13, z 4), (3, z 3), (2, z 2), (1, z 1), (0, z 0)], nk [(3, 116 - 96), (1, 98 - 96), (0, 97 - 96)], 1, 1)) h12 rfl (by simp) (by decide) rfl (fun σ c => ln_8 c) (fun σ h => tx_stop h (ltN (b := 1) rfl (by decide)) (ltN (b := 0) rfl (by decide)))
  rw [e13]
  obtain ⟨σ14, e14, h14⟩ := tx_loop (n := 486) (L := burnL) (w := [98, 117, 114, 110]) (D' := (lk [(9, 2 + 1), (61, 0), (73, z 22), (10, 0 + 1), (9, 1 + 1), (60, -1), (9, 0 + 1), (59, 0), (71, z 21), (8, 0 + 1), (56, z 20), (53, z 19), (7, 0 + 1), (49, z 18), (47, z 17), (5, 3 + 1), (34, z 15), (28, z 11), (22, 2 - 1), (5, 2 + 1), (33, z 14), (27, z 10), (21, 2 - 1), (4, 1 + 1), (17, 1 - (1 - z 7)), (14, z 5), (6, 0 + 1), (42, z 16), (37, 2 - 2), (5, 1 + 1), (32, z 13), (26, z 9), (20, 1 - 1), (5, 0 + 1), (31, z 12), (25, z 8), (19, 1 - 1), (4, 0 + 1), (16, 1 - (1 - z 6)), (13, z 4), (3, z 3), (2, z 2), (1, z 1), (0, z 0)], nk [(3, 116 - 96), (1, 98 - 96), (0, 97 - 96)], 1, 1)) h13 rfl (by simp) (by decide) rfl (fun σ c => ln_7 c) (fun σ h => tx_burn (t := 0) h rfl (by omega) rfl (by omega) (le_of_eq2 (b := z 20 - (z 21 + (0 + 0))) rfl (by omega)) (ltN (b := 2) rfl (by decide)))
  rw [e14]
  obtain ⟨σ15, e15, h15⟩ := tx_loop (n := 485) (L := stopL) (w := [115, 116, 111, 112]) (D' := (lk [(10, 1 + 1), (9, 3 + 1), (62, -1), (9, 2 + 1), (61, 0), (73, z 22), (10, 0 + 1), (9, 1 + 1), (60, -1), (9, 0 + 1), (59, 0), (71, z 21), (8, 0 + 1), (56, z 20), (53, z 19), (7, 0 + 1), (49, z 18), (47, z 17), (5, 3 + 1), (34, z 15), (28, z 11), (22, 2 - 1), (5, 2 + 1), (33, z 14), (27, z 10), (21, 2 - 1), (4, 1 + 1), (17, 1 - (1 - z 7)), (14, z 5), (6, 0 + 1), (42, z 16), (37, 2 - 2), (5, 1 + 1), (32, z 13), (26, z 9), (20, 1 - 1), (5, 0 + 1), (31, z 12), (25, z 8), (19, 1 - 1), (4, 0 + 1), (16, 1 - (1 - z 6)), (13, z 4), (3, z 3), (2, z 2), (1, z 1), (0, z 0)], nk [(3, 116 - 96), (1, 98 - 96), (0, 97 - 96)], 1, 1)) h14 rfl (by simp) (by decide) rfl (fun σ c => ln_8 c) (fun σ h => tx_stop h (ltN (b := 3) rfl (by decide)) (ltN (b := 1) rfl (by decide)))
  rw [e15]
  obtain ⟨a, b⟩ := tx_fin h15
  rw [loopP, if_neg (by rw [b]; simp)]
  exact ⟨a, rfl⟩
/-- the length of a plane's text -/
theorem dig_len (v : Int) : (dig v).length ≤ 2 := by
  unfold dig
  split <;> simp
theorem door_len (v : Int) : (doorT v).length ≤ 5 := by
  unfold doorT
  split <;> simp
theorem plane_len (z : Int → Int) : (planeTx z).length ≤ 180 := by
  unfold planeTx
  simp only [List.length_append, List.length_cons, List.length_nil]
  have d := fun v => dig_len v
  have d0 := dig_len (z 0)
  have d1 := dig_len (z 1)
  have d2 := dig_len (z 2)
  have d3 := dig_len (z 3)
  have d4 := dig_len (z 4)
  have d8 := dig_len (z 8)
  have d12 := dig_len (z 12)
  have d9 := dig_len (z 9)
  have d13 := dig_len (z 13)
  have d16 := dig_len (z 16)
  have d5 := dig_len (z 5)
  have d10 := dig_len (z 10)
  have d14 := dig_len (z 14)
  have d11 := dig_len (z 11)
  have d15 := dig_len (z 15)
  have d17 := dig_len (z 17)
  have d18 := dig_len (z 18)
  have d19 := dig_len (z 19)
  have d20 := dig_len (z 20)
  have d21 := dig_len (z 21)
  have d22 := dig_len (z 22)
  have d6 := door_len (z 6)
  have d7 := door_len (z 7)
  omega

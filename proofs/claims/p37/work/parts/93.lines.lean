/-! 93.lines: what the law's lines do -/
section LINES
variable {T : Tq} {σ : Sg} {r : List Int}
theorem tx_empty {D : PD} {a b : Int} (h : At T σ (32 :: (dig a ++ 32 :: (dig b ++ 59 :: r)))) (ha : 1 ≤ a ∧ a ≤ 99) (hb : 0 ≤ b ∧ b ≤ 99) (h0 : D.2.2.1 = 0) : At T (emptyL T σ D).1 (59 :: r) ∧ (emptyL T σ D).2 = (rset (rset D.1 0 a) 1 b, D.2.1, 1, D.2.2.2) := by
  have e0 : iff' (D.2.2.1 = 1) σ 3 = σ := iff_neg (by omega)
  have q1 : (emptyS1 T σ D).1 = a ∧ At T (emptyS1 T σ D).2 (32 :: (dig b ++ 59 :: r)) := by
    unfold emptyS1
    rw [e0]
    exact tx_num h rfl (by omega) (by omega)
  have q2 : (emptyS2 T σ D).1 = b ∧ At T (emptyS2 T σ D).2 (59 :: r) := tx_num q1.2 rfl (by omega) (by omega)
  refine ⟨q2.2, ?_⟩
  unfold emptyL
  dsimp only
  rw [q1.1, q2.1]
theorem tx_span {D : PD} {a b : Int} (h : At T σ (32 :: (dig a ++ 32 :: (dig b ++ 59 :: r)))) (ha : 0 ≤ a ∧ a < b) (hb : b ≤ 99) (h0 : D.2.2.2 = 0) : At T (spanL T σ D).1 (59 :: r) ∧ (spanL T σ D).2 = (rset (rset D.1 2 a) 3 b, D.2.1, D.2.2.1, 1) := by
  have e0 : iff' (D.2.2.2 = 1) σ 3 = σ := iff_neg (by omega)
  have q1 : (spanS1 T σ D).1 = a ∧ At T (spanS1 T σ D).2 (32 :: (dig b ++ 59 :: r)) := by
    unfold spanS1
    rw [e0]
    exact tx_num h rfl (by omega) (by omega)
  have q2 : (spanS2 T σ D).1 = b ∧ At T (spanS2 T σ D).2 (59 :: r) := tx_num q1.2 rfl (by omega) (by rw [q1.1]; omega)
  refine ⟨q2.2, ?_⟩
  unfold spanL
  dsimp only
  rw [q1.1, q2.1]
/-- a name that is new -/
theorem tx_new {D : PD} {x : Int} (h : At T σ (32 :: x :: r)) (hx : isSm x = true) (hr : StpL r = true) (h1 : holdF D (x - 96) < 0) (h2 : tankF D (x - 96) < 0) : (newN T σ D).1 = x - 96 ∧ At T (newN T σ D).2 r := by
  have q := tx_name h hx hr
  unfold newN
  refine ⟨q.1, ?_⟩
  dsimp only
  rw [q.1, if_neg (by omega)]
  exact q.2
/-- a door, as a text and as a number -/
def doorT (k : Int) : List Int := if k = 1 then [98, 97, 99, 107] else [102, 114, 111, 110, 116]
theorem tx_front {k : Int} (h : At T σ (32 :: (doorT k ++ 59 :: r))) (hk : k = 0 ∨ k = 1) : (frontC T σ).1 = 1 - k ∧ At T (frontC T σ).2 (59 :: r) := by
  rcases hk with rfl | rfl
  · have q := tx_wordB (w := [102, 114, 111, 110, 116]) h rfl (by simp) (by decide) rfl
    unfold frontC
    rw [q.2.2 11]
    exact ⟨rfl, q.1⟩
  · have q := tx_wordB (w := [98, 97, 99, 107]) h rfl (by simp) (by decide) rfl
    unfold frontC
    rw [q.2.2 11, q.2.2 12]
    exact ⟨rfl, q.1⟩
theorem tx_hold {D : PD} {x v k : Int} (h : At T σ (32 :: x :: 32 :: (dig v ++ 32 :: (doorT k ++ 59 :: r)))) (hx : isSm x = true) (hv : 1 ≤ v ∧ v ≤ 99) (hk : k = 0 ∨ k = 1) (h1 : holdF D (x - 96) < 0) (h2 : tankF D (x - 96) < 0) (h4 : D.1 4 < 3) :
    At T (holdL T σ D).1 (59 :: r) ∧ (holdL T σ D).2 = addHold D (x - 96) v (1 - k) := by
  have e0 : iff' (3 ≤ D.1 4) σ 4 = σ := iff_neg (by omega)
  have q1 : (holdS1 T σ D).1 = x - 96 ∧ At T (holdS1 T σ D).2 (32 :: (dig v ++ 32 :: (doorT k ++ 59 :: r))) := by
    unfold holdS1
    rw [e0]
    exact tx_new h hx rfl h1 h2
  have q2 : (holdS2 T σ D).1 = v ∧ At T (holdS2 T σ D).2 (32 :: (doorT k ++ 59 :: r)) := tx_num q1.2 rfl (by omega) (by omega)
  have q3 : (holdS3 T σ D).1 = 1 - k ∧ At T (holdS3 T σ D).2 (59 :: r) := tx_front q2.2 hk
  refine ⟨q3.2, ?_⟩
  unfold holdL
  dsimp only
  rw [if_pos q3.2.1, q1.1, q2.1, q3.1]
theorem tx_spot {D : PD} {a b : Int} (h : At T σ (32 :: (dig a ++ 32 :: (dig b ++ 59 :: r)))) (ha : 0 ≤ a ∧ a ≤ 99) (hb : 1 ≤ b ∧ b ≤ 99) (h4 : D.1 4 ≠ 0) (h5 : D.1 5 < 6) : At T (spotL T σ D).1 (59 :: r) ∧ (spotL T σ D).2 = addSpot D a b := by
  have e0 : iff' (D.1 4 = 0) (iff' (6 ≤ D.1 5) σ 4) 5 = σ := by
    rw [iff_neg h4, iff_neg (by omega)]
  have q1 : (spotS1 T σ D).1 = a ∧ At T (spotS1 T σ D).2 (32 :: (dig b ++ 59 :: r)) := by
    unfold spotS1
    rw [e0]
    exact tx_num h rfl (by omega) (by omega)
  have q2 : (spotS2 T σ D).1 = b ∧ At T (spotS2 T σ D).2 (59 :: r) := tx_num q1.2 rfl (by omega) (by omega)
  refine ⟨q2.2, ?_⟩
  unfold spotL
  dsimp only
  rw [if_pos q2.2.1, q1.1, q2.1]
theorem tx_joint {D : PD} {a : Int} (h : At T σ (32 :: (dig a ++ 59 :: r))) (ha : 1 ≤ a ∧ a ≤ 99) (hc : canJ D.1 = true) : At T (jointL T σ D).1 (59 :: r) ∧ (jointL T σ D).2 = addJoint D a := by
  have e0 : iff' (canJ D.1 = false) σ 5 = σ := iff_neg (by rw [hc]; simp)
  have q1 : (jointS1 T σ D).1 = a ∧ At T (jointS1 T σ D).2 (59 :: r) := by
    unfold jointS1
    rw [e0]
    exact tx_num h rfl (by omega) (by omega)
  refine ⟨q1.2, ?_⟩
  unfold jointL
  dsimp only
  rw [if_pos q1.2.1, q1.1]
theorem tx_bin {D : PD} {a b : Int} (h : At T σ (32 :: (dig a ++ 32 :: (dig b ++ 59 :: r)))) (ha : 0 ≤ a ∧ a ≤ 99) (hb : 1 ≤ b ∧ b ≤ 99) (h7 : D.1 7 < 2) : At T (binL T σ D).1 (59 :: r) ∧ (binL T σ D).2 = addBin D a b := by
  have e0 : iff' (2 ≤ D.1 7) σ 4 = σ := iff_neg (by omega)
  have q1 : (binS1 T σ D).1 = a ∧ At T (binS1 T σ D).2 (32 :: (dig b ++ 59 :: r)) := by
    unfold binS1
    rw [e0]
    exact tx_num h rfl (by omega) (by omega)
  have q2 : (binS2 T σ D).1 = b ∧ At T (binS2 T σ D).2 (59 :: r) := tx_num q1.2 rfl (by omega) (by omega)
  refine ⟨q2.2, ?_⟩
  unfold binL
  dsimp only
  rw [if_pos q2.2.1, q1.1, q2.1]
theorem tx_tank {D : PD} {x a b : Int} (h : At T σ (32 :: x :: 32 :: (dig a ++ 32 :: (dig b ++ 59 :: r)))) (hx : isSm x = true) (ha : 0 ≤ a ∧ a ≤ 99) (hb : 1 ≤ b ∧ b ≤ 99) (h1 : holdF D (x - 96) < 0) (h2 : tankF D (x - 96) < 0) (h8 : D.1 8 < 3) :
    At T (tankL T σ D).1 (59 :: r) ∧ (tankL T σ D).2 = addTank D (x - 96) a b := by
  have e0 : iff' (3 ≤ D.1 8) σ 4 = σ := iff_neg (by omega)
  have q1 : (tankS1 T σ D).1 = x - 96 ∧ At T (tankS1 T σ D).2 (32 :: (dig a ++ 32 :: (dig b ++ 59 :: r))) := by
    unfold tankS1
    rw [e0]
    exact tx_new h hx rfl h1 h2
  have q2 : (tankS2 T σ D).1 = a ∧ At T (tankS2 T σ D).2 (32 :: (dig b ++ 59 :: r)) := tx_num q1.2 rfl (by omega) (by omega)
  have q3 : (tankS3 T σ D).1 = b ∧ At T (tankS3 T σ D).2 (59 :: r) := tx_num q2.2 rfl (by omega) (by omega)
  refine ⟨q3.2, ?_⟩
  unfold tankL
  dsimp only
  rw [if_pos q3.2.1, q1.1, q2.1, q3.1]
theorem tx_burn {D : PD} {x a t : Int} (h : At T σ (32 :: x :: 32 :: (dig a ++ 59 :: r))) (hx : isSm x = true) (ha : 1 ≤ a ∧ a ≤ 99) (ht : tankF D (x - 96) = t) (h0 : 0 ≤ t) (hl : a ≤ leftF D.1 t) (h9 : D.1 9 < 12) :
    At T (burnL T σ D).1 (59 :: r) ∧ (burnL T σ D).2 = addBurn D t a := by
  have e0 : iff' (12 ≤ D.1 9) σ 4 = σ := iff_neg (by omega)
  have q1 : (burnS1 T σ D).1 = x - 96 ∧ At T (burnS1 T σ D).2 (32 :: (dig a ++ 59 :: r)) := by
    unfold burnS1
    rw [e0]
    exact tx_name h hx rfl
  have e1 : burnT T σ D = t := by
    unfold burnT
    rw [q1.1, ht]
  have q2 : (burnS2 T σ D).1 = a ∧ At T (burnS2 T σ D).2 (59 :: r) := by
    unfold burnS2
    rw [e1, iff_neg (by omega), if_neg (by omega)]
    exact tx_num q1.2 rfl (by omega) (by omega)
  refine ⟨q2.2, ?_⟩
  unfold burnL
  dsimp only
  rw [if_pos q2.2.1, q2.1, e1]
theorem tx_stop {D : PD} (h : At T σ (59 :: r)) (h9 : D.1 9 < 12) (h10 : D.1 10 < 4) : At T (stopL T σ D).1 (59 :: r) ∧ (stopL T σ D).2 = addStop D := by
  unfold stopL
  rw [if_neg (by omega)]
  exact ⟨h, rfl⟩
/-- a whole line: its first word, what it does, its end -/
theorem tx_loop {D D' : PD} {w t : List Int} {L : Tq → Sg → PD → Sg × PD} {n : Nat} (h : At T σ (w ++ t)) (hw : w.all isSm = true) (h0 : w ≠ []) (h8 : w.length ≤ 8) (hr : StpL t = true)
    (hL : ∀ σ, (∀ i, tellsF T σ i = decide (w = sxB i)) → lineP T σ D = L T σ D) (h1 : ∀ σ, At T σ t → At T (L T σ D).1 (59 :: r) ∧ (L T σ D).2 = D') :
    ∃ τ, loopP T (n + 1) σ D = loopP T n τ D' ∧ At T τ r := by
  obtain ⟨a, b, c⟩ := tx_word h hw h0 h8 hr
  have e := hL _ c
  have q := h1 _ a
  refine ⟨lendC T (L T (nxt T σ) D).1, ?_, tx_end q.1⟩
  rw [loopP, if_pos ⟨a.1, by rw [b]; simp⟩, e, q.2]
theorem ln_0 {D : PD} {σ : Sg} (c : ∀ i, tellsF T σ i = decide ([101, 109, 112, 116, 121] = sxB i)) : lineP T σ D = emptyL T σ D := by
  unfold lineP
  rw [c 0]
  exact if_pos rfl
theorem ln_1 {D : PD} {σ : Sg} (c : ∀ i, tellsF T σ i = decide ([115, 112, 97, 110] = sxB i)) : lineP T σ D = spanL T σ D := by
  unfold lineP
  rw [c 0, c 1]
  rfl
theorem ln_2 {D : PD} {σ : Sg} (c : ∀ i, tellsF T σ i = decide ([104, 111, 108, 100] = sxB i)) : lineP T σ D = holdL T σ D := by
  unfold lineP
  rw [c 0, c 1, c 2]
  rfl
theorem ln_3 {D : PD} {σ : Sg} (c : ∀ i, tellsF T σ i = decide ([115, 112, 111, 116] = sxB i)) : lineP T σ D = spotL T σ D := by
  unfold lineP
  rw [c 0, c 1, c 2, c 3]
  rfl
theorem ln_4 {D : PD} {σ : Sg} (c : ∀ i, tellsF T σ i = decide ([106, 111, 105, 110, 116] = sxB i)) : lineP T σ D = jointL T σ D := by
  unfold lineP
  rw [c 0, c 1, c 2, c 3, c 4]
  rfl
theorem ln_5 {D : PD} {σ : Sg} (c : ∀ i, tellsF T σ i = decide ([98, 105, 110] = sxB i)) : lineP T σ D = binL T σ D := by
  unfold lineP
  rw [c 0, c 1, c 2, c 3, c 4, c 5]
  rfl
theorem ln_6 {D : PD} {σ : Sg} (c : ∀ i, tellsF T σ i = decide ([116, 97, 110, 107] = sxB i)) : lineP T σ D = tankL T σ D := by
  unfold lineP
  rw [c 0, c 1, c 2, c 3, c 4, c 5, c 6]
  rfl
theorem ln_7 {D : PD} {σ : Sg} (c : ∀ i, tellsF T σ i = decide ([98, 117, 114, 110] = sxB i)) : lineP T σ D = burnL T σ D := by
  unfold lineP
  rw [c 0, c 1, c 2, c 3, c 4, c 5, c 6, c 7]
  rfl
theorem ln_8 {D : PD} {σ : Sg} (c : ∀ i, tellsF T σ i = decide ([115, 116, 111, 112] = sxB i)) : lineP T σ D = stopL T σ D := by
  unfold lineP
  rw [c 0, c 1, c 2, c 3, c 4, c 5, c 6, c 7, c 8]
  rfl
/-! cargo -/
theorem tx_pal {C : CD} {x a b : Int} (h : At T σ (32 :: x :: 32 :: (dig a ++ 32 :: (dig b ++ 59 :: r)))) (hx : isSm x = true) (ha : 1 ≤ a ∧ a ≤ 99) (hb : 1 ≤ b ∧ b ≤ 9) (h5 : C.1 11 < 5) (hc : callF C.1 (x - 96) = -1) :
    At T (palL T σ C).1 (59 :: r) ∧ (palL T σ C).2 = (addPal C.1 T (sT σ + 1 + 1, sT σ + 1, 1, 0, sP σ) a b, C.2) := by
  have e0 : palS0 σ C = σ := iff_neg (by omega)
  have q1 : (palS1 T σ C).1 = x - 96 ∧ At T (palS1 T σ C).2 (32 :: (dig a ++ 32 :: (dig b ++ 59 :: r))) := by
    unfold palS1
    rw [e0]
    exact tx_name h hx rfl
  have q2 : (palS2 T σ C).1 = a ∧ At T (palS2 T σ C).2 (32 :: (dig b ++ 59 :: r)) := by
    unfold palS2
    rw [q1.1, hc, iff_neg (by simp)]
    exact tx_num q1.2 rfl (by omega) (by omega)
  have q3 : (palS3 T σ C).1 = b ∧ At T (palS3 T σ C).2 (59 :: r) := tx_num q2.2 rfl (by omega) (by omega)
  refine ⟨q3.2, ?_⟩
  unfold palL
  dsimp only
  rw [if_pos q3.2.1, q2.1, q3.1, e0, at_name h hx rfl]
theorem tx_bulk {C : CD} {a : Int} (h : At T σ (32 :: (dig a ++ 59 :: r))) (ha : 0 ≤ a ∧ a ≤ 99) (h0 : C.2 = 0) : At T (bulkL T σ C).1 (59 :: r) ∧ (bulkL T σ C).2 = (rset C.1 12 a, 1) := by
  have e0 : iff' (C.2 = 1) σ 3 = σ := iff_neg (by omega)
  have q1 : (bulkS1 T σ C).1 = a ∧ At T (bulkS1 T σ C).2 (59 :: r) := by
    unfold bulkS1
    rw [e0]
    exact tx_num h rfl (by omega) (by omega)
  refine ⟨q1.2, ?_⟩
  unfold bulkL
  dsimp only
  rw [q1.1]
theorem tx_loopC {C : CD} {w t : List Int} {L : Tq → Sg → CD → Sg × CD} {Q : CD → Prop} {n : Nat} (h : At T σ (w ++ t)) (hw : w.all isSm = true) (h0 : w ≠ []) (h8 : w.length ≤ 8) (hr : StpL t = true)
    (hL : ∀ σ, (∀ i, tellsF T σ i = decide (w = sxB i)) → lineC T σ C = L T σ C) (h1 : ∀ σ, At T σ t → At T (L T σ C).1 (59 :: r) ∧ Q (L T σ C).2) :
    ∃ τ C', loopC T (n + 1) σ C = loopC T n τ C' ∧ At T τ r ∧ Q C' := by
  obtain ⟨a, b, c⟩ := tx_word h hw h0 h8 hr
  have e := hL _ c
  have q := h1 _ a
  refine ⟨lendC T (L T (nxt T σ) C).1, (L T (nxt T σ) C).2, ?_, tx_end q.1, q.2⟩
  rw [loopC, if_pos ⟨a.1, by rw [b]; simp⟩, e]
theorem ln_9 {C : CD} {σ : Sg} (c : ∀ i, tellsF T σ i = decide ([112, 97, 108, 108, 101, 116] = sxB i)) : lineC T σ C = palL T σ C := by
  unfold lineC
  rw [c 9]
  rfl
theorem ln_10 {C : CD} {σ : Sg} (c : ∀ i, tellsF T σ i = decide ([98, 117, 108, 107] = sxB i)) : lineC T σ C = bulkL T σ C := by
  unfold lineC
  rw [c 9, c 10]
  rfl
end LINES

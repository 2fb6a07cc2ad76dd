/-! 99b.rules: the row of the law's plane and cargo: ways, blocks, stages, rules -/
def PF (z : Int → Int) (ρ : Row) : Prop := (ρ 0 = z 0 ∧ ρ 1 = z 1 ∧ ρ 2 = z 2 ∧ ρ 3 = z 3) ∧ (ρ 4 = 2 ∧ ρ 5 = 4 ∧ ρ 6 = 1 ∧ ρ 7 = 1 ∧ ρ 8 = 1 ∧ ρ 9 = 4 ∧ ρ 10 = 2) ∧ (ρ 13 = z 4 ∧ ρ 14 = z 5 ∧ ρ 16 = z 6 ∧ ρ 17 = z 7) ∧ (ρ 19 = 0 ∧ ρ 20 = 0 ∧ ρ 21 = 1 ∧ ρ 22 = 1) ∧
  (∀ s, 0 ≤ s → s < 4 → ρ (25 + s) = z (8 + s) ∧ ρ (31 + s) = z (12 + s)) ∧ (ρ 37 = 0 ∧ ρ 42 = z 16 ∧ ρ 47 = z 17 ∧ ρ 49 = z 18) ∧ (ρ 53 = z 19 ∧ ρ 56 = z 20) ∧ (ρ 59 = 0 ∧ ρ 60 = -1 ∧ ρ 61 = 0 ∧ ρ 62 = -1 ∧ ρ 71 = z 21 ∧ ρ 73 = z 22)
set_option maxRecDepth 100000 in
theorem PF.of {z : Int → Int} {ρ : Row} (h : PlEq (lk (endL z)) ρ) : PF z ρ := by
  refine ⟨⟨h 0 (by omega), h 1 (by omega), h 2 (by omega), h 3 (by omega)⟩, ⟨h 4 (by omega), h 5 (by omega), h 6 (by omega), h 7 (by omega), h 8 (by omega), h 9 (by omega), h 10 (by omega)⟩, ⟨h 13 (by omega), h 14 (by omega), (h 16 (by omega)).trans (show 1 - (1 - z 6) = z 6 by omega), (h 17 (by omega)).trans (show 1 - (1 - z 7) = z 7 by omega)⟩, ⟨h 19 (by omega), h 20 (by omega), h 21 (by omega), h 22 (by omega)⟩, fun s s0 s1 => ?_, ⟨h 37 (by omega), h 42 (by omega), h 47 (by omega), h 49 (by omega)⟩, ⟨h 53 (by omega), h 56 (by omega)⟩, ⟨h 59 (by omega), h 60 (by omega), h 61 (by omega), h 62 (by omega), h 71 (by omega), h 73 (by omega)⟩⟩
  rcases (show s = 0 ∨ s = 1 ∨ s = 2 ∨ s = 3 by omega) with rfl | rfl | rfl | rfl
  · exact ⟨h 25 (by omega), h 31 (by omega)⟩
  · exact ⟨h 26 (by omega), h 32 (by omega)⟩
  · exact ⟨h 27 (by omega), h 33 (by omega)⟩
  · exact ⟨h 28 (by omega), h 34 (by omega)⟩
theorem PF.mono {z : Int → Int} {ρ ρ' : Row} (h : PF z ρ) (e : PlEq ρ ρ') : PF z ρ' := by
  obtain ⟨⟨a1, a2, a3, a4⟩, ⟨b1, b2, b3, b4, b5, b6, b7⟩, ⟨c1, c2, c3, c4⟩, ⟨d1, d2, d3, d4⟩, f, ⟨g1, g2, g3, g4⟩, ⟨i1, i2⟩, ⟨j1, j2, j3, j4, j5, j6⟩⟩ := h
  refine ⟨⟨?_, ?_, ?_, ?_⟩, ⟨?_, ?_, ?_, ?_, ?_, ?_, ?_⟩, ⟨?_, ?_, ?_, ?_⟩, ⟨?_, ?_, ?_, ?_⟩, fun s s0 s1 => ?_, ⟨?_, ?_, ?_, ?_⟩, ⟨?_, ?_⟩, ⟨?_, ?_, ?_, ?_, ?_, ?_⟩⟩
  all_goals first
    | (rw [e _ (by omega)]; assumption)
    | (rw [e _ (by omega), e _ (by omega)]; exact f s s0 s1)
/-- what is aboard, as the law has it -/
def CL (c at_ : Int → Int) (po : Int) (ρ : Row) : Prop := ρ 11 = c 11 ∧ ρ 12 = c 10 ∧ ρ 51 = po ∧ ∀ k, 0 ≤ k → k < c 11 → ρ (83 + k) = c (2 * k) ∧ ρ (88 + k) = c (2 * k + 1) ∧ ρ (93 + k) = at_ k
/-- within its bounds -/
def CB (c at_ : Int → Int) (po : Int) : Prop := (0 ≤ c 11 ∧ c 11 ≤ 3) ∧ (∀ k, 0 ≤ k → k < c 11 → (1 ≤ c (2 * k) ∧ c (2 * k) ≤ 32) ∧ (1 ≤ c (2 * k + 1) ∧ c (2 * k + 1) ≤ 3) ∧ (-1 ≤ at_ k ∧ at_ k ≤ 3)) ∧ (0 ≤ c 10 ∧ c 10 ≤ 5) ∧ (0 ≤ po ∧ po ≤ 7)
def LR (z c at_ : Int → Int) (po : Int) (ρ : Row) : Prop := PF z ρ ∧ CL c at_ po ρ ∧ WF ρ ∧ ZOK z ∧ CB c at_ po
def wayL (z : Int → Int) (s : Int) : Int := if s % 2 = 0 then (if z (6 + s / 2) = 1 then s + 1 else -1) else (if z (6 + s / 2) = 0 then s - 1 else -1)
theorem wayL_rng {z : Int → Int} {s : Int} (h : 0 ≤ s ∧ s < 4) : -1 ≤ wayL z s ∧ wayL z s < 4 := by
  unfold wayL
  (repeat' split) <;> omega
section RULES
variable {z c at_ : Int → Int} {po : Int} {ρ : Row}
theorem way_bits (hp : PF z ρ) (hz : ZOK z) : ∀ s x, 0 ≤ s → s < 4 → 0 ≤ x → x < 4 → bit (wayF ρ s) x = decide (wayL z s = x) := by
  obtain ⟨-, ⟨-, b2, -⟩, ⟨-, -, c3, c4⟩, ⟨d1, d2, d3, d4⟩, -⟩ := hp
  intro s x s0 s1 x0 x1
  have z6 := hz.door 6 (by omega) (by omega)
  have z7 := hz.door 7 (by omega) (by omega)
  have e : wayF ρ s = fld (fun k a => if ρ (19 + k) = ρ (19 + s) ∧ (if ρ (16 + ρ (19 + s)) = 1 then s < k else k < s) then ior a (ishl 1 k) else a) 4 0 0 := by
    unfold wayF
    rw [b2]
    rfl
  rw [e]
  unfold wayL
  rcases (show s = 0 ∨ s = 1 ∨ s = 2 ∨ s = 3 by omega) with rfl | rfl | rfl | rfl
  · rcases z6 with h6 | h6 <;> rw [h6] at c3 <;> simp [fld, d1, d2, d3, d4, c3, h6] <;> rcases (show x = 0 ∨ x = 1 ∨ x = 2 ∨ x = 3 by omega) with rfl | rfl | rfl | rfl <;> decide +kernel
  · rcases z6 with h6 | h6 <;> rw [h6] at c3 <;> simp [fld, d1, d2, d3, d4, c3, h6] <;> rcases (show x = 0 ∨ x = 1 ∨ x = 2 ∨ x = 3 by omega) with rfl | rfl | rfl | rfl <;> decide +kernel
  · rcases z7 with h6 | h6 <;> rw [h6] at c4 <;> simp [fld, d1, d2, d3, d4, c4, h6] <;> rcases (show x = 0 ∨ x = 1 ∨ x = 2 ∨ x = 3 by omega) with rfl | rfl | rfl | rfl <;> decide +kernel
  · rcases z7 with h6 | h6 <;> rw [h6] at c4 <;> simp [fld, d1, d2, d3, d4, c4, h6] <;> rcases (show x = 0 ∨ x = 1 ∨ x = 2 ∨ x = 3 by omega) with rfl | rfl | rfl | rfl <;> decide +kernel
/-- what blocks pallet q, as the law reckons it -/
def blkL (z c at_ : Int → Int) (q : Int) : Int := if 0 ≤ at_ q ∧ 0 ≤ wayL z (at_ q) then fld (fun r a => if at_ r = wayL z (at_ q) ∧ c (2 * q + 1) < c (2 * r + 1) then ior a (ishl 1 r) else a) (c 11).toNat 0 0 else 0
theorem fld_same {f : Int → Int → Int} : ∀ (n : Nat) (k a : Int), (∀ j a, k ≤ j → j < k + n → f j a = a) → fld f n k a = a
  | 0, _, _, _ => rfl
  | n + 1, k, a, h => by rw [fld, h k a (by omega) (by omega), fld_same n (k + 1) a (fun j b h1 h2 => h j b (by omega) (by omega))]
theorem blk_eq (h : LR z c at_ po ρ) {q : Int} (hq : 0 ≤ q ∧ q < c 11) : blkF ρ q = blkL z c at_ q := by
  obtain ⟨hp, ⟨e11, e12, e51, hc⟩, hw, hz, ⟨⟨n0, n3⟩, hb, -⟩⟩ := h
  have cq := hc q hq.1 hq.2
  have bq := hb q hq.1 hq.2
  unfold blkF blkL
  rw [cq.2.2]
  by_cases h0 : at_ q < 0
  · rw [if_pos h0, if_neg (by omega)]
  · rw [if_neg h0, e11]
    by_cases hwy : 0 ≤ wayL z (at_ q)
    · rw [if_pos ⟨by omega, hwy⟩]
      refine fld_congr _ _ _ fun r a r0 r1 => ?_
      have cr := hc r r0 (by omega)
      have br := hb r r0 (by omega)
      try dsimp only
      rw [cr.2.2, cr.2.1, cq.2.1]
      by_cases hr : 0 ≤ at_ r
      · rw [way_bits hp hz (at_ q) (at_ r) (by omega) (by omega) hr (by omega)]
        by_cases e : at_ r = wayL z (at_ q) ∧ c (2 * q + 1) < c (2 * r + 1)
        · rw [if_pos e, if_pos ⟨hr, by simp [e.1], e.2⟩]
        · rw [if_neg e, if_neg]
          rintro ⟨-, e1, e2⟩
          simp only [decide_eq_true_eq] at e1
          exact e ⟨e1.symm, e2⟩
      · rw [if_neg (by omega), if_neg (by omega)]
    · rw [if_neg (by omega)]
      refine fld_same _ _ _ fun r a r0 r1 => ?_
      have cr := hc r r0 (by omega)
      have br := hb r r0 (by omega)
      try dsimp only
      rw [cr.2.2]
      by_cases hr : 0 ≤ at_ r
      · rw [way_bits hp hz (at_ q) (at_ r) (by omega) (by omega) hr (by omega), if_neg]
        rintro ⟨-, e1, -⟩
        simp only [decide_eq_true_eq] at e1
        omega
      · rw [if_neg (by omega)]
/-! stages -/
def tankZ (z : Int → Int) (i : Int) : Int := z 20 - (if 0 < i then z 21 else 0) - (if 2 < i then z 22 else 0)
def stopL2 (i : Int) : Int := if 3 < i then 2 else if 1 < i then 1 else 0
def palS (z c at_ : Int → Int) (mo : Int) (n : Int) (k : Int) : Int := if 0 ≤ at_ k ∧ n < c (2 * k + 1) then c (2 * k) * (if mo = 0 then 1 else z (8 + at_ k)) else 0
def stL (z c at_ : Int → Int) (po i mo : Int) : Int := z 0 * (if mo = 0 then 1 else z 1) + tankZ z i * (if mo = 0 then 1 else z 19) + po * (if mo = 0 then 1 else z 17) + sumF (palS z c at_ mo (stopL2 i)) (c 11).toNat 0
theorem stops_eq (hp : PF z ρ) {i : Int} (hi : 0 ≤ i ∧ i ≤ 4) : stopsF ρ i = stopL2 i := by
  obtain ⟨-, -, -, -, -, -, -, ⟨j1, j2, j3, j4, j5, j6⟩⟩ := hp
  unfold stopsF stopL2
  rcases (show i = 0 ∨ i = 1 ∨ i = 2 ∨ i = 3 ∨ i = 4 by omega) with rfl | rfl | rfl | rfl | rfl <;> simp [sumF, j1, j2, j3, j4]
theorem stW_eq (h : LR z c at_ po ρ) {i : Int} (hi : 0 ≤ i ∧ i ≤ 4) : stW ρ i = stL z c at_ po i 0 := by
  obtain ⟨hp, ⟨e11, e12, e51, hc⟩, hw, hz, ⟨⟨n0, n3⟩, hb, -⟩⟩ := h
  have e1 : palW ρ (stopsF ρ i) = sumF (palS z c at_ 0 (stopL2 i)) (c 11).toNat 0 := by
    unfold palW
    rw [e11, stops_eq hp hi]
    refine sumF_congr _ _ fun k k0 k1 => ?_
    have ck := hc k k0 (by omega)
    try dsimp only
    unfold palS
    rw [ck.1, ck.2.1, ck.2.2, if_pos rfl, Int.mul_one]
  obtain ⟨⟨a1, a2, a3, a4⟩, ⟨b1, b2, b3, b4, b5, b6, b7⟩, -, -, f, ⟨g1, g2, g3, g4⟩, ⟨i1, i2⟩, ⟨j1, j2, j3, j4, j5, j6⟩⟩ := hp
  have e2 : binW ρ = po := by
    unfold binW
    rw [b4]
    simp [sumF, e51]
  have e3 : baseW ρ i = z 0 + tankZ z i := by
    unfold baseW tankZ
    rw [b5]
    rcases (show i = 0 ∨ i = 1 ∨ i = 2 ∨ i = 3 ∨ i = 4 by omega) with rfl | rfl | rfl | rfl | rfl <;> simp [sumF, j1, j2, j3, j4, j5, j6, a1, i2] <;> omega
  unfold stW stL
  rw [e1, e2, e3, if_pos rfl, if_pos rfl, if_pos rfl]
  omega
theorem stM_eq (h : LR z c at_ po ρ) {i : Int} (hi : 0 ≤ i ∧ i ≤ 4) : stM ρ i = stL z c at_ po i 1 := by
  obtain ⟨hp, ⟨e11, e12, e51, hc⟩, hw, hz, ⟨⟨n0, n3⟩, hb, -⟩⟩ := h
  have e1 : palM ρ (stopsF ρ i) = sumF (palS z c at_ 1 (stopL2 i)) (c 11).toNat 0 := by
    unfold palM
    rw [e11, stops_eq hp hi]
    refine sumF_congr _ _ fun k k0 k1 => ?_
    have ck := hc k k0 (by omega)
    have bk := hb k k0 (by omega)
    try dsimp only
    unfold palS
    rw [ck.1, ck.2.1, ck.2.2]
    by_cases e : 0 ≤ at_ k ∧ stopL2 i < c (2 * k + 1)
    · rw [if_pos e, if_pos e, (hp.2.2.2.2.1 (at_ k) e.1 (by omega)).1, if_neg (show ¬ (1 : Int) = 0 by decide)]
    · rw [if_neg e, if_neg e]
  obtain ⟨⟨a1, a2, a3, a4⟩, ⟨b1, b2, b3, b4, b5, b6, b7⟩, -, -, f, ⟨g1, g2, g3, g4⟩, ⟨i1, i2⟩, ⟨j1, j2, j3, j4, j5, j6⟩⟩ := hp
  have e2 : binM ρ = po * z 17 := by
    unfold binM
    rw [b4]
    simp [sumF, e51, g3]
  have e3 : baseM ρ i = z 0 * z 1 + tankZ z i * z 19 := by
    unfold baseM tankZ
    rw [b5]
    rcases (show i = 0 ∨ i = 1 ∨ i = 2 ∨ i = 3 ∨ i = 4 by omega) with rfl | rfl | rfl | rfl | rfl <;> simp [sumF, j1, j2, j3, j4, j5, j6, a1, a2, i1, i2, Int.sub_mul, Int.neg_mul] <;> omega
  unfold stM stL
  rw [e1, e2, e3, if_neg (by decide), if_neg (by decide), if_neg (by decide)]
/-! rules -/
theorem at_is {r k : Int} (h0 : 0 ≤ k ∧ k < plcF ρ r) (h1 : brkF ρ r k = true) (h2 : ∀ j, 0 ≤ j → j < k → brkF ρ r j = false) : atF ρ r = k := by
  unfold atF
  rcases fnd_spec (p := brkF ρ r) (plcF ρ r).toNat 0 with ⟨-, e⟩ | ⟨a, b, d, e⟩
  · have := e k h0.1 (by omega)
    rw [h1] at this
    cases this
  · generalize fnd (brkF ρ r) (plcF ρ r).toNat 0 = x at a b d e
    rcases Int.lt_trichotomy x k with h | h | h
    · have := h2 x a h
      rw [d] at this
      cases this
    · exact h
    · have := e k h0.1 h
      rw [h1] at this
      cases this
theorem at_no {r : Int} (h0 : 0 ≤ plcF ρ r) (h2 : ∀ j, 0 ≤ j → j < plcF ρ r → brkF ρ r j = false) : atF ρ r < 0 := by
  unfold atF
  rcases fnd_spec (p := brkF ρ r) (plcF ρ r).toNat 0 with ⟨e, -⟩ | ⟨a, b, d, -⟩
  · omega
  · have := h2 _ a (by omega)
    rw [d] at this
    cases this
/-- 100 times the first rule broken, and where -/
def codeF (ρ : Row) : Int := 100 * brokF ρ + (if brokF ρ = 0 then 0 else whereF ρ)
theorem code_is {r k : Int} (hr : 1 ≤ r ∧ r ≤ 7) (hk : 0 ≤ k) (h1 : ∀ q, 1 ≤ q → q < r → atF ρ q < 0) (h2 : atF ρ r = k) : codeF ρ = 100 * r + k := by
  have e : brokF ρ = r := by
    unfold brokF
    dsimp only
    rcases fnd_spec (p := fun r => decide (0 ≤ atF ρ r)) 7 1 with ⟨-, e⟩ | ⟨a, b, d, e⟩
    · have := e r hr.1 (by omega)
      simp only [decide_eq_false_iff_not] at this
      omega
    · generalize fnd (fun r => decide (0 ≤ atF ρ r)) 7 1 = x at a b d e
      simp only [decide_eq_true_eq] at d
      have : x = r := by
        rcases Int.lt_trichotomy x r with h | h | h
        · have := h1 x a h; omega
        · exact h
        · have := e r hr.1 h
          simp only [decide_eq_false_iff_not] at this
          omega
      rw [if_neg (by omega), this]
  unfold codeF whereF
  rw [e, if_neg (by omega), if_neg (by omega), h2]
theorem code_no (h1 : ∀ q, 1 ≤ q → q < 8 → atF ρ q < 0) : codeF ρ = 0 := by
  have e : brokF ρ = 0 := by
    unfold brokF
    dsimp only
    rcases fnd_spec (p := fun r => decide (0 ≤ atF ρ r)) 7 1 with ⟨e, -⟩ | ⟨a, b, d, e⟩
    · rw [e]; rfl
    · have := h1 _ a (by omega)
      simp only [decide_eq_true_eq] at d
      omega
  unfold codeF
  rw [e, if_pos rfl]
  omega
theorem on_rng (h : LR z c at_ po ρ) (s : Int) : -1 ≤ onF ρ s ∧ onF ρ s < 3 := by
  have := onF_rng (ρ := ρ) (by have := h.2.1.1; have := h.2.2.2.2.1; omega) s
  have := h.2.1.1
  have := h.2.2.2.2.1
  omega
/-- who lies on a spot, when it is told by a row -/
theorem on_is (h : LR z c at_ po ρ) {s x : Int} (hs : 0 ≤ s) (hx : (x = -1 ∧ ∀ j, 0 ≤ j → j < c 11 → at_ j ≠ s) ∨ ((0 ≤ x ∧ x < c 11) ∧ at_ x = s)) : x = onF ρ s := by
  obtain ⟨hp, ⟨e11, e12, e51, hc⟩, hw, hz, ⟨⟨n0, n3⟩, hb, -⟩⟩ := h
  unfold onF
  rw [e11]
  rcases fnd_spec (p := fun k => decide (ρ (93 + k) = s)) (c 11).toNat 0 with ⟨e1, e2⟩ | ⟨a, b, d, -⟩
  · rw [e1]
    rcases hx with hx | ⟨hx, h2⟩
    · exact hx.1
    · have := e2 x hx.1 (by omega)
      simp only [decide_eq_false_iff_not] at this
      rw [(hc x hx.1 hx.2).2.2] at this
      exact absurd h2 this
  · generalize fnd (fun k => decide (ρ (93 + k) = s)) (c 11).toNat 0 = y at a b d
    simp only [decide_eq_true_eq] at d
    have cy := (hc y a (by omega)).2.2
    rcases hx with ⟨-, h2⟩ | ⟨hx, h2⟩
    · exact absurd (cy.symm.trans d) (h2 y a (by omega))
    · have cx := (hc x hx.1 hx.2).2.2
      rcases Int.lt_trichotomy x y with q | q | q
      · have := hw.2.2.2 x y hx.1 q (by omega) (by rw [cx, d, h2])
        omega
      · exact q
      · have := hw.2.2.2 y x a q (by omega) (by rw [cx, d, h2])
        omega
end RULES

/-! 99d.rule2: each rule, as the law asks for it -/
section RULE2
variable {z c at_ : Int → Int} {po : Int} {ρ : Row}
theorem brk1 (k : Int) : brkF ρ 1 k = decide (ρ (93 + k) < 0) := by simp [brkF]
theorem brk2 (k : Int) : brkF ρ 2 k = decide (ρ (31 + k) < wOnF ρ k) := by simp [brkF]
theorem brk3 (k : Int) : brkF ρ 3 k = decide (ρ (42 + k) < wOnF ρ (ρ (37 + k)) + wOnF ρ (ρ (37 + k) + 1)) := by simp [brkF]
theorem brk4 (k : Int) : brkF ρ 4 k = decide (ρ (13 + k) < inHoldF ρ k) := by simp [brkF]
theorem brk5 (k : Int) : brkF ρ 5 k = decide (ρ 51 + ρ 52 ≠ ρ 12) := by simp [brkF]
theorem brk6 (k : Int) : brkF ρ 6 k = decide (0 ≤ onF ρ k ∧ blkF ρ (onF ρ k) ≠ 0) := by simp [brkF]
theorem brk7 (k : Int) : brkF ρ 7 k = decide (¬ (stW ρ k * ρ 2 ≤ stM ρ k ∧ stM ρ k ≤ stW ρ k * ρ 3)) := by simp [brkF]
theorem plc1 : plcF ρ 1 = ρ 11 := by simp [plcF]
theorem plc2 : plcF ρ 2 = ρ 5 := by simp [plcF]
theorem plc3 : plcF ρ 3 = ρ 6 := by simp [plcF]
theorem plc4 : plcF ρ 4 = ρ 4 := by simp [plcF]
theorem plc5 : plcF ρ 5 = 1 := by simp [plcF]
theorem plc6 : plcF ρ 6 = ρ 5 := by simp [plcF]
theorem plc7 : plcF ρ 7 = ρ 9 + 1 := by simp [plcF]
/-- who lies there -/
theorem on_at (h : LR z c at_ po ρ) {s : Int} (hs : 0 ≤ onF ρ s) : onF ρ s < c 11 ∧ at_ (onF ρ s) = s := by
  obtain ⟨hp, ⟨e11, e12, e51, hc⟩, hw, hz, ⟨⟨n0, n3⟩, hb, -⟩⟩ := h
  have q : onF ρ s = fnd (fun k => decide (ρ (93 + k) = s)) (ρ 11).toNat 0 := rfl
  rcases fnd_spec (p := fun k => decide (ρ (93 + k) = s)) (ρ 11).toNat 0 with ⟨e1, -⟩ | ⟨a, b, d, -⟩
  · omega
  · rw [← q] at a b d
    simp only [decide_eq_true_eq] at d
    have hl : onF ρ s < c 11 := by omega
    exact ⟨hl, (hc _ a hl).2.2.symm.trans d⟩
theorem on_none (h : LR z c at_ po ρ) {s : Int} (hs : onF ρ s < 0) : ∀ j, 0 ≤ j → j < c 11 → at_ j ≠ s := by
  obtain ⟨hp, ⟨e11, e12, e51, hc⟩, hw, hz, ⟨⟨n0, n3⟩, hb, -⟩⟩ := h
  have q : onF ρ s = fnd (fun k => decide (ρ (93 + k) = s)) (ρ 11).toNat 0 := rfl
  rcases fnd_spec (p := fun k => decide (ρ (93 + k) = s)) (ρ 11).toNat 0 with ⟨-, e2⟩ | ⟨a, b, d, -⟩
  · intro j j0 j1 e
    have := e2 j j0 (by omega)
    simp only [decide_eq_false_iff_not] at this
    rw [(hc j j0 j1).2.2] at this
    exact this e
  · omega
theorem wOn_is (h : LR z c at_ po ρ) (s : Int) : wOnF ρ s = if onF ρ s < 0 then 0 else c (2 * onF ρ s) := by
  unfold wOnF
  by_cases e : onF ρ s < 0
  · rw [if_pos e, if_pos e]
  · rw [if_neg e, if_neg e]
    have q := on_at h (s := s) (by omega)
    exact (h.2.1.2.2.2 _ (by omega) q.1).1
theorem fld_one {f : Int → Int → Int} {y : Int} : ∀ (n : Nat) (k a : Int), k ≤ y → y < k + n → (∀ j a, k ≤ j → j < k + n → j ≠ y → f j a = a) → fld f n k a = f y a
  | 0, k, a, h1, h2, _ => by omega
  | n + 1, k, a, h1, h2, h => by
    rw [fld]
    by_cases e : k = y
    · subst e
      exact fld_same n (k + 1) _ (fun j b h3 h4 => h j b (by omega) (by omega) (by omega))
    · rw [h k a (by omega) (by omega) e]
      exact fld_one n (k + 1) a (by omega) (by omega) (fun j b h3 h4 h5 => h j b (by omega) (by omega) h5)
theorem bit_ne {y : Int} (h : 0 ≤ y ∧ y < 3) : ior 0 (ishl 1 y) ≠ 0 := by
  rcases (show y = 0 ∨ y = 1 ∨ y = 2 by omega) with rfl | rfl | rfl <;> decide +kernel
/-- one lies in the way that leaves later -/
theorem blk_one (h : LR z c at_ po ρ) {k : Int} (hk : 0 ≤ k ∧ k < 4) (hx : 0 ≤ onF ρ k) : blkF ρ (onF ρ k) ≠ 0 ↔ 0 ≤ wayL z k ∧ 0 ≤ onF ρ (wayL z k) ∧ c (2 * onF ρ k + 1) < c (2 * onF ρ (wayL z k) + 1) := by
  have q := on_at h hx
  rw [blk_eq h ⟨hx, q.1⟩]
  unfold blkL
  rw [q.2]
  by_cases hw : 0 ≤ wayL z k
  · rw [if_pos ⟨hk.1, hw⟩]
    by_cases hy : 0 ≤ onF ρ (wayL z k)
    · have q2 := on_at h hy
      have hc3 := h.2.2.2.2.1
      have hrow := h.2.1.2.2.2
      rw [fld_one (y := onF ρ (wayL z k)) _ _ _ hy (by omega)]
      · by_cases e : c (2 * onF ρ k + 1) < c (2 * onF ρ (wayL z k) + 1)
        · rw [if_pos ⟨q2.2, e⟩]
          exact ⟨fun _ => ⟨hw, hy, e⟩, fun _ => bit_ne (by omega)⟩
        · rw [if_neg (fun w => e w.2)]
          exact ⟨fun w => absurd rfl w, fun w => absurd w.2.2 e⟩
      · intro j a j0 j1 hj
        rw [if_neg]
        rintro ⟨e1, -⟩
        have cj := (hrow j j0 (by omega)).2.2
        have cy := (hrow _ hy q2.1).2.2
        have e11 := h.2.1.1
        rcases Int.lt_trichotomy j (onF ρ (wayL z k)) with w | w | w
        · have := h.2.2.1.2.2.2 j _ j0 w (by omega) (by rw [cj, cy, e1, q2.2])
          omega
        · exact hj w
        · have := h.2.2.1.2.2.2 _ j hy w (by omega) (by rw [cj, cy, e1, q2.2])
          omega
    · have qn := on_none h (s := wayL z k) (by omega)
      rw [fld_same]
      · exact ⟨fun w => absurd rfl w, fun w => absurd w.2.1 hy⟩
      · intro j a j0 j1
        rw [if_neg]
        rintro ⟨e1, -⟩
        have hc3 := h.2.2.2.2.1
        exact qn j j0 (by omega) e1
  · rw [if_neg (fun w => hw w.2)]
    exact ⟨fun w => absurd rfl w, fun w => absurd w.1 hw⟩
theorem hold_eq (hp : PF z ρ) {h : Int} (hh : h = 0 ∨ h = 1) : inHoldF ρ h = wOnF ρ (2 * h) + wOnF ρ (2 * h + 1) := by
  obtain ⟨-, ⟨-, b2, -⟩, -, ⟨d1, d2, d3, d4⟩, -⟩ := hp
  unfold inHoldF
  rw [b2]
  rcases hh with rfl | rfl <;> simp [sumF, d1, d2, d3, d4]
theorem bin2 (h : LR z c at_ po ρ) : ρ 52 = 0 := by
  have hb := h.2.2.1.2.1 1 (by omega) (by omega)
  have e7 := h.1.2.1.2.2.2.1
  exact hb.2 (by omega)
theorem st_small (h : LR z c at_ po ρ) {i : Int} (hi : 0 ≤ i ∧ i ≤ 4) : (-4000 ≤ stW ρ i ∧ stW ρ i ≤ 4000) ∧ (-400000 ≤ stM ρ i ∧ stM ρ i ≤ 400000) := by
  have q := st_rng h.2.2.1 (i := i) (by have := h.1.2.1.2.2.2.2.2.1; omega)
  obtain ⟨q1, q2, q3, q4, q5, q6⟩ := q
  have a := q5 (stopsF ρ i)
  have b := q6 (stopsF ρ i)
  unfold stW stM
  omega
end RULE2

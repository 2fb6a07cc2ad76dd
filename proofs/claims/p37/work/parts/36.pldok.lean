/-! 36.pldok: taken from whole (wip/p37/port.py) -/
variable {n_ : Sh}
/-! 36.pldok: what is read stays good, line by line (wip/whole/src/36_pldok.py) -/
theorem sumF_snoc (f : Int → Int) : ∀ (n : Nat) (k : Int), sumF f (n + 1) k = sumF f n k + f (k + n)
  | 0, k => by simp [sumF]
  | n + 1, k => by
    rw [sumF, sumF_snoc f n (k + 1), sumF, show k + 1 + (n : Int) = k + ((n + 1 : Nat) : Int) by omega, Int.add_assoc]
def cntOK (ρ : Row) : Prop := (0 ≤ ρ 4 ∧ ρ 4 ≤ 3) ∧ (0 ≤ ρ 5 ∧ ρ 5 ≤ 6) ∧ (0 ≤ ρ 6 ∧ ρ 6 ≤ 5) ∧ (0 ≤ ρ 7 ∧ ρ 7 ≤ 2) ∧ (0 ≤ ρ 8 ∧ ρ 8 ≤ 3) ∧ (0 ≤ ρ 9 ∧ ρ 9 ≤ 12) ∧ (0 ≤ ρ 10 ∧ ρ 10 ≤ 4)
def monoS (ρ : Row) : Prop := ∀ s, 0 ≤ s → s + 1 < ρ 5 → ρ (19 + s) ≤ ρ (19 + (s + 1))
def binsOK (ρ : Row) : Prop := ∀ b, 0 ≤ b → b < ρ 7 → (0 ≤ ρ (47 + b) ∧ ρ (47 + b) ≤ 99) ∧ (1 ≤ ρ (49 + b) ∧ ρ (49 + b) ≤ 99)
def leftOK (ρ : Row) : Prop := ∀ t, 0 ≤ t → t < ρ 8 → 0 ≤ leftF ρ t ∧ leftF ρ t ≤ 99
abbrev usedN (ρ : Row) (k : Int) : Prop := 0 ≤ k ∧ k < ρ 4 ∨ 3 ≤ k ∧ k < 3 + ρ 8
def namesOK (D : PD) : Prop := ∀ k, usedN D.1 k → 0 < D.2.1 k ∧ D.2.1 k < 1099511627776
def zeroOK (ρ : Row) : Prop := ∀ j, (j < 0 ∨ 83 ≤ j ∨ j = 11 ∨ j = 12 ∨ 51 ≤ j ∧ j ≤ 52) → ρ j = 0
def DOK (D : PD) : Prop := cntOK D.1 ∧ WFs D.1 ∧ WFh D.1 ∧ WFj D.1 ∧ WFt D.1 ∧ WFg D.1 ∧ monoS D.1 ∧ binsOK D.1 ∧ leftOK D.1 ∧ namesOK D ∧ ((D.2.2.1 = 0 ∨ D.2.2.1 = 1) ∧ (D.2.2.2 = 0 ∨ D.2.2.2 = 1)) ∧ zeroOK D.1
theorem leftF_congr {ρ ρ' : Row} {t : Int} (h56 : ρ' (56 + t) = ρ (56 + t)) (h9 : ρ' 9 = ρ 9) (h0 : 0 ≤ ρ 9) (h : ∀ i, 0 ≤ i → i < ρ 9 → ρ' (59 + i) = ρ (59 + i) ∧ ρ' (71 + i) = ρ (71 + i)) : leftF ρ' t = leftF ρ t := by
  unfold leftF
  rw [h56, h9]
  congr 1
  refine sumF_congr _ _ fun j j0 j1 => ?_
  have q := h j j0 (by omega)
  try dsimp only
  rw [q.1, q.2]
theorem stopsF_congr {ρ ρ' : Row} {i : Int} (h0 : 0 ≤ i) (h : ∀ j, 0 ≤ j → j < i → ρ' (59 + j) = ρ (59 + j)) : stopsF ρ' i = stopsF ρ i := by
  unfold stopsF
  refine sumF_congr _ _ fun j j0 j1 => ?_
  try dsimp only
  rw [h j j0 (by omega)]
theorem D0_ok : DOK D0 := by
  have h : ∀ j, 4 ≤ j → bareR j = 0 := fun j hj => by unfold bareR; rw [if_neg (by omega), if_neg (by omega), if_neg (by omega), if_neg (by omega)]
  have e : D0.1 = bareR := rfl
  refine ⟨?_, ?_, ?_, ?_, ?_, ⟨?_, ?_⟩, ?_, ?_, ?_, ?_, ⟨Or.inl rfl, Or.inl rfl⟩, ?_⟩ <;> (try rw [e])
  · unfold cntOK
    rw [h 4 (by decide), h 5 (by decide), h 6 (by decide), h 7 (by decide), h 8 (by decide), h 9 (by decide), h 10 (by decide)]
    decide
  · intro s h1 h2; rw [h 5 (by decide)] at h2; omega
  · intro s h1 h2; rw [h 4 (by decide)] at h2; omega
  · intro s h1 h2; rw [h 6 (by decide)] at h2; omega
  · intro s h1 h2; rw [h 8 (by decide)] at h2; omega
  · intro s h1 h2; rw [h 9 (by decide)] at h2; omega
  · rw [h 9 (by decide), h 10 (by decide)]; rfl
  · intro s h1 h2; rw [h 5 (by decide)] at h2; omega
  · intro s h1 h2; rw [h 7 (by decide)] at h2; omega
  · intro s h1 h2; rw [h 8 (by decide)] at h2; omega
  · intro k hk
    unfold usedN at hk
    rw [e, h 4 (by decide), h 8 (by decide)] at hk
    omega
  · intro j hj
    rcases hj with hj | hj | hj | hj | hj
    · unfold bareR; rw [if_neg (by omega), if_neg (by omega), if_neg (by omega), if_neg (by omega)]
    all_goals exact h j (by omega)
theorem DOK.lo {D D' : PD} (h : DOK D) (e : ∀ j, ¬ (0 ≤ j ∧ j ≤ 3) → D'.1 j = D.1 j) (en : D'.2.1 = D.2.1) (hf : (D'.2.2.1 = 0 ∨ D'.2.2.1 = 1) ∧ (D'.2.2.2 = 0 ∨ D'.2.2.2 = 1)) : DOK D' := by
  obtain ⟨a1, a2, a3, a4, a5, ⟨a6, a7⟩, a8, a9, a10, a11, -, a13⟩ := h
  have a1' := a1
  unfold cntOK at a1'
  have e4 := e 4 (by omega)
  have e5 := e 5 (by omega)
  have e6 := e 6 (by omega)
  have e7 := e 7 (by omega)
  have e8 := e 8 (by omega)
  have e9 := e 9 (by omega)
  have e10 := e 10 (by omega)
  refine ⟨?_, fun s s0 s1 => ?_, fun s s0 s1 => ?_, fun s s0 s1 => ?_, fun s s0 s1 => ?_, ⟨fun s s0 s1 => ?_, ?_⟩, fun s s0 s1 => ?_, fun s s0 s1 => ?_, fun s s0 s1 => ?_, fun k hk => ?_, hf, fun j hj => ?_⟩
  · unfold cntOK; rw [e4, e5, e6, e7, e8, e9, e10]; exact a1
  · rw [e5] at s1; rw [e4, e (19 + s) (by omega), e (25 + s) (by omega), e (31 + s) (by omega)]; exact a2 s s0 s1
  · rw [e4] at s1; rw [e (13 + s) (by omega), e (16 + s) (by omega)]; exact a3 s s0 s1
  · rw [e6] at s1; rw [e5, e (37 + s) (by omega), e (42 + s) (by omega)]; exact a4 s s0 s1
  · rw [e8] at s1; rw [e (53 + s) (by omega), e (56 + s) (by omega)]; exact a5 s s0 s1
  · rw [e9] at s1; rw [e8, e (59 + s) (by omega), e (71 + s) (by omega)]; exact a6 s s0 s1
  · rw [e9, e10, ← a7]; exact stopsF_congr (by omega) fun j j0 j1 => e _ (by omega)
  · rw [e5] at s1; rw [e (19 + s) (by omega), e (19 + (s + 1)) (by omega)]; exact a8 s s0 s1
  · rw [e7] at s1; rw [e (47 + s) (by omega), e (49 + s) (by omega)]; exact a9 s s0 s1
  · rw [e8] at s1; rw [leftF_congr (e _ (by omega)) e9 (by omega) fun i i0 i1 => ⟨e _ (by omega), e _ (by omega)⟩]; exact a10 s s0 s1
  · unfold usedN at hk
    rw [e4, e8] at hk
    rw [en]; exact a11 k hk
  · rw [e j (by omega)]; exact a13 j hj
theorem addHold_ok {D : PD} (h : DOK D) {v l f : Int} (h4 : D.1 4 < 3) (hv : 0 < v ∧ v < 1099511627776) (hl : 1 ≤ l ∧ l ≤ 999) (hf : f = 0 ∨ f = 1)  : DOK (addHold D v l f) := by
  obtain ⟨a1, a2, a3, a4, a5, ⟨a6, a7⟩, a8, a9, a10, a11, a12, a13⟩ := h
  obtain ⟨ρ, nm, fl⟩ := D
  dsimp only at *
  unfold addHold
  unfold cntOK at a1
  refine ⟨?_, fun s s0 s1 => ?_, fun s s0 s1 => ?_, fun s s0 s1 => ?_, fun s s0 s1 => ?_, ⟨fun s s0 s1 => ?_, ?_⟩, fun s s0 s1 => ?_, fun s s0 s1 => ?_, fun s s0 s1 => ?_, fun k hk => ?_, ?_, fun j hj => ?_⟩ <;> dsimp only at *
  · unfold cntOK
    simp (disch := omega) only [rset_eq, rset_ne]
    omega
  · simp (disch := omega) only [rset_eq, rset_ne] at s1
    simp (disch := omega) only [rset_eq, rset_ne]
    have q := a2 s s0 (by omega)
    omega
  · simp (disch := omega) only [rset_eq, rset_ne] at s1
    by_cases e : s = ρ 4
    · subst e
      simp (disch := omega) only [rset_eq, rset_ne]
      omega
    · simp (disch := omega) only [rset_eq, rset_ne]
      exact a3 s s0 (by omega)
  · simp (disch := omega) only [rset_eq, rset_ne] at s1
    simp (disch := omega) only [rset_eq, rset_ne]
    exact a4 s s0 (by omega)
  · simp (disch := omega) only [rset_eq, rset_ne] at s1
    simp (disch := omega) only [rset_eq, rset_ne]
    exact a5 s s0 (by omega)
  · simp (disch := omega) only [rset_eq, rset_ne] at s1
    simp (disch := omega) only [rset_eq, rset_ne]
    exact a6 s s0 (by omega)
  · simp (disch := omega) only [rset_eq, rset_ne]
    rw [← a7]
    exact stopsF_congr (by omega) fun j j0 j1 => by simp (disch := omega) only [rset_eq, rset_ne]
  · simp (disch := omega) only [rset_eq, rset_ne] at s1
    simp (disch := omega) only [rset_eq, rset_ne]
    exact a8 s s0 (by omega)
  · simp (disch := omega) only [rset_eq, rset_ne] at s1
    simp (disch := omega) only [rset_eq, rset_ne]
    exact a9 s s0 (by omega)
  · simp (disch := omega) only [rset_eq, rset_ne] at s1
    rw [leftF_congr (ρ := ρ) (by simp (disch := omega) only [rset_eq, rset_ne]) (by simp (disch := omega) only [rset_eq, rset_ne]) (by omega) fun i i0 i1 => ⟨by simp (disch := omega) only [rset_eq, rset_ne], by simp (disch := omega) only [rset_eq, rset_ne]⟩]
    exact a10 s s0 (by omega)
  · unfold usedN at hk
    simp (disch := omega) only [rset_eq, rset_ne] at hk
    unfold nset
    by_cases e : k = ρ 4
    · rw [if_pos e]; exact hv
    · rw [if_neg e]
      refine a11 k ?_
      unfold usedN
      dsimp only
      omega
  · exact a12
  · simp (disch := omega) only [rset_eq, rset_ne]
    exact a13 j hj
theorem addSpot_ok {D : PD} (h : DOK D) {a l : Int} (h5 : D.1 5 < 6) (h4 : D.1 4 ≠ 0) (ha : 0 ≤ a ∧ a ≤ 99) (hl : 1 ≤ l ∧ l ≤ 99)  : DOK (addSpot D a l) := by
  obtain ⟨a1, a2, a3, a4, a5, ⟨a6, a7⟩, a8, a9, a10, a11, a12, a13⟩ := h
  obtain ⟨ρ, nm, fl⟩ := D
  dsimp only at *
  unfold addSpot
  unfold cntOK at a1
  refine ⟨?_, fun s s0 s1 => ?_, fun s s0 s1 => ?_, fun s s0 s1 => ?_, fun s s0 s1 => ?_, ⟨fun s s0 s1 => ?_, ?_⟩, fun s s0 s1 => ?_, fun s s0 s1 => ?_, fun s s0 s1 => ?_, fun k hk => ?_, ?_, fun j hj => ?_⟩ <;> dsimp only at *
  · unfold cntOK
    simp (disch := omega) only [rset_eq, rset_ne]
    omega
  · simp (disch := omega) only [rset_eq, rset_ne] at s1
    by_cases e : s = ρ 5
    · subst e
      simp (disch := omega) only [rset_eq, rset_ne]
      omega
    · simp (disch := omega) only [rset_eq, rset_ne]
      exact a2 s s0 (by omega)
  · simp (disch := omega) only [rset_eq, rset_ne] at s1
    simp (disch := omega) only [rset_eq, rset_ne]
    exact a3 s s0 (by omega)
  · simp (disch := omega) only [rset_eq, rset_ne] at s1
    simp (disch := omega) only [rset_eq, rset_ne]
    have q := a4 s s0 (by omega)
    omega
  · simp (disch := omega) only [rset_eq, rset_ne] at s1
    simp (disch := omega) only [rset_eq, rset_ne]
    exact a5 s s0 (by omega)
  · simp (disch := omega) only [rset_eq, rset_ne] at s1
    simp (disch := omega) only [rset_eq, rset_ne]
    exact a6 s s0 (by omega)
  · simp (disch := omega) only [rset_eq, rset_ne]
    rw [← a7]
    exact stopsF_congr (by omega) fun j j0 j1 => by simp (disch := omega) only [rset_eq, rset_ne]
  · simp (disch := omega) only [rset_eq, rset_ne] at s1
    by_cases e : s + 1 = ρ 5
    · rw [show (19 : Int) + (s + 1) = 19 + ρ 5 by omega]
      simp (disch := omega) only [rset_eq, rset_ne]
      have q := a2 s s0 (by omega)
      omega
    · simp (disch := omega) only [rset_eq, rset_ne]
      exact a8 s s0 (by omega)
  · simp (disch := omega) only [rset_eq, rset_ne] at s1
    simp (disch := omega) only [rset_eq, rset_ne]
    exact a9 s s0 (by omega)
  · simp (disch := omega) only [rset_eq, rset_ne] at s1
    rw [leftF_congr (ρ := ρ) (by simp (disch := omega) only [rset_eq, rset_ne]) (by simp (disch := omega) only [rset_eq, rset_ne]) (by omega) fun i i0 i1 => ⟨by simp (disch := omega) only [rset_eq, rset_ne], by simp (disch := omega) only [rset_eq, rset_ne]⟩]
    exact a10 s s0 (by omega)
  · unfold usedN at hk
    simp (disch := omega) only [rset_eq, rset_ne] at hk
    exact a11 k hk
  · exact a12
  · simp (disch := omega) only [rset_eq, rset_ne]
    exact a13 j hj
theorem addJoint_ok {D : PD} (h : DOK D) {l : Int} (hc : canJ D.1 = true) (hl : 1 ≤ l ∧ l ≤ 999)  : DOK (addJoint D l) := by
  obtain ⟨a1, a2, a3, a4, a5, ⟨a6, a7⟩, a8, a9, a10, a11, a12, a13⟩ := h
  obtain ⟨ρ, nm, fl⟩ := D
  dsimp only at *
  unfold addJoint
  unfold cntOK at a1
  have hcj := of_decide_eq_true hc
  have q6 := a4 (ρ 6 - 1)
  have h6 : ρ 6 ≤ 4 := by omega
  refine ⟨?_, fun s s0 s1 => ?_, fun s s0 s1 => ?_, fun s s0 s1 => ?_, fun s s0 s1 => ?_, ⟨fun s s0 s1 => ?_, ?_⟩, fun s s0 s1 => ?_, fun s s0 s1 => ?_, fun s s0 s1 => ?_, fun k hk => ?_, ?_, fun j hj => ?_⟩ <;> dsimp only at *
  · have hc := of_decide_eq_true hc
    unfold cntOK
    simp (disch := omega) only [rset_eq, rset_ne]
    have q := a4 (ρ 6 - 1)
    omega
  · simp (disch := omega) only [rset_eq, rset_ne] at s1
    simp (disch := omega) only [rset_eq, rset_ne]
    have q := a2 s s0 (by omega)
    omega
  · simp (disch := omega) only [rset_eq, rset_ne] at s1
    simp (disch := omega) only [rset_eq, rset_ne]
    exact a3 s s0 (by omega)
  · have hc := of_decide_eq_true hc
    have ql := a4 (ρ 6 - 1)
    simp (disch := omega) only [rset_eq, rset_ne] at s1
    by_cases e : s = ρ 6
    · subst e
      simp (disch := omega) only [rset_eq, rset_ne]
      omega
    · simp (disch := omega) only [rset_eq, rset_ne]
      exact a4 s s0 (by omega)
  · simp (disch := omega) only [rset_eq, rset_ne] at s1
    simp (disch := omega) only [rset_eq, rset_ne]
    exact a5 s s0 (by omega)
  · simp (disch := omega) only [rset_eq, rset_ne] at s1
    simp (disch := omega) only [rset_eq, rset_ne]
    exact a6 s s0 (by omega)
  · simp (disch := omega) only [rset_eq, rset_ne]
    rw [← a7]
    exact stopsF_congr (by omega) fun j j0 j1 => by simp (disch := omega) only [rset_eq, rset_ne]
  · simp (disch := omega) only [rset_eq, rset_ne] at s1
    simp (disch := omega) only [rset_eq, rset_ne]
    exact a8 s s0 (by omega)
  · simp (disch := omega) only [rset_eq, rset_ne] at s1
    simp (disch := omega) only [rset_eq, rset_ne]
    exact a9 s s0 (by omega)
  · simp (disch := omega) only [rset_eq, rset_ne] at s1
    rw [leftF_congr (ρ := ρ) (by simp (disch := omega) only [rset_eq, rset_ne]) (by simp (disch := omega) only [rset_eq, rset_ne]) (by omega) fun i i0 i1 => ⟨by simp (disch := omega) only [rset_eq, rset_ne], by simp (disch := omega) only [rset_eq, rset_ne]⟩]
    exact a10 s s0 (by omega)
  · unfold usedN at hk
    simp (disch := omega) only [rset_eq, rset_ne] at hk
    exact a11 k hk
  · exact a12
  · simp (disch := omega) only [rset_eq, rset_ne]
    exact a13 j hj
theorem addBin_ok {D : PD} (h : DOK D) {a l : Int} (h7 : D.1 7 < 2) (ha : 0 ≤ a ∧ a ≤ 99) (hl : 1 ≤ l ∧ l ≤ 99)  : DOK (addBin D a l) := by
  obtain ⟨a1, a2, a3, a4, a5, ⟨a6, a7⟩, a8, a9, a10, a11, a12, a13⟩ := h
  obtain ⟨ρ, nm, fl⟩ := D
  dsimp only at *
  unfold addBin
  unfold cntOK at a1
  refine ⟨?_, fun s s0 s1 => ?_, fun s s0 s1 => ?_, fun s s0 s1 => ?_, fun s s0 s1 => ?_, ⟨fun s s0 s1 => ?_, ?_⟩, fun s s0 s1 => ?_, fun s s0 s1 => ?_, fun s s0 s1 => ?_, fun k hk => ?_, ?_, fun j hj => ?_⟩ <;> dsimp only at *
  · unfold cntOK
    simp (disch := omega) only [rset_eq, rset_ne]
    omega
  · simp (disch := omega) only [rset_eq, rset_ne] at s1
    simp (disch := omega) only [rset_eq, rset_ne]
    have q := a2 s s0 (by omega)
    omega
  · simp (disch := omega) only [rset_eq, rset_ne] at s1
    simp (disch := omega) only [rset_eq, rset_ne]
    exact a3 s s0 (by omega)
  · simp (disch := omega) only [rset_eq, rset_ne] at s1
    simp (disch := omega) only [rset_eq, rset_ne]
    exact a4 s s0 (by omega)
  · simp (disch := omega) only [rset_eq, rset_ne] at s1
    simp (disch := omega) only [rset_eq, rset_ne]
    exact a5 s s0 (by omega)
  · simp (disch := omega) only [rset_eq, rset_ne] at s1
    simp (disch := omega) only [rset_eq, rset_ne]
    exact a6 s s0 (by omega)
  · simp (disch := omega) only [rset_eq, rset_ne]
    rw [← a7]
    exact stopsF_congr (by omega) fun j j0 j1 => by simp (disch := omega) only [rset_eq, rset_ne]
  · simp (disch := omega) only [rset_eq, rset_ne] at s1
    simp (disch := omega) only [rset_eq, rset_ne]
    exact a8 s s0 (by omega)
  · simp (disch := omega) only [rset_eq, rset_ne] at s1
    by_cases e : s = ρ 7
    · subst e
      simp (disch := omega) only [rset_eq, rset_ne]
      omega
    · simp (disch := omega) only [rset_eq, rset_ne]
      exact a9 s s0 (by omega)
  · simp (disch := omega) only [rset_eq, rset_ne] at s1
    rw [leftF_congr (ρ := ρ) (by simp (disch := omega) only [rset_eq, rset_ne]) (by simp (disch := omega) only [rset_eq, rset_ne]) (by omega) fun i i0 i1 => ⟨by simp (disch := omega) only [rset_eq, rset_ne], by simp (disch := omega) only [rset_eq, rset_ne]⟩]
    exact a10 s s0 (by omega)
  · unfold usedN at hk
    simp (disch := omega) only [rset_eq, rset_ne] at hk
    exact a11 k hk
  · exact a12
  · simp (disch := omega) only [rset_eq, rset_ne]
    exact a13 j hj
theorem addTank_ok {D : PD} (h : DOK D) {v a l : Int} (h8 : D.1 8 < 3) (hv : 0 < v ∧ v < 1099511627776) (ha : 0 ≤ a ∧ a ≤ 99) (hl : 1 ≤ l ∧ l ≤ 99)  : DOK (addTank D v a l) := by
  obtain ⟨a1, a2, a3, a4, a5, ⟨a6, a7⟩, a8, a9, a10, a11, a12, a13⟩ := h
  obtain ⟨ρ, nm, fl⟩ := D
  dsimp only at *
  unfold addTank
  unfold cntOK at a1
  refine ⟨?_, fun s s0 s1 => ?_, fun s s0 s1 => ?_, fun s s0 s1 => ?_, fun s s0 s1 => ?_, ⟨fun s s0 s1 => ?_, ?_⟩, fun s s0 s1 => ?_, fun s s0 s1 => ?_, fun s s0 s1 => ?_, fun k hk => ?_, ?_, fun j hj => ?_⟩ <;> dsimp only at *
  · unfold cntOK
    simp (disch := omega) only [rset_eq, rset_ne]
    omega
  · simp (disch := omega) only [rset_eq, rset_ne] at s1
    simp (disch := omega) only [rset_eq, rset_ne]
    have q := a2 s s0 (by omega)
    omega
  · simp (disch := omega) only [rset_eq, rset_ne] at s1
    simp (disch := omega) only [rset_eq, rset_ne]
    exact a3 s s0 (by omega)
  · simp (disch := omega) only [rset_eq, rset_ne] at s1
    simp (disch := omega) only [rset_eq, rset_ne]
    exact a4 s s0 (by omega)
  · simp (disch := omega) only [rset_eq, rset_ne] at s1
    by_cases e : s = ρ 8
    · subst e
      simp (disch := omega) only [rset_eq, rset_ne]
      omega
    · simp (disch := omega) only [rset_eq, rset_ne]
      exact a5 s s0 (by omega)
  · simp (disch := omega) only [rset_eq, rset_ne] at s1
    simp (disch := omega) only [rset_eq, rset_ne]
    have q := a6 s s0 (by omega)
    omega
  · simp (disch := omega) only [rset_eq, rset_ne]
    rw [← a7]
    exact stopsF_congr (by omega) fun j j0 j1 => by simp (disch := omega) only [rset_eq, rset_ne]
  · simp (disch := omega) only [rset_eq, rset_ne] at s1
    simp (disch := omega) only [rset_eq, rset_ne]
    exact a8 s s0 (by omega)
  · simp (disch := omega) only [rset_eq, rset_ne] at s1
    simp (disch := omega) only [rset_eq, rset_ne]
    exact a9 s s0 (by omega)
  · simp (disch := omega) only [rset_eq, rset_ne] at s1
    by_cases e : s = ρ 8
    · subst e
      unfold leftF
      rw [sumF_zero]
      · simp (disch := omega) only [rset_eq, rset_ne]
        omega
      · intro j j0 j1
        simp (disch := omega) only [rset_eq, rset_ne] at j1
        have q := a6 j j0 (by omega)
        simp (disch := omega) only [rset_eq, rset_ne]
        rw [if_neg (by omega)]
    · rw [leftF_congr (ρ := ρ) (by simp (disch := omega) only [rset_eq, rset_ne]) (by simp (disch := omega) only [rset_eq, rset_ne]) (by omega) fun i i0 i1 => ⟨by simp (disch := omega) only [rset_eq, rset_ne], by simp (disch := omega) only [rset_eq, rset_ne]⟩]
      exact a10 s s0 (by omega)
  · unfold usedN at hk
    simp (disch := omega) only [rset_eq, rset_ne] at hk
    unfold nset
    by_cases e : k = 3 + ρ 8
    · rw [if_pos e]; exact hv
    · rw [if_neg e]
      refine a11 k ?_
      unfold usedN
      dsimp only
      omega
  · exact a12
  · simp (disch := omega) only [rset_eq, rset_ne]
    exact a13 j hj
theorem addBurn_ok {D : PD} (h : DOK D) {t n : Int} (h9 : D.1 9 < 12) (ht : 0 ≤ t ∧ t < D.1 8) (hn : 1 ≤ n ∧ n ≤ leftF D.1 t)  : DOK (addBurn D t n) := by
  obtain ⟨a1, a2, a3, a4, a5, ⟨a6, a7⟩, a8, a9, a10, a11, a12, a13⟩ := h
  obtain ⟨ρ, nm, fl⟩ := D
  dsimp only at *
  unfold addBurn
  unfold cntOK at a1
  refine ⟨?_, fun s s0 s1 => ?_, fun s s0 s1 => ?_, fun s s0 s1 => ?_, fun s s0 s1 => ?_, ⟨fun s s0 s1 => ?_, ?_⟩, fun s s0 s1 => ?_, fun s s0 s1 => ?_, fun s s0 s1 => ?_, fun k hk => ?_, ?_, fun j hj => ?_⟩ <;> dsimp only at *
  · unfold cntOK
    simp (disch := omega) only [rset_eq, rset_ne]
    omega
  · simp (disch := omega) only [rset_eq, rset_ne] at s1
    simp (disch := omega) only [rset_eq, rset_ne]
    have q := a2 s s0 (by omega)
    omega
  · simp (disch := omega) only [rset_eq, rset_ne] at s1
    simp (disch := omega) only [rset_eq, rset_ne]
    exact a3 s s0 (by omega)
  · simp (disch := omega) only [rset_eq, rset_ne] at s1
    simp (disch := omega) only [rset_eq, rset_ne]
    exact a4 s s0 (by omega)
  · simp (disch := omega) only [rset_eq, rset_ne] at s1
    simp (disch := omega) only [rset_eq, rset_ne]
    exact a5 s s0 (by omega)
  · have hlt := a10 t ht.1 ht.2
    simp (disch := omega) only [rset_eq, rset_ne] at s1
    by_cases e : s = ρ 9
    · subst e
      simp (disch := omega) only [rset_eq, rset_ne]
      omega
    · simp (disch := omega) only [rset_eq, rset_ne]
      exact a6 s s0 (by omega)
  · simp (disch := omega) only [rset_eq, rset_ne]
    rw [← a7]
    unfold stopsF
    rw [show (ρ 9 + 1).toNat = (ρ 9).toNat + 1 by omega, sumF_snoc]
    simp (disch := omega) only [rset_eq, rset_ne]
    rw [show (0 : Int) + ((ρ 9).toNat : Int) = ρ 9 by omega]
    simp (disch := omega) only [rset_eq, rset_ne]
    rw [if_neg (by omega), Int.add_zero]
    exact sumF_congr _ _ fun j j0 j1 => by simp (disch := omega) only [rset_eq, rset_ne]
  · simp (disch := omega) only [rset_eq, rset_ne] at s1
    simp (disch := omega) only [rset_eq, rset_ne]
    exact a8 s s0 (by omega)
  · simp (disch := omega) only [rset_eq, rset_ne] at s1
    simp (disch := omega) only [rset_eq, rset_ne]
    exact a9 s s0 (by omega)
  · simp (disch := omega) only [rset_eq, rset_ne] at s1
    have q := a10 s s0 s1
    unfold leftF at *
    simp (disch := omega) only [rset_eq, rset_ne]
    rw [show (ρ 9 + 1).toNat = (ρ 9).toNat + 1 by omega, sumF_snoc, show (0 : Int) + ((ρ 9).toNat : Int) = ρ 9 by omega]
    rw [sumF_congr (g := fun i => if ρ (59 + i) = s then ρ (71 + i) else 0) _ _ fun j j0 j1 => by simp (disch := omega) only [rset_eq, rset_ne]]
    simp (disch := omega) only [rset_eq, rset_ne]
    split
    · rename_i e
      subst e
      omega
    · omega
  · unfold usedN at hk
    simp (disch := omega) only [rset_eq, rset_ne] at hk
    exact a11 k hk
  · exact a12
  · simp (disch := omega) only [rset_eq, rset_ne]
    exact a13 j hj
theorem addStop_ok {D : PD} (h : DOK D)  (h9 : D.1 9 < 12) (h10 : D.1 10 < 4)  : DOK (addStop D ) := by
  obtain ⟨a1, a2, a3, a4, a5, ⟨a6, a7⟩, a8, a9, a10, a11, a12, a13⟩ := h
  obtain ⟨ρ, nm, fl⟩ := D
  dsimp only at *
  unfold addStop
  unfold cntOK at a1
  refine ⟨?_, fun s s0 s1 => ?_, fun s s0 s1 => ?_, fun s s0 s1 => ?_, fun s s0 s1 => ?_, ⟨fun s s0 s1 => ?_, ?_⟩, fun s s0 s1 => ?_, fun s s0 s1 => ?_, fun s s0 s1 => ?_, fun k hk => ?_, ?_, fun j hj => ?_⟩ <;> dsimp only at *
  · unfold cntOK
    simp (disch := omega) only [rset_eq, rset_ne]
    omega
  · simp (disch := omega) only [rset_eq, rset_ne] at s1
    simp (disch := omega) only [rset_eq, rset_ne]
    have q := a2 s s0 (by omega)
    omega
  · simp (disch := omega) only [rset_eq, rset_ne] at s1
    simp (disch := omega) only [rset_eq, rset_ne]
    exact a3 s s0 (by omega)
  · simp (disch := omega) only [rset_eq, rset_ne] at s1
    simp (disch := omega) only [rset_eq, rset_ne]
    exact a4 s s0 (by omega)
  · simp (disch := omega) only [rset_eq, rset_ne] at s1
    simp (disch := omega) only [rset_eq, rset_ne]
    exact a5 s s0 (by omega)
  · simp (disch := omega) only [rset_eq, rset_ne] at s1
    by_cases e : s = ρ 9
    · subst e
      simp (disch := omega) only [rset_eq, rset_ne]
      omega
    · simp (disch := omega) only [rset_eq, rset_ne]
      exact a6 s s0 (by omega)
  · simp (disch := omega) only [rset_eq, rset_ne]
    rw [← a7]
    unfold stopsF
    rw [show (ρ 9 + 1).toNat = (ρ 9).toNat + 1 by omega, sumF_snoc, show (0 : Int) + ((ρ 9).toNat : Int) = ρ 9 by omega]
    simp (disch := omega) only [rset_eq, rset_ne]
    rw [if_pos (by omega)]
    congr 1
    exact sumF_congr _ _ fun j j0 j1 => by simp (disch := omega) only [rset_eq, rset_ne]
  · simp (disch := omega) only [rset_eq, rset_ne] at s1
    simp (disch := omega) only [rset_eq, rset_ne]
    exact a8 s s0 (by omega)
  · simp (disch := omega) only [rset_eq, rset_ne] at s1
    simp (disch := omega) only [rset_eq, rset_ne]
    exact a9 s s0 (by omega)
  · simp (disch := omega) only [rset_eq, rset_ne] at s1
    have q := a10 s s0 s1
    unfold leftF at *
    simp (disch := omega) only [rset_eq, rset_ne]
    rw [show (ρ 9 + 1).toNat = (ρ 9).toNat + 1 by omega, sumF_snoc, show (0 : Int) + ((ρ 9).toNat : Int) = ρ 9 by omega]
    rw [sumF_congr (g := fun i => if ρ (59 + i) = s then ρ (71 + i) else 0) _ _ fun j j0 j1 => by simp (disch := omega) only [rset_eq, rset_ne]]
    simp (disch := omega) only [rset_eq, rset_ne]
    rw [if_neg (by omega)]
    omega
  · unfold usedN at hk
    simp (disch := omega) only [rset_eq, rset_ne] at hk
    exact a11 k hk
  · exact a12
  · simp (disch := omega) only [rset_eq, rset_ne]
    exact a13 j hj


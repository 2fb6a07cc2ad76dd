/-! 20.steps: taken from whole (wip/p37/port.py) -/
/-! 20.steps: what the calls do with a row, and that it stays a good one (wip/whole/src/20_steps.py) -/
theorem rset_ne {ρ : Row} {i x j : Int} (h : j ≠ i) : rset ρ i x j = ρ j := if_neg h
theorem rset_eq {ρ : Row} {i x : Int} : rset ρ i x i = x := if_pos rfl
theorem WF.of {ρ ρ' : Row} (hw : WF ρ) (e : PlEq ρ ρ') (h1 : 0 ≤ ρ' 11 ∧ ρ' 11 ≤ 5) (h2 : ρ' 12 = ρ 12) (h3 : ∀ b, 0 ≤ b → b < 2 → (b < ρ 7 → 0 ≤ ρ' (51 + b) ∧ ρ' (51 + b) ≤ ρ (49 + b)) ∧ (ρ 7 ≤ b → ρ' (51 + b) = 0)) (hp : WFp ρ') (hd : WFd ρ') : WF ρ' := by
  have hn := hw.1.1
  unfold WFn at hn
  refine ⟨e.wfP hw.1 h1 (by omega), fun b b0 b1 => ?_, hp, hd⟩
  have q := hw.2.1 b b0 b1
  rw [e 7 (by omega), e (47 + b) (by omega), e (49 + b) (by omega)]
  exact ⟨fun h => ⟨(q.1 h).1, (q.1 h).2.1, (h3 b b0 b1).1 h⟩, (h3 b b0 b1).2⟩
theorem WF.bins {ρ : Row} (hw : WF ρ) {ρ' : Row} (h : ∀ b, 0 ≤ b → b < 2 → ρ' (51 + b) = ρ (51 + b)) : ∀ b, 0 ≤ b → b < 2 → (b < ρ 7 → 0 ≤ ρ' (51 + b) ∧ ρ' (51 + b) ≤ ρ (49 + b)) ∧ (ρ 7 ≤ b → ρ' (51 + b) = 0) := fun b b0 b1 => by
  have q := hw.2.1 b b0 b1
  rw [h b b0 b1]
  exact ⟨fun h => (q.1 h).2.2, q.2⟩
theorem WFp.of {ρ ρ' : Row} (hp : WFp ρ) (σ : Int → Int) (h : ∀ k, 0 ≤ k → k < ρ' 11 → (0 ≤ σ k ∧ σ k < ρ 11) ∧ ρ' (88 + k) = ρ (88 + σ k) ∧ ρ' (98 + k) = ρ (98 + σ k) ∧ ∀ i, 0 ≤ i → i < 8 → ρ' (103 + 8 * k + i) = ρ (103 + 8 * σ k + i))
    (h1 : ∀ k, 0 ≤ k → k < ρ' 11 → 1 ≤ ρ' (83 + k) ∧ ρ' (83 + k) ≤ 198) (h2 : ∀ k, 0 ≤ k → k < ρ' 11 → -1 ≤ ρ' (93 + k) ∧ ρ' (93 + k) < ρ' 5) : WFp ρ' := by
  intro k k0 k1
  obtain ⟨a, b, c, d⟩ := h k k0 k1
  obtain ⟨q1, q2, q3, q4, q5⟩ := hp (σ k) a.1 a.2
  refine ⟨h1 k k0 k1, by rw [b]; exact q2, h2 k k0 k1, by rw [c]; exact q4, fun i i0 i1 => ?_⟩
  rw [c, d i i0 i1]
  exact q5 i i0 i1
/-- one cell of a pallet is set: the weight or where it lies -/
theorem WFp.set {ρ : Row} (hn : WFn ρ) (hp : WFp ρ) {j x : Int} (hj : (83 ≤ j ∧ j < 88 ∧ 1 ≤ x ∧ x ≤ 198) ∨ (93 ≤ j ∧ j < 98 ∧ -1 ≤ x ∧ x < ρ 5)) : WFp (rset ρ j x) := by
  unfold WFn at hn
  refine hp.of (fun k => k) (fun k k0 k1 => ?_) (fun k k0 k1 => ?_) (fun k k0 k1 => ?_)
  · rw [rset_ne (by omega)] at k1
    exact ⟨⟨k0, k1⟩, rset_ne (by omega), rset_ne (by omega), fun i i0 i1 => rset_ne (by omega)⟩
  · rw [rset_ne (by omega)] at k1
    have q := (hp k k0 k1).1
    by_cases e : 83 + k = j
    · rw [e, rset_eq]; omega
    · rw [rset_ne e]; exact q
  · rw [rset_ne (by omega)] at k1
    have q := (hp k k0 k1).2.2.1
    rw [rset_ne (i := j) (j := 5) (by omega)]
    by_cases e : 93 + k = j
    · rw [e, rset_eq]; omega
    · rw [rset_ne e]; exact q
theorem WF.weigh {ρ : Row} (hw : WF ρ) {k w : Int} (hk : 0 ≤ k ∧ k < ρ 11) (h : 1 ≤ w ∧ w ≤ 198) : WF (rset ρ (83 + k) w) := by
  have hn := hw.1.1
  unfold WFn at hn
  refine hw.of ((PlEq.rf ρ).set (by omega)) (by rw [rset_ne (by omega)]; omega) (rset_ne (by omega)) (hw.bins (fun b b0 b1 => rset_ne (by omega))) (hw.2.2.1.set hw.1.1 (by omega)) (fun i j i0 i1 j1 e => ?_)
  rw [rset_ne (by omega)] at j1
  rw [rset_ne (by omega), rset_ne (by omega)] at e
  rw [rset_ne (by omega)]
  exact hw.2.2.2 i j i0 i1 j1 e
theorem onF_none {ρ : Row} {s : Int} (h : onF ρ s < 0) : ∀ k, 0 ≤ k → k < ρ 11 → ρ (93 + k) ≠ s := by
  unfold onF at h
  rcases fnd_spec (p := fun k => decide (ρ (93 + k) = s)) (ρ 11).toNat 0 with ⟨_, h2⟩ | ⟨h1, _⟩
  · intro k k0 k1 e
    have := h2 k (by omega) (by omega)
    simp [e] at this
  · omega
theorem WF.lies {ρ : Row} (hw : WF ρ) {k s : Int} (hk : 0 ≤ k ∧ k < ρ 11) (h : s = -1 ∨ (0 ≤ s ∧ s < ρ 5 ∧ onF ρ s < 0)) : WF (rset ρ (93 + k) s) := by
  have hn := hw.1.1
  unfold WFn at hn
  refine hw.of ((PlEq.rf ρ).set (by omega)) (by rw [rset_ne (by omega)]; omega) (rset_ne (by omega)) (hw.bins (fun b b0 b1 => rset_ne (by omega))) (hw.2.2.1.set hw.1.1 (by omega)) (fun i j i0 i1 j1 e => ?_)
  rw [rset_ne (by omega)] at j1
  by_cases ei : i = k
  · subst ei
    rw [rset_eq, rset_ne (by omega)] at e
    rw [rset_eq]
    rcases h with h | ⟨_, _, h⟩
    · exact h
    · exact absurd e.symm (onF_none h j (by omega) (by omega))
  · rw [rset_ne (j := 93 + i) (by omega)] at e ⊢
    by_cases ej : j = k
    · subst ej
      rw [rset_eq] at e
      rcases h with h | ⟨_, _, h⟩
      · omega
      · exact absurd e (onF_none h i (by omega) (by omega))
    · rw [rset_ne (by omega)] at e
      exact hw.2.2.2 i j i0 i1 j1 e
theorem WF.pour {ρ : Row} (hw : WF ρ) {b n : Int} (hb : 0 ≤ b ∧ b < ρ 7) (h : 0 ≤ n ∧ n ≤ ρ (49 + b)) : WF (rset ρ (51 + b) n) := by
  have hn := hw.1.1
  unfold WFn at hn
  refine hw.of ((PlEq.rf ρ).set (by omega)) (by rw [rset_ne (by omega)]; omega) (rset_ne (by omega)) (fun d d0 d1 => ?_) ?_ (fun i j i0 i1 j1 e => ?_)
  · have q := hw.2.1 d d0 d1
    by_cases e : d = b
    · subst e
      rw [rset_eq]
      omega
    · rw [rset_ne (by omega)]
      exact ⟨fun h => (q.1 h).2.2, q.2⟩
  · refine hw.2.2.1.of (fun k => k) (fun k k0 k1 => ?_) (fun k k0 k1 => ?_) (fun k k0 k1 => ?_)
    · rw [rset_ne (by omega)] at k1
      exact ⟨⟨k0, k1⟩, rset_ne (by omega), rset_ne (by omega), fun i i0 i1 => rset_ne (by omega)⟩
    · rw [rset_ne (by omega)] at k1 ⊢
      exact (hw.2.2.1 k k0 k1).1
    · rw [rset_ne (by omega)] at k1
      rw [rset_ne (by omega), rset_ne (by omega)]
      exact (hw.2.2.1 k k0 k1).2.2.1
  · rw [rset_ne (by omega)] at j1
    rw [rset_ne (by omega), rset_ne (by omega)] at e
    rw [rset_ne (by omega)]
    exact hw.2.2.2 i j i0 i1 j1 e
/-! the calls, as functions of the state -/
abbrev palG (G : Gh) (k : Int) : Prop := 0 ≤ k ∧ k < gRow G 11
def putF (G : Gh) (k s : Int) : Int × Gh := if ¬ (palG G k ∧ 0 ≤ s ∧ s < gRow G 5) then (-1, G) else if 0 ≤ onF (gRow G) s then (if onF (gRow G) s = k then 2 else 1, G) else (0, setRow (keepG G) (rset (gRow G) (93 + k) s))
def offF (G : Gh) (k : Int) : Int × Gh := if palG G k ∧ 0 ≤ gRow G (93 + k) then (gRow G (93 + k), setRow (keepG G) (rset (gRow G) (93 + k) (-1))) else (-1, G)
def set0F (G : Gh) (j v : Int) : Int × Gh := if gRow G j = v then (1, G) else (0, setRow (keepG G) (rset (gRow G) j v))
def pourF (G : Gh) (b n : Int) : Int × Gh := if (0 ≤ b ∧ b < gRow G 7) ∧ 0 ≤ n ∧ n ≤ gRow G (49 + b) then set0F G (51 + b) n else (-1, G)
def weighF (G : Gh) (k w : Int) : Int × Gh := if palG G k ∧ 1 ≤ w ∧ w ≤ 99 then set0F G (83 + k) w else (-1, G)
def undoF (G : Gh) : Int × Gh := match gUnd G with
  | [] => (-1, G)
  | u :: t => (t.length, (u, t, G.2.2))
/-- a number's byte -/
def byt (v k : Int) : Int := iand (iushr v k) 255
abbrev Tq : Type := (Int → Int) × Int
def put1 (q : Tq) (x : Int) : Tq := (rset q.1 q.2 x, q.2 + 1)
def put4 (q : Tq) (v : Int) : Tq := fld (fun k q => put1 q (byt v (24 - 8 * k))) 4 0 q
abbrev setTap (G : Gh) (q : Tq) : Gh := (G.1, G.2.1, G.2.2.1, G.2.2.2.1, q.1, q.2, G.2.2.2.2.2.2)
def feedF (G : Gh) (a b c d e : Int) : Int × Gh := if 540 < gTl G + 20 then (-1, G) else (gTl G + 20, setTap G (put4 (put4 (put4 (put4 (put4 (gTp G, gTl G) a) b) c) d) e))
def endF (G : Gh) (n : Int) : Int × Gh := if 0 ≤ n ∧ n ≤ gTl G then (1, setTap G (gTp G, n)) else (0, G)



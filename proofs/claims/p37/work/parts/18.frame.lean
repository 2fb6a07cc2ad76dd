/-! 18.frame: taken from whole (wip/p37/port.py) -/
variable {n_ : Sh}
/-! 18.frame: what stays as it was, and all that holds between two calls (wip/whole/src/18_frame.py) -/
/-- the cells of S are as they were -/
def Kp (S : Nat → Prop) (μ μ2 : Mem) : Prop := ∀ a, S a → μ2.1 a = μ.1 a ∧ μ2.2.1 a = μ.2.1 a ∧ μ2.2.2 a = μ.2.2 a
theorem ifn {α : Type} {p r : Prop} [Decidable (p ∧ r)] {x y : α} (h : ¬ p) : (if p ∧ r then x else y) = y := if_neg (fun e => h e.1)
theorem Kp.rf (S : Nat → Prop) (μ : Mem) : Kp S μ μ := fun _ _ => ⟨rfl, rfl, rfl⟩
theorem Kp.tr {S : Nat → Prop} {a b c : Mem} (h1 : Kp S a b) (h2 : Kp S b c) : Kp S a c := fun q hq => ⟨(h2 q hq).1.trans (h1 q hq).1, (h2 q hq).2.1.trans (h1 q hq).2.1, (h2 q hq).2.2.trans (h1 q hq).2.2⟩
theorem Kp.mono {S T : Nat → Prop} {a b : Mem} (h1 : Kp S a b) (h : ∀ q, T q → S q) : Kp T a b := fun q hq => h1 q (h q hq)
theorem Kp.sI {S : Nat → Prop} {μ μ2 : Mem} {a : Nat} {i x : Int} (h1 : Kp S μ μ2) (h : ¬ S a) : Kp S μ (setI μ2 a i x) := h1.tr fun q hq => ⟨funext fun j => ifn (fun e => h (e ▸ hq)), rfl, rfl⟩
theorem Kp.sL {S : Nat → Prop} {μ μ2 : Mem} {a : Nat} {i x : Int} (h1 : Kp S μ μ2) (h : ¬ S a) : Kp S μ (setL μ2 a i x) := h1.tr fun q hq => ⟨rfl, funext fun j => ifn (fun e => h (e ▸ hq)), rfl⟩
theorem Kp.sR {S : Nat → Prop} {μ μ2 : Mem} {a : Nat} {i : Int} {x : Option Nat} (h1 : Kp S μ μ2) (h : ¬ S a) : Kp S μ (setR μ2 a i x) := h1.tr fun q hq => ⟨rfl, rfl, funext fun j => ifn (fun e => h (e ▸ hq))⟩
theorem Kp.sF {S : Nat → Prop} {μ μ2 : Mem} {a : Nat} {k v : Int} (h1 : Kp S μ μ2) (h : ¬ S a) : Kp S μ (fillI μ2 a k v) := h1.tr fun q hq => ⟨funext fun j => ifn (fun e => h (e ▸ hq)), rfl, rfl⟩
theorem Kp.cI {S : Nat → Prop} {μ μ2 : Mem} {a b : Nat} {n : Int} (h1 : Kp S μ μ2) (h : ¬ S a) : Kp S μ (cpI μ2 a b n) := h1.tr fun q hq => ⟨funext fun j => ifn (fun e => h (e ▸ hq)), rfl, rfl⟩
theorem Kp.cL {S : Nat → Prop} {μ μ2 : Mem} {a b : Nat} {n : Int} (h1 : Kp S μ μ2) (h : ¬ S a) : Kp S μ (cpL μ2 a b n) := h1.tr fun q hq => ⟨rfl, funext fun j => ifn (fun e => h (e ▸ hq)), rfl⟩
/-! the plane's part of a row -/
def PlEq (ρ ρ' : Row) : Prop := ∀ j, ((0 ≤ j ∧ j ≤ 10) ∨ (13 ≤ j ∧ j ≤ 50) ∨ (53 ≤ j ∧ j ≤ 82)) → ρ' j = ρ j
theorem PlEq.rf (ρ : Row) : PlEq ρ ρ := fun _ _ => rfl
theorem PlEq.tr {a b c : Row} (h1 : PlEq a b) (h2 : PlEq b c) : PlEq a c := fun j hj => (h2 j hj).trans (h1 j hj)
theorem PlEq.sy {a b : Row} (h1 : PlEq a b) : PlEq b a := fun j hj => (h1 j hj).symm
theorem PlEq.set {a b : Row} {i x : Int} (h1 : PlEq a b) (h : (11 ≤ i ∧ i ≤ 12) ∨ (51 ≤ i ∧ i ≤ 52) ∨ 83 ≤ i) : PlEq a (rset b i x) := fun j hj => (if_neg (by omega)).trans (h1 j hj)
theorem PlEq.way {ρ ρ' : Row} (h : PlEq ρ ρ') (hn : WFn ρ) (hs : WFs ρ) {s : Int} (h1 : 0 ≤ s) (h2 : s < ρ 5) : wayF ρ' s = wayF ρ s := by
  unfold WFn at hn
  have q := hs s h1 h2
  unfold wayF
  rw [h 5 (by omega), h (19 + s) (by omega), h (16 + ρ (19 + s)) (by omega)]
  exact fld_congr _ _ _ (fun j a h3 h4 => by rw [h (19 + j) (by omega)])
theorem PlEq.stops {ρ ρ' : Row} (h : PlEq ρ ρ') {i : Int} (h2 : i ≤ 12) : stopsF ρ' i = stopsF ρ i := by
  unfold stopsF
  exact sumF_congr _ _ (fun j h3 h4 => by rw [h (59 + j) (by omega)])
theorem PlEq.bW {ρ ρ' : Row} (h : PlEq ρ ρ') (hn : WFn ρ) {i : Int} (h2 : i ≤ 12) : baseW ρ' i = baseW ρ i := by
  unfold WFn at hn
  unfold baseW
  rw [h 0 (by omega), h 8 (by omega)]
  rw [sumF_congr (f := fun k => if ρ' (59 + k) < 0 then 0 else -ρ' (71 + k)) (g := fun k => if ρ (59 + k) < 0 then 0 else -ρ (71 + k)) _ _ (fun j h3 h4 => by (try dsimp only); rw [h (59 + j) (by omega), h (71 + j) (by omega)])]
  rw [sumF_congr (f := fun t => ρ' (56 + t)) (g := fun t => ρ (56 + t)) _ _ (fun j h3 h4 => by (try dsimp only); rw [h (56 + j) (by omega)])]
theorem PlEq.bM {ρ ρ' : Row} (h : PlEq ρ ρ') (hn : WFn ρ) (hg : WFg ρ) {i : Int} (h2 : i ≤ ρ 9) : baseM ρ' i = baseM ρ i := by
  unfold WFn at hn
  unfold baseM
  rw [h 0 (by omega), h 1 (by omega), h 8 (by omega)]
  rw [sumF_congr (f := fun k => if ρ' (59 + k) < 0 then 0 else -ρ' (71 + k) * ρ' (53 + ρ' (59 + k))) (g := fun k => if ρ (59 + k) < 0 then 0 else -ρ (71 + k) * ρ (53 + ρ (59 + k))) _ _ (fun j h3 h4 => by
    have q := hg.1 j (by omega) (by omega)
    try dsimp only
    rw [h (59 + j) (by omega), h (71 + j) (by omega)]
    by_cases h5 : ρ (59 + j) < 0
    · rw [if_pos h5, if_pos h5]
    · rw [if_neg h5, if_neg h5, h (53 + ρ (59 + j)) (by omega)])]
  rw [sumF_congr (f := fun t => ρ' (56 + t) * ρ' (53 + t)) (g := fun t => ρ (56 + t) * ρ (53 + t)) _ _ (fun j h3 h4 => by
    try dsimp only
    rw [h (56 + j) (by omega), h (53 + j) (by omega)])]
theorem PlEq.wfn {ρ ρ' : Row} (h : PlEq ρ ρ') (hn : WFn ρ) (h1 : 0 ≤ ρ' 11 ∧ ρ' 11 ≤ 5) (h2 : 0 ≤ ρ' 12 ∧ ρ' 12 ≤ 198) : WFn ρ' := by
  unfold WFn at *
  rw [h 0 (by omega), h 1 (by omega), h 2 (by omega), h 3 (by omega), h 4 (by omega), h 5 (by omega), h 6 (by omega), h 7 (by omega), h 8 (by omega), h 9 (by omega), h 10 (by omega)]
  omega
theorem PlEq.wfP {ρ ρ' : Row} (h : PlEq ρ ρ') (hw : WFP ρ) (h1 : 0 ≤ ρ' 11 ∧ ρ' 11 ≤ 5) (h2 : 0 ≤ ρ' 12 ∧ ρ' 12 ≤ 198) : WFP ρ' := by
  obtain ⟨hn, hs, hh, hj, ht, hg⟩ := hw
  refine ⟨h.wfn hn h1 h2, ?_, ?_, ?_, ?_, ?_, ?_⟩
  · unfold WFn at hn
    intro s a b
    rw [h 5 (by omega)] at b
    rw [h (19 + s) (by omega), h (25 + s) (by omega), h (31 + s) (by omega), h 4 (by omega)]
    exact hs s a b
  · unfold WFn at hn
    intro s a b
    rw [h 4 (by omega)] at b
    rw [h (13 + s) (by omega), h (16 + s) (by omega)]
    exact hh s a b
  · unfold WFn at hn
    intro s a b
    rw [h 6 (by omega)] at b
    rw [h (37 + s) (by omega), h (42 + s) (by omega), h 5 (by omega)]
    exact hj s a b
  · unfold WFn at hn
    intro s a b
    rw [h 8 (by omega)] at b
    rw [h (53 + s) (by omega), h (56 + s) (by omega)]
    exact ht s a b
  · unfold WFn at hn
    intro s a b
    rw [h 9 (by omega)] at b
    rw [h (59 + s) (by omega), h (71 + s) (by omega), h 8 (by omega)]
    exact hg.1 s a b
  · unfold WFn at hn
    rw [h 9 (by omega), h 10 (by omega), h.stops (by omega)]
    exact hg.2

theorem RelP.mono {sh : Sh} {μ μ2 : Mem} {p : Nat} {ρ : Row} (h : RelP sh μ p ρ) (hk : Kp (fun a => p ≤ a ∧ a < p + 23) μ μ2) : RelP sh μ2 p ρ := by
  have e0 := hk (p) (by dsimp only; omega)
  have e1 := hk (p + 1) (by dsimp only; omega)
  have e2 := hk (p + 2) (by dsimp only; omega)
  have e3 := hk (p + 3) (by dsimp only; omega)
  have e4 := hk (p + 13) (by dsimp only; omega)
  have e5 := hk (p + 3 + 1) (by dsimp only; omega)
  have e6 := hk (p + 3 + 2) (by dsimp only; omega)
  have e7 := hk (p + 3 + 3) (by dsimp only; omega)
  have e8 := hk (p + 3 + 4) (by dsimp only; omega)
  have e9 := hk (p + 3 + 5) (by dsimp only; omega)
  have e10 := hk (p + 3 + 6) (by dsimp only; omega)
  have e11 := hk (p + 3 + 7) (by dsimp only; omega)
  have e12 := hk (p + 3 + 8) (by dsimp only; omega)
  have e13 := hk (p + 3 + 9) (by dsimp only; omega)
  have e14 := hk (p + 13 + 1) (by dsimp only; omega)
  have e15 := hk (p + 13 + 2) (by dsimp only; omega)
  have e16 := hk (p + 13 + 3) (by dsimp only; omega)
  have e17 := hk (p + 13 + 4) (by dsimp only; omega)
  have e18 := hk (p + 13 + 5) (by dsimp only; omega)
  have e19 := hk (p + 13 + 6) (by dsimp only; omega)
  have e20 := hk (p + 13 + 7) (by dsimp only; omega)
  have e21 := hk (p + 13 + 8) (by dsimp only; omega)
  have e22 := hk (p + 13 + 9) (by dsimp only; omega)
  unfold RelP RelF RelV IsPlane IsFloor IsVoyage at *
  simp only [(e0).1, (e0).2.2, (e1).1, (e1).2.2, (e2).1, (e2).2.2, (e3).1, (e3).2.2, (e4).1, (e4).2.2, (e5).1, (e5).2.2, (e6).1, (e6).2.2, (e7).1, (e7).2.2, (e8).1, (e8).2.2, (e9).1, (e9).2.2, (e10).1, (e10).2.2, (e11).1, (e11).2.2, (e12).1, (e12).2.2, (e13).1, (e13).2.2, (e14).1, (e14).2.2, (e15).1, (e15).2.2, (e16).1, (e16).2.2, (e17).1, (e17).2.2, (e18).1, (e18).2.2, (e19).1, (e19).2.2, (e20).1, (e20).2.2, (e21).1, (e21).2.2, (e22).1, (e22).2.2]
  exact h
theorem RelC.mono {sh : Sh} {μ μ2 : Mem} {p : Nat} {ρ : Row} (h : RelC sh μ p ρ) (hk : Kp (fun a => p ≤ a ∧ a < p + 6) μ μ2) : RelC sh μ2 p ρ := by
  have e0 := hk (p) (by dsimp only; omega)
  have e1 := hk (p + 1) (by dsimp only; omega)
  have e2 := hk (p + 2) (by dsimp only; omega)
  have e3 := hk (p + 3) (by dsimp only; omega)
  have e4 := hk (p + 4) (by dsimp only; omega)
  have e5 := hk (p + 5) (by dsimp only; omega)
  unfold RelC IsCargo at *
  simp only [(e0).1, (e0).2.1, (e0).2.2, (e1).1, (e1).2.1, (e1).2.2, (e2).1, (e2).2.1, (e2).2.2, (e3).1, (e3).2.1, (e3).2.2, (e4).1, (e4).2.1, (e4).2.2, (e5).1, (e5).2.1, (e5).2.2]
  exact h
theorem RelP.row {sh : Sh} {μ : Mem} {p : Nat} {ρ ρ' : Row} (h : RelP sh μ p ρ) (hw : WFP ρ) (e : PlEq ρ ρ') : RelP sh μ p ρ' := by
  obtain ⟨hn, hs, hh, hj, ht, hg⟩ := hw
  have hn0 := hn
  unfold WFn at hn
  obtain ⟨hIP, p0, p1, p2, p3, p4, pb, ⟨hIF, kf0, kh, kf4, ks, kf9, kj⟩, hIV, v0, vt, v5, v8, vi⟩ := h
  refine ⟨hIP, p0.trans (e 0 (by omega)).symm, p1.trans (e 1 (by omega)).symm, p2.trans (e 2 (by omega)).symm, p3.trans (e 3 (by omega)).symm, p4.trans (e 7 (by omega)).symm, fun b b1 b2 => ?_, ⟨hIF, kf0.trans (e 4 (by omega)).symm, fun b b1 b2 => ?_, kf4.trans (e 5 (by omega)).symm, fun b b1 b2 => ?_, kf9.trans (e 6 (by omega)).symm, fun b b1 b2 => ?_⟩, hIV, v0.trans (e 8 (by omega)).symm, fun b b1 b2 => ?_, v5.trans (e 9 (by omega)).symm, v8.trans (e 10 (by omega)).symm, fun b b1 b2 => ?_⟩
  · rw [e 7 (by omega), e (47 + b) (by omega), e (49 + b) (by omega)]
    exact pb b b1 b2
  · rw [e 4 (by omega)] at b2
    rw [e (13 + b) (by omega), e (16 + b) (by omega)]
    exact kh b b1 b2
  · rw [e 5 (by omega)] at b2
    rw [e (19 + b) (by omega), e (25 + b) (by omega), e (31 + b) (by omega), e.way hn0 hs b1 b2]
    exact ks b b1 b2
  · rw [e 6 (by omega)] at b2
    rw [e (37 + b) (by omega), e (42 + b) (by omega)]
    exact kj b b1 b2
  · rw [e 8 (by omega)] at b2
    rw [e (53 + b) (by omega), e (56 + b) (by omega)]
    exact vt b b1 b2
  · rw [e 9 (by omega)] at b2
    rw [e.bW hn0 (by omega), e.bM hn0 hg b2, e.stops (by omega)]
    exact vi b b1 b2
theorem pkF_congr {ρ ρ' : Row} {k k' : Int} (h1 : ρ' (98 + k') = ρ (98 + k)) (h0 : ρ (98 + k) ≤ 8) (h : ∀ i, 0 ≤ i → i < 8 → ρ' (103 + 8 * k' + i) = ρ (103 + 8 * k + i)) : pkF ρ' k' = pkF ρ k := by
  unfold pkF pkN
  rw [h1]
  refine fld_congr _ _ _ (fun j a h3 h4 => ?_)
  try dsimp only
  rw [h j (by omega) (by omega)]

def SH (n_ : Sh) : Sh := (10, 11) :: (6, 4) :: (8, 7) :: (20, 540) :: (5, 9) :: (20, 2) :: (20, 2) :: (1, 12) :: (21, 3) :: (20, 3) :: (23, 3) :: (20, 6) :: (20, 6) :: (20, 6) :: (20, 6) :: (20, 6) :: (20, 6) :: (9, 12) :: (21, 3) :: (20, 3) :: (20, 3) :: (20, 3) :: (20, 12) :: (20, 12) :: (20, 13) :: (20, 13) :: (20, 13) :: (5, 9) :: (20, 2) :: (20, 2) :: (1, 12) :: (21, 3) :: (20, 3) :: (23, 3) :: (20, 6) :: (20, 6) :: (20, 6) :: (20, 6) :: (20, 6) :: (20, 6) :: (9, 12) :: (21, 3) :: (20, 3) :: (20, 3) :: (20, 3) :: (20, 12) :: (20, 12) :: (20, 13) :: (20, 13) :: (20, 13) :: (0, 7) :: (21, 5) :: (20, 5) :: (20, 5) :: (20, 5) :: (20, 2) :: (0, 7) :: (21, 5) :: (20, 5) :: (20, 5) :: (20, 5) :: (20, 2) :: (2, 3) :: (24, 8) :: (0, 7) :: (21, 5) :: (20, 5) :: (20, 5) :: (20, 5) :: (20, 2) :: (0, 7) :: (21, 5) :: (20, 5) :: (20, 5) :: (20, 5) :: (20, 2) :: (0, 7) :: (21, 5) :: (20, 5) :: (20, 5) :: (20, 5) :: (20, 2) :: (0, 7) :: (21, 5) :: (20, 5) :: (20, 5) :: (20, 5) :: (20, 2) :: (0, 7) :: (21, 5) :: (20, 5) :: (20, 5) :: (20, 5) :: (20, 2) :: (0, 7) :: (21, 5) :: (20, 5) :: (20, 5) :: (20, 5) :: (20, 2) :: (0, 7) :: (21, 5) :: (20, 5) :: (20, 5) :: (20, 5) :: (20, 2) :: (0, 7) :: (21, 5) :: (20, 5) :: (20, 5) :: (20, 5) :: (20, 2) :: (3, 3) :: (5, 9) :: (20, 2) :: (20, 2) :: (1, 12) :: (21, 3) :: (20, 3) :: (23, 3) :: (20, 6) :: (20, 6) :: (20, 6) :: (20, 6) :: (20, 6) :: (20, 6) :: (9, 12) :: (21, 3) :: (20, 3) :: (20, 3) :: (20, 3) :: (20, 12) :: (20, 12) :: (20, 13) :: (20, 13) :: (20, 13) :: (0, 7) :: (21, 5) :: (20, 5) :: (20, 5) :: (20, 5) :: (20, 2) :: (3, 3) :: (5, 9) :: (20, 2) :: (20, 2) :: (1, 12) :: (21, 3) :: (20, 3) :: (23, 3) :: (20, 6) :: (20, 6) :: (20, 6) :: (20, 6) :: (20, 6) :: (20, 6) :: (9, 12) :: (21, 3) :: (20, 3) :: (20, 3) :: (20, 3) :: (20, 12) :: (20, 12) :: (20, 13) :: (20, 13) :: (20, 13) :: (0, 7) :: (21, 5) :: (20, 5) :: (20, 5) :: (20, 5) :: (20, 2) :: (7, 15) :: (20, 720) :: (20, 720) :: (20, 720) :: (20, 5) :: (20, 5) :: (20, 5) :: (20, 6) :: (20, 3) :: (20, 10) :: (4, 10) :: (20, 10) :: (20, 10) :: (20, 5) :: (20, 6) :: (20, 720) :: n_
def refL : List (Nat × Int × Nat) := [(0, 0, 1), (1, 0, 2), (2, 0, 3), (0, 6, 62), (0, 7, 112), (0, 8, 142), (0, 9, 172), (0, 10, 182), (4, 5, 5), (4, 6, 6), (4, 7, 7), (4, 8, 17), (7, 1, 8), (7, 2, 9), (7, 3, 10), (7, 5, 11), (7, 6, 12), (7, 7, 13), (7, 8, 14), (7, 10, 15), (7, 11, 16), (17, 1, 18), (17, 2, 19), (17, 3, 20), (17, 4, 21), (17, 6, 22), (17, 7, 23), (17, 9, 24), (17, 10, 25), (17, 11, 26), (27, 5, 28), (27, 6, 29), (27, 7, 30), (27, 8, 40), (30, 1, 31), (30, 2, 32), (30, 3, 33), (30, 5, 34), (30, 6, 35), (30, 7, 36), (30, 8, 37), (30, 10, 38), (30, 11, 39), (40, 1, 41), (40, 2, 42), (40, 3, 43), (40, 4, 44), (40, 6, 45), (40, 7, 46), (40, 9, 47), (40, 10, 48), (40, 11, 49), (50, 1, 51), (50, 2, 52), (50, 3, 53), (50, 4, 54), (50, 6, 55), (56, 1, 57), (56, 2, 58), (56, 3, 59), (56, 4, 60), (56, 6, 61), (62, 0, 63), (63, 0, 64), (64, 1, 65), (64, 2, 66), (64, 3, 67), (64, 4, 68), (64, 6, 69), (63, 1, 70), (70, 1, 71), (70, 2, 72), (70, 3, 73), (70, 4, 74), (70, 6, 75), (63, 2, 76), (76, 1, 77), (76, 2, 78), (76, 3, 79), (76, 4, 80), (76, 6, 81), (63, 3, 82), (82, 1, 83), (82, 2, 84), (82, 3, 85), (82, 4, 86), (82, 6, 87), (63, 4, 88), (88, 1, 89), (88, 2, 90), (88, 3, 91), (88, 4, 92), (88, 6, 93), (63, 5, 94), (94, 1, 95), (94, 2, 96), (94, 3, 97), (94, 4, 98), (94, 6, 99), (63, 6, 100), (100, 1, 101), (100, 2, 102), (100, 3, 103), (100, 4, 104), (100, 6, 105), (63, 7, 106), (106, 1, 107), (106, 2, 108), (106, 3, 109), (106, 4, 110), (106, 6, 111), (112, 1, 113), (112, 2, 136), (113, 5, 114), (113, 6, 115), (113, 7, 116), (113, 8, 126), (116, 1, 117), (116, 2, 118), (116, 3, 119), (116, 5, 120), (116, 6, 121), (116, 7, 122), (116, 8, 123), (116, 10, 124), (116, 11, 125), (126, 1, 127), (126, 2, 128), (126, 3, 129), (126, 4, 130), (126, 6, 131), (126, 7, 132), (126, 9, 133), (126, 10, 134), (126, 11, 135), (136, 1, 137), (136, 2, 138), (136, 3, 139), (136, 4, 140), (136, 6, 141), (142, 1, 143), (142, 2, 166), (143, 5, 144), (143, 6, 145), (143, 7, 146), (143, 8, 156), (146, 1, 147), (146, 2, 148), (146, 3, 149), (146, 5, 150), (146, 6, 151), (146, 7, 152), (146, 8, 153), (146, 10, 154), (146, 11, 155), (156, 1, 157), (156, 2, 158), (156, 3, 159), (156, 4, 160), (156, 6, 161), (156, 7, 162), (156, 9, 163), (156, 10, 164), (156, 11, 165), (166, 1, 167), (166, 2, 168), (166, 3, 169), (166, 4, 170), (166, 6, 171), (172, 2, 173), (172, 3, 174), (172, 4, 175), (172, 9, 176), (172, 10, 177), (172, 11, 178), (172, 12, 179), (172, 13, 180), (172, 14, 181), (182, 0, 183), (182, 2, 184), (182, 3, 185), (182, 4, 186), (182, 5, 187)]
def Lay (R : IX) : Prop := ∀ q ∈ refL, R q.1 q.2.1 = some q.2.2
theorem Lay.c50 {R : IX} (h : Lay R) : IsCargo (SH n_) R 50 := ⟨rfl, (h (50, 1, 51) (List.mem_of_getElem? (i := 52) rfl)), (h (50, 2, 52) (List.mem_of_getElem? (i := 53) rfl)), (h (50, 3, 53) (List.mem_of_getElem? (i := 54) rfl)), (h (50, 4, 54) (List.mem_of_getElem? (i := 55) rfl)), (h (50, 6, 55) (List.mem_of_getElem? (i := 56) rfl)), rfl, rfl, rfl, rfl, rfl⟩
theorem Lay.c56 {R : IX} (h : Lay R) : IsCargo (SH n_) R 56 := ⟨rfl, (h (56, 1, 57) (List.mem_of_getElem? (i := 57) rfl)), (h (56, 2, 58) (List.mem_of_getElem? (i := 58) rfl)), (h (56, 3, 59) (List.mem_of_getElem? (i := 59) rfl)), (h (56, 4, 60) (List.mem_of_getElem? (i := 60) rfl)), (h (56, 6, 61) (List.mem_of_getElem? (i := 61) rfl)), rfl, rfl, rfl, rfl, rfl⟩
theorem Lay.c64 {R : IX} (h : Lay R) : IsCargo (SH n_) R 64 := ⟨rfl, (h (64, 1, 65) (List.mem_of_getElem? (i := 64) rfl)), (h (64, 2, 66) (List.mem_of_getElem? (i := 65) rfl)), (h (64, 3, 67) (List.mem_of_getElem? (i := 66) rfl)), (h (64, 4, 68) (List.mem_of_getElem? (i := 67) rfl)), (h (64, 6, 69) (List.mem_of_getElem? (i := 68) rfl)), rfl, rfl, rfl, rfl, rfl⟩
theorem Lay.c70 {R : IX} (h : Lay R) : IsCargo (SH n_) R 70 := ⟨rfl, (h (70, 1, 71) (List.mem_of_getElem? (i := 70) rfl)), (h (70, 2, 72) (List.mem_of_getElem? (i := 71) rfl)), (h (70, 3, 73) (List.mem_of_getElem? (i := 72) rfl)), (h (70, 4, 74) (List.mem_of_getElem? (i := 73) rfl)), (h (70, 6, 75) (List.mem_of_getElem? (i := 74) rfl)), rfl, rfl, rfl, rfl, rfl⟩
theorem Lay.c76 {R : IX} (h : Lay R) : IsCargo (SH n_) R 76 := ⟨rfl, (h (76, 1, 77) (List.mem_of_getElem? (i := 76) rfl)), (h (76, 2, 78) (List.mem_of_getElem? (i := 77) rfl)), (h (76, 3, 79) (List.mem_of_getElem? (i := 78) rfl)), (h (76, 4, 80) (List.mem_of_getElem? (i := 79) rfl)), (h (76, 6, 81) (List.mem_of_getElem? (i := 80) rfl)), rfl, rfl, rfl, rfl, rfl⟩
theorem Lay.c82 {R : IX} (h : Lay R) : IsCargo (SH n_) R 82 := ⟨rfl, (h (82, 1, 83) (List.mem_of_getElem? (i := 82) rfl)), (h (82, 2, 84) (List.mem_of_getElem? (i := 83) rfl)), (h (82, 3, 85) (List.mem_of_getElem? (i := 84) rfl)), (h (82, 4, 86) (List.mem_of_getElem? (i := 85) rfl)), (h (82, 6, 87) (List.mem_of_getElem? (i := 86) rfl)), rfl, rfl, rfl, rfl, rfl⟩
theorem Lay.c88 {R : IX} (h : Lay R) : IsCargo (SH n_) R 88 := ⟨rfl, (h (88, 1, 89) (List.mem_of_getElem? (i := 88) rfl)), (h (88, 2, 90) (List.mem_of_getElem? (i := 89) rfl)), (h (88, 3, 91) (List.mem_of_getElem? (i := 90) rfl)), (h (88, 4, 92) (List.mem_of_getElem? (i := 91) rfl)), (h (88, 6, 93) (List.mem_of_getElem? (i := 92) rfl)), rfl, rfl, rfl, rfl, rfl⟩
theorem Lay.c94 {R : IX} (h : Lay R) : IsCargo (SH n_) R 94 := ⟨rfl, (h (94, 1, 95) (List.mem_of_getElem? (i := 94) rfl)), (h (94, 2, 96) (List.mem_of_getElem? (i := 95) rfl)), (h (94, 3, 97) (List.mem_of_getElem? (i := 96) rfl)), (h (94, 4, 98) (List.mem_of_getElem? (i := 97) rfl)), (h (94, 6, 99) (List.mem_of_getElem? (i := 98) rfl)), rfl, rfl, rfl, rfl, rfl⟩
theorem Lay.c100 {R : IX} (h : Lay R) : IsCargo (SH n_) R 100 := ⟨rfl, (h (100, 1, 101) (List.mem_of_getElem? (i := 100) rfl)), (h (100, 2, 102) (List.mem_of_getElem? (i := 101) rfl)), (h (100, 3, 103) (List.mem_of_getElem? (i := 102) rfl)), (h (100, 4, 104) (List.mem_of_getElem? (i := 103) rfl)), (h (100, 6, 105) (List.mem_of_getElem? (i := 104) rfl)), rfl, rfl, rfl, rfl, rfl⟩
theorem Lay.c106 {R : IX} (h : Lay R) : IsCargo (SH n_) R 106 := ⟨rfl, (h (106, 1, 107) (List.mem_of_getElem? (i := 106) rfl)), (h (106, 2, 108) (List.mem_of_getElem? (i := 107) rfl)), (h (106, 3, 109) (List.mem_of_getElem? (i := 108) rfl)), (h (106, 4, 110) (List.mem_of_getElem? (i := 109) rfl)), (h (106, 6, 111) (List.mem_of_getElem? (i := 110) rfl)), rfl, rfl, rfl, rfl, rfl⟩
theorem Lay.p4 {R : IX} (h : Lay R) : IsPlane (SH n_) R 4 := ⟨rfl, (h (4, 5, 5) (List.mem_of_getElem? (i := 8) rfl)), (h (4, 6, 6) (List.mem_of_getElem? (i := 9) rfl)), (h (4, 7, 7) (List.mem_of_getElem? (i := 10) rfl)), (h (4, 8, 17) (List.mem_of_getElem? (i := 11) rfl)), rfl, rfl, ⟨rfl, (h (7, 1, 8) (List.mem_of_getElem? (i := 12) rfl)), (h (7, 2, 9) (List.mem_of_getElem? (i := 13) rfl)), (h (7, 3, 10) (List.mem_of_getElem? (i := 14) rfl)), (h (7, 5, 11) (List.mem_of_getElem? (i := 15) rfl)), (h (7, 6, 12) (List.mem_of_getElem? (i := 16) rfl)), (h (7, 7, 13) (List.mem_of_getElem? (i := 17) rfl)), (h (7, 8, 14) (List.mem_of_getElem? (i := 18) rfl)), (h (7, 10, 15) (List.mem_of_getElem? (i := 19) rfl)), (h (7, 11, 16) (List.mem_of_getElem? (i := 20) rfl)), rfl, rfl, rfl, rfl, rfl, rfl, rfl, rfl, rfl⟩, ⟨rfl, (h (17, 1, 18) (List.mem_of_getElem? (i := 21) rfl)), (h (17, 2, 19) (List.mem_of_getElem? (i := 22) rfl)), (h (17, 3, 20) (List.mem_of_getElem? (i := 23) rfl)), (h (17, 4, 21) (List.mem_of_getElem? (i := 24) rfl)), (h (17, 6, 22) (List.mem_of_getElem? (i := 25) rfl)), (h (17, 7, 23) (List.mem_of_getElem? (i := 26) rfl)), (h (17, 9, 24) (List.mem_of_getElem? (i := 27) rfl)), (h (17, 10, 25) (List.mem_of_getElem? (i := 28) rfl)), (h (17, 11, 26) (List.mem_of_getElem? (i := 29) rfl)), rfl, rfl, rfl, rfl, rfl, rfl, rfl, rfl, rfl⟩⟩
theorem Lay.p27 {R : IX} (h : Lay R) : IsPlane (SH n_) R 27 := ⟨rfl, (h (27, 5, 28) (List.mem_of_getElem? (i := 30) rfl)), (h (27, 6, 29) (List.mem_of_getElem? (i := 31) rfl)), (h (27, 7, 30) (List.mem_of_getElem? (i := 32) rfl)), (h (27, 8, 40) (List.mem_of_getElem? (i := 33) rfl)), rfl, rfl, ⟨rfl, (h (30, 1, 31) (List.mem_of_getElem? (i := 34) rfl)), (h (30, 2, 32) (List.mem_of_getElem? (i := 35) rfl)), (h (30, 3, 33) (List.mem_of_getElem? (i := 36) rfl)), (h (30, 5, 34) (List.mem_of_getElem? (i := 37) rfl)), (h (30, 6, 35) (List.mem_of_getElem? (i := 38) rfl)), (h (30, 7, 36) (List.mem_of_getElem? (i := 39) rfl)), (h (30, 8, 37) (List.mem_of_getElem? (i := 40) rfl)), (h (30, 10, 38) (List.mem_of_getElem? (i := 41) rfl)), (h (30, 11, 39) (List.mem_of_getElem? (i := 42) rfl)), rfl, rfl, rfl, rfl, rfl, rfl, rfl, rfl, rfl⟩, ⟨rfl, (h (40, 1, 41) (List.mem_of_getElem? (i := 43) rfl)), (h (40, 2, 42) (List.mem_of_getElem? (i := 44) rfl)), (h (40, 3, 43) (List.mem_of_getElem? (i := 45) rfl)), (h (40, 4, 44) (List.mem_of_getElem? (i := 46) rfl)), (h (40, 6, 45) (List.mem_of_getElem? (i := 47) rfl)), (h (40, 7, 46) (List.mem_of_getElem? (i := 48) rfl)), (h (40, 9, 47) (List.mem_of_getElem? (i := 49) rfl)), (h (40, 10, 48) (List.mem_of_getElem? (i := 50) rfl)), (h (40, 11, 49) (List.mem_of_getElem? (i := 51) rfl)), rfl, rfl, rfl, rfl, rfl, rfl, rfl, rfl, rfl⟩⟩
theorem Lay.r0_0 {R : IX} (h : Lay R) : R 0 0 = some 1 := (h (0, 0, 1) (List.mem_of_getElem? (i := 0) rfl))
theorem Lay.r1_0 {R : IX} (h : Lay R) : R 1 0 = some 2 := (h (1, 0, 2) (List.mem_of_getElem? (i := 1) rfl))
theorem Lay.r2_0 {R : IX} (h : Lay R) : R 2 0 = some 3 := (h (2, 0, 3) (List.mem_of_getElem? (i := 2) rfl))
theorem Lay.r0_6 {R : IX} (h : Lay R) : R 0 6 = some 62 := (h (0, 6, 62) (List.mem_of_getElem? (i := 3) rfl))
theorem Lay.r0_7 {R : IX} (h : Lay R) : R 0 7 = some 112 := (h (0, 7, 112) (List.mem_of_getElem? (i := 4) rfl))
theorem Lay.r0_8 {R : IX} (h : Lay R) : R 0 8 = some 142 := (h (0, 8, 142) (List.mem_of_getElem? (i := 5) rfl))
theorem Lay.r0_9 {R : IX} (h : Lay R) : R 0 9 = some 172 := (h (0, 9, 172) (List.mem_of_getElem? (i := 6) rfl))
theorem Lay.r0_10 {R : IX} (h : Lay R) : R 0 10 = some 182 := (h (0, 10, 182) (List.mem_of_getElem? (i := 7) rfl))
theorem Lay.r62_0 {R : IX} (h : Lay R) : R 62 0 = some 63 := (h (62, 0, 63) (List.mem_of_getElem? (i := 62) rfl))
theorem Lay.r63_0 {R : IX} (h : Lay R) : R 63 0 = some 64 := (h (63, 0, 64) (List.mem_of_getElem? (i := 63) rfl))
theorem Lay.r63_1 {R : IX} (h : Lay R) : R 63 1 = some 70 := (h (63, 1, 70) (List.mem_of_getElem? (i := 69) rfl))
theorem Lay.r63_2 {R : IX} (h : Lay R) : R 63 2 = some 76 := (h (63, 2, 76) (List.mem_of_getElem? (i := 75) rfl))
theorem Lay.r63_3 {R : IX} (h : Lay R) : R 63 3 = some 82 := (h (63, 3, 82) (List.mem_of_getElem? (i := 81) rfl))
theorem Lay.r63_4 {R : IX} (h : Lay R) : R 63 4 = some 88 := (h (63, 4, 88) (List.mem_of_getElem? (i := 87) rfl))
theorem Lay.r63_5 {R : IX} (h : Lay R) : R 63 5 = some 94 := (h (63, 5, 94) (List.mem_of_getElem? (i := 93) rfl))
theorem Lay.r63_6 {R : IX} (h : Lay R) : R 63 6 = some 100 := (h (63, 6, 100) (List.mem_of_getElem? (i := 99) rfl))
theorem Lay.r63_7 {R : IX} (h : Lay R) : R 63 7 = some 106 := (h (63, 7, 106) (List.mem_of_getElem? (i := 105) rfl))
theorem Lay.kept {R : IX} (h : Lay R) {i : Int} (h0 : 0 ≤ i ∧ i < 8) : R 63 i = some (64 + 6 * i.toNat) ∧ IsCargo (SH n_) R (64 + 6 * i.toNat) := by
  rcases (show i = 0 ∨ i = 1 ∨ i = 2 ∨ i = 3 ∨ i = 4 ∨ i = 5 ∨ i = 6 ∨ i = 7 by omega) with rfl | rfl | rfl | rfl | rfl | rfl | rfl | rfl
  · exact ⟨h.r63_0, h.c64⟩
  · exact ⟨h.r63_1, h.c70⟩
  · exact ⟨h.r63_2, h.c76⟩
  · exact ⟨h.r63_3, h.c82⟩
  · exact ⟨h.r63_4, h.c88⟩
  · exact ⟨h.r63_5, h.c94⟩
  · exact ⟨h.r63_6, h.c100⟩
  · exact ⟨h.r63_7, h.c106⟩
theorem Lay.mono {R R2 : IX} (h : Lay R) (hk : ∀ a, R2 a = R a) : Lay R2 := fun q hq => by rw [hk]; exact h q hq
/-- the weights that a call may tell -/
def W99 (ρ : Row) : Prop := ∀ k, 0 ≤ k → k < ρ 11 → ρ (83 + k) ≤ 99
/-- the state that both sides tell: row, what undoing brings back, two images, tape and its length, fault, told moves -/
abbrev Gh : Type := Row × List Row × Option Row × Option Row × (Int → Int) × Int × Int × List Int
abbrev gRow (G : Gh) : Row := G.1
abbrev gUnd (G : Gh) : List Row := G.2.1
abbrev gI0 (G : Gh) : Option Row := G.2.2.1
abbrev gI1 (G : Gh) : Option Row := G.2.2.2.1
abbrev gTp (G : Gh) : Int → Int := G.2.2.2.2.1
abbrev gTl (G : Gh) : Int := G.2.2.2.2.2.1
abbrev gFk (G : Gh) : Int := G.2.2.2.2.2.2.1
abbrev gTm (G : Gh) : List Int := G.2.2.2.2.2.2.2
def HistX (n_ : Sh) (μ : Mem) (ρ : Row) (us : List Row) : Prop := us.length ≤ 8 ∧ μ.1 62 2 = us.length ∧ (0 ≤ μ.1 62 1 ∧ μ.1 62 1 < 8) ∧
  ∀ (t : Nat) (u : Row), us[t]? = some u → RelC (SH n_) μ (64 + 6 * ((μ.1 62 1 + 7 - t) % 8).toNat) u ∧ PlEq ρ u ∧ WF u ∧ W99 u
def ImgX (n_ : Sh) (μ : Mem) (a : Nat) : Option Row → Prop
  | none => μ.1 a 0 = 0
  | some ρ => μ.1 a 0 = 1 ∧ RelP (SH n_) μ (a + 1) ρ ∧ RelC (SH n_) μ (a + 24) ρ ∧ WF ρ ∧ W99 ρ
def TapX (μ : Mem) (tp : Int → Int) (tl : Int) : Prop := μ.1 2 1 = tl ∧ (0 ≤ tl ∧ tl ≤ 540) ∧ ∀ i, 0 ≤ i → i < tl → μ.1 3 i = tp i ∧ (0 ≤ tp i ∧ tp i ≤ 255)
def TldX (μ : Mem) (tm : List Int) : Prop := μ.1 182 1 = tm.length ∧ tm.length ≤ 10 ∧ ∀ (i : Nat) (x : Int), tm[i]? = some x → μ.1 183 i = x
/-- which of the two planes and cargoes are in use -/
def PosX (R : IX) (p pd c cd : Nat) : Prop := (p = 4 ∧ pd = 27 ∨ p = 27 ∧ pd = 4) ∧ (c = 50 ∧ cd = 56 ∨ c = 56 ∧ cd = 50) ∧ R 0 2 = some p ∧ R 0 3 = some pd ∧ R 0 4 = some c ∧ R 0 5 = some cd
/-- the class between two calls, but for its table -/
def InX (n_ : Sh) (μ : Mem) (G : Gh) (p pd c cd : Nat) : Prop := Lay μ.2.2 ∧ PosX μ.2.2 p pd c cd ∧ (RelP (SH n_) μ p (gRow G) ∧ RelC (SH n_) μ c (gRow G) ∧ WF (gRow G) ∧ W99 (gRow G)) ∧
  HistX n_ μ (gRow G) (gUnd G) ∧ (ImgX n_ μ 112 (gI0 G) ∧ ImgX n_ μ 142 (gI1 G)) ∧ TapX μ (gTp G) (gTl G) ∧ (μ.1 0 1 = gFk G ∧ 0 ≤ gFk G ∧ gFk G ≤ 5) ∧ TldX μ (gTm G)
/-- 143 cells, from off on -/
def cut (f : Int → Int) (off : Int) : Row := fun j => if 0 ≤ j ∧ j < 143 then f (off + j) else 0
def TapM (m : Nat) (μ : Mem) (tp : Int → Int) (tl : Int) : Prop := μ.1 m 7 = tl ∧ (0 ≤ tl ∧ tl ≤ 540) ∧ ∀ i, 0 ≤ i → i < tl → (-128 ≤ μ.1 (m + 6) i ∧ μ.1 (m + 6) i < 128) ∧ iand (μ.1 (m + 6) i) 255 = tp i
def ImgM (m : Nat) (μ : Mem) (k : Int) : Option Row → Prop
  | none => nz (μ.1 (m + 5) k) = 0
  | some ρ => nz (μ.1 (m + 5) k) = 1 ∧ cut (μ.1 (m + 3)) (143 * k) = ρ
def UndM (m : Nat) (μ : Mem) (us : List Row) : Prop := us.length ≤ 8 ∧ μ.1 m 5 = us.length ∧ ∀ (t : Nat) (u : Row), us[t]? = some u → cut (μ.1 (m + 4)) (143 * (us.length - 1 - t)) = u
def TldM (m : Nat) (μ : Mem) (tm : List Int) : Prop := μ.1 m 33 = tm.length ∧ tm.length ≤ 10 ∧ ∀ (i : Nat) (x : Int), tm[i]? = some x → μ.1 (m + 14) i = x
theorem HistX.mono {μ μ2 : Mem} {ρ : Row} {us : List Row} (h : HistX n_ μ ρ us) (hk : Kp (fun a => 62 ≤ a ∧ a < 112) μ μ2) : HistX n_ μ2 ρ us := by
  obtain ⟨h1, h2, h3, h4⟩ := h
  have e := (hk 62 (by dsimp only; omega)).1
  refine ⟨h1, by rw [e]; exact h2, by rw [e]; exact h3, fun t u hu => ?_⟩
  rw [e]
  obtain ⟨a, b⟩ := h4 t u hu
  exact ⟨a.mono (hk.mono (fun q hq => by (try dsimp only at *); omega)), b⟩
theorem HistX.row {μ : Mem} {ρ ρ' : Row} {us : List Row} (h : HistX n_ μ ρ us) (e : PlEq ρ ρ') : HistX n_ μ ρ' us := by
  obtain ⟨h1, h2, h3, h4⟩ := h
  refine ⟨h1, h2, h3, fun t u hu => ?_⟩
  obtain ⟨a, b, c⟩ := h4 t u hu
  exact ⟨a, e.sy.tr b, c⟩
theorem ImgX.mono {μ μ2 : Mem} {a : Nat} {o : Option Row} (h : ImgX n_ μ a o) (hk : Kp (fun q => a ≤ q ∧ q < a + 30) μ μ2) : ImgX n_ μ2 a o := by
  have e := (hk a (by dsimp only; omega)).1
  cases o with
  | none => exact (congrFun e 0).trans h
  | some ρ =>
    obtain ⟨h1, h2, h3, h4⟩ := h
    exact ⟨(congrFun e 0).trans h1, h2.mono (hk.mono (fun q hq => by (try dsimp only at *); omega)), h3.mono (hk.mono (fun q hq => by (try dsimp only at *); omega)), h4⟩
theorem TapX.mono {μ μ2 : Mem} {tp : Int → Int} {tl : Int} (h : TapX μ tp tl) (h1 : μ2.1 2 1 = μ.1 2 1) (h2 : μ2.1 3 = μ.1 3) : TapX μ2 tp tl := by
  unfold TapX at *
  rw [h1, h2]
  exact h
theorem TldX.mono {μ μ2 : Mem} {tm : List Int} (h : TldX μ tm) (h1 : μ2.1 182 1 = μ.1 182 1) (h2 : μ2.1 183 = μ.1 183) : TldX μ2 tm := by
  unfold TldX at *
  rw [h1, h2]
  exact h
/-- the reference's calls leave the class as it was, and the other way round -/
theorem InX.mono {μ μ2 : Mem} {G : Gh} {p pd c cd : Nat} (h : InX n_ μ G p pd c cd) (hk : Kp (fun a => a < 188) μ μ2) (hR : μ2.2.2 = μ.2.2) : InX n_ μ2 G p pd c cd := by
  obtain ⟨a1, a2, ⟨b1, b2, b3⟩, a4, ⟨c1, c2⟩, a6, a7, a8⟩ := h
  refine ⟨by rw [hR]; exact a1, by rw [hR]; exact a2, ⟨b1.mono (hk.mono ?_), b2.mono (hk.mono ?_), b3⟩, a4.mono (hk.mono ?_), ⟨c1.mono (hk.mono ?_), c2.mono (hk.mono ?_)⟩, a6.mono (congrFun (hk 2 (by decide)).1 1) (hk 3 (by decide)).1, ?_, a8.mono (congrFun (hk 182 (by decide)).1 1) (hk 183 (by decide)).1⟩
  · have := a2.1; intro q hq; (try dsimp only at *); omega
  · have := a2.2.1; intro q hq; (try dsimp only at *); omega
  · intro q hq; (try dsimp only at *); omega
  · intro q hq; (try dsimp only at *); omega
  · intro q hq; (try dsimp only at *); omega
  · rw [(hk 0 (by decide)).1]; exact a7
/-- the reference's cells that count between two calls, but for the row -/
def McR (m : Nat) (μ μ2 : Mem) : Prop := (∀ i, (i = 5 ∨ i = 7 ∨ i = 14 ∨ i = 33) → μ2.1 m i = μ.1 m i) ∧ μ2.1 (m + 3) = μ.1 (m + 3) ∧ μ2.1 (m + 4) = μ.1 (m + 4) ∧ μ2.1 (m + 5) = μ.1 (m + 5) ∧ μ2.1 (m + 6) = μ.1 (m + 6) ∧ μ2.1 (m + 14) = μ.1 (m + 14)
abbrev setRow (G : Gh) (ρ : Row) : Gh := (ρ, G.2)
theorem UndM.mono {m : Nat} {μ μ2 : Mem} {us : List Row} (h : UndM m μ us) (h1 : μ2.1 m 5 = μ.1 m 5) (h2 : μ2.1 (m + 4) = μ.1 (m + 4)) : UndM m μ2 us := by
  unfold UndM at *; rw [h1, h2]; exact h
theorem ImgM.mono {m : Nat} {μ μ2 : Mem} {k : Int} {o : Option Row} (h : ImgM m μ k o) (h1 : μ2.1 (m + 5) = μ.1 (m + 5)) (h2 : μ2.1 (m + 3) = μ.1 (m + 3)) : ImgM m μ2 k o := by
  cases o with
  | none => unfold ImgM at *; rw [h1]; exact h
  | some ρ => unfold ImgM at *; rw [h1, h2]; exact h
theorem TapM.mono {m : Nat} {μ μ2 : Mem} {tp : Int → Int} {tl : Int} (h : TapM m μ tp tl) (h1 : μ2.1 m 7 = μ.1 m 7) (h2 : μ2.1 (m + 6) = μ.1 (m + 6)) : TapM m μ2 tp tl := by
  unfold TapM at *; rw [h1, h2]; exact h
theorem TldM.mono {m : Nat} {μ μ2 : Mem} {tm : List Int} (h : TldM m μ tm) (h1 : μ2.1 m 33 = μ.1 m 33) (h2 : μ2.1 (m + 14) = μ.1 (m + 14)) : TldM m μ2 tm := by
  unfold TldM at *; rw [h1, h2]; exact h
theorem McR.rf (m : Nat) (μ : Mem) : McR m μ μ := ⟨fun _ _ => rfl, rfl, rfl, rfl, rfl, rfl⟩
theorem McR.tr {m : Nat} {a b c : Mem} (h1 : McR m a b) (h2 : McR m b c) : McR m a c := ⟨fun i hi => (h2.1 i hi).trans (h1.1 i hi), h2.2.1.trans h1.2.1, h2.2.2.1.trans h1.2.2.1, h2.2.2.2.1.trans h1.2.2.2.1, h2.2.2.2.2.1.trans h1.2.2.2.2.1, h2.2.2.2.2.2.trans h1.2.2.2.2.2⟩
theorem McR.kp {m : Nat} {μ μ2 : Mem} (hk : Kp (fun a => a = m ∨ a = m + 3 ∨ a = m + 4 ∨ a = m + 5 ∨ a = m + 6 ∨ a = m + 14) μ μ2) : McR m μ μ2 := ⟨fun i _ => congrFun (hk m (by dsimp only; omega)).1 i, (hk _ (by dsimp only; omega)).1, (hk _ (by dsimp only; omega)).1, (hk _ (by dsimp only; omega)).1, (hk _ (by dsimp only; omega)).1, (hk _ (by dsimp only; omega)).1⟩

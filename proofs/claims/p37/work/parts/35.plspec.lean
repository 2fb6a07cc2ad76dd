/-! 35.plspec: taken from whole (wip/p37/port.py) -/
/-! 35.plspec: what a plane's text means (wip/whole/src/35_plspec.py) -/
/-- a row, names by number (holds 0..2, tanks 3..5), empty told, span told -/
abbrev PD : Type := Row × (Int → Int) × Int × Int
def bareR : Row := fun j => if j = 0 then 100 else if j = 1 then 50 else if j = 2 then 40 else if j = 3 then 60 else 0
def D0 : PD := (bareR, fun _ => 0, 0, 0)
def tankF (D : PD) (v : Int) : Int := fnd (fun t => decide (D.2.1 (3 + t) = v)) (D.1 8).toNat 0
def holdF (D : PD) (v : Int) : Int := fnd (fun h => decide (D.2.1 h = v)) (D.1 4).toNat 0
def leftF (ρ : Row) (t : Int) : Int := ρ (56 + t) - sumF (fun i => if ρ (59 + i) = t then ρ (71 + i) else 0) (ρ 9).toNat 0
def newN (T : Tq) (σ : Sg) (D : PD) : Int × Sg := ((wordC T σ).1, if 0 ≤ holdF D (wordC T σ).1 ∨ 0 ≤ tankF D (wordC T σ).1 then failC (wordC T σ).2 3 else (wordC T σ).2)
def iff' (c : Prop) [Decidable c] (σ : Sg) (k : Int) : Sg := if c then failC σ k else σ
def emptyS1 (T : Tq) (σ : Sg) (D : PD) : Int × Sg := numC T (iff' (D.2.2.1 = 1) σ 3) 1 999
def emptyS2 (T : Tq) (σ : Sg) (D : PD) : Int × Sg := numC T (emptyS1 T σ D).2 0 99
def emptyL (T : Tq) (σ : Sg) (D : PD) : Sg × PD := ((emptyS2 T σ D).2, rset (rset D.1 0 (emptyS1 T σ D).1) 1 (emptyS2 T σ D).1, D.2.1, 1, D.2.2.2)
def spanS1 (T : Tq) (σ : Sg) (D : PD) : Int × Sg := numC T (iff' (D.2.2.2 = 1) σ 3) 0 99
def spanS2 (T : Tq) (σ : Sg) (D : PD) : Int × Sg := numC T (spanS1 T σ D).2 ((spanS1 T σ D).1 + 1) 99
def spanL (T : Tq) (σ : Sg) (D : PD) : Sg × PD := ((spanS2 T σ D).2, rset (rset D.1 2 (spanS1 T σ D).1) 3 (spanS2 T σ D).1, D.2.1, D.2.2.1, 1)
def frontC (T : Tq) (σ : Sg) : Int × Sg := (b2i (tellsF T (nxt T σ) 11), if tellsF T (nxt T σ) 11 = true ∨ tellsF T (nxt T σ) 12 = true then nxt T σ else failC (nxt T σ) 1)
def nset (f : Int → Int) (i x : Int) : Int → Int := fun j => if j = i then x else f j
def addHold (D : PD) (v l f : Int) : PD := (rset (rset (rset D.1 (13 + D.1 4) l) (16 + D.1 4) (1 - f)) 4 (D.1 4 + 1), nset D.2.1 (D.1 4) v, D.2.2)
def holdS1 (T : Tq) (σ : Sg) (D : PD) : Int × Sg := newN T (iff' (3 ≤ D.1 4) σ 4) D
def holdS2 (T : Tq) (σ : Sg) (D : PD) : Int × Sg := numC T (holdS1 T σ D).2 1 999
def holdS3 (T : Tq) (σ : Sg) (D : PD) : Int × Sg := frontC T (holdS2 T σ D).2
def holdL (T : Tq) (σ : Sg) (D : PD) : Sg × PD := ((holdS3 T σ D).2, if sE (holdS3 T σ D).2 = 0 then addHold D (holdS1 T σ D).1 (holdS2 T σ D).1 (holdS3 T σ D).1 else D)
def addSpot (D : PD) (a l : Int) : PD := (rset (rset (rset (rset D.1 (19 + D.1 5) (D.1 4 - 1)) (25 + D.1 5) a) (31 + D.1 5) l) 5 (D.1 5 + 1), D.2)
def spotS1 (T : Tq) (σ : Sg) (D : PD) : Int × Sg := numC T (iff' (D.1 4 = 0) (iff' (6 ≤ D.1 5) σ 4) 5) 0 99
def spotS2 (T : Tq) (σ : Sg) (D : PD) : Int × Sg := numC T (spotS1 T σ D).2 1 99
def spotL (T : Tq) (σ : Sg) (D : PD) : Sg × PD := ((spotS2 T σ D).2, if sE (spotS2 T σ D).2 = 0 then addSpot D (spotS1 T σ D).1 (spotS2 T σ D).1 else D)
def canJ (ρ : Row) : Bool := decide (2 ≤ ρ 5 ∧ ρ (19 + (ρ 5 - 2)) = ρ 4 - 1 ∧ (ρ 6 = 0 ∨ ρ (37 + (ρ 6 - 1)) ≠ ρ 5 - 2))
def addJoint (D : PD) (l : Int) : PD := (rset (rset (rset D.1 (37 + D.1 6) (D.1 5 - 2)) (42 + D.1 6) l) 6 (D.1 6 + 1), D.2)
def jointS1 (T : Tq) (σ : Sg) (D : PD) : Int × Sg := numC T (iff' (canJ D.1 = false) σ 5) 1 999
def jointL (T : Tq) (σ : Sg) (D : PD) : Sg × PD := ((jointS1 T σ D).2, if sE (jointS1 T σ D).2 = 0 then addJoint D (jointS1 T σ D).1 else D)
def addBin (D : PD) (a l : Int) : PD := (rset (rset (rset D.1 (47 + D.1 7) a) (49 + D.1 7) l) 7 (D.1 7 + 1), D.2)
def binS1 (T : Tq) (σ : Sg) (D : PD) : Int × Sg := numC T (iff' (2 ≤ D.1 7) σ 4) 0 99
def binS2 (T : Tq) (σ : Sg) (D : PD) : Int × Sg := numC T (binS1 T σ D).2 1 99
def binL (T : Tq) (σ : Sg) (D : PD) : Sg × PD := ((binS2 T σ D).2, if sE (binS2 T σ D).2 = 0 then addBin D (binS1 T σ D).1 (binS2 T σ D).1 else D)
def addTank (D : PD) (v a l : Int) : PD := (rset (rset (rset D.1 (53 + D.1 8) a) (56 + D.1 8) l) 8 (D.1 8 + 1), nset D.2.1 (3 + D.1 8) v, D.2.2)
def tankS1 (T : Tq) (σ : Sg) (D : PD) : Int × Sg := newN T (iff' (3 ≤ D.1 8) σ 4) D
def tankS2 (T : Tq) (σ : Sg) (D : PD) : Int × Sg := numC T (tankS1 T σ D).2 0 99
def tankS3 (T : Tq) (σ : Sg) (D : PD) : Int × Sg := numC T (tankS2 T σ D).2 1 99
def tankL (T : Tq) (σ : Sg) (D : PD) : Sg × PD := ((tankS3 T σ D).2, if sE (tankS3 T σ D).2 = 0 then addTank D (tankS1 T σ D).1 (tankS2 T σ D).1 (tankS3 T σ D).1 else D)
def addBurn (D : PD) (t n : Int) : PD := (rset (rset (rset D.1 (71 + D.1 9) n) (59 + D.1 9) t) 9 (D.1 9 + 1), D.2)
def burnS1 (T : Tq) (σ : Sg) (D : PD) : Int × Sg := wordC T (iff' (12 ≤ D.1 9) σ 4)
def burnT (T : Tq) (σ : Sg) (D : PD) : Int := tankF D (burnS1 T σ D).1
def burnS2 (T : Tq) (σ : Sg) (D : PD) : Int × Sg := numC T (iff' (burnT T σ D = -1) (burnS1 T σ D).2 3) 1 (if burnT T σ D = -1 then 0 else leftF D.1 (burnT T σ D))
def burnL (T : Tq) (σ : Sg) (D : PD) : Sg × PD := ((burnS2 T σ D).2, if sE (burnS2 T σ D).2 = 0 then addBurn D (burnT T σ D) (burnS2 T σ D).1 else D)
def addStop (D : PD) : PD := (rset (rset (rset D.1 (59 + D.1 9) (-1)) 9 (D.1 9 + 1)) 10 (D.1 10 + 1), D.2)
def stopL (T : Tq) (σ : Sg) (D : PD) : Sg × PD := if 12 ≤ D.1 9 ∨ 4 ≤ D.1 10 then (failC σ 4, D) else (σ, addStop D)
def lineP (T : Tq) (σ : Sg) (D : PD) : Sg × PD :=
  if tellsF T σ 0 = true then emptyL T σ D else if tellsF T σ 1 = true then spanL T σ D else if tellsF T σ 2 = true then holdL T σ D
  else if tellsF T σ 3 = true then spotL T σ D else if tellsF T σ 4 = true then jointL T σ D else if tellsF T σ 5 = true then binL T σ D
  else if tellsF T σ 6 = true then tankL T σ D else if tellsF T σ 7 = true then burnL T σ D else if tellsF T σ 8 = true then stopL T σ D
  else (failC σ 1, D)
def loopP (T : Tq) : Nat → Sg → PD → Sg × PD
  | 0, σ, D => (σ, D)
  | n + 1, σ, D => if sE (nxt T σ) = 0 ∧ sK (nxt T σ) ≠ 0 then loopP T n (lendC T (lineP T (nxt T σ) D).1) (lineP T (nxt T σ) D).2 else (nxt T σ, D)
def planeR (T : Tq) : Sg × PD := loopP T 500 (beginC T 500) D0
theorem iff_pos {c : Prop} [Decidable c] {σ : Sg} {k : Int} (h : c) : iff' c σ k = failC σ k := if_pos h
theorem iff_neg {c : Prop} [Decidable c] {σ : Sg} {k : Int} (h : ¬ c) : iff' c σ k = σ := if_neg h
theorem fail_yes {σ : Sg} {k : Int} (hk : k ≠ 0) : sE (failC σ k) ≠ 0 := by
  unfold failC
  split
  · exact hk
  · assumption
theorem iff_0 {c : Prop} [Decidable c] {σ : Sg} {k : Int} (hk : k ≠ 0) (h : sE (iff' c σ k) = 0) : iff' c σ k = σ ∧ ¬ c ∧ sE σ = 0 := by
  unfold iff' at *
  by_cases hc : c
  · rw [if_pos hc] at h
    exact absurd h (fail_yes hk)
  · rw [if_neg hc] at h ⊢
    exact ⟨rfl, hc, h⟩
theorem nxt_E (T : Tq) (σ : Sg) : sE (nxt T σ) = sE σ := by
  unfold nxt
  by_cases e : sE σ ≠ 0
  · rw [if_pos e]
  · rw [if_neg e]
    unfold nx2
    (repeat' split) <;> simp only [mkE] <;> omega
/-- a number without a fault is one within its bounds -/
theorem num_0 {T : Tq} {σ : Sg} {lo hi : Int} (h : sE (numC T σ lo hi).2 = 0) : sE σ = 0 ∧ (numC T σ lo hi).2 = nxt T σ ∧ sK (nxt T σ) = 2 ∧ (lo ≤ (numC T σ lo hi).1 ∧ (numC T σ lo hi).1 ≤ hi) ∧ (numC T σ lo hi).1 = numV T (sF (nxt T σ)) (sT (nxt T σ)) := by
  have hE := nxt_E T σ
  rw [numC_eq] at *
  by_cases e : sE (nxt T σ) ≠ 0
  · rw [if_pos e] at h; exact absurd h e
  · rw [if_neg e] at h ⊢
    by_cases e2 : sK (nxt T σ) ≠ 2
    · rw [if_pos e2] at h; exact absurd h (fail_yes (by decide))
    · rw [if_neg e2] at h ⊢
      dsimp only at h ⊢
      by_cases e3 : numV T (sF (nxt T σ)) (sT (nxt T σ)) < lo ∨ hi < numV T (sF (nxt T σ)) (sT (nxt T σ))
      · rw [if_pos e3] at h; exact absurd h (fail_yes (by decide))
      · rw [if_neg e3]
        exact ⟨by omega, rfl, by omega, by omega, rfl⟩
theorem num_ok {T : Tq} (hL : T.2 ≤ 540) {σ : Sg} (h : SgOK T σ) (lo hi : Int) : SgOK T (numC T σ lo hi).2 ∧ (0 ≤ (numC T σ lo hi).1 ∧ (numC T σ lo hi).1 ≤ 999) := by
  have a := (nxt_ok hL h).1
  have q := nxt_num (T := T) (σ := σ)
  rw [numC_eq]
  by_cases e : sE (nxt T σ) ≠ 0
  · rw [if_pos e]; exact ⟨a, by (dsimp only; omega)⟩
  · rw [if_neg e]
    by_cases e2 : sK (nxt T σ) ≠ 2
    · rw [if_pos e2]; exact ⟨fail_ok a (by decide), by (dsimp only; omega)⟩
    · rw [if_neg e2]
      refine ⟨?_, (q (by omega) (by omega)).1⟩
      dsimp only
      split
      · exact fail_ok a (by decide)
      · exact a
theorem word_0 {T : Tq} {σ : Sg} (h : sE (wordC T σ).2 = 0) : sE σ = 0 ∧ (wordC T σ).2 = nxt T σ ∧ sK (nxt T σ) = 1 ∧ quoted T (nxt T σ) = false ∧ (wordC T σ).1 = pkC T (sF (nxt T σ)) (sT (nxt T σ)) := by
  have hE := nxt_E T σ
  rw [wordC_eq] at *
  by_cases e : sE (nxt T σ) ≠ 0
  · rw [if_pos e] at h; exact absurd h e
  · rw [if_neg e] at h ⊢
    dsimp only at h ⊢
    by_cases e3 : sK (nxt T σ) ≠ 1 ∨ quoted T (nxt T σ) = true
    · rw [if_pos e3] at h; exact absurd h (fail_yes (by decide))
    · rw [if_neg e3]
      refine ⟨by omega, rfl, by omega, ?_, rfl⟩
      cases hq : quoted T (nxt T σ)
      · rfl
      · exact absurd (Or.inr hq) e3
theorem word_ok {T : Tq} (hL : T.2 ≤ 540) {σ : Sg} (h : SgOK T σ) : SgOK T (wordC T σ).2 ∧ (0 ≤ (wordC T σ).1 ∧ (wordC T σ).1 < 1099511627776) := by
  have a := (nxt_ok hL h).1
  rw [wordC_eq]
  by_cases e : sE (nxt T σ) ≠ 0
  · rw [if_pos e]; exact ⟨a, by (dsimp only; omega)⟩
  · rw [if_neg e]
    refine ⟨?_, pkC_rng _ _ _⟩
    dsimp only
    split
    · exact fail_ok a (by decide)
    · exact a
theorem iff_ok {T : Tq} {c : Prop} [Decidable c] {σ : Sg} (h : SgOK T σ) {k : Int} (hk : 0 ≤ k ∧ k ≤ 5) : SgOK T (iff' c σ k) := by
  unfold iff'
  split
  · exact fail_ok h hk
  · exact h
theorem newN_ok {T : Tq} (hL : T.2 ≤ 540) {σ : Sg} (h : SgOK T σ) (D : PD) : SgOK T (newN T σ D).2 ∧ (0 ≤ (newN T σ D).1 ∧ (newN T σ D).1 < 1099511627776) := by
  have a := word_ok hL h
  unfold newN
  refine ⟨?_, a.2⟩
  dsimp only
  split
  · exact fail_ok a.1 (by decide)
  · exact a.1
theorem newN_0 {T : Tq} {σ : Sg} {D : PD} (h : sE (newN T σ D).2 = 0) : (newN T σ D) = wordC T σ ∧ holdF D (wordC T σ).1 < 0 ∧ tankF D (wordC T σ).1 < 0 := by
  unfold newN at *
  dsimp only at h
  by_cases e : 0 ≤ holdF D (wordC T σ).1 ∨ 0 ≤ tankF D (wordC T σ).1
  · rw [if_pos e] at h; exact absurd h (fail_yes (by decide))
  · rw [if_neg e]
    exact ⟨rfl, by omega, by omega⟩
theorem lend_ok {T : Tq} (hL : T.2 ≤ 540) {σ : Sg} (h : SgOK T σ) : SgOK T (lendC T σ) := by
  have a := (nxt_ok hL h).1
  rw [lendC_eq]
  split
  · exact fail_ok a (by decide)
  · exact a
theorem front_ok {T : Tq} (hL : T.2 ≤ 540) {σ : Sg} (h : SgOK T σ) : SgOK T (frontC T σ).2 ∧ ((frontC T σ).1 = 0 ∨ (frontC T σ).1 = 1) := by
  have a := (nxt_ok hL h).1
  unfold frontC
  refine ⟨?_, b2i_01 _⟩
  dsimp only
  split
  · exact a
  · exact fail_ok a (by decide)
theorem front_0 {T : Tq} {σ : Sg} (h : sE (frontC T σ).2 = 0) : sE σ = 0 ∧ (frontC T σ).2 = nxt T σ := by
  have hE := nxt_E T σ
  unfold frontC at *
  dsimp only at h ⊢
  by_cases e : tellsF T (nxt T σ) 11 = true ∨ tellsF T (nxt T σ) 12 = true
  · rw [if_pos e] at h ⊢
    exact ⟨by omega, rfl⟩
  · rw [if_neg e] at h
    exact absurd h (fail_yes (by decide))
/-! a line leaves the token's numbers good -/
theorem lineP_ok {T : Tq} (hL : T.2 ≤ 540) {σ : Sg} (h : SgOK T σ) (D : PD) : SgOK T (lineP T σ D).1 := by
  unfold lineP
  by_cases e0 : tellsF T σ 0 = true
  · rw [if_pos e0]; exact (num_ok hL (num_ok hL (iff_ok h (by decide)) _ _).1 _ _).1
  rw [if_neg e0]
  by_cases e0 : tellsF T σ 1 = true
  · rw [if_pos e0]; exact (num_ok hL (num_ok hL (iff_ok h (by decide)) _ _).1 _ _).1
  rw [if_neg e0]
  by_cases e0 : tellsF T σ 2 = true
  · rw [if_pos e0]; exact (front_ok hL (num_ok hL (newN_ok hL (iff_ok h (by decide)) D).1 _ _).1).1
  rw [if_neg e0]
  by_cases e0 : tellsF T σ 3 = true
  · rw [if_pos e0]; exact (num_ok hL (num_ok hL (iff_ok (iff_ok h (by decide)) (by decide)) _ _).1 _ _).1
  rw [if_neg e0]
  by_cases e0 : tellsF T σ 4 = true
  · rw [if_pos e0]; exact (num_ok hL (iff_ok h (by decide)) _ _).1
  rw [if_neg e0]
  by_cases e0 : tellsF T σ 5 = true
  · rw [if_pos e0]; exact (num_ok hL (num_ok hL (iff_ok h (by decide)) _ _).1 _ _).1
  rw [if_neg e0]
  by_cases e0 : tellsF T σ 6 = true
  · rw [if_pos e0]; exact (num_ok hL (num_ok hL (newN_ok hL (iff_ok h (by decide)) D).1 _ _).1 _ _).1
  rw [if_neg e0]
  by_cases e0 : tellsF T σ 7 = true
  · rw [if_pos e0]; exact (num_ok hL (iff_ok (word_ok hL (iff_ok h (by decide))).1 (by decide)) _ _).1
  rw [if_neg e0]
  by_cases e0 : tellsF T σ 8 = true
  · rw [if_pos e0]
    unfold stopL
    split
    · exact fail_ok h (by decide)
    · exact h
  rw [if_neg e0]
  exact fail_ok h (by decide)
theorem tankF_rng {D : PD} (h : 0 ≤ D.1 8) (v : Int) : tankF D v = -1 ∨ (0 ≤ tankF D v ∧ tankF D v < D.1 8) := by
  unfold tankF
  rcases fnd_spec (p := fun t => decide (D.2.1 (3 + t) = v)) (D.1 8).toNat 0 with ⟨h1, -⟩ | ⟨h1, h2, -⟩
  · exact Or.inl h1
  · omega

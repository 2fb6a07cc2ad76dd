/-! 15.rel: taken from whole (wip/p37/port.py) -/
variable {n_ : Sh}
/-! 15.rel: how a plane's and a cargo's cells tell a row (wip/whole/src/15_rel.py) -/
def IsFloor (sh : Sh) (R : IX) (a : Nat) : Prop := sh[a]? = some (1, 12) ∧ R a 1 = some (a + 1) ∧ R a 2 = some (a + 2) ∧ R a 3 = some (a + 3) ∧ R a 5 = some (a + 4) ∧ R a 6 = some (a + 5) ∧ R a 7 = some (a + 6) ∧ R a 8 = some (a + 7) ∧ R a 10 = some (a + 8) ∧ R a 11 = some (a + 9) ∧
  sh[a + 1]? = some (21, 3) ∧ sh[a + 2]? = some (20, 3) ∧ sh[a + 3]? = some (23, 3) ∧ sh[a + 4]? = some (20, 6) ∧ sh[a + 5]? = some (20, 6) ∧ sh[a + 6]? = some (20, 6) ∧ sh[a + 7]? = some (20, 6) ∧ sh[a + 8]? = some (20, 6) ∧ sh[a + 9]? = some (20, 6)
def IsVoyage (sh : Sh) (R : IX) (a : Nat) : Prop := sh[a]? = some (9, 12) ∧ R a 1 = some (a + 1) ∧ R a 2 = some (a + 2) ∧ R a 3 = some (a + 3) ∧ R a 4 = some (a + 4) ∧ R a 6 = some (a + 5) ∧ R a 7 = some (a + 6) ∧ R a 9 = some (a + 7) ∧ R a 10 = some (a + 8) ∧ R a 11 = some (a + 9) ∧
  sh[a + 1]? = some (21, 3) ∧ sh[a + 2]? = some (20, 3) ∧ sh[a + 3]? = some (20, 3) ∧ sh[a + 4]? = some (20, 3) ∧ sh[a + 5]? = some (20, 12) ∧ sh[a + 6]? = some (20, 12) ∧ sh[a + 7]? = some (20, 13) ∧ sh[a + 8]? = some (20, 13) ∧ sh[a + 9]? = some (20, 13)
def IsPlane (sh : Sh) (R : IX) (p : Nat) : Prop := sh[p]? = some (5, 9) ∧ R p 5 = some (p + 1) ∧ R p 6 = some (p + 2) ∧ R p 7 = some (p + 3) ∧ R p 8 = some (p + 13) ∧ sh[p + 1]? = some (20, 2) ∧ sh[p + 2]? = some (20, 2) ∧ IsFloor sh R (p + 3) ∧ IsVoyage sh R (p + 13)
/-- a pallet's name as one number -/
def pkN (f : Int → Int) (n : Nat) : Int := fld (fun i a => a * 32 + (f i - 96)) n 0 0
def pkF (ρ : Row) (k : Int) : Int := pkN (fun i => ρ (103 + 8 * k + i)) (ρ (98 + k)).toNat
def RelC (sh : Sh) (μ : Mem) (c : Nat) (ρ : Row) : Prop := IsCargo sh μ.2.2 c ∧ μ.1 c 0 = ρ 11 ∧ μ.1 c 5 = ρ 12 ∧ μ.1 (c + 5) 0 = ρ 51 ∧ μ.1 (c + 5) 1 = ρ 52 ∧
  ∀ k, 0 ≤ k → k < ρ 11 → μ.1 (c + 2) k = ρ (83 + k) ∧ μ.1 (c + 3) k = ρ (88 + k) ∧ μ.1 (c + 4) k = ρ (93 + k) ∧ μ.2.1 (c + 1) k = pkF ρ k
def RelF (sh : Sh) (μ : Mem) (a : Nat) (ρ : Row) : Prop := IsFloor sh μ.2.2 a ∧ μ.1 a 0 = ρ 4 ∧ (∀ h, 0 ≤ h → h < ρ 4 → μ.1 (a + 2) h = ρ (13 + h) ∧ nz (μ.1 (a + 3) h) = 1 - ρ (16 + h)) ∧
  μ.1 a 4 = ρ 5 ∧ (∀ s, 0 ≤ s → s < ρ 5 → μ.1 (a + 4) s = ρ (19 + s) ∧ μ.1 (a + 5) s = ρ (25 + s) ∧ μ.1 (a + 6) s = ρ (31 + s) ∧ μ.1 (a + 7) s = wayF ρ s) ∧
  μ.1 a 9 = ρ 6 ∧ (∀ j, 0 ≤ j → j < ρ 6 → μ.1 (a + 8) j = ρ (37 + j) + 1 ∧ μ.1 (a + 9) j = ρ (42 + j))
def RelV (sh : Sh) (μ : Mem) (a : Nat) (ρ : Row) : Prop := IsVoyage sh μ.2.2 a ∧ μ.1 a 0 = ρ 8 ∧ (∀ t, 0 ≤ t → t < ρ 8 → μ.1 (a + 2) t = ρ (53 + t) ∧ μ.1 (a + 3) t = ρ (56 + t)) ∧ μ.1 a 5 = ρ 9 ∧ μ.1 a 8 = ρ 10 ∧
  (∀ i, 0 ≤ i → i ≤ ρ 9 → μ.1 (a + 7) i = baseW ρ i ∧ μ.1 (a + 8) i = baseM ρ i ∧ μ.1 (a + 9) i = stopsF ρ i)
def RelP (sh : Sh) (μ : Mem) (p : Nat) (ρ : Row) : Prop := IsPlane sh μ.2.2 p ∧ μ.1 p 0 = ρ 0 ∧ μ.1 p 1 = ρ 1 ∧ μ.1 p 2 = ρ 2 ∧ μ.1 p 3 = ρ 3 ∧ μ.1 p 4 = ρ 7 ∧
  (∀ b, 0 ≤ b → b < 2 → (b < ρ 7 → μ.1 (p + 1) b = ρ (47 + b) ∧ μ.1 (p + 2) b = ρ (49 + b)) ∧ (ρ 7 ≤ b → μ.1 (p + 1) b = 0 ∧ μ.1 (p + 2) b = 0)) ∧ RelF sh μ (p + 3) ρ ∧ RelV sh μ (p + 13) ρ
theorem iand_rng (x y : Int) : -2147483648 ≤ iand x y ∧ iand x y < 2147483648 := by
  unfold iand
  have h1 := Int32.le_toInt (Int32.ofInt x &&& Int32.ofInt y)
  have h2 := Int32.toInt_lt (Int32.ofInt x &&& Int32.ofInt y)
  omega
/-! sums the other way round -/
theorem sumF_zero {f : Int → Int} : ∀ (n : Nat) (k : Int), (∀ j, k ≤ j → j < k + n → f j = 0) → sumF f n k = 0
  | 0, _, _ => rfl
  | n + 1, k, h => by rw [sumF, h k (by omega) (by omega), sumF_zero n (k + 1) (fun j h1 h2 => h j (by omega) (by omega))]; rfl
theorem sumF_one {f : Int → Int} {a : Int} : ∀ (n : Nat) (k : Int), k ≤ a → a < k + n → (∀ j, k ≤ j → j < k + n → j ≠ a → f j = 0) → sumF f n k = f a
  | 0, _, h1, h2, _ => by omega
  | n + 1, k, h1, h2, h => by
    rw [sumF]
    by_cases hk : k = a
    · subst hk
      rw [sumF_zero n (k + 1) (fun j h3 h4 => h j (by omega) (by omega) (by omega))]
      omega
    · rw [h k (by omega) (by omega) hk, sumF_one n (k + 1) (by omega) (by omega) (fun j h3 h4 h5 => h j (by omega) (by omega) h5)]
      omega
theorem sumF_add {f g : Int → Int} : ∀ (n : Nat) (k : Int), sumF (fun j => f j + g j) n k = sumF f n k + sumF g n k
  | 0, _ => rfl
  | n + 1, k => by rw [sumF, sumF, sumF, sumF_add n]; omega
theorem sumF_comm {f : Int → Int → Int} : ∀ (n m : Nat) (k l : Int), sumF (fun i => sumF (fun j => f i j) m l) n k = sumF (fun j => sumF (fun i => f i j) n k) m l
  | 0, m, k, l => by
    rw [sumF, sumF_zero]
    intro j _ _
    rfl
  | n + 1, m, k, l => by
    rw [sumF, sumF_comm n m (k + 1) l, ← sumF_add]
    rfl
/-- what lies on a spot, as a sum over the pallets -/
theorem wOn_sum {ρ : Row} (hn : 0 ≤ ρ 11) (hd : WFd ρ) {s : Int} (hs : 0 ≤ s) : wOnF ρ s = sumF (fun k => if ρ (93 + k) = s then ρ (83 + k) else 0) (ρ 11).toNat 0 := by
  unfold wOnF onF
  rcases fnd_spec (p := fun k => decide (ρ (93 + k) = s)) (ρ 11).toNat 0 with ⟨h1, h2⟩ | ⟨h1, h2, h3, h4⟩
  · rw [h1, if_pos (by omega), sumF_zero]
    intro j h3 h4
    have := h2 j h3 h4
    simp only [decide_eq_false_iff_not] at this
    rw [if_neg this]
  · have h3 : ρ (93 + fnd (fun k => decide (ρ (93 + k) = s)) (ρ 11).toNat 0) = s := by simpa using h3
    generalize fnd (fun k => decide (ρ (93 + k) = s)) (ρ 11).toNat 0 = r at h1 h2 h3
    rw [if_neg (by omega), sumF_one (a := r) _ _ h1 h2, if_pos h3]
    intro j h5 h6 h7
    by_cases h8 : ρ (93 + j) = s
    · exfalso
      rcases Int.lt_trichotomy j r with h | h | h
      · have := hd j r (by omega) h (by omega) (by rw [h8, h3]); omega
      · exact h7 h
      · have := hd r j (by omega) h (by omega) (by rw [h8, h3]); omega
    · rw [if_neg h8]
theorem inHold_sum {ρ : Row} (hn : WFn ρ) (hd : WFd ρ) (h : Int) : inHoldF ρ h = sumF (fun k => if (0 ≤ ρ (93 + k) ∧ ρ (93 + k) < ρ 5) ∧ ρ (19 + ρ (93 + k)) = h then ρ (83 + k) else 0) (ρ 11).toNat 0 := by
  unfold WFn at hn
  unfold inHoldF
  rw [sumF_congr (g := fun s => sumF (fun k => if ρ (19 + s) = h ∧ ρ (93 + k) = s then ρ (83 + k) else 0) (ρ 11).toNat 0), sumF_comm]
  · refine sumF_congr _ _ (fun k _ _ => ?_)
    by_cases hk : 0 ≤ ρ (93 + k) ∧ ρ (93 + k) < ρ 5
    · rw [sumF_one (a := ρ (93 + k)) _ _ hk.1 (by omega)]
      · by_cases h2 : ρ (19 + ρ (93 + k)) = h
        · rw [if_pos ⟨h2, rfl⟩, if_pos ⟨hk, h2⟩]
        · rw [if_neg (fun q => h2 q.1), if_neg (fun q => h2 q.2)]
      · intro j _ _ h3
        rw [if_neg (fun q => h3 q.2.symm)]
    · rw [if_neg (fun q => hk q.1), sumF_zero]
      intro j h1 h2
      rw [if_neg (fun q => hk (by omega))]
  · intro s h1 h2
    try dsimp only
    by_cases h3 : ρ (19 + s) = h
    · rw [if_pos h3, wOn_sum (by omega) hd h1]
      refine sumF_congr _ _ (fun k _ _ => ?_)
      simp [h3]
    · rw [if_neg h3, sumF_zero]
      intro j _ _
      simp [h3]
theorem binW_eq {ρ : Row} (hn : WFn ρ) (hb : WFb ρ) : binW ρ = ρ 51 + ρ 52 := by
  unfold WFn at hn
  have b0 := hb 0 (by omega) (by omega)
  have b1 := hb 1 (by omega) (by omega)
  simp only [Int.add_zero, show (51 : Int) + 1 = 52 from rfl] at b0 b1
  unfold binW
  rcases (show ρ 7 = 0 ∨ ρ 7 = 1 ∨ ρ 7 = 2 by omega) with h | h | h
  · rw [h]
    have := b0.2 (by omega)
    have := b1.2 (by omega)
    simp only [Int.toNat_zero, sumF]
    omega
  · rw [h]
    have := b1.2 (by omega)
    simp only [Int.toNat_one, sumF, Int.add_zero]
    omega
  · rw [h]
    simp [sumF]



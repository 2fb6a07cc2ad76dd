/-! 12.spec: taken from whole (wip/p37/port.py) -/
/-! 12.spec: what is meant, as functions of the reference's row of numbers -/
abbrev Row : Type := Int → Int
def sumF (f : Int → Int) : Nat → Int → Int
  | 0, _ => 0
  | n + 1, k => f k + sumF f n (k + 1)
theorem sumF_congr {f g : Int → Int} : ∀ (n : Nat) (k : Int), (∀ j, k ≤ j → j < k + n → f j = g j) → sumF f n k = sumF g n k
  | 0, _, _ => rfl
  | n + 1, k, h => by
    rw [sumF, sumF, h k (by omega) (by omega), sumF_congr n (k + 1) (fun j h1 h2 => h j (by omega) (by omega))]
theorem sumF_bound {f : Int → Int} {lo hi : Int} : ∀ (n : Nat) (k : Int), (∀ j, k ≤ j → j < k + n → lo ≤ f j ∧ f j ≤ hi) → lo ≤ 0 → 0 ≤ hi → n * lo ≤ sumF f n k ∧ sumF f n k ≤ n * hi
  | 0, _, _, _, _ => by simp [sumF]
  | n + 1, k, h, h1, h2 => by
    have a := sumF_bound n (k + 1) (fun j h3 h4 => h j (by omega) (by omega)) h1 h2
    have b := h k (by omega) (by omega)
    rw [sumF]
    have e1 : ((n + 1 : Nat) : Int) * lo = n * lo + lo := by rw [Int.natCast_add, Int.add_mul]; simp
    have e2 : ((n + 1 : Nat) : Int) * hi = n * hi + hi := by rw [Int.natCast_add, Int.add_mul]; simp
    omega
theorem fnd_congr {p q : Int → Bool} : ∀ (n : Nat) (k : Int), (∀ j, k ≤ j → j < k + n → p j = q j) → fnd p n k = fnd q n k
  | 0, _, _ => rfl
  | n + 1, k, h => by
    rw [fnd, fnd, h k (by omega) (by omega), fnd_congr n (k + 1) (fun j h1 h2 => h j (by omega) (by omega))]
theorem fnd_spec {p : Int → Bool} : ∀ (n : Nat) (k : Int), (fnd p n k = -1 ∧ ∀ j, k ≤ j → j < k + n → p j = false) ∨ (k ≤ fnd p n k ∧ fnd p n k < k + n ∧ p (fnd p n k) = true ∧ ∀ j, k ≤ j → j < fnd p n k → p j = false)
  | 0, k => Or.inl ⟨rfl, fun j h1 h2 => by omega⟩
  | n + 1, k => by
    rw [fnd]
    by_cases hk : p k = true
    · rw [if_pos hk]
      exact Or.inr ⟨by omega, by omega, hk, fun j h1 h2 => by omega⟩
    · rw [if_neg hk]
      have hk' : p k = false := by simpa using hk
      rcases fnd_spec (p := p) n (k + 1) with ⟨h1, h2⟩ | ⟨h1, h2, h3, h4⟩
      · refine Or.inl ⟨h1, fun j h3 h4 => ?_⟩
        by_cases hj : j = k
        · rw [hj]; exact hk'
        · exact h2 j (by omega) (by omega)
      · refine Or.inr ⟨by omega, by omega, h3, fun j h5 h6 => ?_⟩
        by_cases hj : j = k
        · rw [hj]; exact hk'
        · exact h4 j (by omega) h6
theorem fld_congr {α : Type} {f g : Int → α → α} : ∀ (n : Nat) (k : Int) (a : α), (∀ j a, k ≤ j → j < k + n → f j a = g j a) → fld f n k a = fld g n k a
  | 0, _, _, _ => rfl
  | n + 1, k, a, h => by
    rw [fld, fld, h k a (by omega) (by omega), fld_congr n (k + 1) _ (fun j a h1 h2 => h j a (by omega) (by omega))]
theorem fld_sum (f : Int → Int) : ∀ (n : Nat) (k a : Int), fld (fun k a => a + f k) n k a = a + sumF f n k
  | 0, _, a => by simp [fld, sumF]
  | n + 1, k, a => by rw [fld, fld_sum f n, sumF]; omega
def rset (ρ : Row) (i x : Int) : Row := fun j => if j = i then x else ρ j
theorem setI_ne {μ : Mem} {a b : Nat} {i x : Int} (h : b ≠ a) : (setI μ a i x).1 b = μ.1 b := by
  funext j; simp [setI, h]
def bit (w s : Int) : Bool := decide (iand (ishr w s) 1 = 1)
def onF (ρ : Row) (s : Int) : Int := fnd (fun k => decide (ρ (93 + k) = s)) (ρ 11).toNat 0
def wOnF (ρ : Row) (s : Int) : Int := if onF ρ s < 0 then 0 else ρ (83 + onF ρ s)
def wayF (ρ : Row) (s : Int) : Int := fld (fun k a => if ρ (19 + k) = ρ (19 + s) ∧ (if ρ (16 + ρ (19 + s)) = 1 then s < k else k < s) then ior a (ishl 1 k) else a) (ρ 5).toNat 0 0
def inHoldF (ρ : Row) (h : Int) : Int := sumF (fun k => if ρ (19 + k) = h then wOnF ρ k else 0) (ρ 5).toNat 0
def stopsF (ρ : Row) (i : Int) : Int := sumF (fun k => if ρ (59 + k) < 0 then 1 else 0) i.toNat 0
def baseW (ρ : Row) (i : Int) : Int := ρ 0 + sumF (fun k => if ρ (59 + k) < 0 then 0 else -ρ (71 + k)) i.toNat 0 + sumF (fun t => ρ (56 + t)) (ρ 8).toNat 0
def baseM (ρ : Row) (i : Int) : Int := ρ 0 * ρ 1 + sumF (fun k => if ρ (59 + k) < 0 then 0 else -ρ (71 + k) * ρ (53 + ρ (59 + k))) i.toNat 0 + sumF (fun t => ρ (56 + t) * ρ (53 + t)) (ρ 8).toNat 0
def palW (ρ : Row) (n : Int) : Int := sumF (fun k => if 0 ≤ ρ (93 + k) ∧ n < ρ (88 + k) then ρ (83 + k) else 0) (ρ 11).toNat 0
def palM (ρ : Row) (n : Int) : Int := sumF (fun k => if 0 ≤ ρ (93 + k) ∧ n < ρ (88 + k) then ρ (83 + k) * ρ (25 + ρ (93 + k)) else 0) (ρ 11).toNat 0
def binW (ρ : Row) : Int := sumF (fun b => ρ (51 + b)) (ρ 7).toNat 0
def binM (ρ : Row) : Int := sumF (fun b => ρ (51 + b) * ρ (47 + b)) (ρ 7).toNat 0
def stW (ρ : Row) (i : Int) : Int := baseW ρ i + binW ρ + palW ρ (stopsF ρ i)
def stM (ρ : Row) (i : Int) : Int := baseM ρ i + binM ρ + palM ρ (stopsF ρ i)
def blkF (ρ : Row) (k : Int) : Int := if ρ (93 + k) < 0 then 0 else fld (fun o a => if 0 ≤ ρ (93 + o) ∧ bit (wayF ρ (ρ (93 + k))) (ρ (93 + o)) = true ∧ ρ (88 + k) < ρ (88 + o) then ior a (ishl 1 o) else a) (ρ 11).toNat 0 0
def brkF (ρ : Row) (rule k : Int) : Bool :=
  if rule = 1 then decide (ρ (93 + k) < 0)
  else if rule = 2 then decide (ρ (31 + k) < wOnF ρ k)
  else if rule = 3 then decide (ρ (42 + k) < wOnF ρ (ρ (37 + k)) + wOnF ρ (ρ (37 + k) + 1))
  else if rule = 4 then decide (ρ (13 + k) < inHoldF ρ k)
  else if rule = 5 then decide (ρ 51 + ρ 52 ≠ ρ 12)
  else if rule = 6 then decide (0 ≤ onF ρ k ∧ blkF ρ (onF ρ k) ≠ 0)
  else decide (¬ (stW ρ k * ρ 2 ≤ stM ρ k ∧ stM ρ k ≤ stW ρ k * ρ 3))
def plcF (ρ : Row) (rule : Int) : Int :=
  if rule = 1 then ρ 11 else if rule = 2 ∨ rule = 6 then ρ 5 else if rule = 3 then ρ 6 else if rule = 4 then ρ 4 else if rule = 5 then 1 else ρ 9 + 1
def atF (ρ : Row) (rule : Int) : Int := fnd (brkF ρ rule) (plcF ρ rule).toNat 0
/-- the first rule broken, from r on -/
def brokF (ρ : Row) : Int := let r := fnd (fun r => decide (0 ≤ atF ρ r)) 7 1; if r < 0 then 0 else r
def whereF (ρ : Row) : Int := if brokF ρ = 0 then -1 else atF ρ (brokF ρ)
/-! a row as the texts and the calls leave it -/
def WFn (ρ : Row) : Prop := (0 ≤ ρ 4 ∧ ρ 4 ≤ 3) ∧ (0 ≤ ρ 5 ∧ ρ 5 ≤ 6) ∧ (0 ≤ ρ 6 ∧ ρ 6 ≤ 5) ∧ (0 ≤ ρ 7 ∧ ρ 7 ≤ 2) ∧ (0 ≤ ρ 8 ∧ ρ 8 ≤ 3) ∧ (0 ≤ ρ 9 ∧ ρ 9 ≤ 12) ∧ (0 ≤ ρ 10 ∧ ρ 10 ≤ 4) ∧ (0 ≤ ρ 11 ∧ ρ 11 ≤ 5) ∧ (0 ≤ ρ 12 ∧ ρ 12 ≤ 198) ∧ (1 ≤ ρ 0 ∧ ρ 0 ≤ 999) ∧ (0 ≤ ρ 1 ∧ ρ 1 ≤ 99) ∧ 0 ≤ ρ 2 ∧ ρ 2 < ρ 3 ∧ ρ 3 ≤ 99
def WFs (ρ : Row) : Prop := ∀ s, 0 ≤ s → s < ρ 5 → (0 ≤ ρ (19 + s) ∧ ρ (19 + s) < ρ 4) ∧ (0 ≤ ρ (25 + s) ∧ ρ (25 + s) ≤ 99) ∧ (1 ≤ ρ (31 + s) ∧ ρ (31 + s) ≤ 99)
def WFh (ρ : Row) : Prop := ∀ h, 0 ≤ h → h < ρ 4 → (1 ≤ ρ (13 + h) ∧ ρ (13 + h) ≤ 999) ∧ (ρ (16 + h) = 0 ∨ ρ (16 + h) = 1)
def WFj (ρ : Row) : Prop := ∀ j, 0 ≤ j → j < ρ 6 → j ≤ ρ (37 + j) ∧ ρ (37 + j) + 2 ≤ ρ 5 ∧ (1 ≤ ρ (42 + j) ∧ ρ (42 + j) ≤ 999)
def WFb (ρ : Row) : Prop := ∀ b, 0 ≤ b → b < 2 → (b < ρ 7 → (0 ≤ ρ (47 + b) ∧ ρ (47 + b) ≤ 99) ∧ (1 ≤ ρ (49 + b) ∧ ρ (49 + b) ≤ 99) ∧ (0 ≤ ρ (51 + b) ∧ ρ (51 + b) ≤ ρ (49 + b))) ∧ (ρ 7 ≤ b → ρ (51 + b) = 0)
def WFt (ρ : Row) : Prop := ∀ t, 0 ≤ t → t < ρ 8 → (0 ≤ ρ (53 + t) ∧ ρ (53 + t) ≤ 99) ∧ (1 ≤ ρ (56 + t) ∧ ρ (56 + t) ≤ 99)
def WFg (ρ : Row) : Prop := (∀ i, 0 ≤ i → i < ρ 9 → (-1 ≤ ρ (59 + i) ∧ ρ (59 + i) < ρ 8) ∧ (0 ≤ ρ (59 + i) → 1 ≤ ρ (71 + i) ∧ ρ (71 + i) ≤ 99)) ∧ stopsF ρ (ρ 9) = ρ 10
def WFp (ρ : Row) : Prop := ∀ k, 0 ≤ k → k < ρ 11 → (1 ≤ ρ (83 + k) ∧ ρ (83 + k) ≤ 198) ∧ (1 ≤ ρ (88 + k) ∧ ρ (88 + k) ≤ 9) ∧ (-1 ≤ ρ (93 + k) ∧ ρ (93 + k) < ρ 5) ∧ (0 ≤ ρ (98 + k) ∧ ρ (98 + k) ≤ 8) ∧ ∀ i, 0 ≤ i → i < 8 → (i < ρ (98 + k) → 97 ≤ ρ (103 + 8 * k + i) ∧ ρ (103 + 8 * k + i) ≤ 122) ∧ (ρ (98 + k) ≤ i → ρ (103 + 8 * k + i) = 0)
def WFd (ρ : Row) : Prop := ∀ i j, 0 ≤ i → i < j → j < ρ 11 → ρ (93 + i) = ρ (93 + j) → ρ (93 + i) = -1
/-- the plane's part -/
def WFP (ρ : Row) : Prop := WFn ρ ∧ WFs ρ ∧ WFh ρ ∧ WFj ρ ∧ WFt ρ ∧ WFg ρ
def WF (ρ : Row) : Prop := WFP ρ ∧ WFb ρ ∧ WFp ρ ∧ WFd ρ
theorem onF_rng {ρ : Row} (h : 0 ≤ ρ 11) (s : Int) : -1 ≤ onF ρ s ∧ (onF ρ s = -1 ∨ onF ρ s < ρ 11) := by
  unfold onF
  rcases fnd_spec (p := fun k => decide (ρ (93 + k) = s)) (ρ 11).toNat 0 with ⟨h1, -⟩ | ⟨h1, h2, -⟩ <;> omega
theorem wOnF_rng {ρ : Row} (hw : WFn ρ) (hp : WFp ρ) (s : Int) : 0 ≤ wOnF ρ s ∧ wOnF ρ s ≤ 198 := by
  have h := onF_rng (ρ := ρ) (by have := hw; unfold WFn at this; omega) s
  unfold wOnF
  split
  · omega
  · have := (hp (onF ρ s) (by omega) (by omega)).1
    omega
theorem inHoldF_rng {ρ : Row} (hw : WFn ρ) (hp : WFp ρ) (h : Int) : 0 ≤ inHoldF ρ h ∧ inHoldF ρ h ≤ 1188 := by
  have h5 := hw; unfold WFn at h5
  have a := sumF_bound (f := fun k => if ρ (19 + k) = h then wOnF ρ k else 0) (lo := 0) (hi := 198) (ρ 5).toNat 0 (fun j _ _ => by
    have := wOnF_rng hw hp j
    try dsimp only
    split <;> omega) (by omega) (by omega)
  unfold inHoldF
  omega
theorem stopsF_rng (ρ : Row) (i : Int) (hi : 0 ≤ i) : 0 ≤ stopsF ρ i ∧ stopsF ρ i ≤ i := by
  have a := sumF_bound (f := fun k => if ρ (59 + k) < 0 then 1 else 0) (lo := 0) (hi := 1) i.toNat 0 (fun j _ _ => by
    try dsimp only
    split <;> omega) (by omega) (by omega)
  unfold stopsF
  omega
theorem mul_rng {a b A B : Int} (ha : 0 ≤ a ∧ a ≤ A) (hb : 0 ≤ b ∧ b ≤ B) : 0 ≤ a * b ∧ a * b ≤ A * B := ⟨Int.mul_nonneg ha.1 hb.1, Int.mul_le_mul ha.2 hb.2 hb.1 (by omega)⟩
/-- weights and moments stay small -/
theorem st_rng {ρ : Row} (hw : WF ρ) {i : Int} (hi : 0 ≤ i ∧ i ≤ ρ 9) : (-2000 ≤ baseW ρ i ∧ baseW ρ i ≤ 2000) ∧ (-200000 ≤ baseM ρ i ∧ baseM ρ i ≤ 200000) ∧ (0 ≤ binW ρ ∧ binW ρ ≤ 198) ∧ (0 ≤ binM ρ ∧ binM ρ ≤ 20000) ∧ (∀ n, 0 ≤ palW ρ n ∧ palW ρ n ≤ 990) ∧ (∀ n, 0 ≤ palM ρ n ∧ palM ρ n ≤ 100000) := by
  obtain ⟨⟨hn, hs, hh, hj, ht, hg⟩, hb, hp, hd⟩ := hw
  have hn' := hn; unfold WFn at hn'
  have a1 := sumF_bound (f := fun k => if ρ (59 + k) < 0 then 0 else -ρ (71 + k)) (lo := -99) (hi := 0) i.toNat 0 (fun j h1 h2 => by
    try dsimp only
    have := hg.1 j (by omega) (by omega)
    split <;> omega) (by omega) (by omega)
  have a2 := sumF_bound (f := fun t => ρ (56 + t)) (lo := 0) (hi := 99) (ρ 8).toNat 0 (fun j h1 h2 => by
    have := ht j (by omega) (by omega)
    omega) (by omega) (by omega)
  have a3 := sumF_bound (f := fun k => if ρ (59 + k) < 0 then 0 else -ρ (71 + k) * ρ (53 + ρ (59 + k))) (lo := -9801) (hi := 0) i.toNat 0 (fun j h1 h2 => by
    try dsimp only
    have q := hg.1 j (by omega) (by omega)
    split
    · omega
    · have q2 := ht (ρ (59 + j)) (by omega) (by omega)
      have q3 := mul_rng (a := ρ (71 + j)) (b := ρ (53 + ρ (59 + j))) (A := 99) (B := 99) (by omega) (by omega)
      rw [Int.neg_mul]
      omega) (by omega) (by omega)
  have a4 := sumF_bound (f := fun t => ρ (56 + t) * ρ (53 + t)) (lo := 0) (hi := 9801) (ρ 8).toNat 0 (fun j h1 h2 => by
    have q := ht j (by omega) (by omega)
    have q3 := mul_rng (a := ρ (56 + j)) (b := ρ (53 + j)) (A := 99) (B := 99) (by omega) (by omega)
    try dsimp only
    omega) (by omega) (by omega)
  have a5 := mul_rng (a := ρ 0) (b := ρ 1) (A := 999) (B := 99) (by omega) (by omega)
  have b1 := sumF_bound (f := fun b => ρ (51 + b)) (lo := 0) (hi := 99) (ρ 7).toNat 0 (fun j h1 h2 => by
    have := (hb j (by omega) (by omega)).1 (by omega)
    omega) (by omega) (by omega)
  have b2 := sumF_bound (f := fun b => ρ (51 + b) * ρ (47 + b)) (lo := 0) (hi := 9801) (ρ 7).toNat 0 (fun j h1 h2 => by
    have q := (hb j (by omega) (by omega)).1 (by omega)
    have q3 := mul_rng (a := ρ (51 + j)) (b := ρ (47 + j)) (A := 99) (B := 99) (by omega) (by omega)
    try dsimp only
    omega) (by omega) (by omega)
  refine ⟨?_, ?_, ?_, ?_, fun n => ?_, fun n => ?_⟩
  · unfold baseW; omega
  · unfold baseM; omega
  · unfold binW; omega
  · unfold binM; omega
  · have c1 := sumF_bound (f := fun k => if 0 ≤ ρ (93 + k) ∧ n < ρ (88 + k) then ρ (83 + k) else 0) (lo := 0) (hi := 198) (ρ 11).toNat 0 (fun j h1 h2 => by
      have q := hp j (by omega) (by omega)
      try dsimp only
      split <;> omega) (by omega) (by omega)
    unfold palW; omega
  · have c1 := sumF_bound (f := fun k => if 0 ≤ ρ (93 + k) ∧ n < ρ (88 + k) then ρ (83 + k) * ρ (25 + ρ (93 + k)) else 0) (lo := 0) (hi := 19602) (ρ 11).toNat 0 (fun j h1 h2 => by
      have q := hp j (by omega) (by omega)
      try dsimp only
      split
      · have q2 := hs (ρ (93 + j)) (by omega) (by omega)
        have q3 := mul_rng (a := ρ (83 + j)) (b := ρ (25 + ρ (93 + j))) (A := 198) (B := 99) (by omega) (by omega)
        omega
      · omega) (by omega) (by omega)
    unfold palM; omega


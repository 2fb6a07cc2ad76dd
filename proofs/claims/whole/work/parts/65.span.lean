/-! 65.span: which amounts of bulk a loading's span leaves (wip/whole/src/65_span.py) -/
def a0F (ρ : Row) : Int := if 0 < ρ 7 then ρ 47 else 0
def a1F (ρ : Row) : Int := if 1 < ρ 7 then ρ 48 else 0
def slF (ρ : Row) : Int := a0F ρ - a1F ρ
def wbF (ρ : Row) (p : Int) : Int := sumF (fun k => if p < ρ (88 + k) then ρ (83 + k) else 0) (ρ 11).toNat 0
def mhF (ρ : Row) (p : Int) : Int := sumF (fun k => if p < ρ (88 + k) then ρ (83 + k) * ρ (25 + ρ (93 + k)) else 0) (ρ 11).toNat 0
def msF (ρ : Row) (n q : Int) : Int := sumF (fun k => if ρ (88 + k) = q then ρ (83 + k) * ρ (25 + ρ (93 + k)) else 0) n.toNat 0
def wiF (ρ : Row) (i : Int) : Int := baseW ρ i + ρ 12 + wbF ρ (stopsF ρ i)
def miF (ρ : Row) (i : Int) : Int := baseM ρ i + ρ 12 * a1F ρ
def loF (ρ : Row) (i : Int) : Int := wiF ρ i * ρ 2 - miF ρ i
def hiF (ρ : Row) (i : Int) : Int := wiF ρ i * ρ 3 - miF ρ i
def mLe (ρ : Row) (n : Nat) (p : Int) : Int := fld (fun i a => if stopsF ρ i = p then max a (loF ρ i) else a) n 0 (-1000000000)
def mMo (ρ : Row) (n : Nat) (p : Int) : Int := fld (fun i a => if stopsF ρ i = p then min a (hiF ρ i) else a) n 0 1000000000
def nSt (ρ : Row) : Nat := (ρ 9 + 1).toNat
def kLe (ρ : Row) (n : Nat) : Int := fld (fun q a => if 9 - q ≤ ρ 10 then max a (mLe ρ (nSt ρ) (9 - q) - mhF ρ (9 - q)) else a) n 0 (-1000000000)
def kMo (ρ : Row) (n : Nat) : Int := fld (fun q a => if 9 - q ≤ ρ 10 then min a (mMo ρ (nSt ρ) (9 - q) - mhF ρ (9 - q)) else a) n 0 1000000000
theorem fmax_le {P : Int → Prop} [DecidablePred P] {g : Int → Int} {X : Int} : ∀ (n : Nat) (k a : Int), fld (fun i a => if P i then max a (g i) else a) n k a ≤ X ↔ a ≤ X ∧ ∀ i, k ≤ i → i < k + n → P i → g i ≤ X
  | 0, k, a => by
    rw [fld]
    exact ⟨fun h => ⟨h, fun i i0 i1 => by omega⟩, fun h => h.1⟩
  | n + 1, k, a => by
    rw [fld, fmax_le n]
    by_cases c : P k
    · rw [if_pos c]
      constructor
      · rintro ⟨h1, h2⟩
        refine ⟨by omega, fun i i0 i1 hp => ?_⟩
        by_cases e : i = k
        · rw [e]; omega
        · exact h2 i (by omega) (by omega) hp
      · rintro ⟨h1, h2⟩
        have := h2 k (by omega) (by omega) c
        exact ⟨by omega, fun i i0 i1 hp => h2 i (by omega) (by omega) hp⟩
    · rw [if_neg c]
      constructor
      · rintro ⟨h1, h2⟩
        refine ⟨h1, fun i i0 i1 hp => ?_⟩
        by_cases e : i = k
        · rw [e] at hp; exact absurd hp c
        · exact h2 i (by omega) (by omega) hp
      · rintro ⟨h1, h2⟩
        exact ⟨h1, fun i i0 i1 hp => h2 i (by omega) (by omega) hp⟩
theorem fmin_le {P : Int → Prop} [DecidablePred P] {g : Int → Int} {X : Int} : ∀ (n : Nat) (k a : Int), X ≤ fld (fun i a => if P i then min a (g i) else a) n k a ↔ X ≤ a ∧ ∀ i, k ≤ i → i < k + n → P i → X ≤ g i
  | 0, k, a => by
    rw [fld]
    exact ⟨fun h => ⟨h, fun i i0 i1 => by omega⟩, fun h => h.1⟩
  | n + 1, k, a => by
    rw [fld, fmin_le n]
    by_cases c : P k
    · rw [if_pos c]
      constructor
      · rintro ⟨h1, h2⟩
        refine ⟨by omega, fun i i0 i1 hp => ?_⟩
        by_cases e : i = k
        · rw [e]; omega
        · exact h2 i (by omega) (by omega) hp
      · rintro ⟨h1, h2⟩
        have := h2 k (by omega) (by omega) c
        exact ⟨by omega, fun i i0 i1 hp => h2 i (by omega) (by omega) hp⟩
    · rw [if_neg c]
      constructor
      · rintro ⟨h1, h2⟩
        refine ⟨h1, fun i i0 i1 hp => ?_⟩
        by_cases e : i = k
        · rw [e] at hp; exact absurd hp c
        · exact h2 i (by omega) (by omega) hp
      · rintro ⟨h1, h2⟩
        exact ⟨h1, fun i i0 i1 hp => h2 i (by omega) (by omega) hp⟩
theorem stops_le {ρ : Row} (hg : WFg ρ) {i : Int} (hi : 0 ≤ i ∧ i ≤ ρ 9) : 0 ≤ stopsF ρ i ∧ stopsF ρ i ≤ ρ 10 := by
  refine ⟨(stopsF_rng ρ i hi.1).1, ?_⟩
  rw [← hg.2]
  unfold stopsF
  rw [show (ρ 9).toNat = i.toNat + ((ρ 9).toNat - i.toNat) by omega, sumF_split]
  have := sumF_ge (f := fun k => if ρ (59 + k) < 0 then (1 : Int) else 0) ((ρ 9).toNat - i.toNat) (0 + (i.toNat : Int)) (fun j j0 j1 => by
    try dsimp only
    split <;> decide)
  omega
/-- what pallets weigh and how -/
def PW (ρ : Row) : Prop := ∀ k, 0 ≤ k → k < ρ 11 → (1 ≤ ρ (83 + k) ∧ ρ (83 + k) ≤ 198) ∧ (1 ≤ ρ (88 + k) ∧ ρ (88 + k) ≤ 9)
theorem WF.pw {ρ : Row} (h : WF ρ) : PW ρ := fun k k0 k1 => ⟨(h.2.2.1 k k0 k1).1, (h.2.2.1 k k0 k1).2.1⟩
/-- the first k lie on spots -/
def LyS (ρ : Row) (n : Int) : Prop := ∀ k, 0 ≤ k → k < n → 0 ≤ ρ (93 + k) ∧ ρ (93 + k) < ρ 5
theorem mk_rng {ρ : Row} (hn : WFn ρ) (hs : WFs ρ) (hp : PW ρ) (hl : LyS ρ (ρ 11)) (p : Int) : 0 ≤ mhF ρ p ∧ mhF ρ p ≤ 98010 := by
  unfold WFn at hn
  have h := sumF_bound (f := fun k => if p < ρ (88 + k) then ρ (83 + k) * ρ (25 + ρ (93 + k)) else 0) (lo := 0) (hi := 19602) (ρ 11).toNat 0 (fun j j0 j1 => by
    try dsimp only
    have a := hp j j0 (by omega)
    have b := hl j j0 (by omega)
    have c := (hs _ b.1 b.2).2.1
    have d := mul_rng (a := ρ (83 + j)) (b := ρ (25 + ρ (93 + j))) (A := 198) (B := 99) (by omega) c
    split <;> omega) (by omega) (by omega)
  unfold mhF
  omega
theorem ms_rng {ρ : Row} (hn : WFn ρ) (hs : WFs ρ) (hp : PW ρ) {n : Int} (h0 : 0 ≤ n ∧ n ≤ ρ 11) (hl : LyS ρ n) (q : Int) : 0 ≤ msF ρ n q ∧ msF ρ n q ≤ 98010 := by
  unfold WFn at hn
  have h := sumF_bound (f := fun k => if ρ (88 + k) = q then ρ (83 + k) * ρ (25 + ρ (93 + k)) else 0) (lo := 0) (hi := 19602) n.toNat 0 (fun j j0 j1 => by
    try dsimp only
    have a := hp j j0 (by omega)
    have b := hl j j0 (by omega)
    have c := (hs _ b.1 b.2).2.1
    have d := mul_rng (a := ρ (83 + j)) (b := ρ (25 + ρ (93 + j))) (A := 198) (B := 99) (by omega) c
    split <;> omega) (by omega) (by omega)
  unfold msF
  omega
theorem mk_step (ρ : Row) (p : Int) : mhF ρ (p - 1) = mhF ρ p + msF ρ (ρ 11) p := by
  unfold mhF msF
  rw [← sumF_add]
  refine sumF_congr _ _ fun j _ _ => ?_
  try dsimp only
  by_cases c : ρ (88 + j) = p
  · rw [if_pos c, if_pos (by omega), if_neg (by omega)]; omega
  · rw [if_neg c]
    by_cases d : p < ρ (88 + j)
    · rw [if_pos d, if_pos (by omega)]; omega
    · rw [if_neg d, if_neg (by omega)]; rfl
theorem mk_9 {ρ : Row} (hp : PW ρ) (h : 0 ≤ ρ 11) : mhF ρ 9 = 0 := sumF_zero _ _ fun j j0 j1 => if_neg (by have := hp j j0 (by omega); omega)
theorem kLe_le {ρ : Row} (hn : WFn ρ) (hs : WFs ρ) (hg : WFg ρ) (hp : PW ρ) (hl : LyS ρ (ρ 11)) {X : Int} (hX : -1000000000 ≤ X) : kLe ρ 10 ≤ X ↔ ∀ i, 0 ≤ i → i ≤ ρ 9 → loF ρ i - mhF ρ (stopsF ρ i) ≤ X := by
  unfold kLe
  rw [fmax_le]
  have hn' := hn
  unfold WFn at hn'
  constructor
  · intro h i i0 i1
    have hst := stops_le hg ⟨i0, i1⟩
    have q := h.2 (9 - stopsF ρ i) (by omega) (by omega) (by omega)
    rw [show 9 - (9 - stopsF ρ i) = stopsF ρ i by omega] at q
    have q2 : mLe ρ (nSt ρ) (stopsF ρ i) ≤ X + mhF ρ (stopsF ρ i) := by omega
    unfold mLe at q2
    rw [fmax_le] at q2
    have := q2.2 i i0 (by unfold nSt; omega) rfl
    omega
  · intro h
    refine ⟨hX, fun q q0 q1 hq => ?_⟩
    have hk := mk_rng hn hs hp hl (9 - q)
    have : mLe ρ (nSt ρ) (9 - q) ≤ X + mhF ρ (9 - q) := by
      unfold mLe
      rw [fmax_le]
      refine ⟨by omega, fun i i0 i1 hi => ?_⟩
      unfold nSt at i1
      have := h i i0 (by omega)
      rw [hi] at this
      omega
    omega
theorem kMo_le {ρ : Row} (hn : WFn ρ) (hs : WFs ρ) (hg : WFg ρ) (hp : PW ρ) (hl : LyS ρ (ρ 11)) {X : Int} (hX : X ≤ 900000000) : X ≤ kMo ρ 10 ↔ ∀ i, 0 ≤ i → i ≤ ρ 9 → X ≤ hiF ρ i - mhF ρ (stopsF ρ i) := by
  unfold kMo
  rw [fmin_le]
  have hn' := hn
  unfold WFn at hn'
  constructor
  · intro h i i0 i1
    have hst := stops_le hg ⟨i0, i1⟩
    have q := h.2 (9 - stopsF ρ i) (by omega) (by omega) (by omega)
    rw [show 9 - (9 - stopsF ρ i) = stopsF ρ i by omega] at q
    have q2 : X + mhF ρ (stopsF ρ i) ≤ mMo ρ (nSt ρ) (stopsF ρ i) := by omega
    unfold mMo at q2
    rw [fmin_le] at q2
    have := q2.2 i i0 (by unfold nSt; omega) rfl
    omega
  · intro h
    refine ⟨by omega, fun q q0 q1 hq => ?_⟩
    have hk := mk_rng hn hs hp hl (9 - q)
    have : X + mhF ρ (9 - q) ≤ mMo ρ (nSt ρ) (9 - q) := by
      unfold mMo
      rw [fmin_le]
      refine ⟨by omega, fun i i0 i1 hi => ?_⟩
      unfold nSt at i1
      have := h i i0 (by omega)
      rw [hi] at this
      omega
    omega
theorem arm_rng {ρ : Row} (hb : ∀ b, 0 ≤ b → b < 2 → b < ρ 7 → 0 ≤ ρ (47 + b) ∧ ρ (47 + b) ≤ 99) : (0 ≤ a0F ρ ∧ a0F ρ ≤ 99) ∧ (0 ≤ a1F ρ ∧ a1F ρ ≤ 99) := by
  have h0 := hb 0 (by omega) (by omega)
  have h1 := hb 1 (by omega) (by omega)
  simp only [Int.add_zero, show (47 : Int) + 1 = 48 from rfl] at h0 h1
  unfold a0F a1F
  constructor <;> split <;> omega
theorem pour_bins {ρ : Row} (hn : WFn ρ) {n : Int} (h0 : 0 ≤ n) (hp : pourOK ρ n = true) : binW (binR ρ n) = ρ 12 ∧ binM (binR ρ n) = slF ρ * n + ρ 12 * a1F ρ := by
  unfold WFn at hn
  have hp := of_decide_eq_true hp
  unfold lim0 lim1 at hp
  unfold binW binM slF a0F a1F
  rw [bin_ne (j := 7) (by omega)]
  rcases (show ρ 7 = 0 ∨ ρ 7 = 1 ∨ ρ 7 = 2 by omega) with h | h | h
  · rw [h] at hp ⊢
    rw [if_neg (by omega), if_neg (by omega)] at hp
    rw [if_neg (by omega), if_neg (by omega)]
    obtain rfl : n = 0 := by omega
    exact ⟨by show (0 : Int) = _; omega, by show (0 : Int) = _; omega⟩
  · rw [h] at hp ⊢
    rw [if_pos (by omega), if_neg (by omega)] at hp
    rw [if_pos (by omega), if_neg (by omega)]
    simp only [Int.toNat_one, sumF, Int.add_zero]
    rw [bin_51, bin_ne (j := 47) (by omega)]
    refine ⟨by omega, ?_⟩
    rw [Int.sub_zero, Int.mul_comm]
    omega
  · rw [h] at hp ⊢
    rw [if_pos (by omega), if_pos (by omega)]
    show binR ρ n 51 + (binR ρ n 52 + 0) = _ ∧ binR ρ n 51 * binR ρ n 47 + (binR ρ n 52 * binR ρ n 48 + 0) = _
    rw [bin_51, bin_52, bin_ne (j := 47) (by omega), bin_ne (j := 48) (by omega), Int.sub_mul, Int.sub_mul, Int.mul_comm n]
    refine ⟨by omega, ?_⟩
    rw [Int.mul_comm n (ρ 48)]
    omega
theorem span_ok {ρ : Row} (hn : WFn ρ) (hs : WFs ρ) (hg : WFg ρ) (hb : ∀ b, 0 ≤ b → b < 2 → b < ρ 7 → 0 ≤ ρ (47 + b) ∧ ρ (47 + b) ≤ 99) (hp : PW ρ) (hl : LyS ρ (ρ 11)) {n : Int} (h0 : 0 ≤ n ∧ n < 200) (ho : pourOK ρ n = true) : atF (binR ρ n) 7 < 0 ↔ kLe ρ 10 ≤ slF ρ * n ∧ slF ρ * n ≤ kMo ρ 10 := by
  have hn' := hn
  unfold WFn at hn'
  have ha := arm_rng hb
  have hX : -1000000 ≤ slF ρ * n ∧ slF ρ * n ≤ 1000000 := by
    have q1 := mul_rng (a := a0F ρ) (b := n) (A := 99) (B := 200) (by omega) (by omega)
    have q2 := mul_rng (a := a1F ρ) (b := n) (A := 99) (B := 200) (by omega) (by omega)
    unfold slF
    rw [Int.sub_mul]
    omega
  rw [kLe_le hn hs hg hp hl (by omega), kMo_le hn hs hg hp hl (by omega), at_neg]
  obtain ⟨eW, eM⟩ := pour_bins hn h0.1 ho
  have key : ∀ i, 0 ≤ i → i ≤ ρ 9 → (brkF (binR ρ n) 7 i = false ↔ loF ρ i - mhF ρ (stopsF ρ i) ≤ slF ρ * n ∧ slF ρ * n ≤ hiF ρ i - mhF ρ (stopsF ρ i)) := by
    intro i i0 i1
    have e : brkF (binR ρ n) 7 i = decide (¬ (stW (binR ρ n) i * binR ρ n 2 ≤ stM (binR ρ n) i ∧ stM (binR ρ n) i ≤ stW (binR ρ n) i * binR ρ n 3)) := rfl
    have eS := (bin_Pl ρ n).stops (i := i) (by omega)
    have w : stW (binR ρ n) i = wiF ρ i := by
      unfold stW wiF
      rw [eS, eW, (bin_Pl ρ n).bW hn (by omega)]
      congr 1
      unfold palW wbF
      rw [bin_ne (j := 11) (by omega)]
      refine sumF_congr _ _ fun j j0 j1 => ?_
      try dsimp only
      rw [bin_ne (j := 93 + j) (by omega), bin_ne (j := 88 + j) (by omega), bin_ne (j := 83 + j) (by omega)]
      have := hl j j0 (by omega)
      by_cases c : stopsF ρ i < ρ (88 + j)
      · rw [if_pos c, if_pos ⟨this.1, c⟩]
      · rw [if_neg c, if_neg (fun h => c h.2)]
    have m : stM (binR ρ n) i = miF ρ i + slF ρ * n + mhF ρ (stopsF ρ i) := by
      unfold stM miF
      rw [eS, eM, (bin_Pl ρ n).bM hn hg i1]
      have : palM (binR ρ n) (stopsF ρ i) = mhF ρ (stopsF ρ i) := by
        unfold palM mhF
        rw [bin_ne (j := 11) (by omega)]
        refine sumF_congr _ _ fun j j0 j1 => ?_
        try dsimp only
        have := hl j j0 (by omega)
        rw [bin_ne (j := 93 + j) (by omega), bin_ne (j := 88 + j) (by omega), bin_ne (j := 83 + j) (by omega), bin_ne (j := 25 + ρ (93 + j)) (by omega)]
        by_cases c : stopsF ρ i < ρ (88 + j)
        · rw [if_pos c, if_pos ⟨this.1, c⟩]
        · rw [if_neg c, if_neg (fun h => c h.2)]
      rw [this]
      omega
    rw [e, w, m, bin_ne (j := 2) (by omega), bin_ne (j := 3) (by omega), decide_eq_false_iff_not, Decidable.not_not]
    unfold loF hiF
    constructor
    · rintro ⟨h1, h2⟩; constructor <;> omega
    · rintro ⟨h1, h2⟩; constructor <;> omega
  have e9 : plcF (binR ρ n) 7 = ρ 9 + 1 := by
    show binR ρ n 9 + 1 = _
    rw [bin_ne (by omega)]
  rw [e9]
  constructor
  · intro h
    exact ⟨fun i i0 i1 => ((key i i0 i1).1 (h i i0 (by omega))).1, fun i i0 i1 => ((key i i0 i1).1 (h i i0 (by omega))).2⟩
  · rintro ⟨h1, h2⟩ i i0 i1
    exact (key i i0 (by omega)).2 ⟨h1 i i0 (by omega), h2 i i0 (by omega)⟩
/-! what is kept of one row -/
theorem fd_pos {M s n : Int} (hs : 0 < s) : n ≤ M.fdiv s ↔ s * n ≤ M := by
  rw [Int.fdiv_eq_ediv_of_nonneg _ (by omega), Int.le_ediv_iff_mul_le hs, Int.mul_comm]
theorem fd_neg {M s n : Int} (hs : s < 0) : n ≤ M.fdiv s ↔ M ≤ s * n := by
  have e : M.fdiv s = (-M).fdiv (-s) := by rw [Int.neg_fdiv_neg]
  rw [e, fd_pos (by omega), Int.neg_mul]
  omega
def aLF (ρ : Row) : Int := max 0 (ρ 12 - lim1 ρ)
def aMF (ρ : Row) : Int := min (ρ 12) (lim0 ρ)
def frF (ρ : Row) : Int := if slF ρ = 0 then aLF ρ else max (aLF ρ) (-(-(if 0 < slF ρ then kLe ρ 10 else kMo ρ 10)).fdiv (slF ρ))
def toF (ρ : Row) : Int := if slF ρ = 0 then aMF ρ else min (aMF ρ) ((if 0 < slF ρ then kMo ρ 10 else kLe ρ 10).fdiv (slF ρ))
abbrev okS (ρ : Row) : Prop := ¬ (slF ρ = 0 ∧ (0 < kLe ρ 10 ∨ kMo ρ 10 < 0))
abbrev Ent : Type := Int × Int × Int
def keepE (ρ : Row) : List Ent := if okS ρ ∧ frF ρ ≤ toF ρ then [(codeR ρ, frF ρ, toF ρ - frF ρ + 1)] else []
theorem pour_iff {ρ : Row} {n : Int} (h0 : 0 ≤ n) : pourOK ρ n = true ↔ aLF ρ ≤ n ∧ n ≤ aMF ρ := by
  unfold pourOK aLF aMF
  rw [decide_eq_true_eq]
  omega
theorem span_fr {ρ : Row} {n : Int} : (kLe ρ 10 ≤ slF ρ * n ∧ slF ρ * n ≤ kMo ρ 10) ∧ (aLF ρ ≤ n ∧ n ≤ aMF ρ) ↔ okS ρ ∧ frF ρ ≤ n ∧ n ≤ toF ρ := by
  unfold okS frF toF
  by_cases h : slF ρ = 0
  · rw [if_pos h, if_pos h, h, Int.zero_mul]
    omega
  · rw [if_neg h, if_neg h]
    by_cases hp : 0 < slF ρ
    · rw [if_pos hp, if_pos hp]
      have a := fd_pos (M := -kLe ρ 10) (n := -n) hp
      have b := fd_pos (M := kMo ρ 10) (n := n) hp
      rw [Int.mul_neg] at a
      omega
    · rw [if_neg hp, if_neg hp]
      have a := fd_neg (M := -kMo ρ 10) (s := slF ρ) (n := -n) (by omega)
      have b := fd_neg (M := kLe ρ 10) (s := slF ρ) (n := n) (by omega)
      rw [Int.mul_neg] at a
      omega
theorem fr_rng {ρ : Row} (h : 0 ≤ ρ 12 ∧ ρ 12 ≤ 198) (hl : lim0 ρ ≤ 99) : 0 ≤ frF ρ ∧ toF ρ ≤ 99 := by
  unfold frF toF aLF aMF
  constructor <;> split <;> omega
def seqL (b : Int) : Nat → List Int
  | 0 => []
  | n + 1 => b :: seqL (b + 1) n
theorem gN_seq {ρ : Row} {c f t : Int} : ∀ (k : Nat) (n : Int), (∀ i, n ≤ i → i < n + k → (goodN ρ c i = true ↔ f ≤ i ∧ i ≤ t)) → t < n + k → gN ρ c k n = seqL (200 * c + max n f) (t - max n f + 1).toNat
  | 0, n, _, ht => by
    rw [show (t - max n f + 1).toNat = 0 by omega]
    rfl
  | k + 1, n, h, ht => by
    have ih := gN_seq k (n + 1) (fun i i0 i1 => h i (by omega) (by omega)) (by omega)
    rw [gN, ih]
    have q := h n (by omega) (by omega)
    by_cases g : goodN ρ c n = true
    · rw [if_pos g]
      have := q.1 g
      rw [show max n f = n by omega, show max (n + 1) f = n + 1 by omega, show (t - n + 1).toNat = (t - (n + 1) + 1).toNat + 1 by omega, seqL, Int.add_assoc]
      rfl
    · rw [if_neg g]
      have e : ¬ (f ≤ n ∧ n ≤ t) := fun hh => g (q.2 hh)
      by_cases c2 : n < f
      · rw [show max n f = f by omega, show max (n + 1) f = f by omega]
        rfl
      · rw [show (t - max n f + 1).toNat = 0 by omega, show (t - max (n + 1) f + 1).toNat = 0 by omega]
        rfl
def expE : List Ent → List Int
  | [] => []
  | e :: t => seqL (200 * e.1 + e.2.1) e.2.2.toNat ++ expE t
theorem exp_app : ∀ a b : List Ent, expE (a ++ b) = expE a ++ expE b
  | [], b => rfl
  | e :: a, b => by rw [List.cons_append, expE, expE, exp_app a b, List.append_assoc]

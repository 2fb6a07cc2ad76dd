/-! 61.goods: good loadings, in order (wip/whole/src/61_goods.py) -/
/-! how many layouts are whole -/
def allN (q : Nat → Bool) : Nat → Bool
  | 0 => true
  | n + 1 => q n && allN q n
theorem allN_iff {q : Nat → Bool} : ∀ n : Nat, allN q n = true ↔ ∀ i, i < n → q i = true
  | 0 => ⟨fun _ i h => absurd h (by omega), fun _ => rfl⟩
  | n + 1 => by
    rw [allN, Bool.and_eq_true, allN_iff n]
    constructor
    · rintro ⟨a, b⟩ i hi
      by_cases e : i = n
      · rw [e]; exact a
      · exact b i (by omega)
    · intro h
      exact ⟨h n (by omega), fun i hi => h i (by omega)⟩
def dgN (N c k : Nat) : Nat := c / 7 ^ (N - 1 - k) % 7
def wD (N c : Nat) : Bool := Nat.blt c (7 ^ N) && allN (fun k => !(dgN N c k == 0) && allN (fun j => !(dgN N c j == dgN N c k)) k) N
def cntR (N : Nat) : Nat → Nat → Nat
  | 0, lo => if wD N lo then 1 else 0
  | k + 1, lo => cntR N k lo + cntR N k (lo + 2 ^ k)
theorem cntR_tab : ∀ N : Nat, N < 6 → cntR N 15 0 ≤ 720 := by decide +kernel
def cI (N : Nat) : Nat → Nat → Nat
  | 0, _ => 0
  | n + 1, a => (if wD N a then 1 else 0) + cI N n (a + 1)
theorem cI_add (N : Nat) : ∀ n k a : Nat, cI N (n + k) a = cI N n a + cI N k (a + n)
  | 0, k, a => by simp [cI]
  | n + 1, k, a => by
    rw [show n + 1 + k = (n + k) + 1 by omega, cI, cI, cI_add N n k (a + 1), show a + (n + 1) = a + 1 + n by omega]
    omega
theorem cntR_cI (N : Nat) : ∀ k lo : Nat, cntR N k lo = cI N (2 ^ k) lo
  | 0, lo => by simp [cntR, cI]
  | k + 1, lo => by rw [cntR, cntR_cI N k, cntR_cI N k, Nat.pow_succ, Nat.mul_two, cI_add]
theorem cI_le {N n : Nat} (hN : N < 6) (hn : n ≤ 32768) : cI N n 0 ≤ 720 := by
  have h := cntR_tab N hN
  rw [cntR_cI, show (2 : Nat) ^ 15 = n + (32768 - n) by omega, cI_add] at h
  omega
/-! good ones -/
def binR (ρ : Row) (n : Int) : Row := rset (rset ρ 51 n) 52 (ρ 12 - n)
def lim0 (ρ : Row) : Int := if 0 < ρ 7 then ρ 49 else 0
def lim1 (ρ : Row) : Int := if 1 < ρ 7 then ρ 50 else 0
def pourOK (ρ : Row) (n : Int) : Bool := decide (n ≤ lim0 ρ ∧ 0 ≤ ρ 12 - n ∧ ρ 12 - n ≤ lim1 ρ)
def goodN (ρ : Row) (c n : Int) : Bool := pourOK ρ n && decide (brokF (binR (layR ρ c) n) = 0)
def gN (ρ : Row) (c : Int) : Nat → Int → List Int
  | 0, _ => []
  | k + 1, n => (if goodN ρ c n then [200 * c + n] else []) ++ gN ρ c k (n + 1)
def goodsC (ρ : Row) (c : Int) : List Int := if wholeF (layR ρ c) then gN ρ c 100 0 else []
def gAll (ρ : Row) : Nat → Int → List Int
  | 0, _ => []
  | k + 1, c => goodsC ρ c ++ gAll ρ k (c + 1)
def GL (ρ : Row) : List Int := gAll ρ (7 ^ (ρ 11).toNat) 0
theorem gN_len (ρ : Row) (c : Int) : ∀ (k : Nat) (n : Int), (gN ρ c k n).length ≤ k
  | 0, _ => Nat.le_refl _
  | k + 1, n => by
    rw [gN, List.length_append]
    have := gN_len ρ c k (n + 1)
    split <;> simp <;> omega
theorem gN_nil {ρ : Row} {c : Int} : ∀ (k : Nat) (n : Int), (∀ i, n ≤ i → i < n + k → goodN ρ c i = false) → gN ρ c k n = []
  | 0, _, _ => rfl
  | k + 1, n, h => by
    rw [gN, h n (by omega) (by omega), gN_nil k (n + 1) (fun i i0 i1 => h i (by omega) (by omega))]
    rfl
theorem whole_wD {ρ : Row} (hN : 0 ≤ ρ 11 ∧ ρ 11 ≤ 5) {c : Nat} (hc : c < 7 ^ (ρ 11).toNat) (h : wholeF (layR ρ c) = true) : wD (ρ 11).toNat c = true := by
  rw [whole_iff (by rw [lay_11]; omega), lay_11] at h
  unfold wD
  rw [Bool.and_eq_true, allN_iff]
  have key : ∀ k : Nat, (k : Int) < ρ 11 → layR ρ c (93 + (k : Int)) = (dgN (ρ 11).toNat c k : Int) - 1 := fun k hk => by
    rw [lay_at ⟨by omega, hk⟩]
    unfold dg dgN
    rw [show (ρ 11 - 1 - (k : Int)).toNat = (ρ 11).toNat - 1 - k by omega]
    push_cast
    rfl
  refine ⟨by rw [Nat.blt_eq]; exact hc, fun k hk => ?_⟩
  have q := h (k : Int) (by omega) (by omega)
  rw [key k (by omega)] at q
  rw [Bool.and_eq_true, allN_iff]
  refine ⟨?_, fun j hj => ?_⟩
  · rw [Bool.not_eq_true', beq_eq_false_iff_ne]
    intro e
    omega
  · have q2 := q.2 (j : Int) (by omega) (by omega)
    rw [key j (by omega)] at q2
    rw [Bool.not_eq_true', beq_eq_false_iff_ne]
    intro e
    rw [e] at q2
    exact q2 rfl
theorem gAll_len {ρ : Row} (hN : 0 ≤ ρ 11 ∧ ρ 11 ≤ 5) : ∀ (k c : Nat), c + k ≤ 7 ^ (ρ 11).toNat → (gAll ρ k (c : Int)).length ≤ 100 * cI (ρ 11).toNat k c
  | 0, _, _ => Nat.le_refl _
  | k + 1, c, h => by
    rw [gAll, List.length_append, cI]
    have q := gAll_len hN k (c + 1) (by omega)
    rw [show ((c + 1 : Nat) : Int) = (c : Int) + 1 by omega] at q
    have h1 : (goodsC ρ c).length ≤ 100 * (if wD (ρ 11).toNat c then 1 else 0) := by
      unfold goodsC
      by_cases e : wholeF (layR ρ c) = true
      · rw [if_pos e, if_pos (whole_wD hN (by omega) e)]
        exact gN_len ρ c 100 0
      · rw [if_neg e]; exact Nat.zero_le _
    omega
theorem gAll_add (ρ : Row) : ∀ (n k : Nat) (c : Int), gAll ρ (n + k) c = gAll ρ n c ++ gAll ρ k (c + n)
  | 0, k, c => by simp [gAll]
  | n + 1, k, c => by
    rw [show n + 1 + k = (n + k) + 1 by omega, gAll, gAll, gAll_add ρ n k (c + 1), List.append_assoc]
    congr 3
    omega
theorem pw_nat {N : Int} (h : 0 ≤ N ∧ N ≤ 5) : (7 : Nat) ^ N.toNat ≤ 16807 := by
  rcases (show N = 0 ∨ N = 1 ∨ N = 2 ∨ N = 3 ∨ N = 4 ∨ N = 5 by omega) with rfl | rfl | rfl | rfl | rfl | rfl <;> decide
theorem gAll_max {ρ : Row} (hN : 0 ≤ ρ 11 ∧ ρ 11 ≤ 5) {k : Nat} (hk : k ≤ 7 ^ (ρ 11).toNat) : (gAll ρ k 0).length ≤ 72000 := by
  have h := gAll_len hN k 0 (by omega)
  have hp := pw_nat hN
  have h2 := cI_le (N := (ρ 11).toNat) (n := k) (by omega) (by omega)
  have e : ((0 : Nat) : Int) = 0 := rfl
  rw [e] at h
  omega
theorem GL_len {ρ : Row} (hN : 0 ≤ ρ 11 ∧ ρ 11 ≤ 5) : (GL ρ).length ≤ 72000 := gAll_max hN (Nat.le_refl _)
/-! rules do not look into bins but for the fifth and the last one -/
theorem bin_ne {ρ : Row} {n j : Int} (h : j ≠ 51 ∧ j ≠ 52) : binR ρ n j = ρ j := by unfold binR; rw [rset_ne h.2, rset_ne h.1]
theorem bin_51 {ρ : Row} {n : Int} : binR ρ n 51 = n := by unfold binR; rw [rset_ne (by omega), rset_eq]
theorem bin_52 {ρ : Row} {n : Int} : binR ρ n 52 = ρ 12 - n := rset_eq
theorem bin_Pl (ρ : Row) (n : Int) : PlEq ρ (binR ρ n) := fun j hj => bin_ne (by omega)
theorem bin_on (ρ : Row) (n s : Int) : onF (binR ρ n) s = onF ρ s := by
  unfold onF
  rw [bin_ne (by omega)]
  exact fnd_congr _ _ fun j j0 j1 => by rw [bin_ne (by omega)]
theorem bin_wOn (ρ : Row) (n s : Int) : wOnF (binR ρ n) s = wOnF ρ s := by
  unfold wOnF
  rw [bin_on]
  split
  · rfl
  · rw [bin_ne (by omega)]
theorem bin_hold {ρ : Row} {n h : Int} (h5 : ρ 5 ≤ 6) : inHoldF (binR ρ n) h = inHoldF ρ h := by
  unfold inHoldF
  rw [bin_ne (by omega)]
  exact sumF_congr _ _ fun j j0 j1 => by
    try dsimp only
    rw [bin_ne (j := 19 + j) (by omega), bin_wOn]
theorem bin_blk {ρ : Row} (hn : WFn ρ) (hs : WFs ρ) (n : Int) {k : Int} (hk : 0 ≤ k) (hl : ρ (93 + k) < ρ 5) : blkF (binR ρ n) k = blkF ρ k := by
  unfold blkF
  rw [bin_ne (j := 93 + k) (by omega), bin_ne (j := 11) (by omega)]
  by_cases h : ρ (93 + k) < 0
  · rw [if_pos h, if_pos h]
  · rw [if_neg h, if_neg h, (bin_Pl ρ n).way hn hs (by omega) hl]
    refine fld_congr _ _ _ fun j a j0 j1 => ?_
    try dsimp only
    rw [bin_ne (j := 93 + j) (by omega), bin_ne (j := 88 + j) (by omega), bin_ne (j := 88 + k) (by omega)]
theorem bin_at {ρ : Row} (hn : WFn ρ) (hs : WFs ρ) (hj : WFj ρ) (hp : ∀ k, 0 ≤ k → k < ρ 11 → ρ (93 + k) < ρ 5) (n : Int) {r : Int} (hr : r = 1 ∨ r = 2 ∨ r = 3 ∨ r = 4 ∨ r = 6) : atF (binR ρ n) r = atF ρ r := by
  have hn' := hn
  unfold WFn at hn'
  have hpl : plcF (binR ρ n) r = plcF ρ r := by
    unfold plcF
    rw [bin_ne (j := 11) (by omega), bin_ne (j := 5) (by omega), bin_ne (j := 6) (by omega), bin_ne (j := 4) (by omega), bin_ne (j := 9) (by omega)]
  unfold atF
  rw [hpl]
  refine fnd_congr _ _ fun j j0 j1 => ?_
  have hjp : j < plcF ρ r := by omega
  unfold plcF at hjp
  unfold brkF
  rcases hr with rfl | rfl | rfl | rfl | rfl
  · have hjp : j < ρ 11 := hjp
    show decide (binR ρ n (93 + j) < 0) = decide (ρ (93 + j) < 0)
    rw [bin_ne (by omega)]
  · have hjp : j < ρ 5 := hjp
    show decide (binR ρ n (31 + j) < wOnF (binR ρ n) j) = decide (ρ (31 + j) < wOnF ρ j)
    rw [bin_wOn, bin_ne (by omega)]
  · have hjp : j < ρ 6 := hjp
    show decide (binR ρ n (42 + j) < wOnF (binR ρ n) (binR ρ n (37 + j)) + wOnF (binR ρ n) (binR ρ n (37 + j) + 1)) = decide (ρ (42 + j) < wOnF ρ (ρ (37 + j)) + wOnF ρ (ρ (37 + j) + 1))
    rw [bin_wOn, bin_wOn, bin_ne (j := 37 + j) (by omega), bin_ne (j := 42 + j) (by omega)]
  · have hjp : j < ρ 4 := hjp
    show decide (binR ρ n (13 + j) < inHoldF (binR ρ n) j) = decide (ρ (13 + j) < inHoldF ρ j)
    rw [bin_hold (by omega), bin_ne (by omega)]
  · show decide (0 ≤ onF (binR ρ n) j ∧ blkF (binR ρ n) (onF (binR ρ n) j) ≠ 0) = decide (0 ≤ onF ρ j ∧ blkF ρ (onF ρ j) ≠ 0)
    rw [bin_on]
    have ho := onF_rng (ρ := ρ) (by omega) j
    by_cases h0 : 0 ≤ onF ρ j
    · rw [bin_blk hn hs n h0 (hp _ h0 (by omega))]
    · rw [decide_eq_false (fun h => h0 h.1), decide_eq_false (fun h => h0 h.1)]
theorem bin_5 (ρ : Row) (n : Int) : atF (binR ρ n) 5 = -1 := by
  unfold atF
  refine fnd_none fun j j0 j1 => ?_
  unfold brkF
  rw [if_neg (by decide), if_neg (by decide), if_neg (by decide), if_neg (by decide), if_pos rfl, bin_51, bin_52, bin_ne (by omega)]
  exact decide_eq_false (fun h => h (by omega))
theorem brok_0 {ρ : Row} : brokF ρ = 0 ↔ ∀ r, 1 ≤ r → r ≤ 7 → atF ρ r < 0 := by
  unfold brokF
  dsimp only
  rcases fnd_spec (p := fun r => decide (0 ≤ atF ρ r)) 7 1 with ⟨h1, h2⟩ | ⟨h1, h2, h3, h4⟩
  · rw [h1, if_pos (by decide)]
    refine ⟨fun _ r r0 r1 => ?_, fun _ => rfl⟩
    have := of_decide_eq_false (h2 r r0 (by omega))
    omega
  · rw [if_neg (by omega)]
    constructor
    · intro h; omega
    · intro h
      have a := h _ h1 (by omega)
      have b := of_decide_eq_true h3
      omega
theorem brok_r {ρ : Row} (h : brokF ρ ≠ 0) : 0 ≤ atF ρ (brokF ρ) := by
  unfold brokF at *
  dsimp only at *
  rcases fnd_spec (p := fun r => decide (0 ≤ atF ρ r)) 7 1 with ⟨h1, h2⟩ | ⟨h1, h2, h3, h4⟩
  · rw [h1, if_pos (by decide)] at h
    exact absurd rfl h
  · rw [if_neg (by omega)]
    exact of_decide_eq_true h3
/-- a rule but the last one that is broken stays so, whatever is poured -/
theorem brok_stays {ρ : Row} (hn : WFn ρ) (hs : WFs ρ) (hj : WFj ρ) (hp : ∀ k, 0 ≤ k → k < ρ 11 → ρ (93 + k) < ρ 5) {n n' : Int} (h0 : brokF (binR ρ n) ≠ 0) (h7 : brokF (binR ρ n) ≠ 7) : brokF (binR ρ n') ≠ 0 := by
  have hr := brok_rng (binR ρ n)
  have h := brok_r h0
  generalize brokF (binR ρ n) = r at *
  have h5 : r ≠ 5 := fun e => by rw [e, bin_5] at h; omega
  have hr2 : r = 1 ∨ r = 2 ∨ r = 3 ∨ r = 4 ∨ r = 6 := by omega
  rw [bin_at hn hs hj hp n hr2, ← bin_at hn hs hj hp n' hr2] at h
  intro e
  have := brok_0.1 e r (by omega) (by omega)
  omega
/-! a whole layout is a good row -/
theorem lay_Pl (ρ : Row) (c : Int) (h : ρ 11 ≤ 5) : PlEq ρ (layR ρ c) := fun j hj => lay_ne (by omega)
theorem WF.whole {ρ : Row} (hw : WF ρ) {c n : Int} (hwh : wholeF (layR ρ c) = true) (hn0 : 0 ≤ n) (hp : pourOK ρ n = true) : WF (binR (layR ρ c) n) := by
  have hn := hw.1.1
  unfold WFn at hn
  have hpo := of_decide_eq_true hp
  unfold lim0 lim1 at hpo
  rw [whole_iff (by rw [lay_11]; omega), lay_11, lay_ne (j := 5) (by omega)] at hwh
  have e : PlEq ρ (binR (layR ρ c) n) := (lay_Pl ρ c (by omega)).tr (bin_Pl _ n)
  have e11 : binR (layR ρ c) n 11 = ρ 11 := by rw [bin_ne (by omega), lay_11]
  have cell : ∀ j, ¬ (93 ≤ j ∧ j < 98) → j ≠ 51 → j ≠ 52 → binR (layR ρ c) n j = ρ j := fun j h1 h2 h3 => by rw [bin_ne ⟨h2, h3⟩, lay_ne (by omega)]
  refine hw.of e (by rw [e11]; omega) (cell 12 (by omega) (by omega) (by omega)) (fun b b0 b1 => ?_) (fun k k0 k1 => ?_) (fun i j i0 ij j1 h => ?_)
  · have q := hw.2.1 b b0 b1
    rcases (show b = 0 ∨ b = 1 by omega) with rfl | rfl
    · rw [show (51 : Int) + 0 = 51 from rfl, bin_51, show (49 : Int) + 0 = 49 from rfl]
      refine ⟨fun h => ?_, fun h => ?_⟩
      · rw [if_pos (show 0 < ρ 7 by omega)] at hpo; omega
      · rw [if_neg (show ¬ 0 < ρ 7 by omega)] at hpo; omega
    · rw [show (51 : Int) + 1 = 52 from rfl, bin_52, lay_ne (j := 12) (by omega), show (49 : Int) + 1 = 50 from rfl]
      refine ⟨fun h => ?_, fun h => ?_⟩
      · rw [if_pos (show 1 < ρ 7 by omega)] at hpo; omega
      · rw [if_neg (show ¬ 1 < ρ 7 by omega)] at hpo; omega
  · rw [e11] at k1
    obtain ⟨p1, p2, p3, p4, p5⟩ := hw.2.2.1 k k0 k1
    rw [cell (83 + k) (by omega) (by omega) (by omega), cell (88 + k) (by omega) (by omega) (by omega), cell (98 + k) (by omega) (by omega) (by omega), bin_ne (j := 93 + k) (by omega), cell 5 (by omega) (by omega) (by omega)]
    refine ⟨p1, p2, by have := (hwh k k0 k1).1; omega, p4, fun i i0 i1 => ?_⟩
    rw [cell _ (by omega) (by omega) (by omega)]
    exact p5 i i0 i1
  · rw [e11] at j1
    rw [bin_ne (j := 93 + i) (by omega), bin_ne (j := 93 + j) (by omega)] at h
    exact absurd h ((hwh j (by omega) j1).2 i i0 ij)

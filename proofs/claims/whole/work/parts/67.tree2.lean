/-! 67.tree2: the table's rows are all good loadings (wip/whole/src/67_tree2.py) -/
theorem pre_spec {r : Row} {k : Int} (hk : 0 ≤ k) (h : ∀ j, 0 ≤ j → j < k → -1 ≤ r (93 + j) ∧ r (93 + j) < 6) : (0 ≤ pre r k ∧ pre r k < 7 ^ k.toNat) ∧ ∀ j, 0 ≤ j → j < k → pre r k / 7 ^ (k - 1 - j).toNat % 7 = r (93 + j) + 1 := by
  have e : pre r k = fld (fun j v => 7 * v + (if 0 ≤ j ∧ j < k then r (93 + j) + 1 else 0)) k.toNat 0 0 := by
    unfold pre
    refine fld_congr _ _ _ fun j a j0 j1 => ?_
    rw [if_pos (by omega)]
  have q := fld7_div (f := fun j => if 0 ≤ j ∧ j < k then r (93 + j) + 1 else 0) (fun j => by
    try dsimp only
    split
    · rename_i hj
      have := h j hj.1 hj.2
      omega
    · omega) k.toNat
  rw [← e] at q
  refine ⟨q.1, fun j j0 j1 => ?_⟩
  have q2 := q.2 j.toNat (by omega)
  try dsimp only at q2
  rw [if_pos (by omega), show ((j.toNat : Nat) : Int) = j by omega] at q2
  rw [show (k - 1 - j).toNat = k.toNat - 1 - j.toNat by omega]
  exact q2
theorem pre_s {r : Row} {k s : Int} (hk : 0 ≤ k) : pre (rset r (93 + k) s) (k + 1) = 7 * pre r k + (s + 1) := by
  unfold pre
  rw [show (k + 1).toNat = k.toNat + 1 by omega, fld_snoc, show (0 : Int) + (k.toNat : Int) = k by omega, rset_eq]
  congr 2
  refine fld_congr _ _ _ fun j a j0 j1 => ?_
  rw [rset_ne (by omega)]
theorem lay_pre {r : Row} {k d c : Int} {n : Nat} (hk : 0 ≤ k) (hkn : k + 1 + n = r 11) (hd : 0 ≤ d ∧ d < 7) (hl : ∀ j, 0 ≤ j → j < k → -1 ≤ r (93 + j) ∧ r (93 + j) < 6) (hc : (7 * pre r k + d) * 7 ^ n ≤ c ∧ c < (7 * pre r k + d + 1) * 7 ^ n) : (∀ j, 0 ≤ j → j < k → layR r c (93 + j) = r (93 + j)) ∧ layR r c (93 + k) = d - 1 := by
  have hp := pw_pos n
  have hW : c / 7 ^ n = 7 * pre r k + d := by
    have h1 := (Int.le_ediv_iff_mul_le hp).2 hc.1
    have h2 := (Int.ediv_lt_iff_lt_mul hp).2 hc.2
    omega
  constructor
  · intro j j0 j1
    rw [lay_at ⟨j0, by omega⟩]
    unfold dg
    rw [show (r 11 - 1 - j).toNat = n + (1 + (k - 1 - j).toNat) by omega, Int.pow_add, ← Int.ediv_ediv_of_nonneg (by omega), hW, Int.pow_add, ← Int.ediv_ediv_of_nonneg (by decide), show (7 * pre r k + d) / 7 ^ 1 = pre r k by omega, (pre_spec hk hl).2 j j0 j1]
    omega
  · rw [lay_at ⟨hk, by omega⟩]
    unfold dg
    rw [show (r 11 - 1 - k).toNat = n by omega, hW]
    omega
theorem goodsC_set {r : Row} {k s c : Int} (hk : 0 ≤ k ∧ k < r 11) (h5 : r 11 ≤ 5) : goodsC (rset r (93 + k) s) c = goodsC r c := by
  have e : layR (rset r (93 + k) s) c = layR r c := by
    funext j
    have e11 : rset r (93 + k) s 11 = r 11 := rset_ne (by omega)
    by_cases h : 93 ≤ j ∧ j < 93 + r 11
    · unfold layR
      rw [e11, if_pos h, if_pos h]
    · rw [lay_ne (by rw [e11]; exact h), lay_ne h, rset_ne (by omega)]
  have g : ∀ (n : Nat) (x : Int), gN (rset r (93 + k) s) c n x = gN r c n x := by
    intro n
    induction n with
    | zero => intro x; rfl
    | succ n ih =>
      intro x
      have : goodN (rset r (93 + k) s) c x = goodN r c x := by
        unfold goodN pourOK lim0 lim1
        rw [e, rset_ne (j := 7) (by omega), rset_ne (j := 49) (by omega), rset_ne (j := 50) (by omega), rset_ne (j := 12) (by omega)]
      rw [gN, gN, ih, this]
  unfold goodsC
  rw [e, g]
theorem lay_agt {r : Row} {k d c : Int} {n : Nat} (hk : 0 ≤ k) (hkn : k + 1 + n = r 11) (h5 : r 11 ≤ 5) (hd : 0 ≤ d ∧ d < 7) (hl : ∀ j, 0 ≤ j → j < k → -1 ≤ r (93 + j) ∧ r (93 + j) < 6) (hc : (7 * pre r k + d) * 7 ^ n ≤ c ∧ c < (7 * pre r k + d + 1) * 7 ^ n) : AgT k r (layR r c) := fun j h1 h2 h3 => by
  have q := lay_pre hk hkn hd hl hc
  by_cases e : 93 ≤ j ∧ j < 93 + k
  · have := q.1 (j - 93) (by omega) (by omega)
    rw [show 93 + (j - 93) = j by omega] at this
    exact this
  · exact lay_ne (by omega)
theorem rul_bin {σ : Row} (hn : WFn σ) (hs : WFs σ) (hj : WFj σ) (hl : LyS σ (σ 11)) {n : Int} : brokF (binR σ n) = 0 ↔ rul σ ∧ atF (binR σ n) 7 < 0 := by
  have hp : ∀ k, 0 ≤ k → k < σ 11 → σ (93 + k) < σ 5 := fun k k0 k1 => (hl k k0 k1).2
  rw [brok_0]
  constructor
  · intro h
    refine ⟨⟨?_, ?_, ?_, ?_⟩, h 7 (by omega) (by omega)⟩
    · rw [← bin_at hn hs hj hp n (r := 2) (by omega)]; exact h 2 (by omega) (by omega)
    · rw [← bin_at hn hs hj hp n (r := 3) (by omega)]; exact h 3 (by omega) (by omega)
    · rw [← bin_at hn hs hj hp n (r := 4) (by omega)]; exact h 4 (by omega) (by omega)
    · rw [← bin_at hn hs hj hp n (r := 6) (by omega)]; exact h 6 (by omega) (by omega)
  · rintro ⟨⟨h2, h3, h4, h6⟩, h7⟩ r r0 r1
    rcases (show r = 1 ∨ r = 2 ∨ r = 3 ∨ r = 4 ∨ r = 5 ∨ r = 6 ∨ r = 7 by omega) with rfl | rfl | rfl | rfl | rfl | rfl | rfl
    · rw [bin_at hn hs hj hp n (r := 1) (by omega), at_neg]
      intro k k0 k1
      have k1 : k < σ 11 := k1
      exact decide_eq_false (by have := hl k k0 k1; omega)
    · rw [bin_at hn hs hj hp n (r := 2) (by omega)]; exact h2
    · rw [bin_at hn hs hj hp n (r := 3) (by omega)]; exact h3
    · rw [bin_at hn hs hj hp n (r := 4) (by omega)]; exact h4
    · rw [bin_5]; decide
    · rw [bin_at hn hs hj hp n (r := 6) (by omega)]; exact h6
    · exact h7
theorem bad_piece {r : Row} {k d : Int} {n : Nat} (hP : WFP r) (hp : PW r) (hl : LyS r k) (hk : 0 ≤ k) (hkn : k + 1 + n = r 11) (hd : 0 ≤ d ∧ d < 7) (hb : d = 0 ∨ r 5 ≤ d - 1 ∨ mayB r k (d - 1) = false) : gAll r (7 ^ n) ((7 * pre r k + d) * 7 ^ n) = [] := by
  have hn := hP.1
  unfold WFn at hn
  refine gAll_nil _ _ fun c c0 c1 => ?_
  have hl6 : ∀ j, 0 ≤ j → j < k → -1 ≤ r (93 + j) ∧ r (93 + j) < 6 := fun j j0 j1 => by have := hl j j0 j1; omega
  have hc : (7 * pre r k + d) * 7 ^ n ≤ c ∧ c < (7 * pre r k + d + 1) * 7 ^ n := ⟨c0, by rw [Int.add_mul (7 * pre r k + d) 1, Int.one_mul]; rw [pw_cast] at c1; omega⟩
  have q := lay_pre hk hkn hd hl6 hc
  unfold goodsC
  by_cases w : wholeF (layR r c) = true
  · rw [if_pos w]
    rw [whole_iff (by rw [lay_11]; omega), lay_11, lay_ne (j := 5) (by omega)] at w
    have wk := w k hk (by omega)
    rw [q.2] at wk
    have hm : mayB r k (d - 1) = false := by rcases hb with h | h | h <;> first | exact h | omega
    refine gN_nil _ _ fun i i0 i1 => ?_
    rw [Bool.eq_false_iff]
    intro g
    unfold goodN at g
    rw [Bool.and_eq_true, decide_eq_true_eq] at g
    have hPs : WFP (layR r c) := (lay_Pl r c (by omega)).wfP hP (by rw [lay_11]; omega) (by rw [lay_ne (by omega)]; omega)
    have e5 : layR r c 5 = r 5 := lay_ne (by omega)
    have hls : LyS (layR r c) (layR r c 11) := fun j j0 j1 => by rw [lay_11] at j1; rw [e5]; exact (w j j0 j1).1
    have ru := ((rul_bin hPs.1 hPs.2.1 hPs.2.2.2.1 hls).1 g.2).1
    have hwP : whP (layR r c) := fun j j0 j1 => by rw [lay_11] at j1; rw [e5]; exact w j j0 j1
    have m := may_of hPs.1 hPs.2.1 hPs.2.2.2.1 (fun j j0 j1 => by rw [lay_11] at j1; rw [lay_ne (by omega)]; exact (hp j j0 j1).1.1) hwP ru (k := k) ⟨hk, by rw [lay_11]; omega⟩
    rw [q.2, may_congr hP (lay_agt hk hkn (by omega) hd hl6 hc) ⟨hk, by omega⟩ ⟨by omega, by omega⟩ hl, hm] at m
    exact absurd m (by decide)
  · rw [if_neg w]
def ArmB (ρ : Row) : Prop := (∀ b, 0 ≤ b → b < 2 → b < ρ 7 → 0 ≤ ρ (47 + b) ∧ ρ (47 + b) ≤ 99) ∧ lim0 ρ ≤ 99
theorem ArmB.set {ρ : Row} (h : ArmB ρ) {k s : Int} (hk : 0 ≤ k) : ArmB (rset ρ (93 + k) s) := by
  unfold ArmB lim0 at *
  rw [rset_ne (j := 7) (by omega), rset_ne (j := 49) (by omega)]
  refine ⟨fun b b0 b1 b2 => ?_, h.2⟩
  rw [rset_ne (by omega)]
  exact h.1 b b0 b1 b2
theorem WF.armB {ρ : Row} (h : WF ρ) : ArmB ρ := by
  refine ⟨fun b b0 b1 b2 => ((h.2.1 b b0 b1).1 b2).1, ?_⟩
  have q := (h.2.1 0 (by omega) (by omega)).1
  simp only [Int.add_zero] at q
  unfold lim0
  split
  · have := q (by omega); omega
  · omega
theorem PW.set {ρ : Row} (h : PW ρ) {k s : Int} (hk : 0 ≤ k) (h5 : ρ 11 ≤ 5) : PW (rset ρ (93 + k) s) := fun j j0 j1 => by
  rw [rset_ne (by omega)] at j1
  rw [rset_ne (by omega), rset_ne (by omega)]
  exact h j j0 j1
/-- one whole layout -/
theorem keep_exp {r : Row} (hP : WFP r) (hb : ArmB r) (hp : PW r) (hl : LyS r (r 11)) (hm : ∀ j, 0 ≤ j → j < r 11 → mayB r j (r (93 + j)) = true) : expE (keepE r) = goodsC r (codeR r) ∧ wholeF r = true := by
  have hn := hP.1
  have hn' := hn
  unfold WFn at hn'
  have h83 : ∀ j, 0 ≤ j → j < r 11 → 1 ≤ r (83 + j) := fun j j0 j1 => (hp j j0 j1).1.1
  have hwP : whP r := fun k k0 k1 => ⟨hl k k0 k1, by
    have m := hm k k0 k1
    unfold mayB at m
    rw [Bool.and_eq_true, decide_eq_true_eq] at m
    exact (ls_0 h83 ⟨k0, by omega⟩).1 m.1.1⟩
  have hru := rul_of hn hP.2.1 hP.2.2.1 hP.2.2.2.1 hwP hm
  have hwh : wholeF r = true := (whole_iff (by omega)).2 hwP
  have hlc : layR r (codeR r) = r := lay_code fun k k0 k1 => by have := hl k k0 k1; omega
  refine ⟨?_, hwh⟩
  have hg : ∀ i, 0 ≤ i → i < 200 → (goodN r (codeR r) i = true ↔ okS r ∧ frF r ≤ i ∧ i ≤ toF r) := fun i i0 i1 => by
    unfold goodN
    rw [hlc, Bool.and_eq_true, decide_eq_true_eq, rul_bin hn hP.2.1 hP.2.2.2.1 hl, ← span_fr, pour_iff i0]
    constructor
    · rintro ⟨a, -, b⟩
      exact ⟨(span_ok hn hP.2.1 hP.2.2.2.2.2 hb.1 hp hl ⟨i0, i1⟩ ((pour_iff i0).2 a)).1 b, a⟩
    · rintro ⟨b, a⟩
      exact ⟨a, hru, (span_ok hn hP.2.1 hP.2.2.2.2.2 hb.1 hp hl ⟨i0, i1⟩ ((pour_iff i0).2 a)).2 b⟩
  have hfr := fr_rng (ρ := r) (by omega) hb.2
  unfold goodsC
  rw [hlc, if_pos hwh]
  unfold keepE
  by_cases ok : okS r
  · have g := gN_seq (ρ := r) (c := codeR r) (f := frF r) (t := toF r) 100 0 (fun i i0 i1 => (hg i i0 (by omega)).trans ⟨fun h => h.2, fun h => ⟨ok, h⟩⟩) (by omega)
    rw [g, show max 0 (frF r) = frF r by omega]
    by_cases c : frF r ≤ toF r
    · rw [if_pos ⟨ok, c⟩]
      show seqL (200 * codeR r + frF r) (toF r - frF r + 1).toNat ++ [] = _
      rw [List.append_nil]
    · rw [if_neg (fun h => c h.2), show (toF r - frF r + 1).toNat = 0 by omega]
      rfl
  · rw [if_neg (fun h => ok h.1), gN_nil]
    · rfl
    · intro i i0 i1
      rw [Bool.eq_false_iff]
      exact fun h => ok ((hg i i0 (by omega)).1 h).1
theorem cat7 {G H : Int → List Int} {m : Nat} (hm : m ≤ 6) (h0 : H 0 = []) (h1 : ∀ s : Int, 0 ≤ s → s < m → G s = H (s + 1)) (h2 : ∀ d, (m : Int) + 1 ≤ d → d < 7 → H d = []) : catL G m 0 = catL H 7 0 := by
  have e : catL H 7 0 = catL H (1 + (m + (6 - m))) 0 := by rw [show 1 + (m + (6 - m)) = 7 by omega]
  rw [e, catL_add, catL_add, catL_nil (6 - m) _ (fun j j0 j1 => h2 j (by omega) (by omega)), List.append_nil]
  have e1 : catL H 1 0 = [] := by rw [catL, catL, h0]; rfl
  rw [e1, List.nil_append, show (0 : Int) + ((1 : Nat) : Int) = 0 + 1 from rfl, ← catL_shift]
  exact catL_congr _ _ fun s s0 s1 => h1 s s0 (by omega)
theorem layE_exp : ∀ (n : Nat) (k : Int) (r : Row), WFP r → ArmB r → PW r → 0 ≤ k → k + n = r 11 → LyS r k → (∀ j, 0 ≤ j → j < k → mayB r j (r (93 + j)) = true) → expE (layE n k r) = gAll r (7 ^ n) (pre r k * 7 ^ n) ∧ (layE n k r).length ≤ cI (r 11).toNat (7 ^ n) ((pre r k).toNat * 7 ^ n)
  | 0, k, r, hP, hb, hp, hk, hkn, hl, hm => by
    have hn := hP.1
    unfold WFn at hn
    obtain rfl : k = r 11 := by omega
    obtain ⟨e, w⟩ := keep_exp hP hb hp hl hm
    have ec : pre r (r 11) = codeR r := (codeR_f r).symm
    have hcs := codeR_spec (ρ := r) fun k k0 k1 => by have := hl k k0 k1; omega
    rw [Int.pow_zero, Int.mul_one, Nat.pow_zero, Nat.mul_one, ec]
    constructor
    · show expE (keepE r) = goodsC r (codeR r) ++ []
      rw [e, List.append_nil]
    · show (keepE r).length ≤ (if wD (r 11).toNat (codeR r).toNat then 1 else 0) + 0
      have hlc : layR r (codeR r) = r := lay_code fun k k0 k1 => by have := hl k k0 k1; omega
      have hwd := whole_wD (ρ := r) (c := (codeR r).toNat) (by omega) (by
        have := hcs.1.2
        rw [← pw_cast] at this
        omega) (by
        rw [show (((codeR r).toNat : Nat) : Int) = codeR r by omega, hlc]
        exact w)
      rw [if_pos hwd]
      unfold keepE
      split <;> simp
  | n + 1, k, r, hP, hb, hp, hk, hkn, hl, hm => by
    have hn := hP.1
    unfold WFn at hn
    have hl6 : ∀ j, 0 ≤ j → j < k → -1 ≤ r (93 + j) ∧ r (93 + j) < 6 := fun j j0 j1 => by have := hl j j0 j1; omega
    have hpr := pre_spec hk hl6
    have step : ∀ s, 0 ≤ s → s < r 5 → mayB r k s = true → expE (layE n (k + 1) (rset r (93 + k) s)) = gAll r (7 ^ n) ((7 * pre r k + (s + 1)) * 7 ^ n) ∧ (layE n (k + 1) (rset r (93 + k) s)).length ≤ cI (r 11).toNat (7 ^ n) ((7 * pre r k + (s + 1)).toNat * 7 ^ n) := by
      intro s s0 s1 hs
      have e11 : rset r (93 + k) s 11 = r 11 := rset_ne (by omega)
      have ih := layE_exp n (k + 1) (rset r (93 + k) s) (wfP_set hP hk) (hb.set hk) (hp.set hk (by omega)) (by omega) (by rw [e11]; omega) (hl.set ⟨s0, s1⟩ hk) (fun j j0 j1 => by
        have hA : AgT j r (rset r (93 + k) s) := fun i h1 h2 h3 => rset_ne (by omega)
        by_cases e : j = k
        · subst e
          rw [rset_eq, may_congr hP hA ⟨hk, by omega⟩ ⟨s0, s1⟩ hl]
          exact hs
        · have hlj := hl j j0 (by omega)
          rw [rset_ne (by omega), may_congr hP hA ⟨j0, by omega⟩ hlj (fun i i0 i1 => hl i i0 (by omega))]
          exact hm j j0 (by omega))
      rw [pre_s hk, e11] at ih
      refine ⟨ih.1.trans (gAll_congr _ _ fun c _ _ => goodsC_set ⟨hk, by omega⟩ (by omega)), ih.2⟩
    constructor
    · rw [layE, catL_exp, show pre r k * 7 ^ (n + 1) = 7 * pre r k * 7 ^ n + 0 * ((7 ^ n : Nat) : Int) by rw [Int.pow_succ, Int.zero_mul, Int.add_zero, Int.mul_comm 7 (pre r k), Int.mul_assoc, Int.mul_comm 7], show 7 ^ (n + 1) = 7 * 7 ^ n by rw [Nat.pow_succ, Nat.mul_comm], gAll_cat]
      have hH : ∀ d : Int, 7 * pre r k * 7 ^ n + d * ((7 ^ n : Nat) : Int) = (7 * pre r k + d) * 7 ^ n := fun d => by rw [pw_cast, Int.add_mul]
      refine cat7 (m := (r 5).toNat) (by omega) ?_ (fun s s0 s1 => ?_) (fun d d0 d1 => ?_)
      · rw [hH]
        exact bad_piece hP hp hl hk (by omega) ⟨by omega, by omega⟩ (Or.inl rfl)
      · rw [hH]
        by_cases c : mayB r k s = true
        · rw [if_pos c]
          exact (step s s0 (by omega) c).1
        · rw [if_neg c]
          exact (bad_piece hP hp hl hk (by omega) ⟨by omega, by omega⟩ (Or.inr (Or.inr (by rw [show s + 1 - 1 = s by omega]; exact Bool.eq_false_iff.2 c)))).symm
      · rw [hH]
        exact bad_piece hP hp hl hk (by omega) ⟨by omega, d1⟩ (Or.inr (Or.inl (by omega)))
    · rw [layE]
      have q := catL_len (g := fun s => if mayB r k s then layE n (k + 1) (rset r (93 + k) s) else []) (N := (r 11).toNat) (w := 7 ^ n) (a := (7 * (pre r k).toNat + 1) * 7 ^ n) (r 5).toNat 0 (fun d d0 d1 => by
        try dsimp only
        by_cases c : mayB r k d = true
        · rw [if_pos c]
          have := (step d (by omega) (by omega) c).2
          rw [show (7 * pre r k + ((d : Int) + 1)).toNat = 7 * (pre r k).toNat + 1 + d by omega, Nat.add_mul] at this
          exact this
        · rw [if_neg c]
          exact Nat.zero_le _)
      rw [Nat.zero_mul, Nat.add_zero] at q
      refine Nat.le_trans q ?_
      have e1 : 7 ^ (n + 1) = 7 ^ n + ((r 5).toNat * 7 ^ n + (6 - (r 5).toNat) * 7 ^ n) := by
        rw [← Nat.add_mul, show (r 5).toNat + (6 - (r 5).toNat) = 6 by omega, Nat.pow_succ]
        omega
      have e2 : (pre r k).toNat * 7 ^ (n + 1) + 7 ^ n = (7 * (pre r k).toNat + 1) * 7 ^ n := by
        rw [Nat.add_mul, Nat.one_mul, Nat.pow_succ, Nat.mul_comm 7 (pre r k).toNat, Nat.mul_assoc, Nat.mul_comm 7]
      rw [e1, cI_add, cI_add]
      rw [← e1, e2]
      omega
theorem pigeon : ∀ (S : Nat) (l : List Int), l.Nodup → (∀ x ∈ l, 0 ≤ x ∧ x < S) → l.length ≤ S
  | 0, l, _, h => by
    cases l with
    | nil => exact Nat.le_refl _
    | cons a t => have := h a (List.mem_cons_self ..); omega
  | S + 1, l, hn, h => by
    by_cases c : (S : Int) ∈ l
    · have e := List.length_erase_of_mem c
      have q := pigeon S (l.erase (S : Int)) (hn.erase _) (fun x hx => by
        have h1 := h x (List.mem_of_mem_erase hx)
        have h2 : x ≠ S := fun e => by
          rw [e] at hx
          exact hn.not_mem_erase hx
        omega)
      omega
    · have q := pigeon S l hn (fun x hx => by
        have h1 := h x hx
        have h2 : x ≠ S := fun e => c (by rw [← e]; exact hx)
        omega)
      omega
theorem whole_le {σ : Row} (hn : 0 ≤ σ 11) (h5 : 0 ≤ σ 5) (h : wholeF σ = true) : σ 11 ≤ σ 5 := by
  rw [whole_iff hn] at h
  have q := pigeon (σ 5).toNat ((List.range (σ 11).toNat).map fun (k : Nat) => σ (93 + (k : Int))) (by
    rw [List.Nodup, List.pairwise_map]
    refine List.Pairwise.imp_of_mem ?_ List.pairwise_lt_range
    intro a b ha hb hab
    rw [List.mem_range] at ha hb
    exact (h b (by omega) (by omega)).2 a (by omega) (by omega)) (fun x hx => by
    rw [List.mem_map] at hx
    obtain ⟨k, hk, rfl⟩ := hx
    rw [List.mem_range] at hk
    have := (h k (by omega) (by omega)).1
    omega)
  rw [List.length_map, List.length_range] at q
  omega
/-- the table is all good loadings -/
theorem TL_exp {ρ : Row} (hw : WF ρ) : expE (TL ρ) = GL ρ ∧ (TL ρ).length ≤ 720 := by
  have hn := hw.1.1
  unfold WFn at hn
  unfold TL
  by_cases c : aMF ρ < aLF ρ ∨ ρ 5 < ρ 11
  · rw [if_pos c]
    refine ⟨?_, Nat.zero_le _⟩
    show [] = GL ρ
    unfold GL
    refine (gAll_nil _ _ fun x _ _ => ?_).symm
    unfold goodsC
    by_cases w : wholeF (layR ρ x) = true
    · rw [if_pos w]
      have hle := whole_le (σ := layR ρ x) (by rw [lay_11]; omega) (by rw [lay_ne (by omega)]; omega) w
      rw [lay_11, lay_ne (by omega)] at hle
      refine gN_nil _ _ fun i i0 i1 => ?_
      unfold goodN
      rw [Bool.and_eq_false_iff]
      left
      rw [Bool.eq_false_iff]
      intro h
      have := (pour_iff i0).1 h
      omega
    · rw [if_neg w]
  · rw [if_neg c]
    obtain ⟨e, l⟩ := layE_exp (ρ 11).toNat 0 ρ hw.1 hw.armB hw.pw (by omega) (by omega) (fun j _ _ => by omega) (fun j _ _ => by omega)
    have e0 : pre ρ 0 = 0 := rfl
    rw [e0] at e l
    refine ⟨by rw [e, Int.zero_mul]; rfl, ?_⟩
    have := pw_nat (N := ρ 11) (by omega)
    have q := cI_le (N := (ρ 11).toNat) (n := 7 ^ (ρ 11).toNat) (by omega) (by omega)
    rw [show (0 : Int).toNat = 0 from rfl, Nat.zero_mul] at l
    omega

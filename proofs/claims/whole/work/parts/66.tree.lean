/-! 66.tree: rows of the table, found by laying one pallet after the other (wip/whole/src/66_tree.py) -/
def catL {α : Type} (g : Int → List α) : Nat → Int → List α
  | 0, _ => []
  | n + 1, k => g k ++ catL g n (k + 1)
def layE : Nat → Int → Row → List Ent
  | 0, _, r => keepE r
  | n + 1, k, r => catL (fun s => if mayB r k s then layE n (k + 1) (rset r (93 + k) s) else []) (r 5).toNat 0
def TL (ρ : Row) : List Ent := if aMF ρ < aLF ρ ∨ ρ 5 < ρ 11 then [] else layE (ρ 11).toNat 0 ρ
def pre (r : Row) (k : Int) : Int := fld (fun j v => 7 * v + (r (93 + j) + 1)) k.toNat 0 0
theorem catL_congr {α : Type} {f g : Int → List α} : ∀ (n : Nat) (k : Int), (∀ j, k ≤ j → j < k + n → f j = g j) → catL f n k = catL g n k
  | 0, _, _ => rfl
  | n + 1, k, h => by rw [catL, catL, h k (by omega) (by omega), catL_congr n (k + 1) (fun j a b => h j (by omega) (by omega))]
theorem catL_nil {α : Type} {g : Int → List α} : ∀ (n : Nat) (k : Int), (∀ j, k ≤ j → j < k + n → g j = []) → catL g n k = []
  | 0, _, _ => rfl
  | n + 1, k, h => by rw [catL, h k (by omega) (by omega), catL_nil n (k + 1) (fun j a b => h j (by omega) (by omega))]; rfl
theorem catL_add {α : Type} (g : Int → List α) : ∀ (n m : Nat) (k : Int), catL g (n + m) k = catL g n k ++ catL g m (k + n)
  | 0, m, k => by simp [catL]
  | n + 1, m, k => by
    rw [show n + 1 + m = (n + m) + 1 by omega, catL, catL, catL_add g n m (k + 1), List.append_assoc, show k + 1 + (n : Int) = k + ((n + 1 : Nat) : Int) by omega]
theorem catL_exp (g : Int → List Ent) : ∀ (n : Nat) (k : Int), expE (catL g n k) = catL (fun s => expE (g s)) n k
  | 0, _ => rfl
  | n + 1, k => by rw [catL, catL, exp_app, catL_exp g n]
theorem catL_shift {α : Type} (g : Int → List α) : ∀ (n : Nat) (k : Int), catL (fun d => g (d + 1)) n k = catL g n (k + 1)
  | 0, _ => rfl
  | n + 1, k => by rw [catL, catL, catL_shift g n]
theorem gAll_cat (r : Row) (w : Nat) (c : Int) : ∀ (m : Nat) (a : Int), gAll r (m * w) (c + a * w) = catL (fun d => gAll r w (c + d * w)) m a
  | 0, a => by rw [Nat.zero_mul]; rfl
  | m + 1, a => by
    rw [Nat.add_mul, Nat.one_mul, Nat.add_comm, gAll_add, catL, ← gAll_cat r w c m (a + 1), Int.add_mul, Int.one_mul, Int.add_assoc]
theorem gAll_nil {r : Row} : ∀ (n : Nat) (a : Int), (∀ c, a ≤ c → c < a + n → goodsC r c = []) → gAll r n a = []
  | 0, _, _ => rfl
  | n + 1, a, h => by rw [gAll, h a (by omega) (by omega), gAll_nil n (a + 1) (fun j a b => h j (by omega) (by omega))]; rfl
theorem gAll_congr {r r' : Row} : ∀ (n : Nat) (a : Int), (∀ c, a ≤ c → c < a + n → goodsC r c = goodsC r' c) → gAll r n a = gAll r' n a
  | 0, _, _ => rfl
  | n + 1, a, h => by rw [gAll, gAll, h a (by omega) (by omega), gAll_congr n (a + 1) (fun j a b => h j (by omega) (by omega))]
theorem catL_len {α : Type} {g : Int → List α} {N w a : Nat} : ∀ (m k : Nat), (∀ d : Nat, k ≤ d → d < k + m → (g (d : Int)).length ≤ cI N w (a + d * w)) → (catL g m (k : Int)).length ≤ cI N (m * w) (a + k * w)
  | 0, _, _ => Nat.zero_le _
  | m + 1, k, h => by
    rw [catL, List.length_append, Nat.add_mul, Nat.one_mul, Nat.add_comm (m * w) w, cI_add]
    have a1 := h k (Nat.le_refl _) (by omega)
    have a2 := catL_len m (k + 1) (fun d d0 d1 => h d (by omega) (by omega))
    rw [show ((k + 1 : Nat) : Int) = (k : Int) + 1 by omega, Nat.add_mul, Nat.one_mul, ← Nat.add_assoc] at a2
    omega
/-! agreeing rows -/
def AgT (k : Int) (r σ : Row) : Prop := ∀ j, ¬ (93 + k ≤ j ∧ j < 98) → j ≠ 51 → j ≠ 52 → σ j = r j
theorem AgT.pl {k : Int} {r σ : Row} (h : AgT k r σ) (hk : 0 ≤ k) : PlEq r σ := fun j hj => h j (by omega) (by omega) (by omega)
theorem AgT.set {k s : Int} {r σ : Row} (h : AgT k r σ) : AgT (k + 1) (rset r (93 + k) s) (rset σ (93 + k) s) := fun j h1 h2 h3 => by
  by_cases e : j = 93 + k
  · rw [e, rset_eq, rset_eq]
  · rw [rset_ne e, rset_ne e, h j (by omega) h2 h3]
theorem allF_cg {f g : Int → Bool} (n : Nat) (h : ∀ j : Int, 0 ≤ j → j < n → f j = g j) : allF f n 0 = allF g n 0 := by
  rw [Bool.eq_iff_iff, allF_iff, allF_iff]
  constructor
  · intro q j j0 j1; rw [← h j j0 (by omega)]; exact q j j0 j1
  · intro q j j0 j1; rw [h j j0 (by omega)]; exact q j j0 j1
theorem may_congr {r σ : Row} {k s : Int} (hP : WFP r) (he : AgT k r σ) (hk : 0 ≤ k ∧ k < r 11) (hs : 0 ≤ s ∧ s < r 5) (hy : LyS r k) : mayB σ k s = mayB r k s := by
  have hn := hP.1
  have hss := hP.2.1
  have hn' := hn
  unfold WFn at hn'
  have hpl := he.pl hk.1
  have els : ∀ x, ls σ k x = ls r k x := fun x => by
    unfold ls
    refine sumF_congr _ _ fun j j0 j1 => ?_
    try dsimp only
    rw [he (93 + j) (by omega) (by omega) (by omega), he (83 + j) (by omega) (by omega) (by omega)]
  have ehl : ∀ x, hl σ k x = hl r k x := fun x => by
    unfold hl
    refine sumF_congr _ _ fun j j0 j1 => ?_
    try dsimp only
    have := hy j j0 (by omega)
    rw [he (93 + j) (by omega) (by omega) (by omega), he (83 + j) (by omega) (by omega) (by omega), he (19 + r (93 + j)) (by omega) (by omega) (by omega)]
  have hsk := hss s hs.1 hs.2
  unfold mayB
  rw [els, he (83 + k) (by omega) (by omega) (by omega), he (31 + s) (by omega) (by omega) (by omega), he (19 + s) (by omega) (by omega) (by omega), ehl, he (13 + r (19 + s)) (by omega) (by omega) (by omega), he 6 (by omega) (by omega) (by omega)]
  congr 2
  · refine allF_cg _ fun j j0 j1 => ?_
    unfold joB
    rw [he (37 + j) (by omega) (by omega) (by omega), he (42 + j) (by omega) (by omega) (by omega), els, els, he (83 + k) (by omega) (by omega) (by omega)]
  · refine allF_cg _ fun j j0 j1 => ?_
    have := hy j j0 (by omega)
    unfold wyB
    rw [he (93 + j) (by omega) (by omega) (by omega), he (88 + j) (by omega) (by omega) (by omega), he (88 + k) (by omega) (by omega) (by omega), hpl.way hn hss hs.1 hs.2, hpl.way hn hss this.1 this.2]
theorem keep_congr {r σ : Row} (hP : WFP r) (hl : LyS r (r 11)) (he : AgT (r 11) r σ) : keepE σ = keepE r := by
  have hn := hP.1
  have hn' := hn
  unfold WFn at hn'
  have hpl := he.pl (by omega)
  have c : ∀ j, 0 ≤ j → j < 93 → j ≠ 51 → j ≠ 52 → σ j = r j := fun j j0 j1 j2 j3 => he j (by omega) j2 j3
  have e11 : σ 11 = r 11 := c 11 (by omega) (by omega) (by omega) (by omega)
  have eco : codeR σ = codeR r := by
    unfold codeR
    rw [e11]
    exact fld_congr _ _ _ fun j a j0 j1 => by rw [he (93 + j) (by omega) (by omega) (by omega)]
  have esl : slF σ = slF r := by
    unfold slF a0F a1F
    rw [c 7 (by omega) (by omega) (by omega) (by omega), c 47 (by omega) (by omega) (by omega) (by omega), c 48 (by omega) (by omega) (by omega) (by omega)]
  have ea1 : a1F σ = a1F r := by
    unfold a1F
    rw [c 7 (by omega) (by omega) (by omega) (by omega), c 48 (by omega) (by omega) (by omega) (by omega)]
  have eaL : aLF σ = aLF r := by
    unfold aLF lim1
    rw [c 7 (by omega) (by omega) (by omega) (by omega), c 12 (by omega) (by omega) (by omega) (by omega), c 50 (by omega) (by omega) (by omega) (by omega)]
  have eaM : aMF σ = aMF r := by
    unfold aMF lim0
    rw [c 7 (by omega) (by omega) (by omega) (by omega), c 12 (by omega) (by omega) (by omega) (by omega), c 49 (by omega) (by omega) (by omega) (by omega)]
  have est : nSt σ = nSt r := by
    unfold nSt
    rw [c 9 (by omega) (by omega) (by omega) (by omega)]
  have ewb : ∀ p, wbF σ p = wbF r p := fun p => by
    unfold wbF
    rw [e11]
    refine sumF_congr _ _ fun j j0 j1 => ?_
    try dsimp only
    rw [c (88 + j) (by omega) (by omega) (by omega) (by omega), c (83 + j) (by omega) (by omega) (by omega) (by omega)]
  have emh : ∀ p, mhF σ p = mhF r p := fun p => by
    unfold mhF
    rw [e11]
    refine sumF_congr _ _ fun j j0 j1 => ?_
    try dsimp only
    have := hl j j0 (by omega)
    rw [c (88 + j) (by omega) (by omega) (by omega) (by omega), c (83 + j) (by omega) (by omega) (by omega) (by omega), he (93 + j) (by omega) (by omega) (by omega), c (25 + r (93 + j)) (by omega) (by omega) (by omega) (by omega)]
  have eS : ∀ i, i ≤ r 9 → stopsF σ i = stopsF r i := fun i hi => hpl.stops (by omega)
  have elo : ∀ i, i ≤ r 9 → loF σ i = loF r i := fun i hi => by
    unfold loF wiF miF
    rw [eS i hi, ewb, ea1, hpl.bW hn (by omega), hpl.bM hn hP.2.2.2.2.2 hi, c 12 (by omega) (by omega) (by omega) (by omega), c 2 (by omega) (by omega) (by omega) (by omega)]
  have ehi : ∀ i, i ≤ r 9 → hiF σ i = hiF r i := fun i hi => by
    unfold hiF wiF miF
    rw [eS i hi, ewb, ea1, hpl.bW hn (by omega), hpl.bM hn hP.2.2.2.2.2 hi, c 12 (by omega) (by omega) (by omega) (by omega), c 3 (by omega) (by omega) (by omega) (by omega)]
  have emL : ∀ p, mLe σ (nSt r) p = mLe r (nSt r) p := fun p => by
    unfold mLe
    refine fld_congr _ _ _ fun i a i0 i1 => ?_
    unfold nSt at i1
    rw [eS i (by omega), elo i (by omega)]
  have emM : ∀ p, mMo σ (nSt r) p = mMo r (nSt r) p := fun p => by
    unfold mMo
    refine fld_congr _ _ _ fun i a i0 i1 => ?_
    unfold nSt at i1
    rw [eS i (by omega), ehi i (by omega)]
  have ekL : kLe σ 10 = kLe r 10 := by
    unfold kLe
    refine fld_congr _ _ _ fun i a i0 i1 => ?_
    rw [est, emL, emh, c 10 (by omega) (by omega) (by omega) (by omega)]
  have ekM : kMo σ 10 = kMo r 10 := by
    unfold kMo
    refine fld_congr _ _ _ fun i a i0 i1 => ?_
    rw [est, emM, emh, c 10 (by omega) (by omega) (by omega) (by omega)]
  have efr : frF σ = frF r := by unfold frF; rw [esl, eaL, ekL, ekM]
  have eto : toF σ = toF r := by unfold toF; rw [esl, eaM, ekL, ekM]
  have eok : okS σ ↔ okS r := by unfold okS; rw [esl, ekL, ekM]
  unfold keepE
  by_cases q : okS r ∧ frF r ≤ toF r
  · rw [if_pos q, if_pos ⟨eok.2 q.1, by rw [efr, eto]; exact q.2⟩, eco, efr, eto]
  · rw [if_neg q, if_neg (fun z => q ⟨eok.1 z.1, by have := z.2; rw [efr, eto] at this; exact this⟩)]
theorem LyS.set {r : Row} {k s : Int} (h : LyS r k) (hs : 0 ≤ s ∧ s < r 5) (hk : 0 ≤ k) : LyS (rset r (93 + k) s) (k + 1) := fun j j0 j1 => by
  rw [rset_ne (j := 5) (by omega)]
  by_cases e : j = k
  · rw [e, rset_eq]; exact hs
  · rw [rset_ne (by omega)]; exact h j j0 (by omega)
theorem wfP_set {r : Row} {k s : Int} (h : WFP r) (hk : 0 ≤ k) : WFP (rset r (93 + k) s) := by
  have hn := h.1
  unfold WFn at hn
  exact ((PlEq.rf r).set (by omega)).wfP h (by rw [rset_ne (by omega)]; omega) (by rw [rset_ne (by omega)]; omega)
/-- the table's rows don't see where pallets lie -/
theorem layE_inv : ∀ (n : Nat) (k : Int) (r σ : Row), WFP r → LyS r k → 0 ≤ k → k + n = r 11 → AgT k r σ → layE n k σ = layE n k r
  | 0, k, r, σ, hP, hl, hk, hkn, he => by
    obtain rfl : k = r 11 := by omega
    exact keep_congr hP hl he
  | n + 1, k, r, σ, hP, hl, hk, hkn, he => by
    have hn := hP.1
    unfold WFn at hn
    rw [layE, layE, he 5 (by omega) (by omega) (by omega)]
    refine catL_congr _ _ fun s s0 s1 => ?_
    rw [may_congr hP he ⟨hk, by omega⟩ ⟨s0, by omega⟩ hl]
    by_cases c : mayB r k s = true
    · rw [if_pos c, if_pos c]
      exact layE_inv n (k + 1) _ _ (wfP_set hP hk) (hl.set ⟨s0, by omega⟩ hk) (by omega) (by rw [rset_ne (by omega)]; omega) he.set
    · rw [if_neg c, if_neg c]
theorem TL_inv {ρ ρ' : Row} (hw : WFP ρ) (h : SameT ρ ρ') : TL ρ' = TL ρ := by
  have hn := hw.1
  unfold WFn at hn
  have he : AgT 0 ρ ρ' := fun j h1 h2 h3 => h j (by omega) h2 h3
  have c : ∀ j, 0 ≤ j → j < 93 → j ≠ 51 → j ≠ 52 → ρ' j = ρ j := fun j j0 j1 j2 j3 => he j (by omega) j2 j3
  unfold TL aMF aLF lim0 lim1
  rw [c 7 (by omega) (by omega) (by omega) (by omega), c 12 (by omega) (by omega) (by omega) (by omega), c 49 (by omega) (by omega) (by omega) (by omega), c 50 (by omega) (by omega) (by omega) (by omega), c 5 (by omega) (by omega) (by omega) (by omega), c 11 (by omega) (by omega) (by omega) (by omega)]
  rw [layE_inv (ρ 11).toNat 0 ρ ρ' hw (fun j j0 j1 => by omega) (by omega) (by omega) he]

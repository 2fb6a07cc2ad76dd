/-! 76.ring: who waits for whose place: rings, by a finite look at all of them (wip/whole/src/76_ring.py) -/
def rg (v k : Nat) : Nat := Nat.mod (Nat.div v (Nat.pow 8 k)) 8
theorem rg_eq (v k : Nat) : rg v k = v / 8 ^ k % 8 := rfl
/-- a number is worked out first -/
def stc {α : Type} (n : Nat) (f : Nat → α) : α := match n with
  | 0 => f 0
  | Nat.succ m => f (Nat.succ m)
theorem stc_eq {α : Type} (n : Nat) (f : Nat → α) : stc n f = f n := by cases n <;> rfl
def rmin (a b : Nat) : Nat := bif Nat.ble a b then a else b
def lorN (v k : Nat) : Nat → Nat → Nat → Nat
  | 0, _, _ => 7
  | n + 1, le, nx => stc (rg v nx) (fun r => bif Nat.beq r 7 then 7 else bif Nat.beq r k then rmin le r else lorN v k n (rmin le r) r)
def sumN (f : Nat → Nat) : Nat → Nat
  | 0 => 0
  | n + 1 => Nat.add (sumN f n) (f n)
def awN (v N : Nat) : Nat := sumN (fun k => bif Nat.beq (rg v k) k then 0 else bif Nat.beq (lorN v k N k k) k then 2 else 1) N
def nwD (v k j i : Nat) : Nat := bif Nat.beq i j then k else bif Nat.beq (rg v i) k then 7 else rg v i
def updN (v k j N : Nat) : Nat := sumN (fun i => Nat.mul (nwD v k j i) (Nat.pow 8 i)) N
def vaN (v N : Nat) : Bool := allN (fun k => (Nat.beq (rg v k) 7 || Nat.blt (rg v k) N) && allN (fun j => Nat.beq (rg v j) 7 || !Nat.beq (rg v j) (rg v k)) k) N
def onR (v k N : Nat) : Bool := !Nat.beq (lorN v k N k k) 7
def ch0 (v v' N k j : Nat) : Bool := Nat.ble (awN v N) (Nat.succ (awN v' N)) && (bif Nat.beq (awN v N) (Nat.succ (awN v' N)) then (!Nat.beq (rg v k) k && (Nat.beq j k || onR v k N)) else !(!Nat.beq (rg v k) k && (Nat.beq j k || onR v k N)))
def ch1 (v N k j : Nat) : Bool := stc (updN v k j N) (fun v' => ch0 v v' N k j)
def ch2 (v N : Nat) : Bool := Nat.beq (awN v N) 0 || !allN (fun k => Nat.beq (rg v k) k || !(Nat.beq (rg v k) 7 || onR v k N)) N
def ch3 (v N : Nat) : Bool := allN (fun k => !(Nat.beq (rg v k) 7 && allN (fun i => Nat.beq i k || !Nat.beq (rg v i) 7) N && allN (fun i => !Nat.beq (rg v i) k) N && Nat.blt 1 (awN v N)) || !allN (fun q => Nat.beq (rg v q) q || !onR v q N) N) N
def chB (N v : Nat) : Bool := !vaN v N || (allN (fun k => allN (fun j => !(Nat.beq j N || Nat.beq (rg v j) 7) || ch1 v N k j) (Nat.succ N)) N && (ch2 v N && (ch3 v N && Nat.ble (awN v N) 10)))
def chN (N v : Nat) : Bool := stc v (fun v => chB N v)
def alD (p : Nat → Bool) : Nat → Nat → Bool
  | 0, v => p v
  | n + 1, v => stc v (fun v => allN (fun d => alD p n (8 * v + d)) 8)
theorem alD_at {p : Nat → Bool} : ∀ (n w : Nat), alD p n w = true → ∀ v, w * 8 ^ n ≤ v → v < (w + 1) * 8 ^ n → p v = true
  | 0, w, h, v, h1, h2 => by
    obtain rfl : v = w := by simp at h1 h2; omega
    exact h
  | n + 1, w, h, v, h1, h2 => by
    rw [alD, stc_eq, allN_iff] at h
    have h8 : 8 ^ (n + 1) = 8 * 8 ^ n := by rw [Nat.pow_succ, Nat.mul_comm]
    have hp : 0 < 8 ^ n := Nat.pow_pos (by decide)
    have hd := Nat.div_add_mod v (8 ^ n)
    have hm := Nat.mod_lt v hp
    generalize hq : v / 8 ^ n = q at hd
    have e1 : 8 * w ≤ q := by
      rw [← hq, Nat.le_div_iff_mul_le hp]
      rw [h8] at h1
      calc 8 * w * 8 ^ n = w * (8 * 8 ^ n) := by rw [Nat.mul_comm 8 w, Nat.mul_assoc]
        _ ≤ v := h1
    have e2 : q < 8 * w + 8 := by
      rw [← hq, Nat.div_lt_iff_lt_mul hp]
      rw [h8] at h2
      calc v < (w + 1) * (8 * 8 ^ n) := h2
        _ = (8 * w + 8) * 8 ^ n := by rw [← Nat.mul_assoc, Nat.add_mul w 1 8, Nat.mul_comm w 8]
    have := alD_at n (8 * w + (q - 8 * w)) (h (q - 8 * w) (by omega)) v
    rw [show 8 * w + (q - 8 * w) = q by omega] at this
    refine this ?_ ?_
    · rw [Nat.mul_comm]; omega
    · rw [Nat.add_mul, Nat.mul_comm q]; omega
set_option maxRecDepth 100000 in
theorem ch_tab : ∀ N : Nat, N < 5 → alD (chN N) N 0 = true := by decide +kernel
set_option maxRecDepth 100000 in
theorem ch_tab0 : alD (chN 5) 4 0 = true := by decide +kernel
set_option maxRecDepth 100000 in
theorem ch_tab1 : alD (chN 5) 4 1 = true := by decide +kernel
set_option maxRecDepth 100000 in
theorem ch_tab2 : alD (chN 5) 4 2 = true := by decide +kernel
set_option maxRecDepth 100000 in
theorem ch_tab3 : alD (chN 5) 4 3 = true := by decide +kernel
set_option maxRecDepth 100000 in
theorem ch_tab4 : alD (chN 5) 4 4 = true := by decide +kernel
set_option maxRecDepth 100000 in
theorem ch_tab5 : alD (chN 5) 4 5 = true := by decide +kernel
set_option maxRecDepth 100000 in
theorem ch_tab6 : alD (chN 5) 4 6 = true := by decide +kernel
set_option maxRecDepth 100000 in
theorem ch_tab7 : alD (chN 5) 4 7 = true := by decide +kernel
theorem ch_at {N v : Nat} (hN : N < 6) (hv : v < 8 ^ N) : chB N v = true := by
  have key : chN N v = true := by
    by_cases c : N < 5
    · exact alD_at N 0 (ch_tab N c) v (by simp) (by simpa using hv)
    · obtain rfl : N = 5 := by omega
      have h8 : (8 : Nat) ^ 5 = 32768 := rfl
      have h4 : (8 : Nat) ^ 4 = 4096 := rfl
      rcases (show v / 4096 = 0 ∨ v / 4096 = 1 ∨ v / 4096 = 2 ∨ v / 4096 = 3 ∨ v / 4096 = 4 ∨ v / 4096 = 5 ∨ v / 4096 = 6 ∨ v / 4096 = 7 by omega) with h | h | h | h | h | h | h | h
      · exact alD_at 4 0 ch_tab0 v (by omega) (by omega)
      · exact alD_at 4 1 ch_tab1 v (by omega) (by omega)
      · exact alD_at 4 2 ch_tab2 v (by omega) (by omega)
      · exact alD_at 4 3 ch_tab3 v (by omega) (by omega)
      · exact alD_at 4 4 ch_tab4 v (by omega) (by omega)
      · exact alD_at 4 5 ch_tab5 v (by omega) (by omega)
      · exact alD_at 4 6 ch_tab6 v (by omega) (by omega)
      · exact alD_at 4 7 ch_tab7 v (by omega) (by omega)
  unfold chN at key
  rw [stc_eq] at key
  exact key
/-! the same of whole numbers -/
def lorF (f : Int → Int) (k : Int) : Nat → Int → Int → Int
  | 0, _, _ => -1
  | n + 1, le, nx => if f nx < 0 then -1 else if f nx = k then min le (f nx) else lorF f k n (min le (f nx)) (f nx)
def awF (f : Int → Int) (N : Int) : Int := sumF (fun k => if f k = k then 0 else if lorF f k N.toNat k k = k then 2 else 1) N.toNat 0
def PI (f : Int → Int) (N : Int) : Prop := (∀ k, 0 ≤ k → k < N → -1 ≤ f k ∧ f k < N) ∧ ∀ i j, 0 ≤ i → i < j → j < N → f i = f j → f i = -1
def En (v : Nat) (f : Int → Int) (N : Nat) : Prop := ∀ k : Nat, k < N → f k = (if rg v k = 7 then -1 else (rg v k : Int)) ∧ (rg v k = 7 ∨ rg v k < N)
theorem rmin_eq (a b : Nat) : ((rmin a b : Nat) : Int) = min (a : Int) (b : Int) := by
  unfold rmin
  by_cases h : a ≤ b
  · rw [Nat.ble_eq_true_of_le h]; simp only [cond_true]; omega
  · rw [show Nat.ble a b = false by rw [Bool.eq_false_iff]; intro e; exact h (Nat.le_of_ble_eq_true e)]; simp only [cond_false]; omega
theorem beq_d (a b : Nat) : Nat.beq a b = decide (a = b) := by
  by_cases h : a = b
  · subst h; simp
  · rw [decide_eq_false h, Bool.eq_false_iff]; intro e; exact h (Nat.eq_of_beq_eq_true e)
theorem ble_d (a b : Nat) : Nat.ble a b = decide (a ≤ b) := by
  by_cases h : a ≤ b
  · rw [Nat.ble_eq_true_of_le h, decide_eq_true h]
  · rw [decide_eq_false h, Bool.eq_false_iff]; intro e; exact h (Nat.le_of_ble_eq_true e)
theorem blt_d (a b : Nat) : Nat.blt a b = decide (a < b) := ble_d (a + 1) b
theorem lor_eq {v N : Nat} {f : Int → Int} (hN : N < 6) (h : En v f N) {k : Nat} (hk : k < N) : ∀ (n le nx : Nat), le < N → nx < N → lorF f k n le nx = (if lorN v k n le nx = 7 then -1 else (lorN v k n le nx : Int)) ∧ (lorN v k n le nx = 7 ∨ lorN v k n le nx < N)
  | 0, le, nx, _, _ => ⟨rfl, Or.inl rfl⟩
  | n + 1, le, nx, hl, hx => by
    obtain ⟨e, hr⟩ := h nx hx
    rw [lorF, lorN, stc_eq, beq_d, beq_d]
    by_cases c7 : rg v nx = 7
    · rw [if_pos c7] at e
      rw [if_pos (by omega), decide_eq_true c7]
      exact ⟨rfl, Or.inl rfl⟩
    · rw [if_neg c7] at e
      have hr := hr.resolve_left c7
      rw [if_neg (by omega), decide_eq_false c7]
      simp only [cond_false]
      have hm : rmin le (rg v nx) < N := by have := rmin_eq le (rg v nx); omega
      by_cases ck : rg v nx = k
      · rw [if_pos (by omega), decide_eq_true ck]
        simp only [cond_true]
        rw [if_neg (by omega), rmin_eq, e]
        exact ⟨rfl, Or.inr hm⟩
      · rw [if_neg (by omega), decide_eq_false ck]
        simp only [cond_false]
        rw [e, ← rmin_eq]
        exact lor_eq hN h hk n _ _ hm hr
theorem sumN_eq {f : Nat → Nat} {g : Int → Int} : ∀ n : Nat, (∀ k : Nat, k < n → g k = f k) → sumF g n 0 = (sumN f n : Int)
  | 0, _ => rfl
  | n + 1, h => by
    have := sumF_split g n 1 0
    rw [this, sumN_eq n (fun k hk => h k (by omega)), sumF, sumF, sumN, Nat.add_eq, show (0 : Int) + (n : Int) = n by omega, h n (by omega)]
    omega
theorem aw_eq {v N : Nat} {f : Int → Int} (hN : N < 6) (h : En v f N) : awF f N = (awN v N : Int) := by
  unfold awF awN
  rw [Int.toNat_natCast]
  refine sumN_eq N (fun k hk => ?_)
  obtain ⟨e, hr⟩ := h k hk
  obtain ⟨e2, hr2⟩ := lor_eq hN h hk N k k hk hk
  simp only [beq_d]
  by_cases ck : rg v k = k
  · rw [if_pos (by rw [e, if_neg (by omega)]; omega), decide_eq_true ck]; rfl
  · rw [if_neg (by rw [e]; split <;> omega), decide_eq_false ck]
    simp only [cond_false]
    by_cases cl : lorN v k N k k = k
    · rw [if_pos (by rw [e2, if_neg (by omega)]; omega), decide_eq_true cl]; rfl
    · rw [if_neg (by rw [e2]; split <;> omega), decide_eq_false cl]; rfl
theorem en_of {f : Int → Int} {N : Nat} (hN : N < 6) (h : ∀ k : Int, 0 ≤ k → k < N → -1 ≤ f k ∧ f k < N) : ∃ v, v < 8 ^ N ∧ En v f N := by
  obtain ⟨v, -, hv, hd⟩ := pack_val (f := fun k => if f k < 0 then 7 else f k) N (by omega) (fun k k0 k1 => by
    have := h k k0 k1
    try dsimp only
    split <;> omega)
  refine ⟨v, hv, fun k hk => ?_⟩
  have q := hd k hk
  have r := h k (by omega) (by omega)
  try dsimp only at q
  rw [rg_eq]
  by_cases c : f k < 0
  · rw [if_pos c] at q
    rw [if_pos (by omega)]
    exact ⟨by omega, Or.inl (by omega)⟩
  · rw [if_neg c] at q
    rw [if_neg (by omega)]
    exact ⟨by omega, Or.inr (by omega)⟩
theorem va_of {v N : Nat} {f : Int → Int} (h : En v f N) (hp : PI f N) : vaN v N = true := by
  unfold vaN
  rw [allN_iff]
  intro k hk
  obtain ⟨e, hr⟩ := h k hk
  rw [Bool.and_eq_true, allN_iff, beq_d, blt_d, Bool.or_eq_true, decide_eq_true_eq, decide_eq_true_eq]
  refine ⟨hr, fun j hj => ?_⟩
  obtain ⟨e2, hr2⟩ := h j (by omega)
  rw [beq_d, beq_d, Bool.or_eq_true, decide_eq_true_eq, Bool.not_eq_true', decide_eq_false_iff_not]
  by_cases c : rg v j = rg v k
  · have := hp.2 j k (by omega) (by omega) (by omega) (by rw [e, e2, c])
    rw [e2] at this
    by_cases c7 : rg v j = 7
    · exact Or.inl c7
    · rw [if_neg c7] at this; omega
  · exact Or.inr c
theorem nwD_8 (v k j i : Nat) (hk : k < 8) : nwD v k j i < 8 := by
  have : rg v i < 8 := Nat.mod_lt _ (by decide)
  unfold nwD
  cases Nat.beq i j <;> cases Nat.beq (rg v i) k <;> simp only [cond_true, cond_false] <;> omega
theorem upd_key (v k j : Nat) (hk : k < 8) : ∀ n : Nat, updN v k j n < 8 ^ n ∧ ∀ i : Nat, i < n → rg (updN v k j n) i = nwD v k j i
  | 0 => ⟨Nat.zero_lt_one, fun i hi => by omega⟩
  | n + 1 => by
    obtain ⟨h1, h2⟩ := upd_key v k j hk n
    have e : updN v k j (n + 1) = updN v k j n + nwD v k j n * 8 ^ n := rfl
    rw [e]
    have hd8 := nwD_8 v k j n hk
    generalize updN v k j n = S at h1 h2
    have h8 : 8 ^ (n + 1) = 8 ^ n * 8 := Nat.pow_succ ..
    have hp : 0 < 8 ^ n := Nat.pow_pos (by decide)
    refine ⟨?_, fun i hi => ?_⟩
    · have : nwD v k j n * 8 ^ n ≤ 7 * 8 ^ n := Nat.mul_le_mul_right _ (by omega)
      omega
    · by_cases c : i = n
      · subst c
        rw [rg_eq, Nat.add_mul_div_right _ _ hp, Nat.div_eq_of_lt h1, Nat.zero_add, Nat.mod_eq_of_lt hd8]
      · rw [← h2 i (by omega), rg_eq, rg_eq]
        have e3 : nwD v k j n * 8 ^ n = 8 ^ i * (8 * (nwD v k j n * 8 ^ (n - i - 1))) := by
          generalize nwD v k j n = D
          rw [show n = i + (1 + (n - i - 1)) by omega, Nat.pow_add, Nat.pow_add, show i + (1 + (n - i - 1)) - i - 1 = n - i - 1 by omega]
          simp only [Nat.pow_one]
          rw [Nat.mul_left_comm, Nat.mul_left_comm D]
        rw [e3, Nat.add_mul_div_left _ _ (Nat.pow_pos (by decide)), Nat.add_mul_mod_self_left]
theorem upd_en {v N k j : Nat} {f f' : Int → Int} (hN : N < 6) (h : En v f N) (hk : k < N) (h' : ∀ i : Nat, i < N → f' i = if i = j then (k : Int) else if f i = k then -1 else f i) : En (updN v k j N) f' N := by
  intro i hi
  obtain ⟨e, hr⟩ := h i hi
  rw [h' i hi, (upd_key v k j (by omega) N).2 i hi]
  unfold nwD
  rw [beq_d, beq_d]
  by_cases c1 : i = j
  · rw [if_pos c1, decide_eq_true c1]
    simp only [cond_true]
    rw [if_neg (by omega)]
    exact ⟨rfl, Or.inr hk⟩
  · rw [if_neg c1, decide_eq_false c1]
    simp only [cond_false]
    by_cases c2 : rg v i = k
    · rw [if_pos (by rw [e, if_neg (by omega), c2]), decide_eq_true c2]
      exact ⟨rfl, Or.inl rfl⟩
    · rw [if_neg (by rw [e]; split <;> omega), decide_eq_false c2]
      exact ⟨e, hr⟩
theorem on_lor {v N : Nat} {f : Int → Int} (hN : N < 6) (h : En v f N) {k : Nat} (hk : k < N) : onR v k N = decide (lorF f k N k k ≠ -1) := by
  obtain ⟨e, hr⟩ := lor_eq hN h hk N k k hk hk
  unfold onR
  rw [beq_d, e]
  by_cases c : lorN v k N k k = 7
  · rw [if_pos c, decide_eq_true c]; decide
  · rw [if_neg c, decide_eq_false c, decide_eq_true (by omega)]; rfl
/-- one pallet comes to an empty place -/
theorem ring_move {f f' : Int → Int} {N k j : Int} (hN : 0 ≤ N ∧ N ≤ 5) (hp : PI f N) (hk : 0 ≤ k ∧ k < N) (hj : j = N ∨ ((0 ≤ j ∧ j < N) ∧ f j = -1)) (h' : ∀ i, 0 ≤ i → i < N → f' i = if i = j then k else if f i = k then -1 else f i) : awF f N ≤ awF f' N + 1 ∧ (awF f N = awF f' N + 1 ↔ f k ≠ k ∧ (j = k ∨ lorF f k N.toNat k k ≠ -1)) := by
  obtain ⟨n, rfl⟩ := Int.eq_ofNat_of_zero_le hN.1
  obtain ⟨q, rfl⟩ := Int.eq_ofNat_of_zero_le hk.1
  obtain ⟨t, rfl⟩ := Int.eq_ofNat_of_zero_le (show 0 ≤ j by omega)
  obtain ⟨v, hv, he⟩ := en_of (N := n) (by omega) hp.1
  have hu := upd_en (f' := f') (j := t) (by omega) he (k := q) (by omega) (fun i hi => by
    rw [h' i (by omega) (by omega)]
    by_cases c : i = t
    · rw [if_pos (by omega), if_pos c]
    · rw [if_neg (by omega), if_neg c])
  have hc := ch_at (N := n) (by omega) hv
  unfold chB at hc
  rw [va_of he hp, Bool.not_true, Bool.false_or, Bool.and_eq_true, allN_iff] at hc
  have h1 := hc.1 q (by omega)
  rw [allN_iff] at h1
  have h1 := h1 t (by omega)
  have hg : (Nat.beq t n || Nat.beq (rg v t) 7) = true := by
    rw [beq_d, beq_d, Bool.or_eq_true, decide_eq_true_eq, decide_eq_true_eq]
    by_cases c : t = n
    · exact Or.inl c
    · have e := (he t (by omega)).1
      rcases hj with h | ⟨-, h⟩
      · omega
      · refine Or.inr ?_
        rw [h] at e
        by_cases c7 : rg v t = 7
        · exact c7
        · rw [if_neg c7] at e; omega
  rw [hg, Bool.not_true, Bool.false_or] at h1
  unfold ch1 at h1
  rw [stc_eq] at h1
  unfold ch0 at h1
  rw [Bool.and_eq_true, ble_d, decide_eq_true_eq, beq_d, beq_d, beq_d, on_lor (by omega) he (by omega)] at h1
  rw [aw_eq (by omega) he, aw_eq (by omega) hu]
  refine ⟨by omega, ?_⟩
  have ek : f q ≠ q ↔ rg v q ≠ q := by
    have e := (he q (by omega)).1
    rw [e]
    split <;> omega
  have h2 := h1.2
  rw [Int.toNat_natCast, ek]
  have h3 : (awN v n = awN (updN v q t n) n + 1) ↔ (rg v q ≠ q ∧ (t = q ∨ lorF f q n q q ≠ -1)) := by
    have e0 : ((!decide (rg v q = q) && (decide (t = q) || decide (lorF f q n q q ≠ -1))) = true) ↔ (rg v q ≠ q ∧ (t = q ∨ lorF f q n q q ≠ -1)) := by
      simp only [decide_eq_true_eq, Bool.and_eq_true, Bool.not_eq_true', decide_eq_false_iff_not, Bool.or_eq_true, ne_eq]
    rw [← e0]
    generalize (!decide (rg v q = q) && (decide (t = q) || decide (lorF f q n q q ≠ -1))) = B at h2
    by_cases c : awN v n = awN (updN v q t n) n + 1
    · rw [decide_eq_true c] at h2
      simp only [cond_true] at h2
      exact ⟨fun _ => h2, fun _ => c⟩
    · rw [decide_eq_false c] at h2
      simp only [cond_false] at h2
      exact ⟨fun e => absurd e c, fun e => by rw [e] at h2; cases h2⟩
  constructor
  · intro e
    have := h3.1 (by omega)
    exact ⟨this.1, this.2.imp (fun a => by omega) id⟩
  · rintro ⟨a, b⟩
    have := h3.2 ⟨a, b.imp (fun c => by omega) id⟩
    omega
theorem nall {q : Nat → Bool} {n : Nat} (h : (!allN q n) = true) : ∃ i, i < n ∧ q i = false := by
  by_cases c : ∃ i, i < n ∧ q i = false
  · exact c
  · have : allN q n = true := (allN_iff n).2 (fun i hi => by
      cases e : q i with
      | true => rfl
      | false => exact absurd ⟨i, hi, e⟩ c)
    rw [this] at h
    cases h
/-- as long as any lies elsewhere one of them can go on -/
theorem ring_some {f : Int → Int} {N : Int} (hN : 0 ≤ N ∧ N ≤ 5) (hp : PI f N) (ha : awF f N ≠ 0) : ∃ k, (0 ≤ k ∧ k < N) ∧ f k ≠ k ∧ (f k = -1 ∨ lorF f k N.toNat k k ≠ -1) := by
  obtain ⟨n, rfl⟩ := Int.eq_ofNat_of_zero_le hN.1
  obtain ⟨v, hv, he⟩ := en_of (N := n) (by omega) hp.1
  have hc := ch_at (N := n) (by omega) hv
  unfold chB at hc
  rw [va_of he hp, Bool.not_true, Bool.false_or, Bool.and_eq_true, Bool.and_eq_true] at hc
  have h2 := hc.2.1
  unfold ch2 at h2
  rw [aw_eq (by omega) he] at ha
  rw [beq_d, decide_eq_false (by omega), Bool.false_or] at h2
  obtain ⟨k, hk, e⟩ := nall h2
  rw [beq_d, beq_d, Bool.or_eq_false_iff, decide_eq_false_iff_not, on_lor (by omega) he hk, Bool.not_eq_false', Bool.or_eq_true, decide_eq_true_eq, decide_eq_true_eq] at e
  have ek := (he k hk).1
  refine ⟨k, by omega, ?_, ?_⟩
  · rw [ek]; split <;> omega
  · rw [Int.toNat_natCast]
    exact e.2.imp (fun c => by rw [ek, if_pos c]) id
/-- the last gap isn't shut without need -/
theorem ring_gap {f : Int → Int} {N k : Int} (hN : 0 ≤ N ∧ N ≤ 5) (hp : PI f N) (hk : 0 ≤ k ∧ k < N) (h1 : f k = -1) (h2 : ∀ i, 0 ≤ i → i < N → i ≠ k → f i ≠ -1) (h3 : ∀ i, 0 ≤ i → i < N → f i ≠ k) (ha : 1 < awF f N) : ∃ q, (0 ≤ q ∧ q < N) ∧ f q ≠ q ∧ lorF f q N.toNat q q ≠ -1 := by
  obtain ⟨n, rfl⟩ := Int.eq_ofNat_of_zero_le hN.1
  obtain ⟨q, rfl⟩ := Int.eq_ofNat_of_zero_le hk.1
  obtain ⟨v, hv, he⟩ := en_of (N := n) (by omega) hp.1
  have hc := ch_at (N := n) (by omega) hv
  unfold chB at hc
  rw [va_of he hp, Bool.not_true, Bool.false_or, Bool.and_eq_true, Bool.and_eq_true, Bool.and_eq_true] at hc
  have h4 := hc.2.2.1
  unfold ch3 at h4
  rw [allN_iff] at h4
  have h4 := h4 q (by omega)
  rw [aw_eq (by omega) he] at ha
  have g7 : ∀ i : Nat, i < n → (rg v i = 7 ↔ f i = -1) := fun i hi => by
    rw [(he i hi).1]
    split <;> omega
  have g1 : (Nat.beq (rg v q) 7 && allN (fun i => Nat.beq i q || !Nat.beq (rg v i) 7) n && allN (fun i => !Nat.beq (rg v i) q) n && Nat.blt 1 (awN v n)) = true := by
    rw [Bool.and_eq_true, Bool.and_eq_true, Bool.and_eq_true, allN_iff, allN_iff, blt_d, decide_eq_true_eq, beq_d, decide_eq_true_eq]
    refine ⟨⟨⟨(g7 q (by omega)).2 h1, fun i hi => ?_⟩, fun i hi => ?_⟩, by omega⟩
    · rw [beq_d, beq_d, Bool.or_eq_true, decide_eq_true_eq, Bool.not_eq_true', decide_eq_false_iff_not]
      by_cases c : i = q
      · exact Or.inl c
      · exact Or.inr (fun e => h2 i (by omega) (by omega) (by omega) ((g7 i hi).1 e))
    · rw [beq_d, Bool.not_eq_true', decide_eq_false_iff_not]
      intro e
      refine h3 i (by omega) (by omega) ?_
      rw [(he i hi).1, if_neg (by omega), e]
  rw [g1, Bool.not_true, Bool.false_or] at h4
  obtain ⟨k, hk, e⟩ := nall h4
  rw [beq_d, Bool.or_eq_false_iff, decide_eq_false_iff_not, on_lor (by omega) he hk, Bool.not_eq_false', decide_eq_true_eq] at e
  refine ⟨k, by omega, ?_, by rw [Int.toNat_natCast]; exact e.2⟩
  rw [(he k hk).1]
  split <;> omega
theorem aw_10 {f : Int → Int} {N : Int} (hN : 0 ≤ N ∧ N ≤ 5) (hp : PI f N) : 0 ≤ awF f N ∧ awF f N ≤ 10 := by
  obtain ⟨n, rfl⟩ := Int.eq_ofNat_of_zero_le hN.1
  obtain ⟨v, hv, he⟩ := en_of (N := n) (by omega) hp.1
  have hc := ch_at (N := n) (by omega) hv
  unfold chB at hc
  rw [va_of he hp, Bool.not_true, Bool.false_or, Bool.and_eq_true, Bool.and_eq_true, Bool.and_eq_true, ble_d, decide_eq_true_eq] at hc
  rw [aw_eq (by omega) he]
  omega
theorem aw_0 {f : Int → Int} {N : Int} (hN : 0 ≤ N) (h : ∀ k, 0 ≤ k → k < N → f k = k) : awF f N = 0 := sumF_zero _ _ fun j j0 j1 => by
  try dsimp only
  rw [if_pos (h j j0 (by omega))]
theorem aw_0' {f : Int → Int} {N : Int} (hN : 0 ≤ N) (h : awF f N = 0) : ∀ k, 0 ≤ k → k < N → f k = k := fun k k0 k1 => by
  have q := sumF_part (f := fun k => if f k = k then 0 else if lorF f k N.toNat k k = k then 2 else 1) (N := N) (k := k) ⟨k0, k1⟩ (fun j j0 j1 => by (try dsimp only); split <;> (try split) <;> omega)
  have q2 := sumF_ge (f := fun k => if f k = k then 0 else if lorF f k N.toNat k k = k then 2 else 1) k.toNat 0 (fun j j0 j1 => by (try dsimp only); split <;> (try split) <;> omega)
  unfold awF at h
  rw [h] at q
  by_cases c : f k = k
  · exact c
  · rw [if_neg c] at q
    split at q <;> omega
theorem lorF_congr {f g : Int → Int} {N k : Int} (hf : ∀ i, 0 ≤ i → i < N → f i = g i) (hr : ∀ i, 0 ≤ i → i < N → f i < N) : ∀ (n : Nat) (le nx : Int), 0 ≤ nx ∧ nx < N → lorF f k n le nx = lorF g k n le nx
  | 0, _, _, _ => rfl
  | n + 1, le, nx, h => by
    rw [lorF, lorF, ← hf nx h.1 h.2]
    have := hr nx h.1 h.2
    by_cases c : f nx < 0
    · rw [if_pos c, if_pos c]
    · rw [if_neg c, if_neg c, lorF_congr hf hr n _ _ ⟨by omega, by omega⟩]

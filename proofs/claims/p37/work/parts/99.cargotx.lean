/-! 99.cargotx: the law's cargo, as a text and as a row -/
def palTx (c : Int → Int) (k : Int) : List Int := [112, 97, 108, 108, 101, 116] ++ (32 :: (97 + k) :: 32 :: (dig (c (2 * k)) ++ 32 :: (dig (c (2 * k + 1)) ++ [59])))
def palsTx (c : Int → Int) : Nat → Int → List Int
  | 0, _ => []
  | m + 1, k => palTx c k ++ palsTx c m (k + 1)
theorem palsTx_snoc (c : Int → Int) : ∀ (m : Nat) (k : Int), palsTx c (m + 1) k = palsTx c m k ++ palTx c (k + (m : Int))
  | 0, k => by
    have e : k + ((0 : Nat) : Int) = k := by omega
    simp [palsTx]
  | m + 1, k => by
    have e : k + 1 + (m : Int) = k + ((m + 1 : Nat) : Int) := by omega
    rw [palsTx, palsTx_snoc c m (k + 1), palsTx, List.append_assoc, e]
theorem palTx_len (c : Int → Int) (k : Int) : (palTx c k).length ≤ 15 := by
  have d1 := dig_len (c (2 * k))
  have d2 := dig_len (c (2 * k + 1))
  unfold palTx
  simp only [List.length_append, List.length_cons, List.length_nil]
  omega
theorem palsTx_len (c : Int → Int) : ∀ (m : Nat) (k : Int), (palsTx c m k).length ≤ 15 * m
  | 0, k => by simp [palsTx]
  | m + 1, k => by
    have h1 := palTx_len c k
    have h2 := palsTx_len c m (k + 1)
    rw [palsTx, List.length_append]
    omega
def cargoTx (c : Int → Int) : List Int := palsTx c (c 11).toNat 0 ++ ([98, 117, 108, 107] ++ (32 :: (dig (c 10) ++ [59])))
/-- what is read, up to a pallet -/
def PQ (c : Int → Int) (k : Int) (C : CD) : Prop := C.1 11 = k ∧ C.2 = 0 ∧ ∀ j, 0 ≤ j → j < k → C.1 (83 + j) = c (2 * j) ∧ C.1 (88 + j) = c (2 * j + 1) ∧ C.1 (98 + j) = 1 ∧ C.1 (103 + 8 * j + 0) = 97 + j
theorem PQ.call {c : Int → Int} {k : Int} {C : CD} (h : PQ c k C) (hk : 0 ≤ k ∧ k < 5) : callF C.1 (97 + k - 96) = -1 := by
  obtain ⟨h1, h2, h3⟩ := h
  unfold callF
  rcases fnd_spec (p := fun j => decide (97 + k - 96 ≠ 0 ∧ pkF C.1 j = 97 + k - 96)) (C.1 11).toNat 0 with ⟨e, -⟩ | ⟨a, b, d, -⟩
  · exact e
  · exfalso
    generalize fnd (fun j => decide (97 + k - 96 ≠ 0 ∧ pkF C.1 j = 97 + k - 96)) (C.1 11).toNat 0 = r at a b d
    simp only [decide_eq_true_eq] at d
    have q := h3 r a (by omega)
    have e : pkF C.1 r = 1 + r := by
      unfold pkF pkN
      rw [q.2.2.1]
      show 0 * 32 + (C.1 (103 + 8 * r + 0) - 96) = 1 + r
      rw [q.2.2.2]
      omega
    omega
theorem PQ.step {c : Int → Int} {k x : Int} {C : CD} {T : Tq} (h : PQ c k C) (hk : 0 ≤ k ∧ k < 5) (hx : T.1 (x + 1) = 97 + k) {pl : Int} : PQ c (k + 1) (addPal C.1 T (x + 1 + 1, x + 1, 1, 0, pl) (c (2 * k)) (c (2 * k + 1)), C.2) := by
  obtain ⟨h1, h2, h3⟩ := h
  have h5 : 0 ≤ C.1 11 ∧ C.1 11 < 5 := by omega
  refine ⟨?_, h2, fun j j0 j1 => ?_⟩
  · dsimp only
    rw [addPal_11, h1]
  · dsimp only
    by_cases e : j = k
    · have q := addPal_new (T := T) (τ := (x + 1 + 1, x + 1, 1, 0, pl)) (w := c (2 * k)) (s := c (2 * k + 1)) h5
      rw [h1] at q
      subst e
      have e1 : x + 1 + 1 - (x + 1) = 1 := by omega
      refine ⟨q.1, q.2.1, ?_, ?_⟩
      · rw [q.2.2.1]
        exact e1
      · rw [q.2.2.2 0 (by omega) (by omega)]
        show (if (0 : Int) < x + 1 + 1 - (x + 1) then T.1 (x + 1 + 0) else 0) = _
        rw [if_pos (by omega), Int.add_zero, hx]
    · have q := addPal_old (T := T) (τ := (x + 1 + 1, x + 1, 1, 0, pl)) (w := c (2 * k)) (s := c (2 * k + 1)) h5 (k := j) (by omega)
      have q3 := h3 j j0 (by omega)
      refine ⟨q.1.trans q3.1, q.2.1.trans q3.2.1, q.2.2.1.trans q3.2.2.1, (q.2.2.2 0 (by omega) (by omega)).trans q3.2.2.2⟩
theorem pals_read {T : Tq} {c : Int → Int} (N : Nat) : ∀ (m : Nat) (k : Int) (σ : Sg) (C : CD) (r : List Int), At T σ (palsTx c m k ++ r) → PQ c k C → 0 ≤ k → k + (m : Int) ≤ 3 → (∀ j, k ≤ j → j < k + (m : Int) → (1 ≤ c (2 * j) ∧ c (2 * j) ≤ 32) ∧ (1 ≤ c (2 * j + 1) ∧ c (2 * j + 1) ≤ 3)) → ∃ τ C', loopC T (N + m) σ C = loopC T N τ C' ∧ At T τ r ∧ PQ c (k + (m : Int)) C'
  | 0, k, σ, C, r, h, hQ, _, _, _ => ⟨σ, C, rfl, h, by rw [show k + ((0 : Nat) : Int) = k by omega]; exact hQ⟩
  | m + 1, k, σ, C, r, h, hQ, h0, h3, hb => by
    have h' : At T σ ([112, 97, 108, 108, 101, 116] ++ (32 :: (97 + k) :: 32 :: (dig (c (2 * k)) ++ 32 :: (dig (c (2 * k + 1)) ++ 59 :: (palsTx c m (k + 1) ++ r))))) := by
      have e : palsTx c (m + 1) k ++ r = [112, 97, 108, 108, 101, 116] ++ (32 :: (97 + k) :: 32 :: (dig (c (2 * k)) ++ 32 :: (dig (c (2 * k + 1)) ++ 59 :: (palsTx c m (k + 1) ++ r)))) := by
        simp only [palsTx, palTx, List.append_assoc, List.cons_append, List.nil_append]
      rw [← e]
      exact h
    have hbk := hb k (by omega) (by omega)
    obtain ⟨τ, C', e1, a1, q1⟩ := tx_loopC (n := N + m) (L := palL) (Q := PQ c (k + 1)) h' rfl (by simp) (by decide) rfl (fun σ c => ln_9 c) (fun σ h => by
      have q := tx_pal h (C := C) (by simp only [isSm, decide_eq_true_eq]; omega) (by omega) (by omega) (by rw [hQ.1]; omega) (hQ.call (by omega))
      refine ⟨q.1, ?_⟩
      rw [q.2]
      exact hQ.step (by omega) h.2.tl.hd)
    obtain ⟨τ2, C2, e2, a2, q2⟩ := pals_read N m (k + 1) τ C' r a1 q1 (by omega) (by omega) (fun j j0 j1 => hb j (by omega) (by omega))
    refine ⟨τ2, C2, ?_, a2, ?_⟩
    · rw [← e2, ← e1]
      rfl
    · rw [show k + ((m + 1 : Nat) : Int) = k + 1 + (m : Int) by omega]
      exact q2
/-- the cargo as it is told -/
def CF (c : Int → Int) (ρ : Row) : Prop := ρ 11 = c 11 ∧ ρ 12 = c 10 ∧ ∀ j, 0 ≤ j → j < c 11 → ρ (83 + j) = c (2 * j) ∧ ρ (88 + j) = c (2 * j + 1)
theorem cargo_read {T : Tq} {z c : Int → Int} (hz : ZOK z) (hc : COK2 z c) (hT : T.2 ≤ 300) (h0 : At T (0, 0, 0, 0, 0) (cargoTx c)) : sE (cargoR T).1 = 0 ∧ CF c (cargoR T).2.1 := by
  obtain ⟨⟨n0, n3⟩, hp, b0, b1⟩ := hc
  have z18 := hz.2.2.2.2.2.2.2.2.2.2.2.1
  have hQ0 : PQ c 0 C0 := ⟨rfl, rfl, fun j j0 j1 => by omega⟩
  unfold cargoTx at h0
  obtain ⟨τ, C, e1, a1, q1⟩ := pals_read (298 - (c 11).toNat + 1 + 1) (c 11).toNat 0 _ C0 _ h0 hQ0 (by omega) (by omega) (fun j j0 j1 => hp j j0 (by omega))
  have e0 : cargoR T = loopC T (298 - (c 11).toNat + 1 + 1 + (c 11).toNat) (0, 0, 0, 0, 0) C0 := by
    unfold cargoR beginC
    rw [if_neg (by omega)]
    congr 1
    omega
  obtain ⟨τ2, C2, e2, a2, q2⟩ := tx_loopC (r := []) (n := 298 - (c 11).toNat + 1) (L := bulkL) (Q := fun C' => C'.1 = rset C.1 12 (c 10)) a1 rfl (by simp) (by decide) rfl (fun σ c => ln_10 c) (fun σ h => by
    have q := tx_bulk h (C := C) (by omega) q1.2.1
    refine ⟨q.1, ?_⟩
    rw [q.2])
  obtain ⟨a, b⟩ := tx_fin a2
  rw [e0, e1, e2, loopC, if_neg (by rw [b]; simp)]
  refine ⟨a, ?_⟩
  show CF c C2.1
  rw [q2]
  have hn : (0 : Int) + ((c 11).toNat : Int) = c 11 := by omega
  rw [hn] at q1
  refine ⟨?_, ?_, fun j j0 j1 => ?_⟩
  · show (if (11 : Int) = 12 then c 10 else C.1 11) = c 11
    rw [if_neg (by omega), q1.1]
  · show (if (12 : Int) = 12 then c 10 else C.1 12) = c 10
    rw [if_pos rfl]
  · have q3 := q1.2.2 j j0 j1
    show (if 83 + j = 12 then c 10 else C.1 (83 + j)) = c (2 * j) ∧ (if 88 + j = 12 then c 10 else C.1 (88 + j)) = c (2 * j + 1)
    rw [if_neg (by omega), if_neg (by omega)]
    exact ⟨q3.1, q3.2.1⟩
theorem ZOK.le99 {z : Int → Int} (h : ZOK z) : ∀ j, 0 ≤ j → j < 23 → 0 ≤ z j ∧ z j ≤ 99 := by
  obtain ⟨b0, b1, b2, b3, b4, b5, hz6, hz7, bk, b16, b17, b18, b19, b20, b21, b22⟩ := h
  intro j j0 j1
  by_cases h8 : 8 ≤ j ∧ j < 12
  · have q := (bk (j - 8) (by omega) (by omega)).1
    rw [show 8 + (j - 8) = j by omega] at q
    omega
  by_cases h12 : 12 ≤ j ∧ j < 16
  · have q := (bk (j - 12) (by omega) (by omega)).2
    rw [show 12 + (j - 12) = j by omega] at q
    omega
  rcases (show j = 0 ∨ j = 1 ∨ j = 2 ∨ j = 3 ∨ j = 4 ∨ j = 5 ∨ j = 6 ∨ j = 7 ∨ j = 16 ∨ j = 17 ∨ j = 18 ∨ j = 19 ∨ j = 20 ∨ j = 21 ∨ j = 22 by omega) with e | e | e | e | e | e | e | e | e | e | e | e | e | e | e <;> rw [e] <;> omega
theorem ZOK.door {z : Int → Int} (h : ZOK z) : ∀ j, 6 ≤ j → j ≤ 7 → z j = 0 ∨ z j = 1 := by
  obtain ⟨b0, b1, b2, b3, b4, b5, hz6, hz7, -⟩ := h
  intro j j0 j1
  rcases (show j = 6 ∨ j = 7 by omega) with e | e <;> rw [e] <;> assumption
theorem lapp {a b : List Int} {n m : Nat} (h : a.length ≤ n) (hb : b.length ≤ m) : (a ++ b).length ≤ n + m := by
  rw [List.length_append]
  omega
theorem two_len (x y : Int) : (32 :: (dig x ++ 32 :: (dig y ++ [59]))).length ≤ 7 := by
  have d1 := dig_len x
  have d2 := dig_len y
  simp only [List.length_append, List.length_cons, List.length_nil]
  omega
theorem doorB_len (k : Int) : (32 :: (doorT k ++ [59])).length ≤ 7 := by
  have d1 := door_len k
  simp only [List.length_append, List.length_cons, List.length_nil]
  omega
theorem sent_at {bs : List Int} {q : Tq} (h2 : q.2 = (bs.length : Int)) (h : ∀ i : Nat, i < bs.length → q.1 (i : Int) = bs.getD i 0) : At q (0, 0, 0, 0, 0) bs := by
  refine ⟨rfl, Int.le_refl 0, ?_, fun i hi => ?_⟩
  · show 0 + (bs.length : Int) = q.2
    omega
  · show q.1 (0 + (i : Int)) = _
    rw [Int.zero_add]
    exact h i hi

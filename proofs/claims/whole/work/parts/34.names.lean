/-! 34.names: names as numbers, letters counted, who is called so (wip/whole/src/34_names.py) -/
def letters (f : Int → Int) (n : Nat) : Prop := ∀ i : Int, 0 ≤ i → i < n → 97 ≤ f i ∧ f i ≤ 122
theorem pkN_snoc (f : Int → Int) (n : Nat) : pkN f (n + 1) = pkN f n * 32 + (f n - 96) := by
  unfold pkN
  rw [fld_snoc, Int.zero_add]
theorem pkN_nn {f : Int → Int} : ∀ n : Nat, letters f n → 0 ≤ pkN f n ∧ (0 < n → 0 < pkN f n)
  | 0, _ => ⟨by simp [pkN, fld], fun h => absurd h (by omega)⟩
  | n + 1, h => by
    have a := pkN_nn (f := f) n (fun i h1 h2 => h i h1 (by omega))
    have b := h n (by omega) (by omega)
    rw [pkN_snoc]
    omega
theorem pkN_bd {f : Int → Int} : ∀ n : Nat, letters f n → pkN f n < 32 ^ n ∧ (0 < n → 32 ^ (n - 1) ≤ pkN f n)
  | 0, _ => ⟨by simp [pkN, fld], fun h => absurd h (by omega)⟩
  | n + 1, h => by
    have a := pkN_bd (f := f) n (fun i h1 h2 => h i h1 (by omega))
    have a2 := pkN_nn (f := f) n (fun i h1 h2 => h i h1 (by omega))
    have b := h n (by omega) (by omega)
    rw [pkN_snoc]
    have hp : (32 : Int) ^ (n + 1) = 32 ^ n * 32 := Int.pow_succ _ _
    refine ⟨by omega, fun _ => ?_⟩
    rw [Nat.add_sub_cancel]
    by_cases hn : n = 0
    · subst hn
      simp only [Int.pow_zero]
      omega
    · have a3 := a.2 (by omega)
      have hq : (32 : Int) ^ n = 32 ^ (n - 1) * 32 := by
        rw [show (32 : Int) ^ n = 32 ^ (n - 1 + 1) by rw [Nat.sub_add_cancel (by omega)]]
        exact Int.pow_succ _ _
      omega
theorem pkN_inj {f g : Int → Int} : ∀ n m : Nat, letters f n → letters g m → pkN f n = pkN g m → n = m ∧ ∀ i : Int, 0 ≤ i → i < n → f i = g i
  | 0, 0, _, _, _ => ⟨rfl, fun i h1 h2 => by omega⟩
  | 0, m + 1, _, h2, e => by
    have := (pkN_nn _ h2).2 (by omega)
    simp only [pkN, fld] at e this
    omega
  | n + 1, 0, h1, _, e => by
    have := (pkN_nn _ h1).2 (by omega)
    simp only [pkN, fld] at e this
    omega
  | n + 1, m + 1, h1, h2, e => by
    rw [pkN_snoc, pkN_snoc] at e
    have b := h1 n (by omega) (by omega)
    have c := h2 m (by omega) (by omega)
    obtain ⟨e1, e2⟩ := pkN_inj n m (fun i h3 h4 => h1 i h3 (by omega)) (fun i h3 h4 => h2 i h3 (by omega)) (by omega)
    subst e1
    refine ⟨rfl, fun i h3 h4 => ?_⟩
    by_cases hi : i = n
    · rw [hi]; omega
    · exact e2 i h3 (by omega)
theorem pkN_congr {f g : Int → Int} {n : Nat} (h : ∀ i : Int, 0 ≤ i → i < n → f i = g i) : pkN f n = pkN g n := by
  unfold pkN
  exact fld_congr _ _ _ fun j a h1 h2 => by rw [h j h1 (by omega)]
theorem fld_shift {α : Type} (f : Int → α → α) (a : Int) : ∀ (n : Nat) (k : Int) (v : α), fld (fun i v => f (a + i) v) n k v = fld f n (a + k) v
  | 0, _, _ => rfl
  | n + 1, k, v => by rw [fld, fld, fld_shift f a n (k + 1), Int.add_assoc]
theorem pkT_N (T : Tq) (a e : Int) : pkT T a e = pkN (fun i => T.1 (a + i)) (e - a).toNat := by
  unfold pkT pkN
  rw [show fld (fun i v => v * 32 + (T.1 i - 97 + 1)) (e - a).toNat a 0 = fld (fun i v => v * 32 + (T.1 (a + i) - 97 + 1)) (e - a).toNat 0 0 by rw [fld_shift (fun i v => v * 32 + (T.1 i - 97 + 1)), Int.add_zero]]
  exact fld_congr _ _ _ fun j a h1 h2 => by dsimp only; omega
theorem pk_lush {f : Int → Int} {n s : Nat} (h : letters f n) (hn : n ≤ 8) (hs : s < 8) : lushr (pkN f n) (5 * (s : Int)) = 0 ↔ n ≤ s := by
  have b1 := (pkN_nn n h).1
  obtain ⟨b2, b3⟩ := pkN_bd n h
  generalize pkN f n = x at *
  have hx : x < 9223372036854775808 := by
    have : n = 0 ∨ n = 1 ∨ n = 2 ∨ n = 3 ∨ n = 4 ∨ n = 5 ∨ n = 6 ∨ n = 7 ∨ n = 8 := by omega
    rcases this with rfl | rfl | rfl | rfl | rfl | rfl | rfl | rfl | rfl <;> omega
  rw [lushr_div ⟨b1, hx⟩ s hs]
  have h1 : n = 0 ∨ n = 1 ∨ n = 2 ∨ n = 3 ∨ n = 4 ∨ n = 5 ∨ n = 6 ∨ n = 7 ∨ n = 8 := by omega
  have h2 : s = 0 ∨ s = 1 ∨ s = 2 ∨ s = 3 ∨ s = 4 ∨ s = 5 ∨ s = 6 ∨ s = 7 := by omega
  rcases h1 with rfl | rfl | rfl | rfl | rfl | rfl | rfl | rfl | rfl <;> rcases h2 with rfl | rfl | rfl | rfl | rfl | rfl | rfl | rfl <;> simp only [Nat.reduceSub, Nat.reduceMul, Int.reducePow] at b2 b3 ⊢ <;> omega
theorem pk_letters {f : Int → Int} {n : Nat} (h : letters f n) (hn : n ≤ 8) : sumF (fun i => if lushr (pkN f n) (5 * i) = 0 then 0 else 1) 8 0 = (n : Int) := by
  rw [sumF_congr (g := fun i => if (n : Int) ≤ i then 0 else 1)]
  · simp only [sumF]
    have h1 : n = 0 ∨ n = 1 ∨ n = 2 ∨ n = 3 ∨ n = 4 ∨ n = 5 ∨ n = 6 ∨ n = 7 ∨ n = 8 := by omega
    rcases h1 with rfl | rfl | rfl | rfl | rfl | rfl | rfl | rfl | rfl <;> decide
  · intro j h1 h2
    obtain ⟨s, rfl⟩ := Int.eq_ofNat_of_zero_le h1
    try dsimp only
    have q := pk_lush h hn (s := s) (by omega)
    by_cases e : n ≤ s
    · rw [if_pos (q.2 e), if_pos (by omega)]
    · rw [if_neg (fun h => e (q.1 h)), if_neg (by omega)]
/-- a row's pallet's letters -/
theorem WF.let {ρ : Row} (hw : WFp ρ) {k : Int} (hk : 0 ≤ k ∧ k < ρ 11) : letters (fun i => ρ (103 + 8 * k + i)) (ρ (98 + k)).toNat ∧ (ρ (98 + k)).toNat ≤ 8 := by
  obtain ⟨-, -, -, h4, h5⟩ := hw k hk.1 hk.2
  exact ⟨fun i h1 h2 => (h5 i h1 (by omega)).1 (by omega), by omega⟩
def palOfF (ρ : Row) (b : Int → Int) (n : Int) : Int := fnd (fun k => decide (0 < n ∧ ρ (98 + k) = n) && allF (fun i => decide (ρ (103 + 8 * k + i) = b i)) n.toNat 0) (ρ 11).toNat 0
def callF (ρ : Row) (v : Int) : Int := fnd (fun k => decide (v ≠ 0 ∧ pkF ρ k = v)) (ρ 11).toNat 0
/-- names are the same just if their numbers are -/
theorem palOf_call {ρ : Row} (hw : WFp ρ) {b : Int → Int} {n : Nat} (hb : letters b n) (h0 : 0 < n) : palOfF ρ b n = callF ρ (pkN b n) := by
  unfold palOfF callF
  refine fnd_congr _ _ fun k h1 h2 => ?_
  obtain ⟨hl, hl8⟩ := WF.let hw ⟨h1, by omega⟩
  have hl0 := (hw k h1 (by omega)).2.2.2.1
  have hpos := (pkN_nn n hb).2 h0
  rw [Bool.eq_iff_iff, Bool.and_eq_true, decide_eq_true_eq, decide_eq_true_eq, allF_iff]
  constructor
  · rintro ⟨⟨-, e1⟩, e2⟩
    refine ⟨by omega, ?_⟩
    unfold pkF
    rw [show (ρ (98 + k)).toNat = n by omega]
    exact pkN_congr fun i h3 h4 => of_decide_eq_true (e2 i h3 (by omega))
  · rintro ⟨-, e⟩
    obtain ⟨e1, e2⟩ := pkN_inj _ _ hl hb e
    exact ⟨by omega, fun i h3 h4 => decide_eq_true (e2 i h3 (by omega))⟩
theorem palOf_none {ρ : Row} (hw : WFp ρ) {b : Int → Int} {n : Nat} (hb : ¬ letters b n) : palOfF ρ b n = -1 := by
  unfold palOfF
  rcases fnd_spec (p := fun k => decide (0 < (n : Int) ∧ ρ (98 + k) = n) && allF (fun i => decide (ρ (103 + 8 * k + i) = b i)) (n : Int).toNat 0) (ρ 11).toNat 0 with ⟨h1, -⟩ | ⟨h1, h2, h3, -⟩
  · exact h1
  · exfalso
    generalize fnd _ (ρ 11).toNat 0 = k at h1 h2 h3
    rw [Bool.and_eq_true, decide_eq_true_eq, allF_iff] at h3
    obtain ⟨⟨h4, h5⟩, h6⟩ := h3
    have hl := (WF.let hw ⟨h1, by omega⟩).1
    refine hb fun i i0 i1 => ?_
    rw [← of_decide_eq_true (h6 i i0 (by omega))]
    exact hl i i0 (by omega)
theorem callF_0 (ρ : Row) : callF ρ 0 = -1 := by
  unfold callF
  rcases fnd_spec (p := fun k => decide ((0 : Int) ≠ 0 ∧ pkF ρ k = 0)) (ρ 11).toNat 0 with ⟨h1, -⟩ | ⟨h1, h2, h3, -⟩
  · exact h1
  · exact absurd rfl (of_decide_eq_true h3).1
def namedF (G : Gh) : Int × Gh := (callF (gRow G) (pkC (gTp G, gTl G) 0 (gTl G)), setTap G (gTp G, 0))
/-- the bytes as the reference has them: letters are themselves -/
theorem byte_let {x y : Int} (hx : -128 ≤ x ∧ x < 128) (h : iand x 255 = y) (hy : 97 ≤ x ∧ x ≤ 122 ∨ 97 ≤ y ∧ y ≤ 122) : x = y := by
  have : ∀ v : Nat, v < 256 → (97 ≤ (v : Int) - 128 ∧ (v : Int) - 128 ≤ 122 ∨ 97 ≤ iand ((v : Int) - 128) 255 ∧ iand ((v : Int) - 128) 255 ≤ 122) → (v : Int) - 128 = iand ((v : Int) - 128) 255 := by decide +kernel
  have q := this (x + 128).toNat (by omega)
  rw [show (((x + 128).toNat : Nat) : Int) - 128 = x by omega] at q
  rw [← h] at hy ⊢
  exact q hy
theorem m_palletOf {sh : Sh} {μ : Mem} {a c len : Nat} {ρ : Row} {f0 w : Int} (ha : sh[a]? = some (20, 143)) (hc : sh[c]? = some (22, len)) (hr : μ.1 a = ρ) (hn : 0 ≤ ρ 11 ∧ ρ 11 ≤ 5) (hw : 0 ≤ w ∧ w ≤ 8) (hl : ∀ k, 0 ≤ k → k < ρ 11 → 0 ≤ ρ (98 + k) ∧ ρ (98 + k) ≤ 8) (h8 : ∀ k i, 0 ≤ k → k < ρ 11 → 0 ≤ i → i < 8 → -2147483648 ≤ ρ (103 + 8 * k + i) ∧ ρ (103 + 8 * k + i) < 2147483648) (hf : 0 ≤ f0 ∧ f0 + w ≤ len) (hlen : len ≤ 1000) (hb : ∀ i, 0 ≤ i → i < w → -128 ≤ μ.1 c (f0 + i) ∧ μ.1 c (f0 + i) < 128)  : FMet yX12_palletOf gX12_palletOf sh [vR a, vR c, vI f0, vI w] μ (some (vI (palOfF ρ (fun i => μ.1 c (f0 + i)) w))) μ := by
  have hbr := fun (i : Int) (h : 0 ≤ i ∧ i < w) => hb i h.1 h.2
  have lI : ∀ (f n : Nat) (k : Int) (k0 is : Int) (P : Option AV → Sh → Mem → Prop), n < f → 0 ≤ k → k + n = w → (0 ≤ k0 ∧ k0 < ρ 11) → (is = 0 ∨ is = 1) → (∀ o6, is = 0 ∨ allF (fun i => decide (ρ (103 + 8 * k0 + i) = μ.1 c (f0 + i))) n k = false → AW gX12_palletOf sh μ 0 0 83 [some (vR a), some (vR c), some (vI f0), some (vI w), some (vI k0), some (vI 0), o6] [] P) → (∀ o6, is = 1 → allF (fun i => decide (ρ (103 + 8 * k0 + i) = μ.1 c (f0 + i))) n k = true → AW gX12_palletOf sh μ 0 0 83 [some (vR a), some (vR c), some (vI f0), some (vI w), some (vI k0), some (vI 1), o6] [] P) → AW gX12_palletOf sh μ 0 0 37 [some (vR a), some (vR c), some (vI f0), some (vI w), some (vI k0), some (vI is), some (vI k)] [] P := by
    intro f
    induction f with
    | zero => intro n; intros; omega
    | succ f ih =>
      intro n k k0 is P hf hk hn2 hk0 h01 h0 h1
      refine r_iload dX12_palletOf_37 rfl ?_
      refine r_iload_n dX12_palletOf_39 rfl ?_
      refine q_icmp_ge (tgt := 83) dX12_palletOf_40 rfl (by omega) (by omega) (fun c40 => ?_) (fun c40 => ?_)
      · obtain rfl : n = 0 := by omega
        rcases h01 with rfl | rfl
        · exact h0 _ (Or.inl rfl)
        · exact h1 _ rfl rfl
      · refine r_iload dX12_palletOf_43 rfl ?_
        refine q_if_eq (tgt := 83) dX12_palletOf_45 rfl (by omega) (fun c45 => ?_) (fun c45 => ?_)
        · obtain rfl : is = 0 := by omega
          exact h0 _ (Or.inl rfl)
        · obtain ⟨q, rfl⟩ : ∃ q, n = q + 1 := ⟨n - 1, by omega⟩
          have hb := hbr k (by omega)
          have hb2 := h8 k0 k (by omega) (by omega) (by omega) (by omega)
          refine r_aload_n dX12_palletOf_48 rfl ?_
          refine r_bipush dX12_palletOf_49 (by decide) ?_
          refine r_bipush dX12_palletOf_51 (by decide) ?_
          refine r_iload dX12_palletOf_53 rfl ?_
          refine r_imul dX12_palletOf_55 ?_
          refine r_iadd dX12_palletOf_56 ?_
          refine r_iload dX12_palletOf_57 rfl ?_
          refine r_iadd dX12_palletOf_59 ?_
          refine r_iald dX12_palletOf_60 (by assumption) rfl (by omega) ?_
          rw [hr]
          refine r_aload_n dX12_palletOf_61 rfl ?_
          refine r_iload_n dX12_palletOf_62 rfl ?_
          refine r_iload dX12_palletOf_63 rfl ?_
          refine r_iadd dX12_palletOf_65 ?_
          refine r_bald dX12_palletOf_66 (by assumption) (Nat.ble_eq_true_of_le (by omega)) (by omega) ?_
          refine q_icmp_ne (tgt := 74) dX12_palletOf_67 rfl (by omega) (by omega) (fun c67 => ?_) (fun c67 => ?_)
          · refine r_iconst dX12_palletOf_74 ?_
            refine r_istore dX12_palletOf_75 rfl ?_
            refine r_iinc dX12_palletOf_77 rfl rfl ?_
            refine r_goto (tgt := 37) dX12_palletOf_80 rfl ?_
            first
              | (refine ih q (k + 1) k0 1 P (by omega) (by omega) (by omega) hk0 (Or.inr rfl) (fun o6 h => ?_) (fun o6 _ h => ?_)
                 · refine h0 o6 (Or.inr ?_)
                   rw [allF, if_pos (decide_eq_true c67)]
                   exact h.resolve_left (by decide)
                 · refine h1 o6 (by omega) ?_
                   rw [allF, if_pos (decide_eq_true c67)]
                   exact h)
              | (refine ih q (k + 1) k0 0 P (by omega) (by omega) (by omega) hk0 (Or.inl rfl) (fun o6 h => ?_) (fun o6 h _ => absurd h (by decide))
                 refine h0 o6 (Or.inr ?_)
                 rw [allF, if_neg (by rw [decide_eq_true_eq]; exact c67)])
          · refine r_iconst dX12_palletOf_70 ?_
            refine r_goto (tgt := 75) dX12_palletOf_71 rfl ?_
            refine r_istore dX12_palletOf_75 rfl ?_
            refine r_iinc dX12_palletOf_77 rfl rfl ?_
            refine r_goto (tgt := 37) dX12_palletOf_80 rfl ?_
            first
              | (refine ih q (k + 1) k0 1 P (by omega) (by omega) (by omega) hk0 (Or.inr rfl) (fun o6 h => ?_) (fun o6 _ h => ?_)
                 · refine h0 o6 (Or.inr ?_)
                   rw [allF, if_pos (decide_eq_true c67)]
                   exact h.resolve_left (by decide)
                 · refine h1 o6 (by omega) ?_
                   rw [allF, if_pos (decide_eq_true c67)]
                   exact h)
              | (refine ih q (k + 1) k0 0 P (by omega) (by omega) (by omega) hk0 (Or.inl rfl) (fun o6 h => ?_) (fun o6 h _ => absurd h (by decide))
                 refine h0 o6 (Or.inr ?_)
                 rw [allF, if_neg (by rw [decide_eq_true_eq]; exact c67)])
  have lO : ∀ (f n : Nat) (k : Int) (o5 o6 : Option AV), n < f → 0 ≤ k → k + n = ρ 11 → AW gX12_palletOf sh μ 0 0 3 [some (vR a), some (vR c), some (vI f0), some (vI w), some (vI k), o5, o6] [] (fun r2 sh2 μ2 => r2 = some (vI (fnd (fun k => decide (0 < w ∧ ρ (98 + k) = w) && allF (fun i => decide (ρ (103 + 8 * k + i) = μ.1 c (f0 + i))) w.toNat 0) n k)) ∧ sh2 = sh ∧ μ2 = μ) := by
    intro f
    induction f with
    | zero => intro n; intros; omega
    | succ f ih =>
      intro n k o5 o6 hf hk hn2
      refine r_iload dX12_palletOf_3 rfl ?_
      refine r_aload_n dX12_palletOf_5 rfl ?_
      refine r_bipush dX12_palletOf_6 (by decide) ?_
      refine r_iald dX12_palletOf_8 (by assumption) rfl (by omega) ?_
      rw [hr]
      refine q_icmp_ge (tgt := 97) dX12_palletOf_9 rfl (by omega) (by omega) (fun c9 => ?_) (fun c9 => ?_)
      · refine r_iconst dX12_palletOf_97 ?_
        refine r_ireturn dX12_palletOf_98 rfl rfl rfl ?_
        obtain rfl : n = 0 := by omega
        exact ⟨rfl, rfl, rfl⟩
      · obtain ⟨q, rfl⟩ : ∃ q, n = q + 1 := ⟨n - 1, by omega⟩
        have hlk := hl k (by omega) (by omega)
        refine r_iload_n dX12_palletOf_12 rfl ?_
        refine q_if_le (tgt := 31) dX12_palletOf_13 rfl (by omega) (fun c13 => ?_) (fun c13 => ?_)
        · have hz : ¬ (0 < w ∧ ρ (98 + k) = w) := by omega
          refine r_iconst dX12_palletOf_31 ?_
          refine r_istore dX12_palletOf_32 rfl ?_
          refine r_iconst dX12_palletOf_34 ?_
          refine r_istore dX12_palletOf_35 rfl ?_
          first
            | (refine lI _ w.toNat 0 k 0 _ (Nat.lt_succ_self _) (by omega) (by omega) (by omega) (Or.inl rfl) (fun o6 h => ?_) (fun o6 h _ => absurd h (by decide))
               rw [fnd, if_neg (by rw [decide_eq_false hz]; exact Bool.false_ne_true)]
               refine r_iload dX12_palletOf_83 rfl ?_
               refine q_if_eq (tgt := 91) dX12_palletOf_85 rfl (by omega) (fun c85 => ?_) (fun c85 => ?_)
               · refine r_iinc dX12_palletOf_91 rfl rfl ?_
                 refine r_goto (tgt := 3) dX12_palletOf_94 rfl ?_
                 exact ih q (k + 1) _ _ (by omega) (by omega) (by omega)
               · exact absurd rfl c85)
            | (refine lI _ w.toNat 0 k 1 _ (Nat.lt_succ_self _) (by omega) (by omega) (by omega) (Or.inr rfl) (fun o6 h => ?_) (fun o6 _ h => ?_)
               · rw [fnd, if_neg (by rw [decide_eq_true hz, Bool.true_and, h.resolve_left (by decide)]; exact Bool.false_ne_true)]
                 refine r_iload dX12_palletOf_83 rfl ?_
                 refine q_if_eq (tgt := 91) dX12_palletOf_85 rfl (by omega) (fun c85 => ?_) (fun c85 => ?_)
                 · refine r_iinc dX12_palletOf_91 rfl rfl ?_
                   refine r_goto (tgt := 3) dX12_palletOf_94 rfl ?_
                   exact ih q (k + 1) _ _ (by omega) (by omega) (by omega)
                 · exact absurd rfl c85
               · rw [fnd, if_pos (by rw [decide_eq_true hz, Bool.true_and, h])]
                 refine r_iload dX12_palletOf_83 rfl ?_
                 refine q_if_eq (tgt := 91) dX12_palletOf_85 rfl (by omega) (fun c85 => ?_) (fun c85 => ?_)
                 · exact absurd c85 (by decide)
                 · refine r_iload dX12_palletOf_88 rfl ?_
                   refine r_ireturn dX12_palletOf_90 rfl rfl rfl ?_
                   exact ⟨rfl, rfl, rfl⟩)
        · refine r_aload_n dX12_palletOf_16 rfl ?_
          refine r_bipush dX12_palletOf_17 (by decide) ?_
          refine r_iload dX12_palletOf_19 rfl ?_
          refine r_iadd dX12_palletOf_21 ?_
          refine r_iald dX12_palletOf_22 (by assumption) rfl (by omega) ?_
          rw [hr]
          refine r_iload_n dX12_palletOf_23 rfl ?_
          refine q_icmp_ne (tgt := 31) dX12_palletOf_24 rfl (by omega) (by omega) (fun c24 => ?_) (fun c24 => ?_)
          · have hz : ¬ (0 < w ∧ ρ (98 + k) = w) := by omega
            refine r_iconst dX12_palletOf_31 ?_
            refine r_istore dX12_palletOf_32 rfl ?_
            refine r_iconst dX12_palletOf_34 ?_
            refine r_istore dX12_palletOf_35 rfl ?_
            first
              | (refine lI _ w.toNat 0 k 0 _ (Nat.lt_succ_self _) (by omega) (by omega) (by omega) (Or.inl rfl) (fun o6 h => ?_) (fun o6 h _ => absurd h (by decide))
                 rw [fnd, if_neg (by rw [decide_eq_false hz]; exact Bool.false_ne_true)]
                 refine r_iload dX12_palletOf_83 rfl ?_
                 refine q_if_eq (tgt := 91) dX12_palletOf_85 rfl (by omega) (fun c85 => ?_) (fun c85 => ?_)
                 · refine r_iinc dX12_palletOf_91 rfl rfl ?_
                   refine r_goto (tgt := 3) dX12_palletOf_94 rfl ?_
                   exact ih q (k + 1) _ _ (by omega) (by omega) (by omega)
                 · exact absurd rfl c85)
              | (refine lI _ w.toNat 0 k 1 _ (Nat.lt_succ_self _) (by omega) (by omega) (by omega) (Or.inr rfl) (fun o6 h => ?_) (fun o6 _ h => ?_)
                 · rw [fnd, if_neg (by rw [decide_eq_true hz, Bool.true_and, h.resolve_left (by decide)]; exact Bool.false_ne_true)]
                   refine r_iload dX12_palletOf_83 rfl ?_
                   refine q_if_eq (tgt := 91) dX12_palletOf_85 rfl (by omega) (fun c85 => ?_) (fun c85 => ?_)
                   · refine r_iinc dX12_palletOf_91 rfl rfl ?_
                     refine r_goto (tgt := 3) dX12_palletOf_94 rfl ?_
                     exact ih q (k + 1) _ _ (by omega) (by omega) (by omega)
                   · exact absurd rfl c85
                 · rw [fnd, if_pos (by rw [decide_eq_true hz, Bool.true_and, h])]
                   refine r_iload dX12_palletOf_83 rfl ?_
                   refine q_if_eq (tgt := 91) dX12_palletOf_85 rfl (by omega) (fun c85 => ?_) (fun c85 => ?_)
                   · exact absurd c85 (by decide)
                   · refine r_iload dX12_palletOf_88 rfl ?_
                     refine r_ireturn dX12_palletOf_90 rfl rfl rfl ?_
                     exact ⟨rfl, rfl, rfl⟩)
          · have hz : 0 < w ∧ ρ (98 + k) = w := by omega
            refine r_iconst dX12_palletOf_27 ?_
            refine r_goto (tgt := 32) dX12_palletOf_28 rfl ?_
            refine r_istore dX12_palletOf_32 rfl ?_
            refine r_iconst dX12_palletOf_34 ?_
            refine r_istore dX12_palletOf_35 rfl ?_
            first
              | (refine lI _ w.toNat 0 k 0 _ (Nat.lt_succ_self _) (by omega) (by omega) (by omega) (Or.inl rfl) (fun o6 h => ?_) (fun o6 h _ => absurd h (by decide))
                 rw [fnd, if_neg (by rw [decide_eq_false hz]; exact Bool.false_ne_true)]
                 refine r_iload dX12_palletOf_83 rfl ?_
                 refine q_if_eq (tgt := 91) dX12_palletOf_85 rfl (by omega) (fun c85 => ?_) (fun c85 => ?_)
                 · refine r_iinc dX12_palletOf_91 rfl rfl ?_
                   refine r_goto (tgt := 3) dX12_palletOf_94 rfl ?_
                   exact ih q (k + 1) _ _ (by omega) (by omega) (by omega)
                 · exact absurd rfl c85)
              | (refine lI _ w.toNat 0 k 1 _ (Nat.lt_succ_self _) (by omega) (by omega) (by omega) (Or.inr rfl) (fun o6 h => ?_) (fun o6 _ h => ?_)
                 · rw [fnd, if_neg (by rw [decide_eq_true hz, Bool.true_and, h.resolve_left (by decide)]; exact Bool.false_ne_true)]
                   refine r_iload dX12_palletOf_83 rfl ?_
                   refine q_if_eq (tgt := 91) dX12_palletOf_85 rfl (by omega) (fun c85 => ?_) (fun c85 => ?_)
                   · refine r_iinc dX12_palletOf_91 rfl rfl ?_
                     refine r_goto (tgt := 3) dX12_palletOf_94 rfl ?_
                     exact ih q (k + 1) _ _ (by omega) (by omega) (by omega)
                   · exact absurd rfl c85
                 · rw [fnd, if_pos (by rw [decide_eq_true hz, Bool.true_and, h])]
                   refine r_iload dX12_palletOf_83 rfl ?_
                   refine q_if_eq (tgt := 91) dX12_palletOf_85 rfl (by omega) (fun c85 => ?_) (fun c85 => ?_)
                   · exact absurd c85 (by decide)
                   · refine r_iload dX12_palletOf_88 rfl ?_
                     refine r_ireturn dX12_palletOf_90 rfl rfl rfl ?_
                     exact ⟨rfl, rfl, rfl⟩)
  refine AMet.of (by decide) rfl (by decide) rfl ?_
  refine r_iconst dX12_palletOf_0 ?_
  refine r_istore dX12_palletOf_1 rfl ?_
  exact lO _ (ρ 11).toNat 0 _ _ (Nat.lt_succ_self _) (by omega) (by omega)
theorem pkC_eq {T : Tq} {a e : Int} (h : ¬ (a < 0 ∨ T.2 < e ∨ 8 < e - a)) : (letters (fun i => T.1 (a + i)) (e - a).toNat ∧ pkC T a e = pkN (fun i => T.1 (a + i)) (e - a).toNat) ∨ (¬ letters (fun i => T.1 (a + i)) (e - a).toNat ∧ pkC T a e = 0) := by
  unfold pkC
  rw [if_neg h]
  by_cases hl : allF (fun i => isSm (T.1 i)) (e - a).toNat a = true
  · rw [if_pos hl, pkT_N]
    rw [allF_iff] at hl
    exact Or.inl ⟨fun i h1 h2 => of_decide_eq_true (hl (a + i) (by omega) (by omega)), rfl⟩
  · rw [if_neg hl]
    refine Or.inr ⟨fun h2 => hl ?_, rfl⟩
    rw [allF_iff]
    intro i h3 h4
    have := h2 (i - a) (by omega) (by omega)
    dsimp only at this
    rw [show a + (i - a) = i by omega] at this
    exact decide_eq_true this
theorem pkN_63 {f : Int → Int} {n : Nat} (h : letters f n) (hn : n ≤ 8) : 0 ≤ pkN f n ∧ pkN f n < 1099511627776 := by
  have b1 := (pkN_nn n h).1
  obtain ⟨b2, -⟩ := pkN_bd n h
  have : n = 0 ∨ n = 1 ∨ n = 2 ∨ n = 3 ∨ n = 4 ∨ n = 5 ∨ n = 6 ∨ n = 7 ∨ n = 8 := by omega
  rcases this with rfl | rfl | rfl | rfl | rfl | rfl | rfl | rfl | rfl <;> simp only [Int.reducePow] at b2 <;> omega
theorem pkC_rng (T : Tq) (a e : Int) : 0 ≤ pkC T a e ∧ pkC T a e < 1099511627776 := by
  by_cases h : a < 0 ∨ T.2 < e ∨ 8 < e - a
  · unfold pkC
    rw [if_pos h]
    omega
  · rcases pkC_eq h with ⟨h1, h2⟩ | ⟨h1, h2⟩
    · rw [h2]
      exact pkN_63 h1 (by omega)
    · rw [h2]
      omega
theorem pkF_rng {ρ : Row} (hw : WFp ρ) {k : Int} (hk : 0 ≤ k ∧ k < ρ 11) : 0 ≤ pkF ρ k ∧ pkF ρ k < 1099511627776 := by
  obtain ⟨h1, h2⟩ := WF.let hw hk
  exact pkN_63 h1 h2
/-- whom the reference finds by bytes is whom the class finds by a number -/
theorem palOf_pk {ρ : Row} (hw : WFp ρ) {T : Tq} {b : Int → Int} {a e : Int} (h : ¬ (a < 0 ∨ T.2 < e ∨ 8 < e - a)) (hae : a ≤ e) (hb : ∀ i, 0 ≤ i → i < e - a → (-128 ≤ b i ∧ b i < 128) ∧ iand (b i) 255 = T.1 (a + i)) : palOfF ρ b (e - a) = callF ρ (pkC T a e) := by
  have hn : e - a = ((e - a).toNat : Int) := by omega
  by_cases h0 : e - a = 0
  · have h1 : palOfF ρ b (e - a) = -1 := by
      unfold palOfF
      rcases fnd_spec (p := fun k => decide (0 < e - a ∧ ρ (98 + k) = e - a) && allF (fun i => decide (ρ (103 + 8 * k + i) = b i)) (e - a).toNat 0) (ρ 11).toNat 0 with ⟨h1, -⟩ | ⟨h1, h2, h3, -⟩
      · exact h1
      · rw [Bool.and_eq_true, decide_eq_true_eq] at h3
        omega
    rw [h1]
    rcases pkC_eq h with ⟨-, h2⟩ | ⟨-, h2⟩
    · rw [h2, h0]
      exact (callF_0 ρ).symm
    · rw [h2]
      exact (callF_0 ρ).symm
  · rw [hn]
    rcases pkC_eq h with ⟨h1, h2⟩ | ⟨h1, h2⟩
    · have he : ∀ i : Int, 0 ≤ i → i < (e - a).toNat → b i = T.1 (a + i) := fun i i0 i1 => byte_let (hb i i0 (by omega)).1 (hb i i0 (by omega)).2 (Or.inr (h1 i i0 i1))
      rw [h2, palOf_call hw (fun i i0 i1 => by rw [he i i0 i1]; exact h1 i i0 i1) (by omega), pkN_congr he]
    · rw [h2, palOf_none hw (fun h3 => h1 fun i i0 i1 => by
        have q := hb i i0 (by omega)
        have := h3 i i0 i1
        show 97 ≤ T.1 (a + i) ∧ T.1 (a + i) ≤ 122
        rw [← byte_let q.1 q.2 (Or.inl this)]
        exact this)]
      exact (callF_0 ρ).symm
theorem InM.cutT {sh : Sh} {m : Nat} {μ μ2 : Mem} {G : Gh} (hI : InM sh m μ G) (kp : Kp (fun a => a ≠ m) μ μ2) (hR : μ2.2 = μ.2) {n : Int} (k7 : ∀ i, i ≠ 7 → i ≠ 8 → μ2.1 m i = μ.1 m i) (h7 : μ2.1 m 7 = n) (hn : 0 ≤ n ∧ n ≤ gTl G) : MS sh m μ μ2 (setTap G (gTp G, n)) := by
  obtain ⟨i0, ⟨i1, i2⟩, i3, ⟨i4, i5⟩, ⟨t1, t2, t3⟩, i7, i8⟩ := hI
  refine ⟨⟨by rw [hR]; exact i0, ⟨(kp _ (by (try dsimp only); omega)).1.trans i1, i2⟩, i3.mono (k7 5 (by decide) (by decide)) (kp _ (by (try dsimp only); omega)).1, ⟨i4.mono (kp _ (by (try dsimp only); omega)).1 (kp _ (by (try dsimp only); omega)).1, i5.mono (kp _ (by (try dsimp only); omega)).1 (kp _ (by (try dsimp only); omega)).1⟩, ⟨h7, ⟨hn.1, by show n ≤ (540 : Int); omega⟩, fun i j0 j1 => ?_⟩, (k7 14 (by decide) (by decide)).trans i7, i8.mono (k7 33 (by decide) (by decide)) (kp _ (by (try dsimp only); omega)).1⟩, kp.mono (fun q hq => by (try dsimp only at *); omega), ?_⟩
  · rw [(kp _ (by (try dsimp only); omega)).1]
    exact t3 i j0 (Int.lt_of_lt_of_le (show i < n from j1) (by omega))
  · exact hR
theorem m_named {sh : Sh} {μ : Mem} {m : Nat} {G : Gh} (hI : InM sh m μ G) (hw : WF (gRow G))  : IMet yX12_named gX12_named sh [vR m] μ (fun x μ2 => x = (namedF G).1 ∧ MS sh m μ μ2 (namedF G).2) := by
  have hM := hI.1
  obtain ⟨g0, f1, z1, f2, z2, f3, z3, f4, z4, f5, z5, f6, z6, f7, z7, f8, z8, f9, z9, f10, z10, f11, z11, f12, z12, f13, z13, f14, z14⟩ := id hM
  have u5 := hI.2.2.1.2.1
  have u8 := hI.2.2.1.1
  have hr := hI.2.1.1
  have t7 : μ.1 m 7 = gTl G := hI.2.2.2.2.1.1
  obtain ⟨t8, t9⟩ := hI.2.2.2.2.1.2
  have hrow : μ.1 (m + 1) = gRow G := hI.2.1.1
  have hM2 : IsModel sh (setI (setI μ m 8 (gTl G)) m 7 0).2.2 m := hM
  have hMS : MS sh m μ (setI (setI μ m 8 (gTl G)) m 7 0) (setTap G (gTp G, 0)) := hI.cutT (((Kp.rf _ μ).sI (by omega)).sI (by omega)) rfl (fun i h1 h2 => by rw [sI_nj h1, sI_nj h2]) sI_at (by omega)
  have hn := hw.1.1
  unfold WFn at hn
  refine AMet.of (by decide) rfl (by decide) rfl ?_
  refine r_aload_n dX12_named_0 rfl ?_
  refine r_aload_n dX12_named_1 rfl ?_
  refine r_getI dX12_named_2 fl_X12_59 rfl (by assumption) ?_
  rw [t7]
  refine r_putI dX12_named_5 fl_X12_70 (by assumption) ?_
  refine r_aload_n dX12_named_8 rfl ?_
  refine r_iconst dX12_named_9 ?_
  refine r_putI dX12_named_10 fl_X12_59 (by assumption) ?_
  refine r_aload_n dX12_named_13 rfl ?_
  refine r_getI dX12_named_14 fl_X12_70 rfl (by assumption) ?_
  simp (disch := omega) only [sI_nj, sI_at]
  refine r_bipush dX12_named_17 (by decide) ?_
  refine q_icmp_le (tgt := 26) dX12_named_19 rfl (by omega) (by omega) (fun c19 => ?_) (fun c19 => ?_)
  · refine r_aload_n dX12_named_26 rfl ?_
    refine r_getR dX12_named_27 fl_X12_7 rfl (by assumption) (by assumption) ?_
    refine r_aload_n dX12_named_30 rfl ?_
    refine r_getR dX12_named_31 fl_X12_26 rfl (by assumption) (by assumption) ?_
    refine r_iconst dX12_named_34 ?_
    refine r_aload_n dX12_named_35 rfl ?_
    refine r_getI dX12_named_36 fl_X12_70 rfl (by assumption) ?_
    simp (disch := omega) only [sI_nj, sI_at]
    refine r_cS4F1 dX12_named_39 ml_X12_194 yl_X12_palletOf ⟨rfl, rfl⟩ rfl rfl rfl rfl (m_palletOf (ρ := gRow G) z1 z6 ((setI_ne (by omega)).trans ((setI_ne (by omega)).trans hrow)) (by omega) (by omega) (fun k k0 k1 => (hw.2.2.1 k k0 k1).2.2.2.1) (fun k i k0 k1 i0 i1 => (by have q := (hw.2.2.1 k k0 k1).2.2.2.2 i i0 i1; have q2 := (hw.2.2.1 k k0 k1).2.2.2.1; omega)) (by omega) (by omega) (fun i i0 i1 => (by rw [sI_ne (by omega), sI_ne (by omega), Int.zero_add]; exact (t9 i i0 (by omega)).1))) ?_
    refine r_ireturn dX12_named_42 rfl rfl rfl ?_
    refine ⟨rfl, _, rfl, ?_, hMS⟩
    unfold namedF
    first
      | (have hz : pkC (gTp G, gTl G) 0 (gTl G) = 0 := by unfold pkC; rw [if_pos (by omega)]
         rw [hz, callF_0]; done)
      | (have h := palOf_pk (b := fun i => μ.1 (m + 6) i) hw.2.2.1 (T := (gTp G, gTl G)) (a := 0) (e := gTl G) (by (try dsimp only); omega) (by omega) (fun i i0 i1 => by rw [Int.zero_add]; exact t9 i i0 (by omega))
         rw [Int.sub_zero] at h
         rw [← h]
         congr 1
         funext i
         rw [Int.zero_add]
         simp (disch := omega) only [sI_ne])
  · refine r_iconst dX12_named_22 ?_
    refine r_goto (tgt := 42) dX12_named_23 rfl ?_
    refine r_ireturn dX12_named_42 rfl rfl rfl ?_
    refine ⟨rfl, _, rfl, ?_, hMS⟩
    unfold namedF
    first
      | (have hz : pkC (gTp G, gTl G) 0 (gTl G) = 0 := by unfold pkC; rw [if_pos (by omega)]
         rw [hz, callF_0]; done)
      | (have h := palOf_pk (b := fun i => μ.1 (m + 6) i) hw.2.2.1 (T := (gTp G, gTl G)) (a := 0) (e := gTl G) (by (try dsimp only); omega) (by omega) (fun i i0 i1 => by rw [Int.zero_add]; exact t9 i i0 (by omega))
         rw [Int.sub_zero] at h
         rw [← h]
         congr 1
         funext i
         rw [Int.zero_add]
         simp (disch := omega) only [sI_ne])
theorem x_named {μ : Mem} {G : Gh} {p pd c cd : Nat} (hX : InX μ G p pd c cd)  : IMet yX11_named gX11_named SH [vR 0] μ (fun x μ2 => x = (namedF G).1 ∧ XS μ μ2 G (namedF G).2 p pd c cd) := by
  obtain ⟨hL, hPos, ⟨hP, hC, hw, h99⟩, hH, ⟨hi0, hi1⟩, hT, hFk, hTm⟩ := id hX
  obtain ⟨hp0, hc0, r2, r3, r4, r5⟩ := id hPos
  have rr0 := hL.r0_0
  have rr6 := hL.r0_6
  have rr7 := hL.r0_7
  have rr8 := hL.r0_8
  have rr9 := hL.r0_9
  have rr10 := hL.r0_10
  have rt := hL.r1_0
  have x0 : SH[0]? = some (10, 11) := rfl
  have x1 : SH[1]? = some (6, 4) := rfl
  have x2 : SH[2]? = some (8, 7) := rfl
  have x62 : SH[62]? = some (2, 3) := rfl
  have x172 : SH[172]? = some (7, 15) := rfl
  obtain ⟨hIC, e0, e5, e51, e52, eC⟩ := id hC
  obtain ⟨h0, h1, h2, h3, h4, h6, s1, s2, s3, s4, s5⟩ := id hIC
  obtain ⟨hIP, p0, p1, p2, p3, p4, pb, hF, hV⟩ := id hP
  obtain ⟨i0, i5, i6, i7, i8, j1, j2, hIF0, hIV0⟩ := id hIP
  have hIF1 := hIF0.1
  have hIV1 := hIV0.1
  have hn := hw.1.1
  unfold WFn at hn
  have hwl := hw.wl
  have hc5 : c = 50 ∨ c = 56 := by omega
  have t1 := hT.1
  have t2 := hT.2.1
  have hw0 : wTok μ (μ.1 2 6, μ.1 2 5, μ.1 2 4, μ.1 2 2, μ.1 2 3) = μ := wt_eta rfl rfl rfl rfl rfl
  have hpk := x_packed (μ := μ) (T := (gTp G, gTl G)) (σ := (μ.1 2 6, μ.1 2 5, μ.1 2 4, μ.1 2 2, μ.1 2 3)) (a := 0) (e := gTl G) hL hT (by omega) (by omega) (by omega)
  rw [hw0] at hpk
  have hv := pkC_rng (gTp G, gTl G) 0 (gTl G)
  refine AMet.of (by decide) rfl (by decide) rfl ?_
  refine r_aload_n dX11_named_0 rfl ?_
  refine r_getR dX11_named_1 fl_X11_10 rfl (by assumption) (by assumption) ?_
  refine r_getR dX11_named_4 fl_X11_67 rfl (by assumption) (by assumption) ?_
  refine r_astore_n dX11_named_7 rfl ?_
  refine r_aload_n dX11_named_8 rfl ?_
  refine r_iconst dX11_named_9 ?_
  refine r_aload_n dX11_named_10 rfl ?_
  refine r_getI dX11_named_11 fl_X11_71 rfl (by assumption) ?_
  rw [t1]
  refine r_cV2F1 dX11_named_14 ml_X11_166 yl_X9_packed ⟨rfl, rfl⟩ (by assumption) ⟨_, rfl⟩ rfl rfl rfl rfl (hpk) ?_
  refine r_lstore_n dX11_named_17 rfl ?_
  refine r_aload_n dX11_named_18 rfl ?_
  refine r_iconst dX11_named_19 ?_
  refine r_putI dX11_named_20 fl_X11_71 (by assumption) ?_
  refine r_aload_n dX11_named_23 rfl ?_
  refine r_getR dX11_named_24 fl_X11_29 rfl (by assumption) (by assumption) ?_
  refine r_lload_n dX11_named_27 rfl ?_
  refine r_cV1F1 dX11_named_28 ml_X11_170 yl_X0_called ⟨rfl, rfl⟩ (by assumption) ⟨_, rfl⟩ rfl rfl rfl rfl (c_called (μ := setI μ 2 1 0) (c := c) hIC (by omega) (by rw [sI_ne (by omega), e0]; omega) (fun k k0 k1 => by rw [sI_ne (by omega), e0] at k1; rw [sI_L, (eC k k0 k1).2.2.2]; have := pkF_rng hw.2.2.1 ⟨k0, k1⟩; omega)) ?_
  refine r_ireturn dX11_named_31 rfl rfl rfl ?_
  refine ⟨rfl, _, rfl, ?_, ?_⟩
  · unfold namedF callF
    rw [sI_ne (by omega), e0]
    exact fnd_congr _ _ fun k k0 k1 => by rw [sI_L, (eC k k0 (by omega)).2.2.2]
  · exact hX.tap (q := (gTp G, 0)) ((Kp.rf _ μ).sI (by (try dsimp only); omega)) rfl ⟨sI_at, by (try dsimp only); omega, fun i i0 i1 => absurd i1 (by (try dsimp only); omega)⟩
theorem x_pallet {μ : Mem} {G : Gh} {p pd c cd : Nat} (hX : InX μ G p pd c cd) {k w : Int} (hk0 : -2147483648 ≤ k ∧ k < 2147483648) (hw0 : -2147483648 ≤ w ∧ w < 2147483648)  : FMet yX11_pallet gX11_pallet SH [vR 0, vI k, vI w] μ (some (vI (palletF (gRow G) k w))) μ := by
  obtain ⟨hL, hPos, ⟨hP, hC, hw, h99⟩, hH, ⟨hi0, hi1⟩, hT, hFk, hTm⟩ := id hX
  obtain ⟨hp0, hc0, r2, r3, r4, r5⟩ := id hPos
  have rr0 := hL.r0_0
  have rr6 := hL.r0_6
  have rr7 := hL.r0_7
  have rr8 := hL.r0_8
  have rr9 := hL.r0_9
  have rr10 := hL.r0_10
  have rt := hL.r1_0
  have x0 : SH[0]? = some (10, 11) := rfl
  have x1 : SH[1]? = some (6, 4) := rfl
  have x2 : SH[2]? = some (8, 7) := rfl
  have x62 : SH[62]? = some (2, 3) := rfl
  have x172 : SH[172]? = some (7, 15) := rfl
  obtain ⟨hIC, e0, e5, e51, e52, eC⟩ := id hC
  obtain ⟨h0, h1, h2, h3, h4, h6, s1, s2, s3, s4, s5⟩ := id hIC
  obtain ⟨hIP, p0, p1, p2, p3, p4, pb, hF, hV⟩ := id hP
  obtain ⟨i0, i5, i6, i7, i8, j1, j2, hIF0, hIV0⟩ := id hIP
  have hIF1 := hIF0.1
  have hIV1 := hIV0.1
  have hn := hw.1.1
  unfold WFn at hn
  have hwl := hw.wl
  have hc5 : c = 50 ∨ c = 56 := by omega
  refine AMet.of (by decide) rfl (by decide) rfl ?_
  refine r_aload_n dX11_pallet_0 rfl ?_
  refine r_getR dX11_pallet_1 fl_X11_29 rfl (by assumption) (by assumption) ?_
  refine r_iload_n dX11_pallet_4 rfl ?_
  refine r_cV1F1 dX11_pallet_5 ml_X11_144 yl_X0_has ⟨rfl, rfl⟩ (by assumption) ⟨_, rfl⟩ rfl rfl rfl rfl (c_has hIC (by omega) (by omega)) ?_
  rw [e0]
  refine r_if_neB (tgt := 13) dX11_pallet_8 rfl (fun c8 => ?_) (fun c8 => ?_)
  · have c8 := of_decide_eq_true c8
    obtain ⟨q1, q2, q3, q4⟩ := eC k c8.1 c8.2
    refine r_iload_n dX11_pallet_13 rfl ?_
    rcases (show (w < 0 ∨ 3 < w) ∨ w = 0 ∨ w = 1 ∨ w = 2 ∨ w = 3 by omega) with s14 | s14 | s14 | s14 | s14
    · refine r_tableOut (tgt := 87) dX11_pallet_14 (by omega) s14 rfl ?_
      refine r_iconst dX11_pallet_87 ?_
      refine r_ireturn dX11_pallet_88 rfl rfl rfl ?_
      refine ⟨rI ?_, rfl, rfl⟩
      unfold palletF
      rw [if_pos c8]
      first
        | (rw [if_pos (by omega)]; assumption)
        | (rw [if_neg (by omega), if_pos (by omega)]; assumption)
        | (rw [if_neg (by omega), if_neg (by omega), if_pos (by omega)]; assumption)
        | (rw [if_neg (by omega), if_neg (by omega), if_neg (by omega), if_neg (by omega)])
    · subst s14
      refine r_tableIn (tgt := 44) dX11_pallet_14 (by decide) (by decide) (by decide) rfl rfl ?_
      refine r_aload_n dX11_pallet_44 rfl ?_
      refine r_getR dX11_pallet_45 fl_X11_29 rfl (by assumption) (by assumption) ?_
      refine r_getR dX11_pallet_48 fl_X11_148 rfl (by assumption) (by assumption) ?_
      refine r_iload_n dX11_pallet_51 rfl ?_
      refine r_iald dX11_pallet_52 (by assumption) rfl (by omega) ?_
      refine r_ireturn dX11_pallet_53 rfl rfl rfl ?_
      refine ⟨rI ?_, rfl, rfl⟩
      unfold palletF
      rw [if_pos c8]
      first
        | (rw [if_pos (by omega)]; assumption)
        | (rw [if_neg (by omega), if_pos (by omega)]; assumption)
        | (rw [if_neg (by omega), if_neg (by omega), if_pos (by omega)]; assumption)
        | (rw [if_neg (by omega), if_neg (by omega), if_neg (by omega), if_neg (by omega)])
    · subst s14
      refine r_tableIn (tgt := 54) dX11_pallet_14 (by decide) (by decide) (by decide) rfl rfl ?_
      refine r_aload_n dX11_pallet_54 rfl ?_
      refine r_getR dX11_pallet_55 fl_X11_29 rfl (by assumption) (by assumption) ?_
      refine r_getR dX11_pallet_58 fl_X11_152 rfl (by assumption) (by assumption) ?_
      refine r_iload_n dX11_pallet_61 rfl ?_
      refine r_iald dX11_pallet_62 (by assumption) rfl (by omega) ?_
      refine r_ireturn dX11_pallet_63 rfl rfl rfl ?_
      refine ⟨rI ?_, rfl, rfl⟩
      unfold palletF
      rw [if_pos c8]
      first
        | (rw [if_pos (by omega)]; assumption)
        | (rw [if_neg (by omega), if_pos (by omega)]; assumption)
        | (rw [if_neg (by omega), if_neg (by omega), if_pos (by omega)]; assumption)
        | (rw [if_neg (by omega), if_neg (by omega), if_neg (by omega), if_neg (by omega)])
    · subst s14
      refine r_tableIn (tgt := 64) dX11_pallet_14 (by decide) (by decide) (by decide) rfl rfl ?_
      refine r_aload_n dX11_pallet_64 rfl ?_
      refine r_getR dX11_pallet_65 fl_X11_29 rfl (by assumption) (by assumption) ?_
      refine r_getR dX11_pallet_68 fl_X11_155 rfl (by assumption) (by assumption) ?_
      refine r_iload_n dX11_pallet_71 rfl ?_
      refine r_iald dX11_pallet_72 (by assumption) rfl (by omega) ?_
      refine r_ireturn dX11_pallet_73 rfl rfl rfl ?_
      refine ⟨rI ?_, rfl, rfl⟩
      unfold palletF
      rw [if_pos c8]
      first
        | (rw [if_pos (by omega)]; assumption)
        | (rw [if_neg (by omega), if_pos (by omega)]; assumption)
        | (rw [if_neg (by omega), if_neg (by omega), if_pos (by omega)]; assumption)
        | (rw [if_neg (by omega), if_neg (by omega), if_neg (by omega), if_neg (by omega)])
    · subst s14
      refine r_tableIn (tgt := 74) dX11_pallet_14 (by decide) (by decide) (by decide) rfl rfl ?_
      refine r_aload_n dX11_pallet_74 rfl ?_
      refine r_getR dX11_pallet_75 fl_X11_29 rfl (by assumption) (by assumption) ?_
      refine r_getR dX11_pallet_78 fl_X11_158 rfl (by assumption) (by assumption) ?_
      refine r_iload_n dX11_pallet_81 rfl ?_
      refine r_lald dX11_pallet_82 (by assumption) rfl (by omega) ?_
      refine r_cS1F1 dX11_pallet_83 ml_X11_162 yl_X9_lettersOf ⟨rfl, rfl⟩ rfl rfl rfl rfl (x_lettersOf) ?_
      refine r_ireturn dX11_pallet_86 rfl rfl rfl ?_
      refine ⟨rI ?_, rfl, rfl⟩
      unfold palletF
      rw [if_pos c8, if_neg (by decide), if_neg (by decide), if_neg (by decide), if_pos rfl, q4]
      obtain ⟨l1, l2⟩ := WF.let hw.2.2.1 c8
      have hl0 := (hw.2.2.1 k c8.1 c8.2).2.2.2.1
      unfold pkF
      rw [pk_letters l1 l2]
      omega
  · have c8 := of_decide_eq_false c8
    refine r_iconst dX11_pallet_11 ?_
    refine r_ireturn dX11_pallet_12 rfl rfl rfl ?_
    refine ⟨rI ?_, rfl, rfl⟩
    unfold palletF
    rw [if_neg c8]

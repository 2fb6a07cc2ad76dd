/-! 34.names: taken from whole (wip/p37/port.py) -/
variable {n_ : Sh}
/-! 34.names: names as numbers, letters counted, who is called so (wip/whole/src/34_names.py) -/
def letters (f : Int → Int) (n : Nat) : Prop := ∀ i : Int, 0 ≤ i → i < n → 97 ≤ f i ∧ f i ≤ 122
theorem pkN_snoc (f : Int → Int) (n : Nat) : pkN f (n + 1) = pkN f n * 32 + (f n - 96) := by
  unfold pkN
  rw [fld_snoc, Int.zero_add]
theorem pkN_nn {f : Int → Int} : ∀ n : Nat, letters f n → 0 ≤ pkN f n ∧ (0 < n → 0 < pkN f n)
  | 0, _ => ⟨by simp [pkN, fld], fun h => absurd h (by omega)⟩
  | n + 1, h => by
    have a := pkN_nn (f := f) n (fun i h1 h2 => h i h1 (by omega))
    have b := h n (by omega) (by omega)
    rw [pkN_snoc]
    omega
theorem pkN_bd {f : Int → Int} : ∀ n : Nat, letters f n → pkN f n < 32 ^ n ∧ (0 < n → 32 ^ (n - 1) ≤ pkN f n)
  | 0, _ => ⟨by simp [pkN, fld], fun h => absurd h (by omega)⟩
  | n + 1, h => by
    have a := pkN_bd (f := f) n (fun i h1 h2 => h i h1 (by omega))
    have a2 := pkN_nn (f := f) n (fun i h1 h2 => h i h1 (by omega))
    have b := h n (by omega) (by omega)
    rw [pkN_snoc]
    have hp : (32 : Int) ^ (n + 1) = 32 ^ n * 32 := Int.pow_succ _ _
    refine ⟨by omega, fun _ => ?_⟩
    rw [Nat.add_sub_cancel]
    by_cases hn : n = 0
    · subst hn
      simp only [Int.pow_zero]
      omega
    · have a3 := a.2 (by omega)
      have hq : (32 : Int) ^ n = 32 ^ (n - 1) * 32 := by
        rw [show (32 : Int) ^ n = 32 ^ (n - 1 + 1) by rw [Nat.sub_add_cancel (by omega)]]
        exact Int.pow_succ _ _
      omega
theorem pkN_congr {f g : Int → Int} {n : Nat} (h : ∀ i : Int, 0 ≤ i → i < n → f i = g i) : pkN f n = pkN g n := by
  unfold pkN
  exact fld_congr _ _ _ fun j a h1 h2 => by rw [h j h1 (by omega)]
theorem fld_shift {α : Type} (f : Int → α → α) (a : Int) : ∀ (n : Nat) (k : Int) (v : α), fld (fun i v => f (a + i) v) n k v = fld f n (a + k) v
  | 0, _, _ => rfl
  | n + 1, k, v => by rw [fld, fld, fld_shift f a n (k + 1), Int.add_assoc]
theorem pkT_N (T : Tq) (a e : Int) : pkT T a e = pkN (fun i => T.1 (a + i)) (e - a).toNat := by
  unfold pkT pkN
  rw [show fld (fun i v => v * 32 + (T.1 i - 97 + 1)) (e - a).toNat a 0 = fld (fun i v => v * 32 + (T.1 (a + i) - 97 + 1)) (e - a).toNat 0 0 by rw [fld_shift (fun i v => v * 32 + (T.1 i - 97 + 1)), Int.add_zero]]
  exact fld_congr _ _ _ fun j a h1 h2 => by dsimp only; omega
theorem pk_lush {f : Int → Int} {n s : Nat} (h : letters f n) (hn : n ≤ 8) (hs : s < 8) : lushr (pkN f n) (5 * (s : Int)) = 0 ↔ n ≤ s := by
  have b1 := (pkN_nn n h).1
  obtain ⟨b2, b3⟩ := pkN_bd n h
  generalize pkN f n = x at *
  have hx : x < 9223372036854775808 := by
    have : n = 0 ∨ n = 1 ∨ n = 2 ∨ n = 3 ∨ n = 4 ∨ n = 5 ∨ n = 6 ∨ n = 7 ∨ n = 8 := by omega
    rcases this with rfl | rfl | rfl | rfl | rfl | rfl | rfl | rfl | rfl <;> omega
  rw [lushr_div ⟨b1, hx⟩ s hs]
  have h1 : n = 0 ∨ n = 1 ∨ n = 2 ∨ n = 3 ∨ n = 4 ∨ n = 5 ∨ n = 6 ∨ n = 7 ∨ n = 8 := by omega
  have h2 : s = 0 ∨ s = 1 ∨ s = 2 ∨ s = 3 ∨ s = 4 ∨ s = 5 ∨ s = 6 ∨ s = 7 := by omega
  rcases h1 with rfl | rfl | rfl | rfl | rfl | rfl | rfl | rfl | rfl <;> rcases h2 with rfl | rfl | rfl | rfl | rfl | rfl | rfl | rfl <;> simp only [Nat.reduceSub, Nat.reduceMul, Int.reducePow] at b2 b3 ⊢ <;> omega
theorem pk_letters {f : Int → Int} {n : Nat} (h : letters f n) (hn : n ≤ 8) : sumF (fun i => if lushr (pkN f n) (5 * i) = 0 then 0 else 1) 8 0 = (n : Int) := by
  rw [sumF_congr (g := fun i => if (n : Int) ≤ i then 0 else 1)]
  · simp only [sumF]
    have h1 : n = 0 ∨ n = 1 ∨ n = 2 ∨ n = 3 ∨ n = 4 ∨ n = 5 ∨ n = 6 ∨ n = 7 ∨ n = 8 := by omega
    rcases h1 with rfl | rfl | rfl | rfl | rfl | rfl | rfl | rfl | rfl <;> decide
  · intro j h1 h2
    obtain ⟨s, rfl⟩ := Int.eq_ofNat_of_zero_le h1
    try dsimp only
    have q := pk_lush h hn (s := s) (by omega)
    by_cases e : n ≤ s
    · rw [if_pos (q.2 e), if_pos (by omega)]
    · rw [if_neg (fun h => e (q.1 h)), if_neg (by omega)]
/-- a row's pallet's letters -/
theorem WF.let {ρ : Row} (hw : WFp ρ) {k : Int} (hk : 0 ≤ k ∧ k < ρ 11) : letters (fun i => ρ (103 + 8 * k + i)) (ρ (98 + k)).toNat ∧ (ρ (98 + k)).toNat ≤ 8 := by
  obtain ⟨-, -, -, h4, h5⟩ := hw k hk.1 hk.2
  exact ⟨fun i h1 h2 => (h5 i h1 (by omega)).1 (by omega), by omega⟩
def callF (ρ : Row) (v : Int) : Int := fnd (fun k => decide (v ≠ 0 ∧ pkF ρ k = v)) (ρ 11).toNat 0
theorem pkC_eq {T : Tq} {a e : Int} (h : ¬ (a < 0 ∨ T.2 < e ∨ 8 < e - a)) : (letters (fun i => T.1 (a + i)) (e - a).toNat ∧ pkC T a e = pkN (fun i => T.1 (a + i)) (e - a).toNat) ∨ (¬ letters (fun i => T.1 (a + i)) (e - a).toNat ∧ pkC T a e = 0) := by
  unfold pkC
  rw [if_neg h]
  by_cases hl : allF (fun i => isSm (T.1 i)) (e - a).toNat a = true
  · rw [if_pos hl, pkT_N]
    rw [allF_iff] at hl
    exact Or.inl ⟨fun i h1 h2 => of_decide_eq_true (hl (a + i) (by omega) (by omega)), rfl⟩
  · rw [if_neg hl]
    refine Or.inr ⟨fun h2 => hl ?_, rfl⟩
    rw [allF_iff]
    intro i h3 h4
    have := h2 (i - a) (by omega) (by omega)
    dsimp only at this
    rw [show a + (i - a) = i by omega] at this
    exact decide_eq_true this
theorem pkN_63 {f : Int → Int} {n : Nat} (h : letters f n) (hn : n ≤ 8) : 0 ≤ pkN f n ∧ pkN f n < 1099511627776 := by
  have b1 := (pkN_nn n h).1
  obtain ⟨b2, -⟩ := pkN_bd n h
  have : n = 0 ∨ n = 1 ∨ n = 2 ∨ n = 3 ∨ n = 4 ∨ n = 5 ∨ n = 6 ∨ n = 7 ∨ n = 8 := by omega
  rcases this with rfl | rfl | rfl | rfl | rfl | rfl | rfl | rfl | rfl <;> simp only [Int.reducePow] at b2 <;> omega
theorem pkC_rng (T : Tq) (a e : Int) : 0 ≤ pkC T a e ∧ pkC T a e < 1099511627776 := by
  by_cases h : a < 0 ∨ T.2 < e ∨ 8 < e - a
  · unfold pkC
    rw [if_pos h]
    omega
  · rcases pkC_eq h with ⟨h1, h2⟩ | ⟨h1, h2⟩
    · rw [h2]
      exact pkN_63 h1 (by omega)
    · rw [h2]
      omega
theorem pkF_rng {ρ : Row} (hw : WFp ρ) {k : Int} (hk : 0 ≤ k ∧ k < ρ 11) : 0 ≤ pkF ρ k ∧ pkF ρ k < 1099511627776 := by
  obtain ⟨h1, h2⟩ := WF.let hw hk
  exact pkN_63 h1 h2
theorem x_pallet {μ : Mem} {G : Gh} {p pd c cd : Nat} (hX : InX n_ μ G p pd c cd) {k w : Int} (hk0 : -2147483648 ≤ k ∧ k < 2147483648) (hw0 : -2147483648 ≤ w ∧ w < 2147483648)  : FMet yX11_pallet gX11_pallet (SH n_) [vR 0, vI k, vI w] μ (some (vI (palletF (gRow G) k w))) μ := by
  obtain ⟨hL, hPos, ⟨hP, hC, hw, h99⟩, hH, ⟨hi0, hi1⟩, hT, hFk, hTm⟩ := id hX
  obtain ⟨hp0, hc0, r2, r3, r4, r5⟩ := id hPos
  have rr0 := hL.r0_0
  have rr6 := hL.r0_6
  have rr7 := hL.r0_7
  have rr8 := hL.r0_8
  have rr9 := hL.r0_9
  have rr10 := hL.r0_10
  have rt := hL.r1_0
  have x0 : (SH n_)[0]? = some (10, 11) := rfl
  have x1 : (SH n_)[1]? = some (6, 4) := rfl
  have x2 : (SH n_)[2]? = some (8, 7) := rfl
  have x62 : (SH n_)[62]? = some (2, 3) := rfl
  have x172 : (SH n_)[172]? = some (7, 15) := rfl
  obtain ⟨hIC, e0, e5, e51, e52, eC⟩ := id hC
  obtain ⟨h0, h1, h2, h3, h4, h6, s1, s2, s3, s4, s5⟩ := id hIC
  obtain ⟨hIP, p0, p1, p2, p3, p4, pb, hF, hV⟩ := id hP
  obtain ⟨i0, i5, i6, i7, i8, j1, j2, hIF0, hIV0⟩ := id hIP
  have hIF1 := hIF0.1
  have hIV1 := hIV0.1
  have hn := hw.1.1
  unfold WFn at hn
  have hwl := hw.wl
  have hc5 : c = 50 ∨ c = 56 := by omega
  refine AMet.of (by decide) rfl (by decide) rfl ?_
  refine r_aload_n dX11_pallet_0 rfl ?_
  refine r_getR dX11_pallet_1 fl_X11_29 rfl (by assumption) (by assumption) ?_
  refine r_iload_n dX11_pallet_4 rfl ?_
  refine r_cV1F1 dX11_pallet_5 ml_X11_144 yl_X0_has ⟨rfl, rfl⟩ (by assumption) ⟨_, rfl⟩ rfl rfl rfl rfl (c_has hIC (by omega) (by omega)) ?_
  rw [e0]
  refine r_if_neB (tgt := 13) dX11_pallet_8 rfl (fun c8 => ?_) (fun c8 => ?_)
  · have c8 := of_decide_eq_true c8
    obtain ⟨q1, q2, q3, q4⟩ := eC k c8.1 c8.2
    refine r_iload_n dX11_pallet_13 rfl ?_
    rcases (show (w < 0 ∨ 3 < w) ∨ w = 0 ∨ w = 1 ∨ w = 2 ∨ w = 3 by omega) with s14 | s14 | s14 | s14 | s14
    · refine r_tableOut (tgt := 87) dX11_pallet_14 (by omega) s14 rfl ?_
      refine r_iconst dX11_pallet_87 ?_
      refine r_ireturn dX11_pallet_88 rfl rfl rfl ?_
      refine ⟨rI ?_, rfl, rfl⟩
      unfold palletF
      rw [if_pos c8]
      first
        | (rw [if_pos (by omega)]; assumption)
        | (rw [if_neg (by omega), if_pos (by omega)]; assumption)
        | (rw [if_neg (by omega), if_neg (by omega), if_pos (by omega)]; assumption)
        | (rw [if_neg (by omega), if_neg (by omega), if_neg (by omega), if_neg (by omega)])
    · subst s14
      refine r_tableIn (tgt := 44) dX11_pallet_14 (by decide) (by decide) (by decide) rfl rfl ?_
      refine r_aload_n dX11_pallet_44 rfl ?_
      refine r_getR dX11_pallet_45 fl_X11_29 rfl (by assumption) (by assumption) ?_
      refine r_getR dX11_pallet_48 fl_X11_148 rfl (by assumption) (by assumption) ?_
      refine r_iload_n dX11_pallet_51 rfl ?_
      refine r_iald dX11_pallet_52 (by assumption) rfl (by omega) ?_
      refine r_ireturn dX11_pallet_53 rfl rfl rfl ?_
      refine ⟨rI ?_, rfl, rfl⟩
      unfold palletF
      rw [if_pos c8]
      first
        | (rw [if_pos (by omega)]; assumption)
        | (rw [if_neg (by omega), if_pos (by omega)]; assumption)
        | (rw [if_neg (by omega), if_neg (by omega), if_pos (by omega)]; assumption)
        | (rw [if_neg (by omega), if_neg (by omega), if_neg (by omega), if_neg (by omega)])
    · subst s14
      refine r_tableIn (tgt := 54) dX11_pallet_14 (by decide) (by decide) (by decide) rfl rfl ?_
      refine r_aload_n dX11_pallet_54 rfl ?_
      refine r_getR dX11_pallet_55 fl_X11_29 rfl (by assumption) (by assumption) ?_
      refine r_getR dX11_pallet_58 fl_X11_152 rfl (by assumption) (by assumption) ?_
      refine r_iload_n dX11_pallet_61 rfl ?_
      refine r_iald dX11_pallet_62 (by assumption) rfl (by omega) ?_
      refine r_ireturn dX11_pallet_63 rfl rfl rfl ?_
      refine ⟨rI ?_, rfl, rfl⟩
      unfold palletF
      rw [if_pos c8]
      first
        | (rw [if_pos (by omega)]; assumption)
        | (rw [if_neg (by omega), if_pos (by omega)]; assumption)
        | (rw [if_neg (by omega), if_neg (by omega), if_pos (by omega)]; assumption)
        | (rw [if_neg (by omega), if_neg (by omega), if_neg (by omega), if_neg (by omega)])
    · subst s14
      refine r_tableIn (tgt := 64) dX11_pallet_14 (by decide) (by decide) (by decide) rfl rfl ?_
      refine r_aload_n dX11_pallet_64 rfl ?_
      refine r_getR dX11_pallet_65 fl_X11_29 rfl (by assumption) (by assumption) ?_
      refine r_getR dX11_pallet_68 fl_X11_155 rfl (by assumption) (by assumption) ?_
      refine r_iload_n dX11_pallet_71 rfl ?_
      refine r_iald dX11_pallet_72 (by assumption) rfl (by omega) ?_
      refine r_ireturn dX11_pallet_73 rfl rfl rfl ?_
      refine ⟨rI ?_, rfl, rfl⟩
      unfold palletF
      rw [if_pos c8]
      first
        | (rw [if_pos (by omega)]; assumption)
        | (rw [if_neg (by omega), if_pos (by omega)]; assumption)
        | (rw [if_neg (by omega), if_neg (by omega), if_pos (by omega)]; assumption)
        | (rw [if_neg (by omega), if_neg (by omega), if_neg (by omega), if_neg (by omega)])
    · subst s14
      refine r_tableIn (tgt := 74) dX11_pallet_14 (by decide) (by decide) (by decide) rfl rfl ?_
      refine r_aload_n dX11_pallet_74 rfl ?_
      refine r_getR dX11_pallet_75 fl_X11_29 rfl (by assumption) (by assumption) ?_
      refine r_getR dX11_pallet_78 fl_X11_158 rfl (by assumption) (by assumption) ?_
      refine r_iload_n dX11_pallet_81 rfl ?_
      refine r_lald dX11_pallet_82 (by assumption) rfl (by omega) ?_
      refine r_cS1F1 dX11_pallet_83 ml_X11_162 yl_X9_lettersOf ⟨rfl, rfl⟩ rfl rfl rfl rfl (x_lettersOf) ?_
      refine r_ireturn dX11_pallet_86 rfl rfl rfl ?_
      refine ⟨rI ?_, rfl, rfl⟩
      unfold palletF
      rw [if_pos c8, if_neg (by decide), if_neg (by decide), if_neg (by decide), if_pos rfl, q4]
      obtain ⟨l1, l2⟩ := WF.let hw.2.2.1 c8
      have hl0 := (hw.2.2.1 k c8.1 c8.2).2.2.2.1
      unfold pkF
      rw [pk_letters l1 l2]
      omega
  · have c8 := of_decide_eq_false c8
    refine r_iconst dX11_pallet_11 ?_
    refine r_ireturn dX11_pallet_12 rfl rfl rfl ?_
    refine ⟨rI ?_, rfl, rfl⟩
    unfold palletF
    rw [if_neg c8]


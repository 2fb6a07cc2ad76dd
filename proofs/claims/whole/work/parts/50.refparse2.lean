/-! 50.refparse2: numbers and names are taken, in the reference (wip/whole/src/50_refparse2.py) -/
/-- what reading may change -/
def RT (m : Nat) (μ μ2 : Mem) : Prop := μ2.2 = μ.2 ∧ (∀ a : Nat, a ≠ m → a ≠ m + 2 → a ≠ m + 7 → a ≠ m + 8 → μ2.1 a = μ.1 a) ∧ ∀ j : Int, j < 9 ∨ 15 < j → μ2.1 m j = μ.1 m j
theorem RT.rf (m : Nat) (μ : Mem) : RT m μ μ := ⟨rfl, fun _ _ _ _ _ => rfl, fun _ _ => rfl⟩
theorem RT.tr {m : Nat} {a b c : Mem} (h1 : RT m a b) (h2 : RT m b c) : RT m a c := ⟨h2.1.trans h1.1, fun q e f g i => (h2.2.1 q e f g i).trans (h1.2.1 q e f g i), fun j h => (h2.2.2 j h).trans (h1.2.2 j h)⟩
theorem RT.rk {m : Nat} {a b c : Mem} (h1 : RT m a b) (h2 : RK m b c) : RT m a c := ⟨h2.1.trans h1.1, fun q e f g i => (h2.2.1 q e g).trans (h1.2.1 q e f g i), fun j h => (h2.2.2 j (by omega)).trans (h1.2.2 j h)⟩
theorem RT.sI {m : Nat} {μ μ2 : Mem} (h : RT m μ μ2) {j x : Int} (hj : 9 ≤ j ∧ j ≤ 15) : RT m μ (setI μ2 m j x) := ⟨h.1, fun a h1 h2 h3 h4 => (setI_ne h1).trans (h.2.1 a h1 h2 h3 h4), fun i hi => (if_neg (by omega)).trans (h.2.2 i hi)⟩
theorem RT.s2 {m : Nat} {μ μ2 : Mem} (h : RT m μ μ2) {j x : Int} : RT m μ (setI μ2 (m + 2) j x) := ⟨h.1, fun a h1 h2 h3 h4 => (setI_ne h2).trans (h.2.1 a h1 h2 h3 h4), fun i hi => (ifn (by omega)).trans (h.2.2 i hi)⟩
theorem RT.s8 {m : Nat} {μ μ2 : Mem} (h : RT m μ μ2) {j x : Int} : RT m μ (setI μ2 (m + 8) j x) := ⟨h.1, fun a h1 h2 h3 h4 => (setI_ne h4).trans (h.2.1 a h1 h2 h3 h4), fun i hi => (ifn (by omega)).trans (h.2.2 i hi)⟩
theorem RTap.rt {m : Nat} {μ μ2 : Mem} {T : Tq} (h : RTap m μ T) (hk : RT m μ μ2) : RTap m μ2 T := h.mono (hk.2.2 8 (by omega)) (hk.2.1 _ (by omega) (by omega) (by omega) (by omega))
theorem AT.of {m : Nat} {μ μ2 : Mem} {T : Tq} {τ : Sg} (h : AT m μ T τ) (h1 : ∀ j : Int, 9 ≤ j → j ≤ 13 → μ2.1 m j = μ.1 m j) (h7 : μ2.1 (m + 7) = μ.1 (m + 7)) : AT m μ2 T τ := by
  unfold AT at *
  rw [h1 10 (by omega) (by omega), h1 11 (by omega) (by omega), h1 9 (by omega) (by omega), h1 12 (by omega) (by omega), h1 13 (by omega) (by omega), h7]
  exact h
/-- the token at hand is a good one -/
theorem nxt_hand {T : Tq} (hL : T.2 ≤ 540) {σ : Sg} (hs : SgOK T σ) (h0 : sE σ = 0) : sE (nxt T σ) = 0 ∧ (0 ≤ sK (nxt T σ) ∧ sK (nxt T σ) ≤ 4) ∧ WdOK T (nxt T σ) ∧ SgOK T (nxt T σ) := by
  have h1 := (nxt_ok hL hs).1
  have h2 := h1
  unfold SgOK at h2
  exact ⟨by rw [nxt_E]; exact h0, h2.2.2.1, fun h => by
    obtain ⟨a, b⟩ := nxt_word hL hs h0 h
    exact ⟨⟨a.1, a.2.1, a.2.2.1, a.2.2.2⟩, b⟩, h1⟩
/-- the token at hand is used, the next one comes -/
theorem m_nextT {sh : Sh} {μ : Mem} {m : Nat} {T : Tq} {τ : Sg} (hM : IsModel sh μ.2.2 m) (hT : RTap m μ T) (hs : SgOK T τ) (h0 : sE τ = 0) (h9 : μ.1 m 9 = sT τ) : VMet yX12_next gX12_next sh [vR m] μ (fun μ2 => RK m μ μ2 ∧ AT m μ2 T (nxt T τ)) := by
  have hs0 := hs
  unfold SgOK at hs0
  have h := m_next hM hT h9 (by omega) (sP τ)
  rw [show nxt T τ = nx2 T (runE (isSp T.1) (T.2 - sT τ).toNat (sT τ)) (sP τ) from if_neg (by omega)]
  exact h
theorem m_number {sh : Sh} {μ : Mem} {m : Nat} {T : Tq} {σ : Sg} (hM : IsModel sh μ.2.2 m) (hT : RTap m μ T) (hs : SgOK T σ) (h0 : sE σ = 0) (hA : AT m μ T (nxt T σ)) {lo hi : Int} (hlo : -2147483648 ≤ lo ∧ lo < 2147483648) (hhi : -2147483648 ≤ hi ∧ hi < 2147483648)  : IMet yX12_number gX12_number sh [vR m, vI lo, vI hi] μ (fun x μ2 => (x = 1 ∧ μ2 = μ ∧ sE (numC T σ lo hi).2 = 0 ∧ sK (nxt T σ) = 2 ∧ μ.1 m 12 = (numC T σ lo hi).1 ∧ (numC T σ lo hi).2 = nxt T σ) ∨ (x = 0 ∧ sE (numC T σ lo hi).2 ≠ 0 ∧ μ2 = setI (setI μ m 14 (sE (numC T σ lo hi).2)) m 15 (sP (numC T σ lo hi).2))) := by
  obtain ⟨g0, f1, z1, f2, z2, f3, z3, f4, z4, f5, z5, f6, z6, f7, z7, f8, z8, f9, z9, f10, z10, f11, z11, f12, z12, f13, z13, f14, z14⟩ := id hM
  obtain ⟨t1, t2, t3⟩ := id hT
  obtain ⟨hE, hK, hw, hs1⟩ := nxt_hand t2.2 hs h0
  have hs10 := hs1
  unfold SgOK at hs10
  obtain ⟨a10, a11, a9, a12, a13⟩ := id hA
  have hq := numC_eq T σ lo hi
  rw [if_neg (show ¬ sE (nxt T σ) ≠ 0 by omega)] at hq
  have hn := nxt_num (T := T) (σ := σ) hE
  generalize numC T σ lo hi = q at *
  generalize hτ : nxt T σ = τ at *
  refine AMet.of (by decide) rfl (by decide) rfl ?_
  refine r_aload_n dX12_number_0 rfl ?_
  refine r_getI dX12_number_1 fl_X12_94 rfl (by assumption) ?_
  (try rw [a11])
  refine r_iconst dX12_number_4 ?_
  refine q_icmp_eq (tgt := 14) dX12_number_5 rfl (by omega) (by omega) (fun c5 => ?_) (fun c5 => ?_)
  · have h2 : sK τ = 2 := by omega
    have n1 := (hn h2).1
    have a12 := a12 h2
    rw [if_neg (show ¬ sK τ ≠ 2 by omega)] at hq
    refine r_aload_n dX12_number_14 rfl ?_
    refine r_getI dX12_number_15 fl_X12_104 rfl (by assumption) ?_
    (try rw [a11])
    rw [a12]
    refine r_iload_n dX12_number_18 rfl ?_
    refine r_iload_n dX12_number_19 rfl ?_
    refine r_cS3F1 dX12_number_20 ml_X12_73 yl_X12_isIn ⟨rfl, rfl⟩ rfl rfl rfl rfl (m_isIn (by omega) (by omega) (by omega)) ?_
    refine r_if_neB (tgt := 34) dX12_number_23 rfl (fun c23 => ?_) (fun c23 => ?_)
    · have c23 := of_decide_eq_true c23
      refine r_iconst dX12_number_34 ?_
      refine r_goto (tgt := 39) dX12_number_35 rfl ?_
      refine r_zreturn dX12_number_39 (by first | exact Or.inl rfl | exact Or.inr rfl | exact b2i_01 _ | omega) rfl rfl rfl ?_
      first
      | (refine ⟨rfl, _, rfl, Or.inl ⟨rfl, rfl, ?_⟩⟩
         rw [if_neg (by omega)] at hq
         rw [hq]
         exact ⟨hE, h2, rfl, rfl⟩)
      | (refine ⟨rfl, _, rfl, Or.inr ⟨rfl, ?_⟩⟩
         rw [if_pos (by omega)] at hq
         rw [hq, fail_0 hE, a10]
         exact ⟨show (2 : Int) ≠ 0 by decide, rfl⟩)
      | exact absurd rfl c31
    · have c23 := of_decide_eq_false c23
      refine r_aload_n dX12_number_26 rfl ?_
      refine r_iconst dX12_number_27 ?_
      refine r_cV1F1 dX12_number_28 ml_X12_116 yl_X12_badHere ⟨rfl, rfl⟩ (by assumption) ⟨_, rfl⟩ rfl rfl rfl rfl (m_badHere hM) ?_
      skip
      refine q_if_eq (tgt := 38) dX12_number_31 rfl (by omega) (fun c31 => ?_) (fun c31 => ?_)
      · refine r_iconst dX12_number_38 ?_
        refine r_zreturn dX12_number_39 (by first | exact Or.inl rfl | exact Or.inr rfl | exact b2i_01 _ | omega) rfl rfl rfl ?_
        first
        | (refine ⟨rfl, _, rfl, Or.inl ⟨rfl, rfl, ?_⟩⟩
           rw [if_neg (by omega)] at hq
           rw [hq]
           exact ⟨hE, h2, rfl, rfl⟩)
        | (refine ⟨rfl, _, rfl, Or.inr ⟨rfl, ?_⟩⟩
           rw [if_pos (by omega)] at hq
           rw [hq, fail_0 hE, a10]
           exact ⟨show (2 : Int) ≠ 0 by decide, rfl⟩)
        | exact absurd rfl c31
      · refine r_iconst dX12_number_34 ?_
        refine r_goto (tgt := 39) dX12_number_35 rfl ?_
        refine r_zreturn dX12_number_39 (by first | exact Or.inl rfl | exact Or.inr rfl | exact b2i_01 _ | omega) rfl rfl rfl ?_
        first
        | (refine ⟨rfl, _, rfl, Or.inl ⟨rfl, rfl, ?_⟩⟩
           rw [if_neg (by omega)] at hq
           rw [hq]
           exact ⟨hE, h2, rfl, rfl⟩)
        | (refine ⟨rfl, _, rfl, Or.inr ⟨rfl, ?_⟩⟩
           rw [if_pos (by omega)] at hq
           rw [hq, fail_0 hE, a10]
           exact ⟨show (2 : Int) ≠ 0 by decide, rfl⟩)
        | exact absurd rfl c31
  · refine r_aload_n dX12_number_8 rfl ?_
    refine r_iconst dX12_number_9 ?_
    refine r_cV1F1 dX12_number_10 ml_X12_116 yl_X12_badHere ⟨rfl, rfl⟩ (by assumption) ⟨_, rfl⟩ rfl rfl rfl rfl (m_badHere hM) ?_
    refine r_zreturn dX12_number_13 (by first | exact Or.inl rfl | exact Or.inr rfl | exact b2i_01 _ | omega) rfl rfl rfl ?_
    refine ⟨rfl, _, rfl, Or.inr ⟨rfl, ?_⟩⟩
    rw [if_pos (show sK τ ≠ 2 by omega)] at hq
    rw [hq, fail_0 hE, a10]
    exact ⟨show (1 : Int) ≠ 0 by decide, rfl⟩
theorem m_takes {sh : Sh} {μ : Mem} {m : Nat} {T : Tq} {σ : Sg} (hM : IsModel sh μ.2.2 m) (hT : RTap m μ T) (hs : SgOK T σ) (h0 : sE σ = 0) (hA : AT m μ T (nxt T σ)) {cell lo hi : Int} (hcell : 0 ≤ cell ∧ cell < 143) (hlo : -2147483648 ≤ lo ∧ lo < 2147483648) (hhi : -2147483648 ≤ hi ∧ hi < 2147483648)  : IMet yX12_takes gX12_takes sh [vR m, vI cell, vI lo, vI hi] μ (fun x μ2 => RT m μ μ2 ∧ μ2.1 (m + 8) = μ.1 (m + 8) ∧ ((sE (numC T σ lo hi).2 = 0 ∧ x = 1 ∧ AT m μ2 T (nxt T (numC T σ lo hi).2) ∧ μ2.1 (m + 2) = rset (μ.1 (m + 2)) cell (numC T σ lo hi).1 ∧ μ2.1 m 14 = μ.1 m 14) ∨ (sE (numC T σ lo hi).2 ≠ 0 ∧ x = 0 ∧ μ2.1 m 14 = sE (numC T σ lo hi).2 ∧ μ2.1 m 15 = sP (numC T σ lo hi).2))) := by
  obtain ⟨g0, f1, z1, f2, z2, f3, z3, f4, z4, f5, z5, f6, z6, f7, z7, f8, z8, f9, z9, f10, z10, f11, z11, f12, z12, f13, z13, f14, z14⟩ := id hM
  obtain ⟨t1, t2, t3⟩ := id hT
  obtain ⟨hE, hK, hw, hs1⟩ := nxt_hand t2.2 hs h0
  have hs10 := hs1
  unfold SgOK at hs10
  obtain ⟨a10, a11, a9, a12, a13⟩ := id hA
  refine AMet.of (by decide) rfl (by decide) rfl ?_
  refine r_aload_n dX12_takes_0 rfl ?_
  refine r_iload_n dX12_takes_1 rfl ?_
  refine r_iload_n dX12_takes_2 rfl ?_
  refine r_cV2I dX12_takes_3 ml_X12_119 yl_X12_number ⟨rfl, rfl⟩ (by assumption) ⟨_, rfl⟩ rfl rfl rfl rfl (m_number hM hT hs h0 hA hlo hhi) ?_
  rintro x μ3 hx
  have hx01 : x = 0 ∨ x = 1 := hx.elim (fun h => Or.inr h.1) (fun h => Or.inl h.1)
  refine q_if_ne (tgt := 11) dX12_takes_6 rfl (by omega) (fun c6 => ?_) (fun c6 => ?_)
  · obtain ⟨-, e0, e1, e2, e3, e4⟩ := hx.resolve_right (fun h => by have := h.1; omega)
    replace e0 := e0.symm
    subst e0
    refine r_aload_n dX12_takes_11 rfl ?_
    refine r_getR dX12_takes_12 fl_X12_13 rfl (by assumption) (by assumption) ?_
    refine r_iload_n dX12_takes_15 rfl ?_
    refine r_aload_n dX12_takes_16 rfl ?_
    refine r_getI dX12_takes_17 fl_X12_104 rfl (by assumption) ?_
    rw [e3]
    refine r_iast dX12_takes_20 (by assumption) rfl (by omega) ?_
    refine r_aload_n dX12_takes_21 rfl ?_
    refine r_cV0N dX12_takes_22 ml_X12_121 yl_X12_next ⟨rfl, rfl⟩ (by assumption) ⟨_, rfl⟩ rfl rfl rfl rfl (m_nextT (μ := setI μ (m + 2) cell (numC T σ lo hi).1) hM (hT.rt (RT.rf _ _).s2) hs1 hE ((sI_ne (by omega)).trans (a9 (by omega)))) ?_
    rintro μ4 ⟨k4, A4⟩
    refine r_iconst dX12_takes_25 ?_
    refine r_zreturn dX12_takes_26 (by first | exact Or.inl rfl | exact Or.inr rfl | exact b2i_01 _ | omega) rfl rfl rfl ?_
    refine ⟨rfl, _, rfl, ((RT.rf _ _).s2).rk k4, ?_, Or.inl ⟨e1, rfl, ?_, ?_, ?_⟩⟩
    · rw [k4.2.1 _ (by omega) (by omega)]; exact setI_ne (by omega)
    · rw [e4]; exact A4
    · rw [k4.2.1 _ (by omega) (by omega)]; exact rset_setI _ _ _ _
    · rw [k4.2.2 14 (by omega)]; exact sI_ne (by omega)
  · obtain ⟨-, e1, rfl⟩ := hx.resolve_left (fun h => by have := h.1; omega)
    refine r_iconst dX12_takes_9 ?_
    refine r_zreturn dX12_takes_10 (by first | exact Or.inl rfl | exact Or.inr rfl | exact b2i_01 _ | omega) rfl rfl rfl ?_
    refine ⟨rfl, _, rfl, ((RT.rf _ _).sI (by omega)).sI (by omega), ?_, Or.inr ⟨e1, rfl, ?_, ?_⟩⟩
    · exact (setI_ne (by omega)).trans (setI_ne (by omega))
    · simp (disch := omega) only [sI_at, sI_ne, sI_nj, sI_L]
    · simp (disch := omega) only [sI_at, sI_ne, sI_nj, sI_L]
/-- a name, letter by letter, and as a number -/
def NmOK (f : Int → Int) (v : Int) : Prop := ∃ n : Nat, (1 ≤ n ∧ n ≤ 8) ∧ letters f n ∧ (∀ i : Int, n ≤ i → i < 8 → f i = 0) ∧ v = pkN f n
theorem NmOK.eq {f g : Int → Int} {v : Int} {n : Nat} (h : NmOK f v) (hg : letters g n) (hn : 1 ≤ n ∧ n ≤ 8) : (∀ i : Int, 0 ≤ i → i < 8 → f i = if i < n then g i else 0) ↔ v = pkN g n := by
  obtain ⟨k, hk, hf, hz, rfl⟩ := h
  constructor
  · intro h
    have hkn : k = n := by
      rcases Nat.lt_trichotomy k n with h1 | h1 | h1
      · have a := h k (by omega) (by omega)
        have b := hg k (by omega) (by omega)
        rw [hz k (Int.le_refl _) (by omega), if_pos (by omega)] at a
        omega
      · exact h1
      · have a := h n (by omega) (by omega)
        have b := hf n (by omega) (by omega)
        rw [if_neg (by omega)] at a
        omega
    subst hkn
    exact pkN_congr fun i i0 i1 => by rw [h i i0 (by omega), if_pos (by omega)]
  · intro h
    obtain ⟨rfl, e⟩ := pkN_inj _ _ hf hg h
    intro i i0 i1
    by_cases hi : i < (k : Int)
    · rw [if_pos hi]; exact e i i0 hi
    · rw [if_neg hi]; exact hz i (by omega) i1
theorem NmOK.let {f : Int → Int} {v : Int} (h : NmOK f v) (i : Int) (hi : 0 ≤ i ∧ i < 8) : 0 ≤ f i ∧ f i ≤ 122 := by
  obtain ⟨k, hk, hf, hz, -⟩ := h
  by_cases e : i < (k : Int)
  · have := hf i hi.1 e; omega
  · rw [hz i (by omega) hi.2]; omega
def NmsOK (m : Nat) (μ : Mem) (D : PD) : Prop := ∀ k, usedN D.1 k → NmOK (fun i => μ.1 (m + 8) (8 * k + i)) (D.2.1 k)
/-- the reference's row that is being read -/
def Spr (m : Nat) (μ : Mem) (ρ : Row) : Prop := ∀ j, 0 ≤ j → j < 143 → μ.1 (m + 2) j = ρ j
theorem m_isNamed {sh : Sh} {μ : Mem} {m : Nat} {T : Tq} {τ : Sg} {D : PD} (hM : IsModel sh μ.2.2 m) (hA : AT m μ T τ) (hw : WdOK T τ) (hk1 : sK τ = 1) (hN : NmsOK m μ D) (hS : Spr m μ D.1) (hc : cntOK D.1) {k0 : Int} (hk0 : 0 ≤ k0 ∧ k0 < 6)  : FMet yX12_isNamed gX12_isNamed sh [vR m, vI k0] μ (some (vI (b2i (decide (usedN D.1 k0 ∧ D.2.1 k0 = pkN (fun i => T.1 (sF τ + i)) (sT τ - sF τ).toNat))))) μ := by
  obtain ⟨g0, f1, z1, f2, z2, f3, z3, f4, z4, f5, z5, f6, z6, f7, z7, f8, z8, f9, z9, f10, z10, f11, z11, f12, z12, f13, z13, f14, z14⟩ := id hM
  obtain ⟨a10, a11, a9, a12, a13⟩ := id hA
  obtain ⟨w1, w2⟩ := hw hk1
  have l13 := a13 hk1
  have e4 := hS 4 (by omega) (by omega)
  have e8 := hS 8 (by omega) (by omega)
  have hcn := hc
  unfold cntOK at hcn
  have lI : ∀ (f n : Nat) (k : Int) (is : Int), n < f → 0 ≤ k → k + n = 8 → (is = 0 ∨ is = 1) → (is = 1 → usedN D.1 k0) → AW gX12_isNamed sh μ 0 0 44 [some (vR m), some (vI k0), some (vI is), some (vI k)] [] (fun r2 sh2 μ2 => r2 = some (vI (b2i (decide (is = 1) && allF (fun i => decide (μ.1 (m + 8) (8 * k0 + i) = if i < sT τ - sF τ then T.1 (sF τ + i) else 0)) n k))) ∧ sh2 = sh ∧ μ2 = μ) := by
    intro f
    induction f with
    | zero => intro n; intros; omega
    | succ f ih =>
      intro n k is hf hk hn2 h01 hu
      refine r_iload_n dX12_isNamed_44 rfl ?_
      refine r_bipush dX12_isNamed_45 (by decide) ?_
      refine q_icmp_ge (tgt := 98) dX12_isNamed_47 rfl (by omega) (by omega) (fun c47 => ?_) (fun c47 => ?_)
      · obtain rfl : n = 0 := by omega
        refine r_iload_n dX12_isNamed_98 rfl ?_
        refine r_zreturn dX12_isNamed_99 (by first | exact Or.inl rfl | exact Or.inr rfl | exact b2i_01 _ | omega) rfl rfl rfl ?_
        refine ⟨rI ?_, rfl, rfl⟩
        first
        | (rcases h01 with rfl | rfl <;> rfl)
        | rfl
      · refine r_iload_n dX12_isNamed_50 rfl ?_
        refine q_if_eq (tgt := 98) dX12_isNamed_51 rfl (by omega) (fun c51 => ?_) (fun c51 => ?_)
        · obtain rfl : is = 0 := by omega
          refine r_iload_n dX12_isNamed_98 rfl ?_
          refine r_zreturn dX12_isNamed_99 (by first | exact Or.inl rfl | exact Or.inr rfl | exact b2i_01 _ | omega) rfl rfl rfl ?_
          refine ⟨rI ?_, rfl, rfl⟩
          first
          | (rcases h01 with rfl | rfl <;> rfl)
          | rfl
        · obtain ⟨q, rfl⟩ : ∃ q, n = q + 1 := ⟨n - 1, by omega⟩
          obtain rfl : is = 1 := by omega
          have hnm := (hN k0 (hu rfl)).let k ⟨by omega, by omega⟩
          try dsimp only at hnm
          refine r_aload_n dX12_isNamed_54 rfl ?_
          refine r_getR dX12_isNamed_55 fl_X12_33 rfl (by assumption) (by assumption) ?_
          refine r_bipush dX12_isNamed_58 (by decide) ?_
          refine r_iload_n dX12_isNamed_60 rfl ?_
          refine r_imul dX12_isNamed_61 ?_
          refine r_iload_n dX12_isNamed_62 rfl ?_
          refine r_iadd dX12_isNamed_63 ?_
          refine r_bald dX12_isNamed_64 (by assumption) rfl (by omega) ?_
          refine r_iload_n dX12_isNamed_65 rfl ?_
          refine r_aload_n dX12_isNamed_66 rfl ?_
          refine r_getI dX12_isNamed_67 fl_X12_107 rfl (by assumption) ?_
          (try rw [l13.1])
          refine q_icmp_ge (tgt := 82) dX12_isNamed_70 rfl (by omega) (by omega) (fun c70 => ?_) (fun c70 => ?_)
          · refine r_iconst dX12_isNamed_82 ?_
            refine q_icmp_ne (tgt := 90) dX12_isNamed_83 rfl (by omega) (by omega) (fun c83 => ?_) (fun c83 => ?_)
            · refine r_iconst dX12_isNamed_90 ?_
              refine r_istore_n dX12_isNamed_91 rfl ?_
              refine r_iinc dX12_isNamed_92 rfl rfl ?_
              refine r_goto (tgt := 44) dX12_isNamed_95 rfl ?_
              first
              | (have hb : μ.1 (m + 8) (8 * k0 + k) = if k < sT τ - sF τ then T.1 (sF τ + k) else 0 := by
                   first
                   | (rw [if_pos (by omega)]; exact c83)
                   | (rw [if_neg (by omega)]; exact c83)
                 rw [allF, if_pos (decide_eq_true hb)]
                 exact ih q (k + 1) 1 (by omega) (by omega) (by omega) (Or.inr rfl) hu)
              | (have hb : ¬ μ.1 (m + 8) (8 * k0 + k) = if k < sT τ - sF τ then T.1 (sF τ + k) else 0 := by
                   first
                   | (rw [if_pos (by omega)]; exact c83)
                   | (rw [if_neg (by omega)]; exact c83)
                 refine AW.mono (ih q (k + 1) 0 (by omega) (by omega) (by omega) (Or.inl rfl) (fun h => absurd h (by decide))) ?_
                 rintro r2 sh2 μ2 ⟨rfl, h2⟩
                 refine ⟨?_, h2⟩
                 rw [allF, if_neg (by rw [decide_eq_true_eq]; exact hb)]
                 rfl)
            · refine r_iconst dX12_isNamed_86 ?_
              refine r_goto (tgt := 91) dX12_isNamed_87 rfl ?_
              refine r_istore_n dX12_isNamed_91 rfl ?_
              refine r_iinc dX12_isNamed_92 rfl rfl ?_
              refine r_goto (tgt := 44) dX12_isNamed_95 rfl ?_
              first
              | (have hb : μ.1 (m + 8) (8 * k0 + k) = if k < sT τ - sF τ then T.1 (sF τ + k) else 0 := by
                   first
                   | (rw [if_pos (by omega)]; exact c83)
                   | (rw [if_neg (by omega)]; exact c83)
                 rw [allF, if_pos (decide_eq_true hb)]
                 exact ih q (k + 1) 1 (by omega) (by omega) (by omega) (Or.inr rfl) hu)
              | (have hb : ¬ μ.1 (m + 8) (8 * k0 + k) = if k < sT τ - sF τ then T.1 (sF τ + k) else 0 := by
                   first
                   | (rw [if_pos (by omega)]; exact c83)
                   | (rw [if_neg (by omega)]; exact c83)
                 refine AW.mono (ih q (k + 1) 0 (by omega) (by omega) (by omega) (Or.inl rfl) (fun h => absurd h (by decide))) ?_
                 rintro r2 sh2 μ2 ⟨rfl, h2⟩
                 refine ⟨?_, h2⟩
                 rw [allF, if_neg (by rw [decide_eq_true_eq]; exact hb)]
                 rfl)
          · have hlk := l13.2 k (by omega) (by omega)
            have hwk := w2 k (by omega) (by omega)
            try dsimp only at hwk
            refine r_aload_n dX12_isNamed_73 rfl ?_
            refine r_getR dX12_isNamed_74 fl_X12_30 rfl (by assumption) (by assumption) ?_
            refine r_iload_n dX12_isNamed_77 rfl ?_
            refine r_bald dX12_isNamed_78 (by assumption) rfl (by omega) ?_
            rw [hlk]
            refine r_goto (tgt := 83) dX12_isNamed_79 rfl ?_
            refine q_icmp_ne (tgt := 90) dX12_isNamed_83 rfl (by omega) (by omega) (fun c83 => ?_) (fun c83 => ?_)
            · refine r_iconst dX12_isNamed_90 ?_
              refine r_istore_n dX12_isNamed_91 rfl ?_
              refine r_iinc dX12_isNamed_92 rfl rfl ?_
              refine r_goto (tgt := 44) dX12_isNamed_95 rfl ?_
              first
              | (have hb : μ.1 (m + 8) (8 * k0 + k) = if k < sT τ - sF τ then T.1 (sF τ + k) else 0 := by
                   first
                   | (rw [if_pos (by omega)]; exact c83)
                   | (rw [if_neg (by omega)]; exact c83)
                 rw [allF, if_pos (decide_eq_true hb)]
                 exact ih q (k + 1) 1 (by omega) (by omega) (by omega) (Or.inr rfl) hu)
              | (have hb : ¬ μ.1 (m + 8) (8 * k0 + k) = if k < sT τ - sF τ then T.1 (sF τ + k) else 0 := by
                   first
                   | (rw [if_pos (by omega)]; exact c83)
                   | (rw [if_neg (by omega)]; exact c83)
                 refine AW.mono (ih q (k + 1) 0 (by omega) (by omega) (by omega) (Or.inl rfl) (fun h => absurd h (by decide))) ?_
                 rintro r2 sh2 μ2 ⟨rfl, h2⟩
                 refine ⟨?_, h2⟩
                 rw [allF, if_neg (by rw [decide_eq_true_eq]; exact hb)]
                 rfl)
            · refine r_iconst dX12_isNamed_86 ?_
              refine r_goto (tgt := 91) dX12_isNamed_87 rfl ?_
              refine r_istore_n dX12_isNamed_91 rfl ?_
              refine r_iinc dX12_isNamed_92 rfl rfl ?_
              refine r_goto (tgt := 44) dX12_isNamed_95 rfl ?_
              first
              | (have hb : μ.1 (m + 8) (8 * k0 + k) = if k < sT τ - sF τ then T.1 (sF τ + k) else 0 := by
                   first
                   | (rw [if_pos (by omega)]; exact c83)
                   | (rw [if_neg (by omega)]; exact c83)
                 rw [allF, if_pos (decide_eq_true hb)]
                 exact ih q (k + 1) 1 (by omega) (by omega) (by omega) (Or.inr rfl) hu)
              | (have hb : ¬ μ.1 (m + 8) (8 * k0 + k) = if k < sT τ - sF τ then T.1 (sF τ + k) else 0 := by
                   first
                   | (rw [if_pos (by omega)]; exact c83)
                   | (rw [if_neg (by omega)]; exact c83)
                 refine AW.mono (ih q (k + 1) 0 (by omega) (by omega) (by omega) (Or.inl rfl) (fun h => absurd h (by decide))) ?_
                 rintro r2 sh2 μ2 ⟨rfl, h2⟩
                 refine ⟨?_, h2⟩
                 rw [allF, if_neg (by rw [decide_eq_true_eq]; exact hb)]
                 rfl)
  have fin : ∀ is : Int, (is = 0 ∨ is = 1) → (is = 1 ↔ usedN D.1 k0) → AW gX12_isNamed sh μ 0 0 44 [some (vR m), some (vI k0), some (vI is), some (vI 0)] [] (fun r2 sh2 μ2 => r2 = some (vI (b2i (decide (usedN D.1 k0 ∧ D.2.1 k0 = pkN (fun i => T.1 (sF τ + i)) (sT τ - sF τ).toNat)))) ∧ sh2 = sh ∧ μ2 = μ) := by
    intro is h01 hu
    refine AW.mono (lI _ 8 0 is (Nat.lt_succ_self _) (by omega) (by omega) h01 hu.1) ?_
    rintro r2 sh2 μ2 ⟨rfl, h2⟩
    refine ⟨rI (congrArg b2i ?_), h2⟩
    rw [Bool.eq_iff_iff, Bool.and_eq_true, decide_eq_true_eq, decide_eq_true_eq, allF_iff, hu]
    refine and_congr_right fun hu2 => ?_
    have q := (hN k0 hu2).eq w2 (by omega)
    rw [← q]
    constructor
    · intro h i i0 i1
      rw [of_decide_eq_true (h i i0 (by omega)), show (((sT τ - sF τ).toNat : Nat) : Int) = sT τ - sF τ by omega]
    · intro h i i0 i1
      have := h i i0 (by omega)
      rw [show (((sT τ - sF τ).toNat : Nat) : Int) = sT τ - sF τ by omega] at this
      exact decide_eq_true this
  refine AMet.of (by decide) rfl (by decide) rfl ?_
  refine r_iload_n dX12_isNamed_0 rfl ?_
  refine r_iconst dX12_isNamed_1 ?_
  refine q_icmp_ge (tgt := 23) dX12_isNamed_2 rfl (by omega) (by omega) (fun c2 => ?_) (fun c2 => ?_)
  · refine r_iload_n dX12_isNamed_23 rfl ?_
    refine r_iconst dX12_isNamed_24 ?_
    refine r_isub dX12_isNamed_25 ?_
    refine r_aload_n dX12_isNamed_26 rfl ?_
    refine r_getR dX12_isNamed_27 fl_X12_13 rfl (by assumption) (by assumption) ?_
    refine r_bipush dX12_isNamed_30 (by decide) ?_
    refine r_iald dX12_isNamed_32 (by assumption) rfl (by omega) ?_
    (try rw [e4]); (try rw [e8])
    refine q_icmp_ge (tgt := 40) dX12_isNamed_33 rfl (by omega) (by omega) (fun c33 => ?_) (fun c33 => ?_)
    · refine r_iconst dX12_isNamed_40 ?_
      refine r_istore_n dX12_isNamed_41 rfl ?_
      refine r_iconst dX12_isNamed_42 ?_
      refine r_istore_n dX12_isNamed_43 rfl ?_
      refine fin _ (by first | exact Or.inl rfl | exact Or.inr rfl) ?_
      unfold usedN
      constructor <;> intro h <;> omega
    · refine r_iconst dX12_isNamed_36 ?_
      refine r_goto (tgt := 41) dX12_isNamed_37 rfl ?_
      refine r_istore_n dX12_isNamed_41 rfl ?_
      refine r_iconst dX12_isNamed_42 ?_
      refine r_istore_n dX12_isNamed_43 rfl ?_
      refine fin _ (by first | exact Or.inl rfl | exact Or.inr rfl) ?_
      unfold usedN
      constructor <;> intro h <;> omega
  · refine r_iload_n dX12_isNamed_5 rfl ?_
    refine r_aload_n dX12_isNamed_6 rfl ?_
    refine r_getR dX12_isNamed_7 fl_X12_13 rfl (by assumption) (by assumption) ?_
    refine r_iconst dX12_isNamed_10 ?_
    refine r_iald dX12_isNamed_11 (by assumption) rfl (by omega) ?_
    (try rw [e4]); (try rw [e8])
    refine q_icmp_ge (tgt := 19) dX12_isNamed_12 rfl (by omega) (by omega) (fun c12 => ?_) (fun c12 => ?_)
    · refine r_iconst dX12_isNamed_19 ?_
      refine r_goto (tgt := 41) dX12_isNamed_20 rfl ?_
      refine r_istore_n dX12_isNamed_41 rfl ?_
      refine r_iconst dX12_isNamed_42 ?_
      refine r_istore_n dX12_isNamed_43 rfl ?_
      refine fin _ (by first | exact Or.inl rfl | exact Or.inr rfl) ?_
      unfold usedN
      constructor <;> intro h <;> omega
    · refine r_iconst dX12_isNamed_15 ?_
      refine r_goto (tgt := 41) dX12_isNamed_16 rfl ?_
      refine r_istore_n dX12_isNamed_41 rfl ?_
      refine r_iconst dX12_isNamed_42 ?_
      refine r_istore_n dX12_isNamed_43 rfl ?_
      refine fin _ (by first | exact Or.inl rfl | exact Or.inr rfl) ?_
      unfold usedN
      constructor <;> intro h <;> omega

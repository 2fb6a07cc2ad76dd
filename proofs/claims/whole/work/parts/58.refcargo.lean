/-! 58.refcargo: a cargo's lines, in the reference (wip/whole/src/58_refcargo.py) -/
/-- the reference's row while a cargo is read -/
def SprC (m : Nat) (μ : Mem) (ρ0 ρc : Row) : Prop := ∀ j, 0 ≤ j → j < 143 → ¬ (93 ≤ j ∧ j < 98) → ¬ (51 ≤ j ∧ j < 53) → μ.1 (m + 2) j = setlR ρ0 ρc j
def RCs (m : Nat) (μ : Mem) (T : Tq) (σ : Sg) (ρ0 : Row) (C : CD) : Prop := RTap m μ T ∧ (SgOK T σ ∧ sE σ = 0) ∧ AT m μ T (nxt T σ) ∧ SprC m μ ρ0 C.1 ∧ μ.1 m 14 = 0
def CRes' (m : Nat) (μ : Mem) (T : Tq) (x : Int) (ρ0 : Row) (r : Sg × CD) (μ2 : Mem) : Prop := RTF m μ μ2 ∧ ((x = 1 ∧ RCs m μ2 T r.1 ρ0 r.2 ∧ μ2.1 m 20 = r.2.2) ∨ (x = 0 ∧ sE r.1 ≠ 0 ∧ μ2.1 m 14 = sE r.1 ∧ μ2.1 m 15 = sP r.1))
theorem CRes'.x01 {m : Nat} {μ : Mem} {T : Tq} {x : Int} {ρ0 : Row} {r : Sg × CD} {μ2 : Mem} (h : CRes' m μ T x ρ0 r μ2) : x = 0 ∨ x = 1 := h.2.elim (fun h => Or.inr h.1) (fun h => Or.inl h.1)
theorem SprC.of {m : Nat} {μ μ2 : Mem} {ρ0 ρc : Row} (h : SprC m μ ρ0 ρc) (e : μ2.1 (m + 2) = μ.1 (m + 2)) : SprC m μ2 ρ0 ρc := by
  unfold SprC at *
  rw [e]
  exact h
theorem RCs.next {m : Nat} {μ μ2 : Mem} {T : Tq} {σ : Sg} {ρ0 : Row} {C : CD} (h : RCs m μ T σ ρ0 C) (hk : RK m μ μ2) (hA : AT m μ2 T (nxt T (nxt T σ))) : RCs m μ2 T (nxt T σ) ρ0 C := by
  obtain ⟨h1, h2, h3, h4, h6⟩ := h
  exact ⟨h1.rk hk, ⟨(nxt_ok h1.2.1.2 h2.1).1, by rw [nxt_E]; exact h2.2⟩, hA, h4.of (hk.2.1 _ (by omega) (by omega)), (hk.2.2 14 (by omega)).trans h6⟩
theorem palOf_congr {ρ ρ' : Row} {b b' : Int → Int} {n : Int} (h11 : ρ' 11 = ρ 11) (hn : n ≤ 8) (h0 : 0 ≤ ρ 11) (h : ∀ k, 0 ≤ k → k < ρ 11 → ρ' (98 + k) = ρ (98 + k) ∧ ∀ i, 0 ≤ i → i < 8 → ρ' (103 + 8 * k + i) = ρ (103 + 8 * k + i)) (hb : ∀ i, 0 ≤ i → i < n → b' i = b i) : palOfF ρ' b' n = palOfF ρ b n := by
  unfold palOfF
  rw [h11]
  refine fnd_congr _ _ fun k k0 k1 => ?_
  obtain ⟨q1, q2⟩ := h k k0 (by omega)
  rw [q1]
  congr 1
  rw [Bool.eq_iff_iff, allF_iff, allF_iff]
  constructor <;> intro g i i0 i1 <;> have := of_decide_eq_true (g i i0 i1) <;> refine decide_eq_true ?_
  · rw [← q2 i i0 (by omega), ← hb i i0 (by omega)]; exact this
  · rw [q2 i i0 (by omega), hb i i0 (by omega)]; exact this
theorem m_bulkLine {sh : Sh} {μ : Mem} {m : Nat} {T : Tq} {σ : Sg} {ρ0 : Row} {C : CD} (hM : IsModel sh μ.2.2 m) (hS : RCs m μ T σ ρ0 C) (hC : COK C) (h20 : μ.1 m 20 = C.2) (ht : tellsF T (nxt T σ) 10 = true)  : IMet yX12_bulkLine gX12_bulkLine sh [vR m] μ (fun x μ2 => CRes' m μ T x ρ0 (lineC T (nxt T σ) C) μ2) := by
  obtain ⟨g0, f1, z1, f2, z2, f3, z3, f4, z4, f5, z5, f6, z6, f7, z7, f8, z8, f9, z9, f10, z10, f11, z11, f12, z12, f13, z13, f14, z14⟩ := id hM
  obtain ⟨hT, ⟨hs, h0⟩, hA, hSp, h14⟩ := id hS
  obtain ⟨t1, t2, t3⟩ := id hT
  obtain ⟨a1, a2, a3, a4, a5, a6, a7, a8⟩ := id hC
  obtain ⟨hE, hK, hwd, hs1⟩ := nxt_hand t2.2 hs h0
  obtain ⟨hE2, hK2, hwd2, hs2⟩ := nxt_hand t2.2 hs1 hE
  have hk1 : sK (nxt T σ) = 1 := by
    unfold tellsF at ht
    rw [Bool.and_eq_true, decide_eq_true_eq] at ht
    exact ht.1.2.1
  have hl : lineC T (nxt T σ) C = bulkL T (nxt T σ) C := by
    unfold lineC
    rw [if_neg (tells_no (by omega) ht 9 (by omega) (by omega)), if_pos ht]
  have hb : bulkL T (nxt T σ) C = ((bulkS1 T (nxt T σ) C).2, rset C.1 12 (bulkS1 T (nxt T σ) C).1, 1) := rfl
  rw [hl, hb]
  refine AMet.of (by decide) rfl (by decide) rfl ?_
  refine r_aload_n dX12_bulkLine_0 rfl ?_
  refine r_getI dX12_bulkLine_1 fl_X12_198 rfl (by assumption) ?_
  (try rw [h20])
  refine q_if_eq (tgt := 13) dX12_bulkLine_4 rfl (by omega) (fun c4 => ?_) (fun c4 => ?_)
  · refine r_aload_n dX12_bulkLine_13 rfl ?_
    refine r_iconst dX12_bulkLine_14 ?_
    refine r_putZ dX12_bulkLine_15 fl_X12_198 (by assumption) (by first | exact Or.inl rfl | exact Or.inr rfl | exact b2i_01 _ | omega) ?_
    refine r_aload_n dX12_bulkLine_18 rfl ?_
    refine r_cV0N dX12_bulkLine_19 ml_X12_121 yl_X12_next ⟨rfl, rfl⟩ (by assumption) ⟨_, rfl⟩ rfl rfl rfl rfl (m_nextT (μ := setI μ m 20 1) hM (hT.mono (sI_nj (by omega)) (setI_ne (by omega))) hs1 hE ((sI_nj (by omega)).trans (hA.2.2.1 (by omega)))) ?_
    rintro μ1 ⟨k1, A1⟩
    have hM1 : IsModel sh μ1.2.2 m := by rw [k1.1]; exact hM
    have hS0 : RCs m (setI μ m 20 1) T σ ρ0 C := ⟨hT.mono (sI_nj (by omega)) (setI_ne (by omega)), ⟨hs, h0⟩, hA.of (fun i _ _ => sI_nj (by omega)) (setI_ne (by omega)), hSp.of (setI_ne (by omega)), (sI_nj (by omega)).trans h14⟩
    have hS1 := hS0.next k1 A1
    have kF : RTF m μ μ1 := ((RTF.rf m μ).sI (by omega)).rk k1
    have f20 : μ1.1 m 20 = 1 := (k1.2.2 20 (by omega)).trans sI_at
    clear g0 f1 f2 f3 f4 f5 f6 f7 f8 f9 f10 f11 f12 f13 f14
    obtain ⟨g0, f1, z1, f2, z2, f3, z3, f4, z4, f5, z5, f6, z6, f7, z7, f8, z8, f9, z9, f10, z10, f11, z11, f12, z12, f13, z13, f14, z14⟩ := id hM1
    refine r_aload_n dX12_bulkLine_22 rfl ?_
    refine r_bipush dX12_bulkLine_23 (by decide) ?_
    refine r_iconst dX12_bulkLine_25 ?_
    refine r_sipush dX12_bulkLine_26 (by decide) ?_
    refine r_cV3I dX12_bulkLine_29 ml_X12_135 yl_X12_takes ⟨rfl, rfl⟩ (by assumption) ⟨_, rfl⟩ rfl rfl rfl rfl (m_takes hM1 hS1.1 hS1.2.1.1 hS1.2.1.2 hS1.2.2.1 (cell := 12) (lo := 0) (hi := 198) (by omega) (by omega) (by omega)) ?_
    rintro x1 μ2 ⟨j1, -, h1⟩
    have x11 : x1 = 0 ∨ x1 = 1 := h1.elim (fun h => Or.inr h.2.1) (fun h => Or.inl h.2.1)
    have hM2 : IsModel sh μ2.2.2 m := by rw [j1.1]; exact hM1
    clear g0 f1 f2 f3 f4 f5 f6 f7 f8 f9 f10 f11 f12 f13 f14
    obtain ⟨g0, f1, z1, f2, z2, f3, z3, f4, z4, f5, z5, f6, z6, f7, z7, f8, z8, f9, z9, f10, z10, f11, z11, f12, z12, f13, z13, f14, z14⟩ := id hM2
    refine r_zreturn dX12_bulkLine_32 (by first | exact Or.inl rfl | exact Or.inr rfl | exact b2i_01 _ | omega) rfl rfl rfl ?_
    have e1 : bulkS1 T (nxt T σ) C = numC T (nxt T σ) 0 198 := by unfold bulkS1; rw [iff_neg (by omega)]
    rw [e1]
    refine ⟨rfl, _, rfl, kF.rt j1, ?_⟩
    rcases h1 with ⟨g1, g2, g3, g4, g5⟩ | ⟨g1, g2, g3, g4⟩
    · refine Or.inl ⟨g2, ⟨hS1.1.rt j1, ⟨(num_ok t2.2 hs1 0 198).1, g1⟩, g3, fun j j0 j9 n1 n2 => ?_, g5.trans hS1.2.2.2.2⟩, (j1.2.2 20 (by omega)).trans f20⟩
      rw [g4]
      dsimp only
      by_cases e : j = 12
      · rw [e, rset_eq, setl_c (by omega), rset_eq]
      · rw [rset_ne e, hS1.2.2.2.1 j j0 j9 n1 n2]
        unfold setlR
        rw [rset_ne e]
    · exact Or.inr ⟨g2, g1, g3, g4⟩
  · refine r_aload_n dX12_bulkLine_7 rfl ?_
    refine r_iconst dX12_bulkLine_8 ?_
    refine r_cV1F1 dX12_bulkLine_9 ml_X12_116 yl_X12_badHere ⟨rfl, rfl⟩ (by assumption) ⟨_, rfl⟩ rfl rfl rfl rfl (m_badHere hM) ?_
    refine r_zreturn dX12_bulkLine_12 (by first | exact Or.inl rfl | exact Or.inr rfl | exact b2i_01 _ | omega) rfl rfl rfl ?_
    have e1 : bulkS1 T (nxt T σ) C = (0, failC (nxt T σ) 3) := by unfold bulkS1; rw [iff_pos (by omega), num_no (fail_yes (by decide))]
    refine ⟨rfl, _, rfl, ((RTF.rf m μ).sI (by omega)).sI (by omega), Or.inr ⟨rfl, ?_⟩⟩
    rw [e1]
    dsimp only
    rw [fail_0 hE]
    refine ⟨show (3 : Int) ≠ 0 by decide, ?_, ?_⟩
    · simp (disch := omega) only [sI_at, sI_ne, sI_nj, sI_L]
    · rw [sI_at]; exact hA.1
theorem m_palletLine {sh : Sh} {μ : Mem} {m : Nat} {T : Tq} {σ : Sg} {ρ0 : Row} {C : CD} (hM : IsModel sh μ.2.2 m) (hS : RCs m μ T σ ρ0 C) (hC : COK C) (h20 : μ.1 m 20 = C.2) (ht : tellsF T (nxt T σ) 9 = true)  : IMet yX12_palletLine gX12_palletLine sh [vR m] μ (fun x μ2 => CRes' m μ T x ρ0 (lineC T (nxt T σ) C) μ2) := by
  obtain ⟨g0, f1, z1, f2, z2, f3, z3, f4, z4, f5, z5, f6, z6, f7, z7, f8, z8, f9, z9, f10, z10, f11, z11, f12, z12, f13, z13, f14, z14⟩ := id hM
  obtain ⟨hT, ⟨hs, h0⟩, hA, hSp, h14⟩ := id hS
  obtain ⟨t1, t2, t3⟩ := id hT
  obtain ⟨a1, a2, a3, a4, a5, a6, a7, a8⟩ := id hC
  obtain ⟨hE, hK, hwd, hs1⟩ := nxt_hand t2.2 hs h0
  obtain ⟨hE2, hK2, hwd2, hs2⟩ := nxt_hand t2.2 hs1 hE
  have hk1 : sK (nxt T σ) = 1 := by
    unfold tellsF at ht
    rw [Bool.and_eq_true, decide_eq_true_eq] at ht
    exact ht.1.2.1
  have hl : lineC T (nxt T σ) C = palL T (nxt T σ) C := by
    unfold lineC
    rw [if_pos ht]
  have e11 := hSp 11 (by omega) (by omega) (by omega) (by omega)
  rw [setl_c (by omega)] at e11
  have hyn := word_y hE hwd2
  have hnn := word_n (T := T) hE
  refine AMet.of (by decide) rfl (by decide) rfl ?_
  refine r_aload_n dX12_palletLine_0 rfl ?_
  refine r_getR dX12_palletLine_1 fl_X12_13 rfl (by assumption) (by assumption) ?_
  refine r_bipush dX12_palletLine_4 (by decide) ?_
  refine r_iald dX12_palletLine_6 (by assumption) rfl (by omega) ?_
  (try rw [e11])
  refine r_istore_n dX12_palletLine_7 rfl ?_
  refine r_iload_n dX12_palletLine_8 rfl ?_
  refine r_iconst dX12_palletLine_9 ?_
  refine q_icmp_ne (tgt := 19) dX12_palletLine_10 rfl (by omega) (by omega) (fun c10 => ?_) (fun c10 => ?_)
  · have h5 : C.1 11 < 5 := by omega
    have hp0 : palS0 (nxt T σ) C = nxt T σ := by unfold palS0; rw [iff_neg (by omega)]
    refine r_aload_n dX12_palletLine_19 rfl ?_
    refine r_cV0N dX12_palletLine_20 ml_X12_121 yl_X12_next ⟨rfl, rfl⟩ (by assumption) ⟨_, rfl⟩ rfl rfl rfl rfl (m_nextT hM hT hs1 hE (hA.2.2.1 (by omega))) ?_
    rintro μ1 ⟨k1, A1⟩
    have hS1 := hS.next k1 A1
    have hM1 : IsModel sh μ1.2.2 m := by rw [k1.1]; exact hM
    have kK := k1
    have kF : RTF m μ μ1 := (RTF.rf m μ).rk k1
    clear g0 f1 f2 f3 f4 f5 f6 f7 f8 f9 f10 f11 f12 f13 f14
    obtain ⟨g0, f1, z1, f2, z2, f3, z3, f4, z4, f5, z5, f6, z6, f7, z7, f8, z8, f9, z9, f10, z10, f11, z11, f12, z12, f13, z13, f14, z14⟩ := id hM1
    refine r_aload_n dX12_palletLine_23 rfl ?_
    refine r_cV0F1 dX12_palletLine_24 ml_X12_127 yl_X12_isName ⟨rfl, rfl⟩ (by assumption) ⟨_, rfl⟩ rfl rfl rfl rfl (m_isName hM1 hS1.2.2.1 hwd2 hE2 hK2) ?_
    refine r_if_neB (tgt := 36) dX12_palletLine_27 rfl (fun c27 => ?_) (fun c27 => ?_)
    · have c27 := of_decide_eq_true c27
      have l13 := hS1.2.2.1.2.2.2.2 c27.1
      obtain ⟨w1, w2⟩ := hwd2 c27.1
      have hsp1 := fun j (h0 : 0 ≤ j) (h9 : j < 143) (n1 : ¬ (93 ≤ j ∧ j < 98)) (n2 : ¬ (51 ≤ j ∧ j < 53)) => hS1.2.2.2.1 j h0 h9 n1 n2
      have q11 : μ1.1 (m + 2) 11 = C.1 11 := by rw [hsp1 11 (by omega) (by omega) (by omega) (by omega), setl_c (by omega)]
      have hl98 : ∀ k, 0 ≤ k → k < μ1.1 (m + 2) 11 → 0 ≤ μ1.1 (m + 2) (98 + k) ∧ μ1.1 (m + 2) (98 + k) ≤ 8 := fun k k0 k9 => by
        rw [q11] at k9
        rw [hsp1 (98 + k) (by omega) (by omega) (by omega) (by omega), setl_c (by omega)]
        exact (a5 k k0 k9).2.2.2.1
      have hl103 : ∀ k i, 0 ≤ k → k < μ1.1 (m + 2) 11 → 0 ≤ i → i < 8 → -2147483648 ≤ μ1.1 (m + 2) (103 + 8 * k + i) ∧ μ1.1 (m + 2) (103 + 8 * k + i) < 2147483648 := fun k i k0 k9 i0 i1 => by
        rw [q11] at k9
        rw [hsp1 (103 + 8 * k + i) (by omega) (by omega) (by omega) (by omega), setl_c (by omega)]
        have q := (a5 k k0 k9).2.2.2.2 i i0 i1
        have q2 := (a5 k k0 k9).2.2.2.1
        omega
      have hcall : palOfF (μ1.1 (m + 2)) (fun i => μ1.1 (m + 7) (0 + i)) (sT (nxt T (nxt T σ)) - sF (nxt T (nxt T σ))) = callF C.1 (pkN (fun i => T.1 (sF (nxt T (nxt T σ)) + i)) (sT (nxt T (nxt T σ)) - sF (nxt T (nxt T σ))).toNat) := by
        have h1 := palOf_congr (ρ := C.1) (ρ' := μ1.1 (m + 2)) (b := fun i => T.1 (sF (nxt T (nxt T σ)) + i)) (b' := fun i => μ1.1 (m + 7) (0 + i)) (n := sT (nxt T (nxt T σ)) - sF (nxt T (nxt T σ))) q11 (by omega) a1.1 (fun k k0 k9 => ⟨by rw [hsp1 (98 + k) (by omega) (by omega) (by omega) (by omega), setl_c (by omega)], fun i i0 i1 => by rw [hsp1 (103 + 8 * k + i) (by omega) (by omega) (by omega) (by omega), setl_c (by omega)]⟩) (fun i i0 i1 => by (try dsimp only); rw [Int.zero_add]; exact l13.2 i i0 i1)
        rw [h1]
        have h2 := palOf_call a5 w2 (by omega)
        rw [show (((sT (nxt T (nxt T σ)) - sF (nxt T (nxt T σ))).toNat : Nat) : Int) = sT (nxt T (nxt T σ)) - sF (nxt T (nxt T σ)) by omega] at h2
        exact h2
      have e11 := q11
      have hw2 := hyn c27.1 c27.2
      refine r_aload_n dX12_palletLine_36 rfl ?_
      refine r_getR dX12_palletLine_37 fl_X12_13 rfl (by assumption) (by assumption) ?_
      refine r_aload_n dX12_palletLine_40 rfl ?_
      refine r_getR dX12_palletLine_41 fl_X12_30 rfl (by assumption) (by assumption) ?_
      refine r_iconst dX12_palletLine_44 ?_
      refine r_aload_n dX12_palletLine_45 rfl ?_
      refine r_getI dX12_palletLine_46 fl_X12_107 rfl (by assumption) ?_
      (try rw [l13.1])
      refine r_cS4F1 dX12_palletLine_49 ml_X12_194 yl_X12_palletOf ⟨rfl, rfl⟩ rfl rfl rfl rfl (m_palletOf (μ := μ1) (a := m + 2) (c := m + 7) (len := 8) (ρ := μ1.1 (m + 2)) z2 z7 rfl (by omega) (by omega) hl98 hl103 (by omega) (by omega) (fun i i0 i1 => by rw [Int.zero_add, l13.2 i i0 i1]; have := w2 i i0 (by omega); (try dsimp only at this); omega)) ?_
      rw [hcall]
      have hcr := callF_rng (ρ := C.1) (pkN (fun i => T.1 (sF (nxt T (nxt T σ)) + i)) (sT (nxt T (nxt T σ)) - sF (nxt T (nxt T σ))).toNat) a1.1
      refine q_if_lt (tgt := 61) dX12_palletLine_52 rfl (by omega) (fun c52 => ?_) (fun c52 => ?_)
      · have hpal : lineC T (nxt T σ) C = ((numC T (numC T (nxt T (nxt T σ)) 1 99).2 1 9).2, if sE (numC T (numC T (nxt T (nxt T σ)) 1 99).2 1 9).2 = 0 then (addPal C.1 T (nxt T (nxt T σ)) (numC T (nxt T (nxt T σ)) 1 99).1 (numC T (numC T (nxt T (nxt T σ)) 1 99).2 1 9).1, C.2) else C) := by
          rw [hl]
          unfold palL palS3 palS2 palS1
          rw [hp0, hw2]
          dsimp only
          rw [iff_neg (show ¬ callF C.1 (pkN (fun i => T.1 (sF (nxt T (nxt T σ)) + i)) (sT (nxt T (nxt T σ)) - sF (nxt T (nxt T σ))).toNat) ≠ -1 by omega)]
        refine r_aload_n dX12_palletLine_61 rfl ?_
        refine r_getR dX12_palletLine_62 fl_X12_13 rfl (by assumption) (by assumption) ?_
        refine r_bipush dX12_palletLine_65 (by decide) ?_
        refine r_iload_n dX12_palletLine_67 rfl ?_
        refine r_iadd dX12_palletLine_68 ?_
        refine r_aload_n dX12_palletLine_69 rfl ?_
        refine r_getI dX12_palletLine_70 fl_X12_107 rfl (by assumption) ?_
        (try rw [l13.1])
        refine r_iast dX12_palletLine_73 (by assumption) rfl (by omega) ?_
        refine r_iconst dX12_palletLine_74 ?_
        refine r_istore_n dX12_palletLine_75 rfl ?_
        have kEnd : ∀ μ' μ3 : Mem, (μ'.2 = μ1.2 ∧ ∀ q : Nat, q ≠ m + 2 → μ'.1 q = μ1.1 q) → (∀ j, μ'.1 (m + 2) j = if j = 98 + C.1 11 then sT (nxt T (nxt T σ)) - sF (nxt T (nxt T σ)) else if 103 + 8 * C.1 11 ≤ j ∧ j < 103 + 8 * C.1 11 + 8 then (if j - (103 + 8 * C.1 11) < sT (nxt T (nxt T σ)) - sF (nxt T (nxt T σ)) then T.1 (sF (nxt T (nxt T σ)) + (j - (103 + 8 * C.1 11))) else 0) else μ1.1 (m + 2) j) → RK m μ' μ3 → AT m μ3 T (nxt T (nxt T (nxt T σ))) → AW gX12_palletLine sh μ3 0 0 124 [some (vR m), some (vI (C.1 11)), some (vI 8)] [] (fun r2 sh2 μ2 => sh2 = sh ∧ ∃ x, r2 = some (vI x) ∧ CRes' m μ T x ρ0 (lineC T (nxt T σ) C) μ2) := by
          intro μ' μ3 hk hw1 k3 A3
          have hM3 : IsModel sh μ3.2.2 m := by rw [k3.1, hk.1]; exact hM1
          have r3 : RTF m μ μ3 := (kF.tr ⟨hk.1, fun q q0 q2 q7 q8 => hk.2 q q2, fun j hj => congrFun (hk.2 m (by omega)) j⟩).rk k3
          have T3 : RTap m μ3 T := (hS1.1.mono (congrFun (hk.2 m (by omega)) 8) (hk.2 _ (by omega))).rk k3
          have e3 : ∀ j, μ3.1 (m + 2) j = μ'.1 (m + 2) j := fun j => congrFun (k3.2.1 _ (by omega) (by omega)) j
          have zz14 : μ3.1 m 14 = 0 := (k3.2.2 14 (by omega)).trans ((congrFun (hk.2 m (by omega)) 14).trans hS1.2.2.2.2)
          have zz20 : μ3.1 m 20 = C.2 := (k3.2.2 20 (by omega)).trans ((congrFun (hk.2 m (by omega)) 20).trans ((kK.2.2 20 (by omega)).trans h20))
          have ok3 := num_ok t2.2 hs2 1 99
          obtain ⟨g0, f1, z1, f2, z2, f3, z3, f4, z4, f5, z5, f6, z6, f7, z7, f8, z8, f9, z9, f10, z10, f11, z11, f12, z12, f13, z13, f14, z14⟩ := id hM3
          refine r_aload_n dX12_palletLine_124 rfl ?_
          refine r_bipush dX12_palletLine_125 (by decide) ?_
          refine r_iload_n dX12_palletLine_127 rfl ?_
          refine r_iadd dX12_palletLine_128 ?_
          refine r_iconst dX12_palletLine_129 ?_
          refine r_bipush dX12_palletLine_130 (by decide) ?_
          refine r_cV3I dX12_palletLine_132 ml_X12_135 yl_X12_takes ⟨rfl, rfl⟩ (by assumption) ⟨_, rfl⟩ rfl rfl rfl rfl (m_takes hM3 T3 hs2 hE2 A3 (cell := 83 + C.1 11) (lo := 1) (hi := 99) (by omega) (by omega) (by omega)) ?_
          rintro x3 μ4 ⟨j3, -, h3⟩
          have x31 : x3 = 0 ∨ x3 = 1 := h3.elim (fun h => Or.inr h.2.1) (fun h => Or.inl h.2.1)
          have hM4 : IsModel sh μ4.2.2 m := by rw [j3.1]; exact hM3
          clear g0 f1 f2 f3 f4 f5 f6 f7 f8 f9 f10 f11 f12 f13 f14
          obtain ⟨g0, f1, z1, f2, z2, f3, z3, f4, z4, f5, z5, f6, z6, f7, z7, f8, z8, f9, z9, f10, z10, f11, z11, f12, z12, f13, z13, f14, z14⟩ := id hM4
          refine q_if_eq (tgt := 152) dX12_palletLine_135 rfl (by omega) (fun c135 => ?_) (fun c135 => ?_)
          · refine r_iconst dX12_palletLine_152 ?_
            refine r_zreturn dX12_palletLine_153 (by first | exact Or.inl rfl | exact Or.inr rfl | exact b2i_01 _ | omega) rfl rfl rfl ?_
            refine ⟨rfl, _, rfl, ?_⟩
            rw [hpal]
            first
            | (obtain ⟨g1, g2, g3, g4⟩ := h4.resolve_left (fun h => by have := h.2.1; omega)
               exact ⟨(r3.rt j3).rt j4, Or.inr ⟨rfl, g1, g3, g4⟩⟩)
            | (obtain ⟨g1, g2, g3, g4⟩ := h3.resolve_left (fun h => by have := h.2.1; omega)
               refine ⟨r3.rt j3, Or.inr ⟨rfl, ?_⟩⟩
               dsimp only
               rw [num_no (lo := 1) (hi := 9) g1]
               exact ⟨g1, g3, g4⟩)
          · obtain ⟨p1, p2, p3, p4, p5⟩ := h3.resolve_right (fun h => by have := h.2.1; omega)
            refine r_aload_n dX12_palletLine_138 rfl ?_
            refine r_bipush dX12_palletLine_139 (by decide) ?_
            refine r_iload_n dX12_palletLine_141 rfl ?_
            refine r_iadd dX12_palletLine_142 ?_
            refine r_iconst dX12_palletLine_143 ?_
            refine r_bipush dX12_palletLine_144 (by decide) ?_
            refine r_cV3I dX12_palletLine_146 ml_X12_135 yl_X12_takes ⟨rfl, rfl⟩ (by assumption) ⟨_, rfl⟩ rfl rfl rfl rfl (m_takes hM4 (T3.rt j3) ok3.1 p1 p3 (cell := 88 + C.1 11) (lo := 1) (hi := 9) (by omega) (by omega) (by omega)) ?_
            rintro x4 μ5 ⟨j4, -, h4⟩
            have x41 : x4 = 0 ∨ x4 = 1 := h4.elim (fun h => Or.inr h.2.1) (fun h => Or.inl h.2.1)
            have hM5 : IsModel sh μ5.2.2 m := by rw [j4.1]; exact hM4
            clear g0 f1 f2 f3 f4 f5 f6 f7 f8 f9 f10 f11 f12 f13 f14
            obtain ⟨g0, f1, z1, f2, z2, f3, z3, f4, z4, f5, z5, f6, z6, f7, z7, f8, z8, f9, z9, f10, z10, f11, z11, f12, z12, f13, z13, f14, z14⟩ := id hM5
            refine q_if_ne (tgt := 154) dX12_palletLine_149 rfl (by omega) (fun c149 => ?_) (fun c149 => ?_)
            · obtain ⟨s1, s2, s3, s4, s5⟩ := h4.resolve_right (fun h => by have := h.2.1; omega)
              have e11 : μ5.1 (m + 2) 11 = C.1 11 := by
                rw [s4, rset_ne (by omega), p4, rset_ne (by omega), e3, hw1 11, if_neg (by omega), if_neg (by omega), hS1.2.2.2.1 11 (by omega) (by omega) (by omega) (by omega), setl_c (by omega)]
              refine r_aload_n dX12_palletLine_154 rfl ?_
              refine r_getR dX12_palletLine_155 fl_X12_13 rfl (by assumption) (by assumption) ?_
              refine r_bipush dX12_palletLine_158 (by decide) ?_
              refine r_dup2 dX12_palletLine_160 rfl rfl ?_
              refine r_iald dX12_palletLine_161 (by assumption) rfl (by omega) ?_
              rw [e11]
              refine r_iconst dX12_palletLine_162 ?_
              refine r_iadd dX12_palletLine_163 ?_
              refine r_iast dX12_palletLine_164 (by assumption) rfl (by omega) ?_
              refine r_iconst dX12_palletLine_165 ?_
              refine r_zreturn dX12_palletLine_166 (by first | exact Or.inl rfl | exact Or.inr rfl | exact b2i_01 _ | omega) rfl rfl rfl ?_
              refine ⟨rfl, _, rfl, ?_⟩
              rw [hpal, if_pos s1]
              refine ⟨((r3.rt j3).rt j4).rt (RT.rf _ _).s2, Or.inl ⟨rfl, ⟨((T3.rt j3).rt j4).rt (RT.rf _ _).s2, ⟨(num_ok t2.2 ok3.1 1 9).1, s1⟩, s3.of (fun j _ _ => sI_ne (by omega)) (setI_ne (by omega)), fun j j0 j9 n1 n2 => ?_, (sI_ne (by omega)).trans (s5.trans (p5.trans zz14))⟩, ?_⟩⟩
              · (try dsimp only)
                by_cases q1 : j = 11
                · rw [q1, sI_at, setl_c (by omega), addPal_11]
                · rw [sI_nj q1, s4]
                  by_cases q2 : j = 88 + C.1 11
                  · rw [q2, rset_eq, setl_c (by omega), (addPal_new ⟨a1.1, by omega⟩).2.1]
                  · rw [rset_ne q2, p4]
                    by_cases q3 : j = 83 + C.1 11
                    · rw [q3, rset_eq, setl_c (by omega), (addPal_new ⟨a1.1, by omega⟩).1]
                    · rw [rset_ne q3, e3, hw1 j]
                      by_cases q4 : j = 98 + C.1 11
                      · rw [if_pos q4, q4, setl_c (by omega), (addPal_new ⟨a1.1, by omega⟩).2.2.1]
                      · rw [if_neg q4]
                        by_cases q5 : 103 + 8 * C.1 11 ≤ j ∧ j < 103 + 8 * C.1 11 + 8
                        · have hx := (addPal_new (ρ := C.1) (T := T) (τ := (nxt T (nxt T σ))) (w := (numC T (nxt T (nxt T σ)) 1 99).1) (s := (numC T (numC T (nxt T (nxt T σ)) 1 99).2 1 9).1) ⟨a1.1, by omega⟩).2.2.2 (j - (103 + 8 * C.1 11)) (by omega) (by omega)
                          rw [show 103 + 8 * C.1 11 + (j - (103 + 8 * C.1 11)) = j by omega] at hx
                          rw [if_pos q5, setl_c (by omega), hx]
                        · rw [if_neg q5, hS1.2.2.2.1 j j0 j9 n1 n2]
                          unfold setlR addPal
                          (try dsimp only)
                          rw [if_neg q1, if_neg q3, if_neg q2, if_neg q4, if_neg q5]
              · rw [sI_ne (by omega), j4.2.2 20 (by omega), j3.2.2 20 (by omega)]
                exact zz20
            · refine r_iconst dX12_palletLine_152 ?_
              refine r_zreturn dX12_palletLine_153 (by first | exact Or.inl rfl | exact Or.inr rfl | exact b2i_01 _ | omega) rfl rfl rfl ?_
              refine ⟨rfl, _, rfl, ?_⟩
              rw [hpal]
              first
              | (obtain ⟨g1, g2, g3, g4⟩ := h4.resolve_left (fun h => by have := h.2.1; omega)
                 exact ⟨(r3.rt j3).rt j4, Or.inr ⟨rfl, g1, g3, g4⟩⟩)
              | (obtain ⟨g1, g2, g3, g4⟩ := h3.resolve_left (fun h => by have := h.2.1; omega)
                 refine ⟨r3.rt j3, Or.inr ⟨rfl, ?_⟩⟩
                 dsimp only
                 rw [num_no (lo := 1) (hi := 9) g1]
                 exact ⟨g1, g3, g4⟩)
        have lB : ∀ (f n : Nat) (i : Int) (μ' : Mem), n < f → 0 ≤ i → i + n = 8 → (μ'.2 = μ1.2 ∧ ∀ q : Nat, q ≠ m + 2 → μ'.1 q = μ1.1 q) → (∀ j, μ'.1 (m + 2) j = if j = 98 + C.1 11 then sT (nxt T (nxt T σ)) - sF (nxt T (nxt T σ)) else if 103 + 8 * C.1 11 ≤ j ∧ j < 103 + 8 * C.1 11 + i then (if j - (103 + 8 * C.1 11) < sT (nxt T (nxt T σ)) - sF (nxt T (nxt T σ)) then T.1 (sF (nxt T (nxt T σ)) + (j - (103 + 8 * C.1 11))) else 0) else μ1.1 (m + 2) j) → AW gX12_palletLine sh μ' 0 0 76 [some (vR m), some (vI (C.1 11)), some (vI i)] [] (fun r2 sh2 μ2 => sh2 = sh ∧ ∃ x, r2 = some (vI x) ∧ CRes' m μ T x ρ0 (lineC T (nxt T σ) C) μ2) := by
          intro f
          induction f with
          | zero => intro n; intros; omega
          | succ f ih =>
            intro n i μ' hf hi hn2 hk hw1
            have hM2 : IsModel sh μ'.2.2 m := by rw [hk.1]; exact hM1
            have l13' : μ'.1 m 13 = sT (nxt T (nxt T σ)) - sF (nxt T (nxt T σ)) := (congrFun (hk.2 m (by omega)) 13).trans l13.1
            obtain ⟨g0, f1, z1, f2, z2, f3, z3, f4, z4, f5, z5, f6, z6, f7, z7, f8, z8, f9, z9, f10, z10, f11, z11, f12, z12, f13, z13, f14, z14⟩ := id hM2
            refine r_iload_n dX12_palletLine_76 rfl ?_
            refine r_bipush dX12_palletLine_77 (by decide) ?_
            refine q_icmp_ge (tgt := 120) dX12_palletLine_79 rfl (by omega) (by omega) (fun c79 => ?_) (fun c79 => ?_)
            · obtain rfl : i = 8 := by omega
              refine r_aload_n dX12_palletLine_120 rfl ?_
              refine r_cV0N dX12_palletLine_121 ml_X12_121 yl_X12_next ⟨rfl, rfl⟩ (by assumption) ⟨_, rfl⟩ rfl rfl rfl rfl (m_nextT (τ := (nxt T (nxt T σ))) hM2 (hS1.1.mono (congrFun (hk.2 m (by omega)) 8) (hk.2 _ (by omega))) hs2 hE2 ((congrFun (hk.2 m (by omega)) 9).trans (hS1.2.2.1.2.2.1 (by omega)))) ?_
              rintro μ3 ⟨k3, A3⟩
              exact kEnd μ' μ3 hk hw1 k3 A3
            · obtain ⟨q, rfl⟩ : ∃ q, n = q + 1 := ⟨n - 1, by omega⟩
              refine r_aload_n dX12_palletLine_82 rfl ?_
              refine r_getR dX12_palletLine_83 fl_X12_13 rfl (by assumption) (by assumption) ?_
              refine r_bipush dX12_palletLine_86 (by decide) ?_
              refine r_bipush dX12_palletLine_88 (by decide) ?_
              refine r_iload_n dX12_palletLine_90 rfl ?_
              refine r_imul dX12_palletLine_91 ?_
              refine r_iadd dX12_palletLine_92 ?_
              refine r_iload_n dX12_palletLine_93 rfl ?_
              refine r_iadd dX12_palletLine_94 ?_
              refine r_iload_n dX12_palletLine_95 rfl ?_
              refine r_aload_n dX12_palletLine_96 rfl ?_
              refine r_getI dX12_palletLine_97 fl_X12_107 rfl (by assumption) ?_
              (try rw [l13'])
              refine q_icmp_ge (tgt := 112) dX12_palletLine_100 rfl (by omega) (by omega) (fun c100 => ?_) (fun c100 => ?_)
              · refine r_iconst dX12_palletLine_112 ?_
                refine r_iast dX12_palletLine_113 (by assumption) rfl (by omega) ?_
                refine r_iinc dX12_palletLine_114 rfl rfl ?_
                refine r_goto (tgt := 76) dX12_palletLine_117 rfl ?_
                refine ih q (i + 1) _ (by omega) (by omega) (by omega) ⟨hk.1, fun q hq => (setI_ne hq).trans (hk.2 q hq)⟩ (fun j => ?_)
                by_cases e : j = 103 + 8 * C.1 11 + i
                · rw [e, sI_at, if_neg (by omega), if_pos (by omega), show 103 + 8 * C.1 11 + i - (103 + 8 * C.1 11) = i by omega]
                  first
                  | rw [if_pos (by omega)]
                  | rw [if_neg (by omega)]
                · rw [sI_nj e, hw1 j]
                  by_cases e1 : j = 98 + C.1 11
                  · rw [if_pos e1, if_pos e1]
                  · rw [if_neg e1, if_neg e1]
                    by_cases e2 : 103 + 8 * C.1 11 ≤ j ∧ j < 103 + 8 * C.1 11 + i
                    · rw [if_pos e2, if_pos (show 103 + 8 * C.1 11 ≤ j ∧ j < 103 + 8 * C.1 11 + (i + 1) by omega)]
                    · rw [if_neg e2, if_neg (show ¬ (103 + 8 * C.1 11 ≤ j ∧ j < 103 + 8 * C.1 11 + (i + 1)) by omega)]
              · have hlk := l13.2 i (by omega) (by omega)
                have hwk := w2 i (by omega) (by omega)
                try dsimp only at hwk
                refine r_aload_n dX12_palletLine_103 rfl ?_
                refine r_getR dX12_palletLine_104 fl_X12_30 rfl (by assumption) (by assumption) ?_
                refine r_iload_n dX12_palletLine_107 rfl ?_
                refine r_bald dX12_palletLine_108 (by assumption) rfl (by omega) ?_
                rw [hk.2 (m + 7) (by omega), hlk]
                refine r_goto (tgt := 113) dX12_palletLine_109 rfl ?_
                refine r_iast dX12_palletLine_113 (by assumption) rfl (by omega) ?_
                refine r_iinc dX12_palletLine_114 rfl rfl ?_
                refine r_goto (tgt := 76) dX12_palletLine_117 rfl ?_
                refine ih q (i + 1) _ (by omega) (by omega) (by omega) ⟨hk.1, fun q hq => (setI_ne hq).trans (hk.2 q hq)⟩ (fun j => ?_)
                by_cases e : j = 103 + 8 * C.1 11 + i
                · rw [e, sI_at, if_neg (by omega), if_pos (by omega), show 103 + 8 * C.1 11 + i - (103 + 8 * C.1 11) = i by omega]
                  first
                  | rw [if_pos (by omega)]
                  | rw [if_neg (by omega)]
                · rw [sI_nj e, hw1 j]
                  by_cases e1 : j = 98 + C.1 11
                  · rw [if_pos e1, if_pos e1]
                  · rw [if_neg e1, if_neg e1]
                    by_cases e2 : 103 + 8 * C.1 11 ≤ j ∧ j < 103 + 8 * C.1 11 + i
                    · rw [if_pos e2, if_pos (show 103 + 8 * C.1 11 ≤ j ∧ j < 103 + 8 * C.1 11 + (i + 1) by omega)]
                    · rw [if_neg e2, if_neg (show ¬ (103 + 8 * C.1 11 ≤ j ∧ j < 103 + 8 * C.1 11 + (i + 1)) by omega)]
        refine lB _ 8 0 _ (Nat.lt_succ_self _) (by omega) (by omega) ⟨rfl, fun q hq => setI_ne hq⟩ (fun j => ?_)
        by_cases e : j = 98 + C.1 11
        · rw [e, sI_at, if_pos rfl]
        · rw [sI_nj e, if_neg e, if_neg (by omega)]
      · refine r_aload_n dX12_palletLine_55 rfl ?_
        refine r_iconst dX12_palletLine_56 ?_
        refine r_cV1F1 dX12_palletLine_57 ml_X12_116 yl_X12_badHere ⟨rfl, rfl⟩ (by assumption) ⟨_, rfl⟩ rfl rfl rfl rfl (m_badHere hM1) ?_
        refine r_zreturn dX12_palletLine_60 (by first | exact Or.inl rfl | exact Or.inr rfl | exact b2i_01 _ | omega) rfl rfl rfl ?_
        have e1 : (palL T (nxt T σ) C).1 = failC (nxt T (nxt T σ)) 3 := by
          have y4 : sE (failC (nxt T (nxt T σ)) 3) ≠ 0 := fail_yes (by decide)
          unfold palL palS3 palS2 palS1
          dsimp only
          rw [hp0, hw2]
          dsimp only
          rw [iff_pos (show callF C.1 (pkN (fun i => T.1 (sF (nxt T (nxt T σ)) + i)) (sT (nxt T (nxt T σ)) - sF (nxt T (nxt T σ))).toNat) ≠ -1 by omega), num_no (lo := 1) (hi := 99) y4]
          dsimp only
          rw [num_no y4]
        refine ⟨rfl, _, rfl, (kF.sI (by omega)).sI (by omega), Or.inr ⟨rfl, ?_⟩⟩
        rw [hl, e1, fail_0 hE2]
        refine ⟨show (3 : Int) ≠ 0 by decide, ?_, ?_⟩
        · simp (disch := omega) only [sI_at, sI_ne, sI_nj, sI_L]
        · rw [sI_at]; exact hS1.2.2.1.1
    · have c27 := of_decide_eq_false c27
      refine r_aload_n dX12_palletLine_30 rfl ?_
      refine r_iconst dX12_palletLine_31 ?_
      refine r_cV1F1 dX12_palletLine_32 ml_X12_116 yl_X12_badHere ⟨rfl, rfl⟩ (by assumption) ⟨_, rfl⟩ rfl rfl rfl rfl (m_badHere hM1) ?_
      refine r_zreturn dX12_palletLine_35 (by first | exact Or.inl rfl | exact Or.inr rfl | exact b2i_01 _ | omega) rfl rfl rfl ?_
      have e1 : (palL T (nxt T σ) C).1 = failC (nxt T (nxt T σ)) 1 := by
        have y4 : sE (failC (nxt T (nxt T σ)) 1) ≠ 0 := fail_yes (by decide)
        unfold palL palS3 palS2 palS1
        dsimp only
        rw [hp0, hnn c27, iff_no y4, num_no (lo := 1) (hi := 99) y4]
        dsimp only
        rw [num_no y4]
      refine ⟨rfl, _, rfl, (kF.sI (by omega)).sI (by omega), Or.inr ⟨rfl, ?_⟩⟩
      rw [hl, e1, fail_0 hE2]
      refine ⟨show (1 : Int) ≠ 0 by decide, ?_, ?_⟩
      · simp (disch := omega) only [sI_at, sI_ne, sI_nj, sI_L]
      · rw [sI_at]; exact hS1.2.2.1.1
  · refine r_aload_n dX12_palletLine_13 rfl ?_
    refine r_iconst dX12_palletLine_14 ?_
    refine r_cV1F1 dX12_palletLine_15 ml_X12_116 yl_X12_badHere ⟨rfl, rfl⟩ (by assumption) ⟨_, rfl⟩ rfl rfl rfl rfl (m_badHere hM) ?_
    refine r_zreturn dX12_palletLine_18 (by first | exact Or.inl rfl | exact Or.inr rfl | exact b2i_01 _ | omega) rfl rfl rfl ?_
    have e1 : (palL T (nxt T σ) C).1 = failC (nxt T σ) 4 := by
      have y4 : sE (failC (nxt T σ) 4) ≠ 0 := fail_yes (by decide)
      unfold palL palS3 palS2 palS1 palS0
      dsimp only
      rw [iff_pos (c := 5 ≤ C.1 11) (by omega), word_no y4]
      dsimp only
      rw [iff_no y4, num_no (lo := 1) (hi := 99) y4]
      dsimp only
      rw [num_no y4]
    refine ⟨rfl, _, rfl, ((RTF.rf m μ).sI (by omega)).sI (by omega), Or.inr ⟨rfl, ?_⟩⟩
    rw [hl, e1, fail_0 hE]
    refine ⟨show (4 : Int) ≠ 0 by decide, ?_, ?_⟩
    · simp (disch := omega) only [sI_at, sI_ne, sI_nj, sI_L]
    · rw [sI_at]; exact hA.1

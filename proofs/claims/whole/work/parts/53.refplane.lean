/-! 53.refplane: a burn, a line, in the reference (wip/whole/src/53_refplane.py) -/
theorem word_y {T : Tq} {σ : Sg} (h0 : sE σ = 0) (hw : WdOK T (nxt T σ)) (h1 : sK (nxt T σ) = 1) (hk : knownF T (nxt T σ) < 0) : wordC T σ = ((pkN (fun i => T.1 (sF (nxt T σ) + i)) (sT (nxt T σ) - sF (nxt T σ)).toNat), nxt T σ) := by
  have hE := nxt_E T σ
  rw [wordC_eq, if_neg (by omega), if_neg]
  · obtain ⟨w1, w2⟩ := hw h1
    rcases pkC_eq (T := T) (a := sF (nxt T σ)) (e := sT (nxt T σ)) (by omega) with ⟨g1, g2⟩ | ⟨g1, g2⟩
    · rw [g2]
    · exact absurd w2 g1
  · rintro (h | h)
    · exact h h1
    · have := quoted_known.1 h; omega
theorem word_n {T : Tq} {σ : Sg} (h0 : sE σ = 0) (h : ¬ (sK (nxt T σ) = 1 ∧ knownF T (nxt T σ) < 0)) : (wordC T σ).2 = failC (nxt T σ) 1 := by
  have hE := nxt_E T σ
  rw [wordC_eq, if_neg (by omega), if_pos]
  by_cases h1 : sK (nxt T σ) = 1
  · exact Or.inr (quoted_known.2 (by omega))
  · exact Or.inl h1
theorem m_burnLeft {sh : Sh} {μ1 : Mem} {m : Nat} {T : Tq} {σ : Sg} {D : PD} (hM : IsModel sh μ1.2.2 m) (hS1 : RS m μ1 T σ D) (hc : cntOK D.1) (hg : WFg D.1) {t : Int} (ht : 0 ≤ t ∧ t < 3) {P : Option AV → Sh → Mem → Prop}  : AW gX12_burnLine sh μ1 0 0 93 [some (vR m), some (vI t), some (vI (leftF D.1 t)), some (vI (D.1 9))] [] P → AW gX12_burnLine sh μ1 0 0 47 [some (vR m), some (vI t), some (vI (D.1 (56 + t))), some (vI 0)] [] P := by
  obtain ⟨g0, f1, z1, f2, z2, f3, z3, f4, z4, f5, z5, f6, z6, f7, z7, f8, z8, f9, z9, f10, z10, f11, z11, f12, z12, f13, z13, f14, z14⟩ := id hM
  have hcn := hc
  unfold cntOK at hcn
  have e9 := hS1.2.2.2.1 9 (by omega) (by omega)
  have lB : ∀ (f n : Nat) (k v : Int) (P : Option AV → Sh → Mem → Prop), n < f → 0 ≤ k → k + n = D.1 9 → AW gX12_burnLine sh μ1 0 0 93 [some (vR m), some (vI t), some (vI (v - sumF (fun i => if D.1 (59 + i) = t then D.1 (71 + i) else 0) n k)), some (vI (D.1 9))] [] P → AW gX12_burnLine sh μ1 0 0 47 [some (vR m), some (vI t), some (vI v), some (vI k)] [] P := by
    intro f
    induction f with
    | zero => intro n; intros; omega
    | succ f ih =>
      intro n k v P hf hk hn2 hC
      refine r_iload_n dX12_burnLine_47 rfl ?_
      refine r_aload_n dX12_burnLine_48 rfl ?_
      refine r_getR dX12_burnLine_49 fl_X12_13 rfl (by assumption) (by assumption) ?_
      refine r_bipush dX12_burnLine_52 (by decide) ?_
      refine r_iald dX12_burnLine_54 (by assumption) rfl (by omega) ?_
      rw [e9]
      refine q_icmp_ge (tgt := 93) dX12_burnLine_55 rfl (by omega) (by omega) (fun c55 => ?_) (fun c55 => ?_)
      · obtain rfl : n = 0 := by omega
        obtain rfl : k = D.1 9 := by omega
        rw [sumF, Int.sub_zero] at hC
        exact hC
      · obtain ⟨q, rfl⟩ : ∃ q, n = q + 1 := ⟨n - 1, by omega⟩
        have ek1 := hS1.2.2.2.1 (59 + k) (by omega) (by omega)
        have ek2 := hS1.2.2.2.1 (71 + k) (by omega) (by omega)
        have hgk := hg.1 k (by omega) (by omega)
        refine r_iload_n dX12_burnLine_58 rfl ?_
        refine r_aload_n dX12_burnLine_59 rfl ?_
        refine r_getR dX12_burnLine_60 fl_X12_13 rfl (by assumption) (by assumption) ?_
        refine r_bipush dX12_burnLine_63 (by decide) ?_
        refine r_iload_n dX12_burnLine_65 rfl ?_
        refine r_iadd dX12_burnLine_66 ?_
        refine r_iald dX12_burnLine_67 (by assumption) rfl (by omega) ?_
        rw [ek1]
        refine r_iload_n dX12_burnLine_68 rfl ?_
        refine q_icmp_ne (tgt := 84) dX12_burnLine_69 rfl (by omega) (by omega) (fun c69 => ?_) (fun c69 => ?_)
        · refine r_iconst dX12_burnLine_84 ?_
          refine r_isub dX12_burnLine_85 ?_
          refine r_istore_n dX12_burnLine_86 rfl ?_
          refine r_iinc dX12_burnLine_87 rfl rfl ?_
          refine r_goto (tgt := 47) dX12_burnLine_90 rfl ?_
          refine ih q (k + 1) _ P (by omega) (by omega) (by omega) ?_
          rw [sumF] at hC
          first
          | (rw [if_pos (by omega), ← Int.sub_sub] at hC; exact hC)
          | (rw [if_neg (by omega), ← Int.sub_sub] at hC; exact hC)
        · refine r_aload_n dX12_burnLine_72 rfl ?_
          refine r_getR dX12_burnLine_73 fl_X12_13 rfl (by assumption) (by assumption) ?_
          refine r_bipush dX12_burnLine_76 (by decide) ?_
          refine r_iload_n dX12_burnLine_78 rfl ?_
          refine r_iadd dX12_burnLine_79 ?_
          refine r_iald dX12_burnLine_80 (by assumption) rfl (by omega) ?_
          rw [ek2]
          refine r_goto (tgt := 85) dX12_burnLine_81 rfl ?_
          refine r_isub dX12_burnLine_85 ?_
          refine r_istore_n dX12_burnLine_86 rfl ?_
          refine r_iinc dX12_burnLine_87 rfl rfl ?_
          refine r_goto (tgt := 47) dX12_burnLine_90 rfl ?_
          refine ih q (k + 1) _ P (by omega) (by omega) (by omega) ?_
          rw [sumF] at hC
          first
          | (rw [if_pos (by omega), ← Int.sub_sub] at hC; exact hC)
          | (rw [if_neg (by omega), ← Int.sub_sub] at hC; exact hC)
  intro hC
  exact lB _ (D.1 9).toNat 0 _ _ (Nat.lt_succ_self _) (by omega) (by omega) hC
theorem m_burnLine {sh : Sh} {μ : Mem} {m : Nat} {T : Tq} {σ : Sg} {D : PD} (hM : IsModel sh μ.2.2 m) (hS : RS m μ T σ D) (hc : cntOK D.1) (h9 : D.1 9 < 12) (hg : WFg D.1) (hlf : leftOK D.1)  : IMet yX12_burnLine gX12_burnLine sh [vR m] μ (fun x μ2 => LRes m μ T x (burnL T σ D) μ2) := by
  have hM0 := hM
  have hS0 := hS
  obtain ⟨g0, f1, z1, f2, z2, f3, z3, f4, z4, f5, z5, f6, z6, f7, z7, f8, z8, f9, z9, f10, z10, f11, z11, f12, z12, f13, z13, f14, z14⟩ := id hM
  obtain ⟨hT, ⟨hs, h0⟩, hA, hSp, hN, h14⟩ := id hS
  obtain ⟨t1, t2, t3⟩ := id hT
  have hcn := hc
  unfold cntOK at hcn
  obtain ⟨hE, hK, hw, hs1⟩ := nxt_hand t2.2 hs h0
  have e1 : burnS1 T σ D = wordC T σ := by unfold burnS1; rw [iff_neg (by omega)]
  have hbt : burnT T σ D = tankF D (wordC T σ).1 := by unfold burnT; rw [e1]
  have e2 : burnS2 T σ D = numC T (iff' (burnT T σ D = -1) (wordC T σ).2 3) 1 (if burnT T σ D = -1 then 0 else leftF D.1 (burnT T σ D)) := by unfold burnS2; rw [e1]
  have hBN : burnL T σ D = ((burnS2 T σ D).2, if sE (burnS2 T σ D).2 = 0 then addBurn D (burnT T σ D) (burnS2 T σ D).1 else D) := rfl
  have hyn := word_y h0 hw
  have hnn := word_n (T := T) h0
  have htr := tankF_rng (D := D) (by omega) (pkN (fun i => T.1 (sF (nxt T σ) + i)) (sT (nxt T σ) - sF (nxt T σ)).toNat)
  have hsl := slot3 hc (pkN (fun i => T.1 (sF (nxt T σ) + i)) (sT (nxt T σ) - sF (nxt T σ)).toNat)
  refine AMet.of (by decide) rfl (by decide) rfl ?_
  refine r_aload_n dX12_burnLine_0 rfl ?_
  refine r_cV0F1 dX12_burnLine_1 ml_X12_127 yl_X12_isName ⟨rfl, rfl⟩ (by assumption) ⟨_, rfl⟩ rfl rfl rfl rfl (m_isName hM hA hw hE hK) ?_
  refine r_if_neB (tgt := 13) dX12_burnLine_4 rfl (fun c4 => ?_) (fun c4 => ?_)
  · have c4 := of_decide_eq_true c4
    have hw2 := hyn c4.1 c4.2
    refine r_aload_n dX12_burnLine_13 rfl ?_
    refine r_iconst dX12_burnLine_14 ?_
    refine r_cV1F1 dX12_burnLine_15 ml_X12_131 yl_X12_named0 ⟨rfl, rfl⟩ (by assumption) ⟨_, rfl⟩ rfl rfl rfl rfl (m_named0 hM hA hw c4.1 hN hSp hc (f0 := 3) (by omega)) ?_
    rw [show ((6 : Int) - 3).toNat = 3 from rfl, hsl]
    refine r_iconst dX12_burnLine_18 ?_
    refine r_isub dX12_burnLine_19 ?_
    refine r_istore_n dX12_burnLine_20 rfl ?_
    refine r_iload_n dX12_burnLine_21 rfl ?_
    refine q_if_ge (tgt := 31) dX12_burnLine_22 rfl (by split <;> omega) (fun c22 => ?_) (fun c22 => ?_)
    · have ht : ¬ tankF D (pkN (fun i => T.1 (sF (nxt T σ) + i)) (sT (nxt T σ) - sF (nxt T σ)).toNat) = -1 := by
        intro h
        rw [if_pos h] at c22
        omega
      rw [if_neg ht, show 3 + tankF D (pkN (fun i => T.1 (sF (nxt T σ) + i)) (sT (nxt T σ) - sF (nxt T σ)).toNat) - 3 = tankF D (pkN (fun i => T.1 (sF (nxt T σ) + i)) (sT (nxt T σ) - sF (nxt T σ)).toNat) by omega]
      have htr := htr.resolve_left ht
      have hlf1 := hlf _ htr.1 htr.2
      refine r_aload_n dX12_burnLine_31 rfl ?_
      refine r_cV0N dX12_burnLine_32 ml_X12_121 yl_X12_next ⟨rfl, rfl⟩ (by assumption) ⟨_, rfl⟩ rfl rfl rfl rfl (m_nextT hM hT hs1 hE (hA.2.2.1 (by omega))) ?_
      rintro μ1 ⟨k1, A1⟩
      have hS1 := hS0.next k1 A1
      have hM1 : IsModel sh μ1.2.2 m := by rw [k1.1]; exact hM0
      clear g0 f1 f2 f3 f4 f5 f6 f7 f8 f9 f10 f11 f12 f13 f14
      obtain ⟨g0, f1, z1, f2, z2, f3, z3, f4, z4, f5, z5, f6, z6, f7, z7, f8, z8, f9, z9, f10, z10, f11, z11, f12, z12, f13, z13, f14, z14⟩ := id hM1
      have e9 := hS1.2.2.2.1 9 (by omega) (by omega)
      refine r_aload_n dX12_burnLine_35 rfl ?_
      refine r_getR dX12_burnLine_36 fl_X12_13 rfl (by assumption) (by assumption) ?_
      refine r_bipush dX12_burnLine_39 (by decide) ?_
      refine r_iload_n dX12_burnLine_41 rfl ?_
      refine r_iadd dX12_burnLine_42 ?_
      refine r_iald dX12_burnLine_43 (by assumption) rfl (by omega) ?_
      refine r_istore_n dX12_burnLine_44 rfl ?_
      refine r_iconst dX12_burnLine_45 ?_
      refine r_istore_n dX12_burnLine_46 rfl ?_
      rw [hS1.2.2.2.1 (56 + tankF D (pkN (fun i => T.1 (sF (nxt T σ) + i)) (sT (nxt T σ) - sF (nxt T σ)).toNat)) (by omega) (by omega)]
      refine m_burnLeft hM1 hS1 hc hg (t := tankF D (pkN (fun i => T.1 (sF (nxt T σ) + i)) (sT (nxt T σ) - sF (nxt T σ)).toNat)) (by omega) ?_
      refine r_aload_n dX12_burnLine_93 rfl ?_
      refine r_bipush dX12_burnLine_94 (by decide) ?_
      refine r_aload_n dX12_burnLine_96 rfl ?_
      refine r_getR dX12_burnLine_97 fl_X12_13 rfl (by assumption) (by assumption) ?_
      refine r_bipush dX12_burnLine_100 (by decide) ?_
      refine r_iald dX12_burnLine_102 (by assumption) rfl (by omega) ?_
      rw [e9]
      refine r_iadd dX12_burnLine_103 ?_
      refine r_iconst dX12_burnLine_104 ?_
      refine r_iload_n dX12_burnLine_105 rfl ?_
      refine r_cV3I dX12_burnLine_106 ml_X12_135 yl_X12_takes ⟨rfl, rfl⟩ (by assumption) ⟨_, rfl⟩ rfl rfl rfl rfl (m_takes hM1 hS1.1 hS1.2.1.1 hS1.2.1.2 hS1.2.2.1 (cell := 71 + D.1 9) (lo := 1) (hi := leftF D.1 (tankF D (pkN (fun i => T.1 (sF (nxt T σ) + i)) (sT (nxt T σ) - sF (nxt T σ)).toNat))) (by omega) (by omega) (by omega)) ?_
      rintro x1 μ2 hraw
      obtain ⟨L1, N1⟩ := takesR_of hS1 (by omega) hraw
      clear hraw
      have x11 := L1.x01
      have hM2 : IsModel sh μ2.2.2 m := by rw [L1.1.1]; exact hM1
      clear g0 f1 f2 f3 f4 f5 f6 f7 f8 f9 f10 f11 f12 f13 f14
      obtain ⟨g0, f1, z1, f2, z2, f3, z3, f4, z4, f5, z5, f6, z6, f7, z7, f8, z8, f9, z9, f10, z10, f11, z11, f12, z12, f13, z13, f14, z14⟩ := id hM2
      clear z1 z3 z4 z5 z6 z9 z10 z11 z12 z13 z14
      refine q_if_ne (tgt := 114) dX12_burnLine_109 rfl (by omega) (fun c109 => ?_) (fun c109 => ?_)
      · have hS2 := L1.y (by omega)
        have e9 := hS2.2.2.2.1 9 (by omega) (by omega)
        (try dsimp only at e9)
        simp (disch := omega) only [rset_eq, rset_ne] at e9
        refine r_aload_n dX12_burnLine_114 rfl ?_
        refine r_getR dX12_burnLine_115 fl_X12_13 rfl (by assumption) (by assumption) ?_
        refine r_bipush dX12_burnLine_118 (by decide) ?_
        refine r_aload_n dX12_burnLine_120 rfl ?_
        refine r_getR dX12_burnLine_121 fl_X12_13 rfl (by assumption) (by assumption) ?_
        refine r_bipush dX12_burnLine_124 (by decide) ?_
        refine r_iald dX12_burnLine_126 (by assumption) rfl (by omega) ?_
        rw [e9]
        refine r_iadd dX12_burnLine_127 ?_
        refine r_iload_n dX12_burnLine_128 rfl ?_
        refine r_iast dX12_burnLine_129 (by assumption) rfl (by omega) ?_
        refine r_aload_n dX12_burnLine_130 rfl ?_
        refine r_getR dX12_burnLine_131 fl_X12_13 rfl (by assumption) (by assumption) ?_
        refine r_bipush dX12_burnLine_134 (by decide) ?_
        refine r_dup2 dX12_burnLine_136 rfl rfl ?_
        refine r_iald dX12_burnLine_137 (by assumption) rfl (by omega) ?_
        simp (disch := omega) only [sI_at, sI_ne, sI_nj, sI_L]
        rw [e9]
        refine r_iconst dX12_burnLine_138 ?_
        refine r_iadd dX12_burnLine_139 ?_
        refine r_iast dX12_burnLine_140 (by assumption) rfl (by omega) ?_
        refine r_iconst dX12_burnLine_141 ?_
        refine r_zreturn dX12_burnLine_142 (by first | exact Or.inl rfl | exact Or.inr rfl | exact b2i_01 _ | omega) rfl rfl rfl ?_
        have hb : burnL T σ D = ((numC T (nxt T σ) 1 (leftF D.1 (tankF D (pkN (fun i => T.1 (sF (nxt T σ) + i)) (sT (nxt T σ) - sF (nxt T σ)).toNat)))).2, if sE (numC T (nxt T σ) 1 (leftF D.1 (tankF D (pkN (fun i => T.1 (sF (nxt T σ) + i)) (sT (nxt T σ) - sF (nxt T σ)).toNat)))).2 = 0 then addBurn D (tankF D (pkN (fun i => T.1 (sF (nxt T σ) + i)) (sT (nxt T σ) - sF (nxt T σ)).toNat)) (numC T (nxt T σ) 1 (leftF D.1 (tankF D (pkN (fun i => T.1 (sF (nxt T σ) + i)) (sT (nxt T σ) - sF (nxt T σ)).toNat)))).1 else D) := by
          rw [hBN, e2, hbt, hw2]
          dsimp only
          rw [iff_neg ht, if_neg ht]
        rw [hb, if_pos hS2.2.1.2]
        refine ⟨rfl, _, rfl, (((((RT.rf _ _).rk k1).tr L1.1).s2).s2), Or.inl ⟨rfl, ?_⟩⟩
        have hq := (hS2.set (c := 59 + D.1 9) (v := tankF D (pkN (fun i => T.1 (sF (nxt T σ) + i)) (sT (nxt T σ) - sF (nxt T σ)).toNat)) (by omega)).set (c := 9) (v := D.1 9 + 1) (by omega)
        exact hq.row rfl rfl
      · refine r_iconst dX12_burnLine_112 ?_
        refine r_zreturn dX12_burnLine_113 (by first | exact Or.inl rfl | exact Or.inr rfl | exact b2i_01 _ | omega) rfl rfl rfl ?_
        have hb : burnL T σ D = ((numC T (nxt T σ) 1 (leftF D.1 (tankF D (pkN (fun i => T.1 (sF (nxt T σ) + i)) (sT (nxt T σ) - sF (nxt T σ)).toNat)))).2, if sE (numC T (nxt T σ) 1 (leftF D.1 (tankF D (pkN (fun i => T.1 (sF (nxt T σ) + i)) (sT (nxt T σ) - sF (nxt T σ)).toNat)))).2 = 0 then addBurn D (tankF D (pkN (fun i => T.1 (sF (nxt T σ) + i)) (sT (nxt T σ) - sF (nxt T σ)).toNat)) (numC T (nxt T σ) 1 (leftF D.1 (tankF D (pkN (fun i => T.1 (sF (nxt T σ) + i)) (sT (nxt T σ) - sF (nxt T σ)).toNat)))).1 else D) := by
          rw [hBN, e2, hbt, hw2]
          dsimp only
          rw [iff_neg ht, if_neg ht]
        rw [hb]
        exact ⟨rfl, _, rfl, (L1.pre ((RT.rf _ _).rk k1)).no (by omega) rfl⟩
    · have ht : tankF D (pkN (fun i => T.1 (sF (nxt T σ) + i)) (sT (nxt T σ) - sF (nxt T σ)).toNat) = -1 := by
        by_cases h : tankF D (pkN (fun i => T.1 (sF (nxt T σ) + i)) (sT (nxt T σ) - sF (nxt T σ)).toNat) = -1
        · exact h
        · rw [if_neg h] at c22; omega
      refine r_aload_n dX12_burnLine_25 rfl ?_
      refine r_iconst dX12_burnLine_26 ?_
      refine r_cV1F1 dX12_burnLine_27 ml_X12_116 yl_X12_badHere ⟨rfl, rfl⟩ (by assumption) ⟨_, rfl⟩ rfl rfl rfl rfl (m_badHere hM) ?_
      refine r_zreturn dX12_burnLine_30 (by first | exact Or.inl rfl | exact Or.inr rfl | exact b2i_01 _ | omega) rfl rfl rfl ?_
      refine ⟨rfl, _, rfl, ((RT.rf _ _).sI (by omega)).sI (by omega), Or.inr ?_⟩
      have hx : (burnL T σ D).1 = failC (nxt T σ) 3 := by
        rw [hBN, e2, hbt, hw2]
        dsimp only
        rw [iff_pos ht, num_no (fail_yes (by decide))]
      rw [hx, fail_0 hE]
      refine ⟨rfl, show (3 : Int) ≠ 0 by decide, ?_, ?_⟩
      · simp (disch := omega) only [sI_at, sI_ne, sI_nj, sI_L]
      · rw [sI_at]; exact hA.1
  · have c4 := of_decide_eq_false c4
    refine r_aload_n dX12_burnLine_7 rfl ?_
    refine r_iconst dX12_burnLine_8 ?_
    refine r_cV1F1 dX12_burnLine_9 ml_X12_116 yl_X12_badHere ⟨rfl, rfl⟩ (by assumption) ⟨_, rfl⟩ rfl rfl rfl rfl (m_badHere hM) ?_
    refine r_zreturn dX12_burnLine_12 (by first | exact Or.inl rfl | exact Or.inr rfl | exact b2i_01 _ | omega) rfl rfl rfl ?_
    refine ⟨rfl, _, rfl, ((RT.rf _ _).sI (by omega)).sI (by omega), Or.inr ?_⟩
    have hq := hnn c4
    have hx : (burnL T σ D).1 = failC (nxt T σ) 1 := by
      rw [hBN, e2, hq]
      dsimp only
      rw [iff_no (fail_yes (by decide)), num_no (fail_yes (by decide))]
    rw [hx, fail_0 hE]
    refine ⟨rfl, show (1 : Int) ≠ 0 by decide, ?_, ?_⟩
    · simp (disch := omega) only [sI_at, sI_ne, sI_nj, sI_L]
    · rw [sI_at]; exact hA.1

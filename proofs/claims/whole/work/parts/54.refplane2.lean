/-! 54.refplane2: a line, in the reference (wip/whole/src/54_refplane2.py) -/
def tooM (ρ : Row) (w : Int) : Bool := decide (w = 2 ∧ ρ 4 = 3 ∨ w = 3 ∧ ρ 5 = 6 ∨ w = 5 ∧ ρ 7 = 2 ∨ w = 6 ∧ ρ 8 = 3 ∨ w = 7 ∧ ρ 9 = 12 ∨ w = 8 ∧ (ρ 9 = 12 ∨ ρ 10 = 4))
theorem m_isTooMany {sh : Sh} {μ : Mem} {m : Nat} {ρ : Row} (hM : IsModel sh μ.2.2 m) (hSp : Spr m μ ρ) (hc : cntOK ρ) {w : Int} (hw : -2147483648 ≤ w ∧ w < 2147483648)  : FMet yX12_isTooMany gX12_isTooMany sh [vR m, vI w] μ (some (vI (b2i (tooM ρ w)))) μ := by
  obtain ⟨g0, f1, z1, f2, z2, f3, z3, f4, z4, f5, z5, f6, z6, f7, z7, f8, z8, f9, z9, f10, z10, f11, z11, f12, z12, f13, z13, f14, z14⟩ := id hM
  have hcn := hc
  unfold cntOK at hcn
  have e4 := hSp 4 (by omega) (by omega)
  have e5 := hSp 5 (by omega) (by omega)
  have e6 := hSp 6 (by omega) (by omega)
  have e7 := hSp 7 (by omega) (by omega)
  have e8 := hSp 8 (by omega) (by omega)
  have e9 := hSp 9 (by omega) (by omega)
  have e10 := hSp 10 (by omega) (by omega)
  refine AMet.of (by decide) rfl (by decide) rfl ?_
  refine r_iload_n dX12_isTooMany_0 rfl ?_
  rcases (show (w < 2 ∨ 8 < w) ∨ w = 2 ∨ w = 3 ∨ w = 4 ∨ w = 5 ∨ w = 6 ∨ w = 7 ∨ w = 8 by omega) with s1 | s1 | s1 | s1 | s1 | s1 | s1 | s1
  · refine r_tableOut (tgt := 158) dX12_isTooMany_1 (by omega) s1 rfl ?_
    refine r_iconst dX12_isTooMany_158 ?_
    refine r_zreturn dX12_isTooMany_159 (by first | exact Or.inl rfl | exact Or.inr rfl | exact b2i_01 _ | omega) rfl rfl rfl ?_
    refine ⟨rI ?_, rfl, rfl⟩
    unfold tooM
    first | (rw [decide_eq_true (by omega)]; rfl) | (rw [decide_eq_false (by omega)]; rfl)
  · subst s1
    refine r_tableIn (tgt := 44) dX12_isTooMany_1 (by decide) (by decide) (by decide) rfl rfl ?_
    refine r_aload_n dX12_isTooMany_44 rfl ?_
    refine r_getR dX12_isTooMany_45 fl_X12_13 rfl (by assumption) (by assumption) ?_
    refine r_iconst dX12_isTooMany_48 ?_
    refine r_iald dX12_isTooMany_49 (by assumption) rfl (by omega) ?_
    (try rw [e4]); (try rw [e5]); (try rw [e6]); (try rw [e7]); (try rw [e8]); (try rw [e9]); (try rw [e10])
    refine r_iconst dX12_isTooMany_50 ?_
    refine q_icmp_ne (tgt := 58) dX12_isTooMany_51 rfl (by omega) (by omega) (fun c51 => ?_) (fun c51 => ?_)
    · refine r_iconst dX12_isTooMany_58 ?_
      refine r_zreturn dX12_isTooMany_59 (by first | exact Or.inl rfl | exact Or.inr rfl | exact b2i_01 _ | omega) rfl rfl rfl ?_
      refine ⟨rI ?_, rfl, rfl⟩
      unfold tooM
      first | (rw [decide_eq_true (by omega)]; rfl) | (rw [decide_eq_false (by omega)]; rfl)
    · refine r_iconst dX12_isTooMany_54 ?_
      refine r_goto (tgt := 59) dX12_isTooMany_55 rfl ?_
      refine r_zreturn dX12_isTooMany_59 (by first | exact Or.inl rfl | exact Or.inr rfl | exact b2i_01 _ | omega) rfl rfl rfl ?_
      refine ⟨rI ?_, rfl, rfl⟩
      unfold tooM
      first | (rw [decide_eq_true (by omega)]; rfl) | (rw [decide_eq_false (by omega)]; rfl)
  · subst s1
    refine r_tableIn (tgt := 60) dX12_isTooMany_1 (by decide) (by decide) (by decide) rfl rfl ?_
    refine r_aload_n dX12_isTooMany_60 rfl ?_
    refine r_getR dX12_isTooMany_61 fl_X12_13 rfl (by assumption) (by assumption) ?_
    refine r_iconst dX12_isTooMany_64 ?_
    refine r_iald dX12_isTooMany_65 (by assumption) rfl (by omega) ?_
    (try rw [e4]); (try rw [e5]); (try rw [e6]); (try rw [e7]); (try rw [e8]); (try rw [e9]); (try rw [e10])
    refine r_bipush dX12_isTooMany_66 (by decide) ?_
    refine q_icmp_ne (tgt := 75) dX12_isTooMany_68 rfl (by omega) (by omega) (fun c68 => ?_) (fun c68 => ?_)
    · refine r_iconst dX12_isTooMany_75 ?_
      refine r_zreturn dX12_isTooMany_76 (by first | exact Or.inl rfl | exact Or.inr rfl | exact b2i_01 _ | omega) rfl rfl rfl ?_
      refine ⟨rI ?_, rfl, rfl⟩
      unfold tooM
      first | (rw [decide_eq_true (by omega)]; rfl) | (rw [decide_eq_false (by omega)]; rfl)
    · refine r_iconst dX12_isTooMany_71 ?_
      refine r_goto (tgt := 76) dX12_isTooMany_72 rfl ?_
      refine r_zreturn dX12_isTooMany_76 (by first | exact Or.inl rfl | exact Or.inr rfl | exact b2i_01 _ | omega) rfl rfl rfl ?_
      refine ⟨rI ?_, rfl, rfl⟩
      unfold tooM
      first | (rw [decide_eq_true (by omega)]; rfl) | (rw [decide_eq_false (by omega)]; rfl)
  · subst s1
    refine r_tableIn (tgt := 158) dX12_isTooMany_1 (by decide) (by decide) (by decide) rfl rfl ?_
    refine r_iconst dX12_isTooMany_158 ?_
    refine r_zreturn dX12_isTooMany_159 (by first | exact Or.inl rfl | exact Or.inr rfl | exact b2i_01 _ | omega) rfl rfl rfl ?_
    refine ⟨rI ?_, rfl, rfl⟩
    unfold tooM
    first | (rw [decide_eq_true (by omega)]; rfl) | (rw [decide_eq_false (by omega)]; rfl)
  · subst s1
    refine r_tableIn (tgt := 77) dX12_isTooMany_1 (by decide) (by decide) (by decide) rfl rfl ?_
    refine r_aload_n dX12_isTooMany_77 rfl ?_
    refine r_getR dX12_isTooMany_78 fl_X12_13 rfl (by assumption) (by assumption) ?_
    refine r_bipush dX12_isTooMany_81 (by decide) ?_
    refine r_iald dX12_isTooMany_83 (by assumption) rfl (by omega) ?_
    (try rw [e4]); (try rw [e5]); (try rw [e6]); (try rw [e7]); (try rw [e8]); (try rw [e9]); (try rw [e10])
    refine r_iconst dX12_isTooMany_84 ?_
    refine q_icmp_ne (tgt := 92) dX12_isTooMany_85 rfl (by omega) (by omega) (fun c85 => ?_) (fun c85 => ?_)
    · refine r_iconst dX12_isTooMany_92 ?_
      refine r_zreturn dX12_isTooMany_93 (by first | exact Or.inl rfl | exact Or.inr rfl | exact b2i_01 _ | omega) rfl rfl rfl ?_
      refine ⟨rI ?_, rfl, rfl⟩
      unfold tooM
      first | (rw [decide_eq_true (by omega)]; rfl) | (rw [decide_eq_false (by omega)]; rfl)
    · refine r_iconst dX12_isTooMany_88 ?_
      refine r_goto (tgt := 93) dX12_isTooMany_89 rfl ?_
      refine r_zreturn dX12_isTooMany_93 (by first | exact Or.inl rfl | exact Or.inr rfl | exact b2i_01 _ | omega) rfl rfl rfl ?_
      refine ⟨rI ?_, rfl, rfl⟩
      unfold tooM
      first | (rw [decide_eq_true (by omega)]; rfl) | (rw [decide_eq_false (by omega)]; rfl)
  · subst s1
    refine r_tableIn (tgt := 94) dX12_isTooMany_1 (by decide) (by decide) (by decide) rfl rfl ?_
    refine r_aload_n dX12_isTooMany_94 rfl ?_
    refine r_getR dX12_isTooMany_95 fl_X12_13 rfl (by assumption) (by assumption) ?_
    refine r_bipush dX12_isTooMany_98 (by decide) ?_
    refine r_iald dX12_isTooMany_100 (by assumption) rfl (by omega) ?_
    (try rw [e4]); (try rw [e5]); (try rw [e6]); (try rw [e7]); (try rw [e8]); (try rw [e9]); (try rw [e10])
    refine r_iconst dX12_isTooMany_101 ?_
    refine q_icmp_ne (tgt := 109) dX12_isTooMany_102 rfl (by omega) (by omega) (fun c102 => ?_) (fun c102 => ?_)
    · refine r_iconst dX12_isTooMany_109 ?_
      refine r_zreturn dX12_isTooMany_110 (by first | exact Or.inl rfl | exact Or.inr rfl | exact b2i_01 _ | omega) rfl rfl rfl ?_
      refine ⟨rI ?_, rfl, rfl⟩
      unfold tooM
      first | (rw [decide_eq_true (by omega)]; rfl) | (rw [decide_eq_false (by omega)]; rfl)
    · refine r_iconst dX12_isTooMany_105 ?_
      refine r_goto (tgt := 110) dX12_isTooMany_106 rfl ?_
      refine r_zreturn dX12_isTooMany_110 (by first | exact Or.inl rfl | exact Or.inr rfl | exact b2i_01 _ | omega) rfl rfl rfl ?_
      refine ⟨rI ?_, rfl, rfl⟩
      unfold tooM
      first | (rw [decide_eq_true (by omega)]; rfl) | (rw [decide_eq_false (by omega)]; rfl)
  · subst s1
    refine r_tableIn (tgt := 111) dX12_isTooMany_1 (by decide) (by decide) (by decide) rfl rfl ?_
    refine r_aload_n dX12_isTooMany_111 rfl ?_
    refine r_getR dX12_isTooMany_112 fl_X12_13 rfl (by assumption) (by assumption) ?_
    refine r_bipush dX12_isTooMany_115 (by decide) ?_
    refine r_iald dX12_isTooMany_117 (by assumption) rfl (by omega) ?_
    (try rw [e4]); (try rw [e5]); (try rw [e6]); (try rw [e7]); (try rw [e8]); (try rw [e9]); (try rw [e10])
    refine r_bipush dX12_isTooMany_118 (by decide) ?_
    refine q_icmp_ne (tgt := 127) dX12_isTooMany_120 rfl (by omega) (by omega) (fun c120 => ?_) (fun c120 => ?_)
    · refine r_iconst dX12_isTooMany_127 ?_
      refine r_zreturn dX12_isTooMany_128 (by first | exact Or.inl rfl | exact Or.inr rfl | exact b2i_01 _ | omega) rfl rfl rfl ?_
      refine ⟨rI ?_, rfl, rfl⟩
      unfold tooM
      first | (rw [decide_eq_true (by omega)]; rfl) | (rw [decide_eq_false (by omega)]; rfl)
    · refine r_iconst dX12_isTooMany_123 ?_
      refine r_goto (tgt := 128) dX12_isTooMany_124 rfl ?_
      refine r_zreturn dX12_isTooMany_128 (by first | exact Or.inl rfl | exact Or.inr rfl | exact b2i_01 _ | omega) rfl rfl rfl ?_
      refine ⟨rI ?_, rfl, rfl⟩
      unfold tooM
      first | (rw [decide_eq_true (by omega)]; rfl) | (rw [decide_eq_false (by omega)]; rfl)
  · subst s1
    refine r_tableIn (tgt := 129) dX12_isTooMany_1 (by decide) (by decide) (by decide) rfl rfl ?_
    refine r_aload_n dX12_isTooMany_129 rfl ?_
    refine r_getR dX12_isTooMany_130 fl_X12_13 rfl (by assumption) (by assumption) ?_
    refine r_bipush dX12_isTooMany_133 (by decide) ?_
    refine r_iald dX12_isTooMany_135 (by assumption) rfl (by omega) ?_
    (try rw [e4]); (try rw [e5]); (try rw [e6]); (try rw [e7]); (try rw [e8]); (try rw [e9]); (try rw [e10])
    refine r_bipush dX12_isTooMany_136 (by decide) ?_
    refine q_icmp_eq (tgt := 152) dX12_isTooMany_138 rfl (by omega) (by omega) (fun c138 => ?_) (fun c138 => ?_)
    · refine r_iconst dX12_isTooMany_152 ?_
      refine r_goto (tgt := 157) dX12_isTooMany_153 rfl ?_
      refine r_zreturn dX12_isTooMany_157 (by first | exact Or.inl rfl | exact Or.inr rfl | exact b2i_01 _ | omega) rfl rfl rfl ?_
      refine ⟨rI ?_, rfl, rfl⟩
      unfold tooM
      first | (rw [decide_eq_true (by omega)]; rfl) | (rw [decide_eq_false (by omega)]; rfl)
    · refine r_aload_n dX12_isTooMany_141 rfl ?_
      refine r_getR dX12_isTooMany_142 fl_X12_13 rfl (by assumption) (by assumption) ?_
      refine r_bipush dX12_isTooMany_145 (by decide) ?_
      refine r_iald dX12_isTooMany_147 (by assumption) rfl (by omega) ?_
      (try rw [e4]); (try rw [e5]); (try rw [e6]); (try rw [e7]); (try rw [e8]); (try rw [e9]); (try rw [e10])
      refine r_iconst dX12_isTooMany_148 ?_
      refine q_icmp_ne (tgt := 156) dX12_isTooMany_149 rfl (by omega) (by omega) (fun c149 => ?_) (fun c149 => ?_)
      · refine r_iconst dX12_isTooMany_156 ?_
        refine r_zreturn dX12_isTooMany_157 (by first | exact Or.inl rfl | exact Or.inr rfl | exact b2i_01 _ | omega) rfl rfl rfl ?_
        refine ⟨rI ?_, rfl, rfl⟩
        unfold tooM
        first | (rw [decide_eq_true (by omega)]; rfl) | (rw [decide_eq_false (by omega)]; rfl)
      · refine r_iconst dX12_isTooMany_152 ?_
        refine r_goto (tgt := 157) dX12_isTooMany_153 rfl ?_
        refine r_zreturn dX12_isTooMany_157 (by first | exact Or.inl rfl | exact Or.inr rfl | exact b2i_01 _ | omega) rfl rfl rfl ?_
        refine ⟨rI ?_, rfl, rfl⟩
        unfold tooM
        first | (rw [decide_eq_true (by omega)]; rfl) | (rw [decide_eq_false (by omega)]; rfl)
theorem m_canJoint {sh : Sh} {μ : Mem} {m : Nat} {ρ : Row} (hM : IsModel sh μ.2.2 m) (hSp : Spr m μ ρ) (hc : cntOK ρ) (hs : WFs ρ) (hj : WFj ρ)  : FMet yX12_canJoint gX12_canJoint sh [vR m] μ (some (vI (b2i (canJ ρ)))) μ := by
  obtain ⟨g0, f1, z1, f2, z2, f3, z3, f4, z4, f5, z5, f6, z6, f7, z7, f8, z8, f9, z9, f10, z10, f11, z11, f12, z12, f13, z13, f14, z14⟩ := id hM
  have hcn := hc
  unfold cntOK at hcn
  have e4 := hSp 4 (by omega) (by omega)
  have e5 := hSp 5 (by omega) (by omega)
  have e6 := hSp 6 (by omega) (by omega)
  have e7 := hSp 7 (by omega) (by omega)
  have e8 := hSp 8 (by omega) (by omega)
  have e9 := hSp 9 (by omega) (by omega)
  have e10 := hSp 10 (by omega) (by omega)
  refine AMet.of (by decide) rfl (by decide) rfl ?_
  refine r_aload_n dX12_canJoint_0 rfl ?_
  refine r_getR dX12_canJoint_1 fl_X12_13 rfl (by assumption) (by assumption) ?_
  refine r_iconst dX12_canJoint_4 ?_
  refine r_iald dX12_canJoint_5 (by assumption) rfl (by omega) ?_
  rw [e5]
  refine r_istore_n dX12_canJoint_6 rfl ?_
  refine r_iload_n dX12_canJoint_7 rfl ?_
  refine r_iconst dX12_canJoint_8 ?_
  refine q_icmp_lt (tgt := 34) dX12_canJoint_9 rfl (by omega) (by omega) (fun c9 => ?_) (fun c9 => ?_)
  · refine r_iconst dX12_canJoint_34 ?_
    refine r_zreturn dX12_canJoint_35 (by first | exact Or.inl rfl | exact Or.inr rfl | exact b2i_01 _ | omega) rfl rfl rfl ?_
    refine ⟨rI ?_, rfl, rfl⟩
    unfold canJ
    first | (rw [decide_eq_true (by omega)]; rfl) | (rw [decide_eq_false (by omega)]; rfl)
  · have q1 := hSp (19 + (ρ 5 - 2)) (by omega) (by omega)
    have s1 := hs (ρ 5 - 2) (by omega) (by omega)
    refine r_aload_n dX12_canJoint_12 rfl ?_
    refine r_getR dX12_canJoint_13 fl_X12_13 rfl (by assumption) (by assumption) ?_
    refine r_bipush dX12_canJoint_16 (by decide) ?_
    refine r_iload_n dX12_canJoint_18 rfl ?_
    refine r_iadd dX12_canJoint_19 ?_
    refine r_iconst dX12_canJoint_20 ?_
    refine r_isub dX12_canJoint_21 ?_
    refine r_iald dX12_canJoint_22 (by assumption) rfl (by omega) ?_
    rw [show 19 + ρ 5 - 2 = 19 + (ρ 5 - 2) by omega, q1]
    refine r_aload_n dX12_canJoint_23 rfl ?_
    refine r_getR dX12_canJoint_24 fl_X12_13 rfl (by assumption) (by assumption) ?_
    refine r_iconst dX12_canJoint_27 ?_
    refine r_iald dX12_canJoint_28 (by assumption) rfl (by omega) ?_
    rw [e4]
    refine r_iconst dX12_canJoint_29 ?_
    refine r_isub dX12_canJoint_30 ?_
    refine q_icmp_eq (tgt := 36) dX12_canJoint_31 rfl (by omega) (by omega) (fun c31 => ?_) (fun c31 => ?_)
    · refine r_aload_n dX12_canJoint_36 rfl ?_
      refine r_getR dX12_canJoint_37 fl_X12_13 rfl (by assumption) (by assumption) ?_
      refine r_bipush dX12_canJoint_40 (by decide) ?_
      refine r_iald dX12_canJoint_42 (by assumption) rfl (by omega) ?_
      rw [e6]
      refine q_if_eq (tgt := 69) dX12_canJoint_43 rfl (by omega) (fun c43 => ?_) (fun c43 => ?_)
      · refine r_iconst dX12_canJoint_69 ?_
        refine r_goto (tgt := 74) dX12_canJoint_70 rfl ?_
        refine r_zreturn dX12_canJoint_74 (by first | exact Or.inl rfl | exact Or.inr rfl | exact b2i_01 _ | omega) rfl rfl rfl ?_
        refine ⟨rI ?_, rfl, rfl⟩
        unfold canJ
        first | (rw [decide_eq_true (by omega)]; rfl) | (rw [decide_eq_false (by omega)]; rfl)
      · have q2 := hSp (37 + (ρ 6 - 1)) (by omega) (by omega)
        have s2 := hj (ρ 6 - 1) (by omega) (by omega)
        refine r_aload_n dX12_canJoint_46 rfl ?_
        refine r_getR dX12_canJoint_47 fl_X12_13 rfl (by assumption) (by assumption) ?_
        refine r_bipush dX12_canJoint_50 (by decide) ?_
        refine r_aload_n dX12_canJoint_52 rfl ?_
        refine r_getR dX12_canJoint_53 fl_X12_13 rfl (by assumption) (by assumption) ?_
        refine r_bipush dX12_canJoint_56 (by decide) ?_
        refine r_iald dX12_canJoint_58 (by assumption) rfl (by omega) ?_
        rw [e6]
        refine r_iadd dX12_canJoint_59 ?_
        refine r_iconst dX12_canJoint_60 ?_
        refine r_isub dX12_canJoint_61 ?_
        refine r_iald dX12_canJoint_62 (by assumption) rfl (by omega) ?_
        rw [show 37 + ρ 6 - 1 = 37 + (ρ 6 - 1) by omega, q2]
        refine r_iload_n dX12_canJoint_63 rfl ?_
        refine r_iconst dX12_canJoint_64 ?_
        refine r_isub dX12_canJoint_65 ?_
        refine q_icmp_eq (tgt := 73) dX12_canJoint_66 rfl (by omega) (by omega) (fun c66 => ?_) (fun c66 => ?_)
        · refine r_iconst dX12_canJoint_73 ?_
          refine r_zreturn dX12_canJoint_74 (by first | exact Or.inl rfl | exact Or.inr rfl | exact b2i_01 _ | omega) rfl rfl rfl ?_
          refine ⟨rI ?_, rfl, rfl⟩
          unfold canJ
          first | (rw [decide_eq_true (by omega)]; rfl) | (rw [decide_eq_false (by omega)]; rfl)
        · refine r_iconst dX12_canJoint_69 ?_
          refine r_goto (tgt := 74) dX12_canJoint_70 rfl ?_
          refine r_zreturn dX12_canJoint_74 (by first | exact Or.inl rfl | exact Or.inr rfl | exact b2i_01 _ | omega) rfl rfl rfl ?_
          refine ⟨rI ?_, rfl, rfl⟩
          unfold canJ
          first | (rw [decide_eq_true (by omega)]; rfl) | (rw [decide_eq_false (by omega)]; rfl)
    · refine r_iconst dX12_canJoint_34 ?_
      refine r_zreturn dX12_canJoint_35 (by first | exact Or.inl rfl | exact Or.inr rfl | exact b2i_01 _ | omega) rfl rfl rfl ?_
      refine ⟨rI ?_, rfl, rfl⟩
      unfold canJ
      first | (rw [decide_eq_true (by omega)]; rfl) | (rw [decide_eq_false (by omega)]; rfl)
theorem tells_no {T : Tq} {τ : Sg} {w : Nat} (hw : w < 13) (ht : tellsF T τ w = true) (j : Nat) (hj : j < 13) (hne : j ≠ w) : ¬ tellsF T τ j = true := fun h => hne (tells_uniq hj hw h ht)
theorem line_0 {T : Tq} {τ : Sg} {D : PD} (ht : tellsF T τ 0 = true) : lineP T τ D = emptyL T τ D := by
  have no := tells_no (by omega) ht
  unfold lineP
  rw [if_pos ht]
theorem line_1 {T : Tq} {τ : Sg} {D : PD} (ht : tellsF T τ 1 = true) : lineP T τ D = spanL T τ D := by
  have no := tells_no (by omega) ht
  unfold lineP
  rw [if_neg (no 0 (by omega) (by omega)), if_pos ht]
theorem line_2 {T : Tq} {τ : Sg} {D : PD} (ht : tellsF T τ 2 = true) : lineP T τ D = holdL T τ D := by
  have no := tells_no (by omega) ht
  unfold lineP
  rw [if_neg (no 0 (by omega) (by omega)), if_neg (no 1 (by omega) (by omega)), if_pos ht]
theorem line_3 {T : Tq} {τ : Sg} {D : PD} (ht : tellsF T τ 3 = true) : lineP T τ D = spotL T τ D := by
  have no := tells_no (by omega) ht
  unfold lineP
  rw [if_neg (no 0 (by omega) (by omega)), if_neg (no 1 (by omega) (by omega)), if_neg (no 2 (by omega) (by omega)), if_pos ht]
theorem line_4 {T : Tq} {τ : Sg} {D : PD} (ht : tellsF T τ 4 = true) : lineP T τ D = jointL T τ D := by
  have no := tells_no (by omega) ht
  unfold lineP
  rw [if_neg (no 0 (by omega) (by omega)), if_neg (no 1 (by omega) (by omega)), if_neg (no 2 (by omega) (by omega)), if_neg (no 3 (by omega) (by omega)), if_pos ht]
theorem line_5 {T : Tq} {τ : Sg} {D : PD} (ht : tellsF T τ 5 = true) : lineP T τ D = binL T τ D := by
  have no := tells_no (by omega) ht
  unfold lineP
  rw [if_neg (no 0 (by omega) (by omega)), if_neg (no 1 (by omega) (by omega)), if_neg (no 2 (by omega) (by omega)), if_neg (no 3 (by omega) (by omega)), if_neg (no 4 (by omega) (by omega)), if_pos ht]
theorem line_6 {T : Tq} {τ : Sg} {D : PD} (ht : tellsF T τ 6 = true) : lineP T τ D = tankL T τ D := by
  have no := tells_no (by omega) ht
  unfold lineP
  rw [if_neg (no 0 (by omega) (by omega)), if_neg (no 1 (by omega) (by omega)), if_neg (no 2 (by omega) (by omega)), if_neg (no 3 (by omega) (by omega)), if_neg (no 4 (by omega) (by omega)), if_neg (no 5 (by omega) (by omega)), if_pos ht]
theorem line_7 {T : Tq} {τ : Sg} {D : PD} (ht : tellsF T τ 7 = true) : lineP T τ D = burnL T τ D := by
  have no := tells_no (by omega) ht
  unfold lineP
  rw [if_neg (no 0 (by omega) (by omega)), if_neg (no 1 (by omega) (by omega)), if_neg (no 2 (by omega) (by omega)), if_neg (no 3 (by omega) (by omega)), if_neg (no 4 (by omega) (by omega)), if_neg (no 5 (by omega) (by omega)), if_neg (no 6 (by omega) (by omega)), if_pos ht]
theorem line_8 {T : Tq} {τ : Sg} {D : PD} (ht : tellsF T τ 8 = true) : lineP T τ D = stopL T τ D := by
  have no := tells_no (by omega) ht
  unfold lineP
  rw [if_neg (no 0 (by omega) (by omega)), if_neg (no 1 (by omega) (by omega)), if_neg (no 2 (by omega) (by omega)), if_neg (no 3 (by omega) (by omega)), if_neg (no 4 (by omega) (by omega)), if_neg (no 5 (by omega) (by omega)), if_neg (no 6 (by omega) (by omega)), if_neg (no 7 (by omega) (by omega)), if_pos ht]
theorem m_planeLine {sh : Sh} {μ : Mem} {m : Nat} {T : Tq} {σ : Sg} {D : PD} (hM : IsModel sh μ.2.2 m) (hS : RS m μ T σ D) {w : Int} (hw : 0 ≤ w ∧ w ≤ 8) (ht : tellsF T (nxt T σ) w.toNat = true) (hD : DOK D) (b0 : w = 0 → D.2.2.1 ≠ 1) (b1 : w = 1 → D.2.2.2 ≠ 1) (b2 : tooM D.1 w = false) (b3 : w = 3 → D.1 4 ≠ 0) (b4 : w = 4 → canJ D.1 = true)  : IMet yX12_planeLine gX12_planeLine sh [vR m, vI w] μ (fun x μ2 => LRes m μ T x (lineP T (nxt T σ) D) μ2) := by
  have hc := hD.1
  have hM0 := hM
  obtain ⟨g0, f1, z1, f2, z2, f3, z3, f4, z4, f5, z5, f6, z6, f7, z7, f8, z8, f9, z9, f10, z10, f11, z11, f12, z12, f13, z13, f14, z14⟩ := id hM
  obtain ⟨hT, ⟨hs, h0⟩, hA, hSp, hN, h14⟩ := id hS
  obtain ⟨t1, t2, t3⟩ := id hT
  have hcn := hc
  unfold cntOK at hcn
  obtain ⟨hE, hK, hwd, hs1⟩ := nxt_hand t2.2 hs h0
  have hk1 : sK (nxt T σ) = 1 := by
    unfold tellsF at ht
    rw [Bool.and_eq_true, decide_eq_true_eq] at ht
    exact ht.1.2.1
  have ftm := of_decide_eq_false b2
  refine AMet.of (by decide) rfl (by decide) rfl ?_
  refine r_aload_n dX12_planeLine_0 rfl ?_
  refine r_cV0N dX12_planeLine_1 ml_X12_121 yl_X12_next ⟨rfl, rfl⟩ (by assumption) ⟨_, rfl⟩ rfl rfl rfl rfl (m_nextT hM hT hs1 hE (hA.2.2.1 (by omega))) ?_
  rintro μ1 ⟨k1, A1⟩
  have hS1 := hS.next k1 A1
  have hM1 : IsModel sh μ1.2.2 m := by rw [k1.1]; exact hM0
  clear g0 f1 f2 f3 f4 f5 f6 f7 f8 f9 f10 f11 f12 f13 f14
  obtain ⟨g0, f1, z1, f2, z2, f3, z3, f4, z4, f5, z5, f6, z6, f7, z7, f8, z8, f9, z9, f10, z10, f11, z11, f12, z12, f13, z13, f14, z14⟩ := id hM1
  refine r_iload_n dX12_planeLine_4 rfl ?_
  rcases (show (w < 0 ∨ 7 < w) ∨ w = 0 ∨ w = 1 ∨ w = 2 ∨ w = 3 ∨ w = 4 ∨ w = 5 ∨ w = 6 ∨ w = 7 by omega) with s5 | s5 | s5 | s5 | s5 | s5 | s5 | s5 | s5
  · refine r_tableOut (tgt := 116) dX12_planeLine_5 (by omega) s5 rfl ?_
    obtain rfl : w = 8 := by omega
    have e9 := hS1.2.2.2.1 9 (by omega) (by omega)
    have e10 := hS1.2.2.2.1 10 (by omega) (by omega)
    refine r_aload_n dX12_planeLine_116 rfl ?_
    refine r_getR dX12_planeLine_117 fl_X12_13 rfl (by assumption) (by assumption) ?_
    refine r_bipush dX12_planeLine_120 (by decide) ?_
    refine r_aload_n dX12_planeLine_122 rfl ?_
    refine r_getR dX12_planeLine_123 fl_X12_13 rfl (by assumption) (by assumption) ?_
    refine r_bipush dX12_planeLine_126 (by decide) ?_
    refine r_iald dX12_planeLine_128 (by assumption) rfl (by omega) ?_
    rw [e9]
    refine r_iadd dX12_planeLine_129 ?_
    refine r_iconst dX12_planeLine_130 ?_
    refine r_iast dX12_planeLine_131 (by assumption) rfl (by omega) ?_
    refine r_aload_n dX12_planeLine_132 rfl ?_
    refine r_getR dX12_planeLine_133 fl_X12_13 rfl (by assumption) (by assumption) ?_
    refine r_bipush dX12_planeLine_136 (by decide) ?_
    refine r_dup2 dX12_planeLine_138 rfl rfl ?_
    refine r_iald dX12_planeLine_139 (by assumption) rfl (by omega) ?_
    simp (disch := omega) only [sI_at, sI_ne, sI_nj, sI_L]
    rw [e9]
    refine r_iconst dX12_planeLine_140 ?_
    refine r_iadd dX12_planeLine_141 ?_
    refine r_iast dX12_planeLine_142 (by assumption) rfl (by omega) ?_
    refine r_aload_n dX12_planeLine_143 rfl ?_
    refine r_getR dX12_planeLine_144 fl_X12_13 rfl (by assumption) (by assumption) ?_
    refine r_bipush dX12_planeLine_147 (by decide) ?_
    refine r_dup2 dX12_planeLine_149 rfl rfl ?_
    refine r_iald dX12_planeLine_150 (by assumption) rfl (by omega) ?_
    simp (disch := omega) only [sI_at, sI_ne, sI_nj, sI_L]
    rw [e10]
    refine r_iconst dX12_planeLine_151 ?_
    refine r_iadd dX12_planeLine_152 ?_
    refine r_iast dX12_planeLine_153 (by assumption) rfl (by omega) ?_
    refine r_iconst dX12_planeLine_154 ?_
    refine r_zreturn dX12_planeLine_155 (by first | exact Or.inl rfl | exact Or.inr rfl | exact b2i_01 _ | omega) rfl rfl rfl ?_
    have hl2 : lineP T (nxt T σ) D = stopL T (nxt T σ) D := line_8 ht
    have hst : stopL T (nxt T σ) D = (nxt T σ, addStop D) := by unfold stopL; rw [if_neg (by omega)]
    refine ⟨rfl, _, rfl, ?_⟩
    rw [hl2, hst]
    refine ⟨(((((RT.rf m μ).rk k1).s2).s2).s2), Or.inl ⟨rfl, ?_⟩⟩
    have hq := ((hS1.set (c := 59 + D.1 9) (v := -1) (by omega)).set (c := 9) (v := D.1 9 + 1) (by omega)).set (c := 10) (v := D.1 10 + 1) (by omega)
    exact hq.row rfl rfl
  · subst s5
    refine r_tableIn (tgt := 52) dX12_planeLine_5 (by decide) (by decide) (by decide) rfl rfl ?_
    refine r_aload_n dX12_planeLine_52 rfl ?_
    refine r_iconst dX12_planeLine_53 ?_
    refine r_iconst dX12_planeLine_54 ?_
    refine r_sipush dX12_planeLine_55 (by decide) ?_
    refine r_cV3I dX12_planeLine_58 ml_X12_135 yl_X12_takes ⟨rfl, rfl⟩ (by assumption) ⟨_, rfl⟩ rfl rfl rfl rfl (m_takes hM1 hS1.1 hS1.2.1.1 hS1.2.1.2 hS1.2.2.1 (cell := 0) (lo := 1) (hi := 999) (by omega) (by omega) (by omega)) ?_
    rintro x1 μ2 hraw
    obtain ⟨L1, N1⟩ := takesR_of hS1 (by omega) hraw
    clear hraw
    have x11 := L1.x01
    have hM2 : IsModel sh μ2.2.2 m := by rw [L1.1.1]; exact hM1
    clear g0 f1 f2 f3 f4 f5 f6 f7 f8 f9 f10 f11 f12 f13 f14
    obtain ⟨g0, f1, z1, f2, z2, f3, z3, f4, z4, f5, z5, f6, z6, f7, z7, f8, z8, f9, z9, f10, z10, f11, z11, f12, z12, f13, z13, f14, z14⟩ := id hM2
    clear z1 z3 z4 z5 z6 z9 z10 z11 z12 z13 z14
    refine q_if_eq (tgt := 79) dX12_planeLine_61 rfl (by omega) (fun c61 => ?_) (fun c61 => ?_)
    · refine r_iconst dX12_planeLine_79 ?_
      refine r_zreturn dX12_planeLine_80 (by first | exact Or.inl rfl | exact Or.inr rfl | exact b2i_01 _ | omega) rfl rfl rfl ?_
      have e1 : emptyS1 T (nxt T σ) D = numC T (nxt T σ) 1 999 := by unfold emptyS1; rw [iff_neg (b0 rfl)]
      have e2 : emptyS2 T (nxt T σ) D = numC T (numC T (nxt T σ) 1 999).2 0 99 := by unfold emptyS2; rw [e1]
      have hN2 : emptyL T (nxt T σ) D = ((emptyS2 T (nxt T σ) D).2, rset (rset D.1 0 (emptyS1 T (nxt T σ) D).1) 1 (emptyS2 T (nxt T σ) D).1, D.2.1, 1, D.2.2.2) := rfl
      have hl2 : lineP T (nxt T σ) D = emptyL T (nxt T σ) D := line_0 ht
      refine ⟨rfl, _, rfl, ?_⟩
      rw [hl2, hN2, e2, e1]
      have kk := (RT.rf m μ).rk k1
      first
      | exact ⟨(kk.tr L1.1).tr L2.1, Or.inl ⟨rfl, (L2.y (by omega)).row rfl rfl⟩⟩
      | exact (L2.pre (kk.tr L1.1)).no (by omega) rfl
      | exact (L1.pre kk).no (by omega) (by show (numC T (numC T (nxt T σ) 1 999).2 0 99).2 = _; rw [num_no (L1.n (by omega)).1])
    · have hS2 := L1.y (by omega)
      refine r_aload_n dX12_planeLine_64 rfl ?_
      refine r_iconst dX12_planeLine_65 ?_
      refine r_iconst dX12_planeLine_66 ?_
      refine r_bipush dX12_planeLine_67 (by decide) ?_
      refine r_cV3I dX12_planeLine_69 ml_X12_135 yl_X12_takes ⟨rfl, rfl⟩ (by assumption) ⟨_, rfl⟩ rfl rfl rfl rfl (m_takes hM2 hS2.1 hS2.2.1.1 hS2.2.1.2 hS2.2.2.1 (cell := 1) (lo := 0) (hi := 99) (by omega) (by omega) (by omega)) ?_
      rintro x2 μ3 hraw
      obtain ⟨L2, N2⟩ := takesR_of hS2 (by omega) hraw
      clear hraw
      have x21 := L2.x01
      have hM3 : IsModel sh μ3.2.2 m := by rw [L2.1.1]; exact hM2
      clear g0 f1 f2 f3 f4 f5 f6 f7 f8 f9 f10 f11 f12 f13 f14
      obtain ⟨g0, f1, z1, f2, z2, f3, z3, f4, z4, f5, z5, f6, z6, f7, z7, f8, z8, f9, z9, f10, z10, f11, z11, f12, z12, f13, z13, f14, z14⟩ := id hM3
      clear z1 z3 z4 z5 z6 z9 z10 z11 z12 z13 z14
      refine q_if_eq (tgt := 79) dX12_planeLine_72 rfl (by omega) (fun c72 => ?_) (fun c72 => ?_)
      · refine r_iconst dX12_planeLine_79 ?_
        refine r_zreturn dX12_planeLine_80 (by first | exact Or.inl rfl | exact Or.inr rfl | exact b2i_01 _ | omega) rfl rfl rfl ?_
        have e1 : emptyS1 T (nxt T σ) D = numC T (nxt T σ) 1 999 := by unfold emptyS1; rw [iff_neg (b0 rfl)]
        have e2 : emptyS2 T (nxt T σ) D = numC T (numC T (nxt T σ) 1 999).2 0 99 := by unfold emptyS2; rw [e1]
        have hN2 : emptyL T (nxt T σ) D = ((emptyS2 T (nxt T σ) D).2, rset (rset D.1 0 (emptyS1 T (nxt T σ) D).1) 1 (emptyS2 T (nxt T σ) D).1, D.2.1, 1, D.2.2.2) := rfl
        have hl2 : lineP T (nxt T σ) D = emptyL T (nxt T σ) D := line_0 ht
        refine ⟨rfl, _, rfl, ?_⟩
        rw [hl2, hN2, e2, e1]
        have kk := (RT.rf m μ).rk k1
        first
        | exact ⟨(kk.tr L1.1).tr L2.1, Or.inl ⟨rfl, (L2.y (by omega)).row rfl rfl⟩⟩
        | exact (L2.pre (kk.tr L1.1)).no (by omega) rfl
        | exact (L1.pre kk).no (by omega) (by show (numC T (numC T (nxt T σ) 1 999).2 0 99).2 = _; rw [num_no (L1.n (by omega)).1])
      · refine r_iconst dX12_planeLine_75 ?_
        refine r_goto (tgt := 80) dX12_planeLine_76 rfl ?_
        refine r_zreturn dX12_planeLine_80 (by first | exact Or.inl rfl | exact Or.inr rfl | exact b2i_01 _ | omega) rfl rfl rfl ?_
        have e1 : emptyS1 T (nxt T σ) D = numC T (nxt T σ) 1 999 := by unfold emptyS1; rw [iff_neg (b0 rfl)]
        have e2 : emptyS2 T (nxt T σ) D = numC T (numC T (nxt T σ) 1 999).2 0 99 := by unfold emptyS2; rw [e1]
        have hN2 : emptyL T (nxt T σ) D = ((emptyS2 T (nxt T σ) D).2, rset (rset D.1 0 (emptyS1 T (nxt T σ) D).1) 1 (emptyS2 T (nxt T σ) D).1, D.2.1, 1, D.2.2.2) := rfl
        have hl2 : lineP T (nxt T σ) D = emptyL T (nxt T σ) D := line_0 ht
        refine ⟨rfl, _, rfl, ?_⟩
        rw [hl2, hN2, e2, e1]
        have kk := (RT.rf m μ).rk k1
        first
        | exact ⟨(kk.tr L1.1).tr L2.1, Or.inl ⟨rfl, (L2.y (by omega)).row rfl rfl⟩⟩
        | exact (L2.pre (kk.tr L1.1)).no (by omega) rfl
        | exact (L1.pre kk).no (by omega) (by show (numC T (numC T (nxt T σ) 1 999).2 0 99).2 = _; rw [num_no (L1.n (by omega)).1])
  · subst s5
    refine r_tableIn (tgt := 81) dX12_planeLine_5 (by decide) (by decide) (by decide) rfl rfl ?_
    refine r_aload_n dX12_planeLine_81 rfl ?_
    refine r_cV0I dX12_planeLine_82 ml_X12_141 yl_X12_spanLine ⟨rfl, rfl⟩ (by assumption) ⟨_, rfl⟩ rfl rfl rfl rfl (m_spanLine hM1 hS1 hc (b1 rfl)) ?_
    intro x0 μ2 L0
    have x01 := L0.x01
    refine r_zreturn dX12_planeLine_85 (by first | exact Or.inl rfl | exact Or.inr rfl | exact b2i_01 _ | omega) rfl rfl rfl ?_
    exact ⟨rfl, _, rfl, by rw [line_1 ht]; exact L0.pre ((RT.rf _ _).rk k1)⟩
  · subst s5
    refine r_tableIn (tgt := 86) dX12_planeLine_5 (by decide) (by decide) (by decide) rfl rfl ?_
    refine r_aload_n dX12_planeLine_86 rfl ?_
    refine r_cV0I dX12_planeLine_87 ml_X12_144 yl_X12_holdLine ⟨rfl, rfl⟩ (by assumption) ⟨_, rfl⟩ rfl rfl rfl rfl (m_holdLine hM1 hS1 hc (by omega)) ?_
    intro x0 μ2 L0
    have x01 := L0.x01
    refine r_zreturn dX12_planeLine_90 (by first | exact Or.inl rfl | exact Or.inr rfl | exact b2i_01 _ | omega) rfl rfl rfl ?_
    exact ⟨rfl, _, rfl, by rw [line_2 ht]; exact L0.pre ((RT.rf _ _).rk k1)⟩
  · subst s5
    refine r_tableIn (tgt := 91) dX12_planeLine_5 (by decide) (by decide) (by decide) rfl rfl ?_
    refine r_aload_n dX12_planeLine_91 rfl ?_
    refine r_cV0I dX12_planeLine_92 ml_X12_147 yl_X12_spotLine ⟨rfl, rfl⟩ (by assumption) ⟨_, rfl⟩ rfl rfl rfl rfl (m_spotLine hM1 hS1 hc (by omega) (b3 rfl)) ?_
    intro x0 μ2 L0
    have x01 := L0.x01
    refine r_zreturn dX12_planeLine_95 (by first | exact Or.inl rfl | exact Or.inr rfl | exact b2i_01 _ | omega) rfl rfl rfl ?_
    exact ⟨rfl, _, rfl, by rw [line_3 ht]; exact L0.pre ((RT.rf _ _).rk k1)⟩
  · subst s5
    refine r_tableIn (tgt := 96) dX12_planeLine_5 (by decide) (by decide) (by decide) rfl rfl ?_
    refine r_aload_n dX12_planeLine_96 rfl ?_
    refine r_cV0I dX12_planeLine_97 ml_X12_150 yl_X12_jointLine ⟨rfl, rfl⟩ (by assumption) ⟨_, rfl⟩ rfl rfl rfl rfl (m_jointLine hM1 hS1 hc (b4 rfl) (by have q := of_decide_eq_true (b4 rfl); have q6 := hD.2.2.2.1 (D.1 6 - 1); omega)) ?_
    intro x0 μ2 L0
    have x01 := L0.x01
    refine r_zreturn dX12_planeLine_100 (by first | exact Or.inl rfl | exact Or.inr rfl | exact b2i_01 _ | omega) rfl rfl rfl ?_
    exact ⟨rfl, _, rfl, by rw [line_4 ht]; exact L0.pre ((RT.rf _ _).rk k1)⟩
  · subst s5
    refine r_tableIn (tgt := 101) dX12_planeLine_5 (by decide) (by decide) (by decide) rfl rfl ?_
    refine r_aload_n dX12_planeLine_101 rfl ?_
    refine r_cV0I dX12_planeLine_102 ml_X12_153 yl_X12_binLine ⟨rfl, rfl⟩ (by assumption) ⟨_, rfl⟩ rfl rfl rfl rfl (m_binLine hM1 hS1 hc (by omega)) ?_
    intro x0 μ2 L0
    have x01 := L0.x01
    refine r_zreturn dX12_planeLine_105 (by first | exact Or.inl rfl | exact Or.inr rfl | exact b2i_01 _ | omega) rfl rfl rfl ?_
    exact ⟨rfl, _, rfl, by rw [line_5 ht]; exact L0.pre ((RT.rf _ _).rk k1)⟩
  · subst s5
    refine r_tableIn (tgt := 106) dX12_planeLine_5 (by decide) (by decide) (by decide) rfl rfl ?_
    refine r_aload_n dX12_planeLine_106 rfl ?_
    refine r_cV0I dX12_planeLine_107 ml_X12_156 yl_X12_tankLine ⟨rfl, rfl⟩ (by assumption) ⟨_, rfl⟩ rfl rfl rfl rfl (m_tankLine hM1 hS1 hc (by omega)) ?_
    intro x0 μ2 L0
    have x01 := L0.x01
    refine r_zreturn dX12_planeLine_110 (by first | exact Or.inl rfl | exact Or.inr rfl | exact b2i_01 _ | omega) rfl rfl rfl ?_
    exact ⟨rfl, _, rfl, by rw [line_6 ht]; exact L0.pre ((RT.rf _ _).rk k1)⟩
  · subst s5
    refine r_tableIn (tgt := 111) dX12_planeLine_5 (by decide) (by decide) (by decide) rfl rfl ?_
    refine r_aload_n dX12_planeLine_111 rfl ?_
    refine r_cV0I dX12_planeLine_112 ml_X12_159 yl_X12_burnLine ⟨rfl, rfl⟩ (by assumption) ⟨_, rfl⟩ rfl rfl rfl rfl (m_burnLine hM1 hS1 hc (by omega) hD.2.2.2.2.2.1 hD.2.2.2.2.2.2.2.2.1) ?_
    intro x0 μ2 L0
    have x01 := L0.x01
    refine r_zreturn dX12_planeLine_115 (by first | exact Or.inl rfl | exact Or.inr rfl | exact b2i_01 _ | omega) rfl rfl rfl ?_
    exact ⟨rfl, _, rfl, by rw [line_7 ht]; exact L0.pre ((RT.rf _ _).rk k1)⟩

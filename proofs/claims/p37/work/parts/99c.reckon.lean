/-! 99c.reckon: way, stage, broken of the law (wip/p37/src/99c.py) -/
section RECKON
variable {sh : Sh} {μ : Mem} {b d e : Nat}
theorem xor1 {s : Int} (h : 0 ≤ s ∧ s < 4) : ixor s 1 = if s % 2 = 0 then s + 1 else s - 1 := by
  rcases (show s = 0 ∨ s = 1 ∨ s = 2 ∨ s = 3 by omega) with rfl | rfl | rfl | rfl <;> decide +kernel
set_option maxRecDepth 100000 in
set_option maxHeartbeats 4000000 in
theorem c_way (hb : sh[b]? = some (20, 23)) (hz : ZOK (μ.1 b)) {s : Int} (hs : 0 ≤ s ∧ s < 4) : FMet yL_way gL_way sh [vR b, vI s] μ (some (vI (wayL (μ.1 b) s))) μ := by
  have ed : s.tdiv 2 = s / 2 := Int.tdiv_eq_ediv_of_nonneg hs.1
  have hd := hz.door (6 + s / 2) (by omega) (by omega)
  obtain ⟨y, hy⟩ : ∃ y, y = ixor s 1 := ⟨_, rfl⟩
  have hx := xor1 hs
  rw [← hy] at hx
  obtain ⟨v, hv⟩ : ∃ v, v = μ.1 b (6 + s / 2) := ⟨_, rfl⟩
  rw [← hv] at hd
  have e1 : wayL (μ.1 b) s = if s % 2 = 0 then (if v = 1 then s + 1 else -1) else (if v = 0 then s - 1 else -1) := by
    unfold wayL
    rw [← hv]
  rw [e1]
  refine AMet.of (by decide) rfl (by decide) rfl ?_
  refine r_iload_n dL_way_0 rfl ?_
  refine r_iconst dL_way_1 ?_
  refine r_ixor dL_way_2 ?_
  rw [← hy]
  refine r_istore_n dL_way_3 rfl ?_
  refine r_aload_n dL_way_4 rfl ?_
  refine r_bipush dL_way_5 (by decide) ?_
  refine r_iload_n dL_way_7 rfl ?_
  refine r_iconst dL_way_8 ?_
  refine r_idiv dL_way_9 (by omega) (by omega) ?_
  rw [ed]
  refine r_iadd dL_way_10 ?_
  refine r_iald dL_way_11 (by assumption) rfl (by omega) ?_
  rw [← hv]
  refine r_iload_n dL_way_12 rfl ?_
  refine r_iload_n dL_way_13 rfl ?_
  refine q_icmp_le (tgt := 21) dL_way_14 rfl (by (split at hx <;> omega)) (by (split at hx <;> omega)) (fun c14 => ?_) (fun c14 => ?_)
  · refine r_iconst dL_way_21 ?_
    refine q_icmp_ne (tgt := 29) dL_way_22 rfl (by omega) (by omega) (fun c22 => ?_) (fun c22 => ?_)
    · refine r_iconst dL_way_29 ?_
      refine r_ireturn dL_way_30 rfl rfl rfl ?_
      refine ⟨?_, rfl, rfl⟩
      refine rI ?_
      by_cases p2 : s % 2 = 0
      · rw [if_pos p2] at hx ⊢
        first
          | (rw [if_pos (by omega)]; omega)
          | (rw [if_neg (by omega)]; done)
          | (exfalso; omega)
      · rw [if_neg p2] at hx ⊢
        first
          | (rw [if_pos (by omega)]; omega)
          | (rw [if_neg (by omega)]; done)
          | (exfalso; omega)
    · refine r_iload_n dL_way_25 rfl ?_
      refine r_goto (tgt := 30) dL_way_26 rfl ?_
      refine r_ireturn dL_way_30 rfl rfl rfl ?_
      refine ⟨?_, rfl, rfl⟩
      refine rI ?_
      by_cases p2 : s % 2 = 0
      · rw [if_pos p2] at hx ⊢
        first
          | (rw [if_pos (by omega)]; omega)
          | (rw [if_neg (by omega)]; done)
          | (exfalso; omega)
      · rw [if_neg p2] at hx ⊢
        first
          | (rw [if_pos (by omega)]; omega)
          | (rw [if_neg (by omega)]; done)
          | (exfalso; omega)
  · refine r_iconst dL_way_17 ?_
    refine r_goto (tgt := 22) dL_way_18 rfl ?_
    refine q_icmp_ne (tgt := 29) dL_way_22 rfl (by omega) (by omega) (fun c22 => ?_) (fun c22 => ?_)
    · refine r_iconst dL_way_29 ?_
      refine r_ireturn dL_way_30 rfl rfl rfl ?_
      refine ⟨?_, rfl, rfl⟩
      refine rI ?_
      by_cases p2 : s % 2 = 0
      · rw [if_pos p2] at hx ⊢
        first
          | (rw [if_pos (by omega)]; omega)
          | (rw [if_neg (by omega)]; done)
          | (exfalso; omega)
      · rw [if_neg p2] at hx ⊢
        first
          | (rw [if_pos (by omega)]; omega)
          | (rw [if_neg (by omega)]; done)
          | (exfalso; omega)
    · refine r_iload_n dL_way_25 rfl ?_
      refine r_goto (tgt := 30) dL_way_26 rfl ?_
      refine r_ireturn dL_way_30 rfl rfl rfl ?_
      refine ⟨?_, rfl, rfl⟩
      refine rI ?_
      by_cases p2 : s % 2 = 0
      · rw [if_pos p2] at hx ⊢
        first
          | (rw [if_pos (by omega)]; omega)
          | (rw [if_neg (by omega)]; done)
          | (exfalso; omega)
      · rw [if_neg p2] at hx ⊢
        first
          | (rw [if_pos (by omega)]; omega)
          | (rw [if_neg (by omega)]; done)
          | (exfalso; omega)
set_option maxRecDepth 100000 in
set_option maxHeartbeats 4000000 in
theorem c_stLoop (hb : sh[b]? = some (20, 23)) (hd : sh[d]? = some (20, 12)) (he : sh[e]? = some (20, 3)) {po : Int} (hB : CB (μ.1 d) (μ.1 e) po) {i mo tk st : Int} (hm : mo = 0 ∨ mo = 1) (hst : 0 ≤ st ∧ st ≤ 2) : ∀ (n : Nat) (k a : Int), 0 ≤ k → k + n = μ.1 d 11 → AW gL_stage sh μ 0 0 112 [some (vR b), some (vR d), some (vR e), some (vI po), some (vI i), some (vI mo), some (vI tk), some (vI a), some (vI st), some (vI k)] [] (fun r2 sh2 μ2 => r2 = some (vI (a + sumF (palS (μ.1 b) (μ.1 d) (μ.1 e) mo st) n k)) ∧ sh2 = sh ∧ μ2 = μ) := by
  obtain ⟨⟨n0, n3⟩, hc, -⟩ := hB
  intro n
  induction n with
  | zero =>
    intro k a hk0 hk
    refine r_iload dL_stage_112 rfl ?_
    refine r_aload_n dL_stage_114 rfl ?_
    refine r_bipush dL_stage_115 (by decide) ?_
    refine r_iald dL_stage_117 (by assumption) rfl (by omega) ?_
    refine q_icmp_ge (tgt := 177) dL_stage_118 rfl (by omega) (by omega) (fun c118 => ?_) (fun c118 => ?_)
    · refine r_iload dL_stage_177 rfl ?_
      refine r_ireturn dL_stage_179 rfl rfl rfl ?_
      exact ⟨by simp [sumF], rfl, rfl⟩
    · exfalso; omega
  | succ n ih =>
    intro k a hk0 hk
    have ck := hc k hk0 (by omega)
    refine r_iload dL_stage_112 rfl ?_
    refine r_aload_n dL_stage_114 rfl ?_
    refine r_bipush dL_stage_115 (by decide) ?_
    refine r_iald dL_stage_117 (by assumption) rfl (by omega) ?_
    refine q_icmp_ge (tgt := 177) dL_stage_118 rfl (by omega) (by omega) (fun c118 => ?_) (fun c118 => ?_)
    · exfalso; omega
    · refine r_aload_n dL_stage_121 rfl ?_
      refine r_iload dL_stage_122 rfl ?_
      refine r_iald dL_stage_124 (by assumption) rfl (by omega) ?_
      refine q_if_lt (tgt := 171) dL_stage_125 rfl (by omega) (fun c125 => ?_) (fun c125 => ?_)
      · refine r_iinc dL_stage_171 rfl rfl ?_
        refine r_goto (tgt := 112) dL_stage_174 rfl ?_
        refine AW.mono (ih (k + 1) (a) (by omega) (by omega)) ?_
        rintro r2 sh2 μ2 ⟨q1, q2⟩
        refine ⟨q1.trans ?_, q2⟩
        refine rI ?_
        rw [sumF]
        have ep : palS (μ.1 b) (μ.1 d) (μ.1 e) mo st k = 0 := by
          unfold palS
          rw [if_neg (by omega)]
        rw [ep]
        omega
      · refine r_aload_n dL_stage_128 rfl ?_
        refine r_iconst dL_stage_129 ?_
        refine r_iload dL_stage_130 rfl ?_
        refine r_imul dL_stage_132 ?_
        refine r_iconst dL_stage_133 ?_
        refine r_iadd dL_stage_134 ?_
        refine r_iald dL_stage_135 (by assumption) rfl (by omega) ?_
        refine r_iload dL_stage_136 rfl ?_
        refine q_icmp_le (tgt := 171) dL_stage_138 rfl (by omega) (by omega) (fun c138 => ?_) (fun c138 => ?_)
        · refine r_iinc dL_stage_171 rfl rfl ?_
          refine r_goto (tgt := 112) dL_stage_174 rfl ?_
          refine AW.mono (ih (k + 1) (a) (by omega) (by omega)) ?_
          rintro r2 sh2 μ2 ⟨q1, q2⟩
          refine ⟨q1.trans ?_, q2⟩
          refine rI ?_
          rw [sumF]
          have ep : palS (μ.1 b) (μ.1 d) (μ.1 e) mo st k = 0 := by
            unfold palS
            rw [if_neg (by omega)]
          rw [ep]
          omega
        · refine r_iload dL_stage_141 rfl ?_
          refine r_aload_n dL_stage_143 rfl ?_
          refine r_iconst dL_stage_144 ?_
          refine r_iload dL_stage_145 rfl ?_
          refine r_imul dL_stage_147 ?_
          refine r_iald dL_stage_148 (by assumption) rfl (by omega) ?_
          refine r_iload dL_stage_149 rfl ?_
          refine q_if_eq (tgt := 166) dL_stage_151 rfl (by omega) (fun c151 => ?_) (fun c151 => ?_)
          · obtain rfl : mo = 0 := by omega
            refine r_iconst dL_stage_166 ?_
            refine r_imul dL_stage_167 ?_
            refine r_iadd dL_stage_168 ?_
            refine r_istore dL_stage_169 rfl ?_
            refine r_iinc dL_stage_171 rfl rfl ?_
            refine r_goto (tgt := 112) dL_stage_174 rfl ?_
            refine AW.mono (ih (k + 1) _ (by omega) (by omega)) ?_
            rintro r2 sh2 μ2 ⟨q1, q2⟩
            refine ⟨q1.trans ?_, q2⟩
            refine rI ?_
            rw [sumF]
            unfold palS
            rw [if_pos (by omega)]
            first
              | (rw [if_pos rfl]; omega)
              | (rw [if_neg (by decide)]; omega)
          · obtain rfl : mo = 1 := by omega
            refine r_aload_n dL_stage_154 rfl ?_
            refine r_bipush dL_stage_155 (by decide) ?_
            refine r_aload_n dL_stage_157 rfl ?_
            refine r_iload dL_stage_158 rfl ?_
            refine r_iald dL_stage_160 (by assumption) rfl (by omega) ?_
            refine r_iadd dL_stage_161 ?_
            refine r_iald dL_stage_162 (by assumption) rfl (by omega) ?_
            refine r_goto (tgt := 167) dL_stage_163 rfl ?_
            refine r_imul dL_stage_167 ?_
            refine r_iadd dL_stage_168 ?_
            refine r_istore dL_stage_169 rfl ?_
            refine r_iinc dL_stage_171 rfl rfl ?_
            refine r_goto (tgt := 112) dL_stage_174 rfl ?_
            refine AW.mono (ih (k + 1) _ (by omega) (by omega)) ?_
            rintro r2 sh2 μ2 ⟨q1, q2⟩
            refine ⟨q1.trans ?_, q2⟩
            refine rI ?_
            rw [sumF]
            unfold palS
            rw [if_pos (by omega)]
            first
              | (rw [if_pos rfl]; omega)
              | (rw [if_neg (by decide)]; omega)
set_option maxRecDepth 100000 in
set_option maxHeartbeats 4000000 in
theorem c_st00 (hb : sh[b]? = some (20, 23)) (hd : sh[d]? = some (20, 12)) (he : sh[e]? = some (20, 3)) {po : Int} (hB : CB (μ.1 d) (μ.1 e) po) : FMet yL_stage gL_stage sh [vR b, vR d, vR e, vI po, vI 0, vI 0] μ (some (vI (stL (μ.1 b) (μ.1 d) (μ.1 e) po 0 0))) μ := by
  have n3 := hB.1
  refine AMet.of (by decide) rfl (by decide) rfl ?_
  refine r_aload_n dL_stage_0 rfl ?_
  refine r_bipush dL_stage_1 (by decide) ?_
  refine r_iald dL_stage_3 (by assumption) rfl (by omega) ?_
  refine r_iload dL_stage_4 rfl ?_
  refine q_if_le (tgt := 16) dL_stage_6 rfl (by omega) (fun c6 => ?_) (fun c6 => ?_)
  · refine r_iconst dL_stage_16 ?_
    refine r_isub dL_stage_17 ?_
    refine r_iload dL_stage_18 rfl ?_
    refine r_iconst dL_stage_20 ?_
    refine q_icmp_le (tgt := 31) dL_stage_21 rfl (by omega) (by omega) (fun c21 => ?_) (fun c21 => ?_)
    · refine r_iconst dL_stage_31 ?_
      refine r_isub dL_stage_32 ?_
      refine r_istore dL_stage_33 rfl ?_
      refine r_aload_n dL_stage_35 rfl ?_
      refine r_iconst dL_stage_36 ?_
      refine r_iald dL_stage_37 (by assumption) rfl (by omega) ?_
      refine r_iload dL_stage_38 rfl ?_
      refine q_if_eq (tgt := 49) dL_stage_40 rfl (by omega) (fun c40 => ?_) (fun c40 => ?_)
      · refine r_iconst dL_stage_49 ?_
        refine r_imul dL_stage_50 ?_
        refine r_iload dL_stage_51 rfl ?_
        refine r_iload dL_stage_53 rfl ?_
        refine q_if_eq (tgt := 65) dL_stage_55 rfl (by omega) (fun c55 => ?_) (fun c55 => ?_)
        · refine r_iconst dL_stage_65 ?_
          refine r_imul dL_stage_66 ?_
          refine r_iadd dL_stage_67 ?_
          refine r_iload_n dL_stage_68 rfl ?_
          refine r_iload dL_stage_69 rfl ?_
          refine q_if_eq (tgt := 81) dL_stage_71 rfl (by omega) (fun c71 => ?_) (fun c71 => ?_)
          · refine r_iconst dL_stage_81 ?_
            refine r_imul dL_stage_82 ?_
            refine r_iadd dL_stage_83 ?_
            refine r_istore dL_stage_84 rfl ?_
            refine r_iload dL_stage_86 rfl ?_
            refine r_iconst dL_stage_88 ?_
            refine q_icmp_le (tgt := 96) dL_stage_89 rfl (by omega) (by omega) (fun c89 => ?_) (fun c89 => ?_)
            · refine r_iload dL_stage_96 rfl ?_
              refine r_iconst dL_stage_98 ?_
              refine q_icmp_le (tgt := 106) dL_stage_99 rfl (by omega) (by omega) (fun c99 => ?_) (fun c99 => ?_)
              · refine r_iconst dL_stage_106 ?_
                refine r_istore dL_stage_107 rfl ?_
                refine r_iconst dL_stage_109 ?_
                refine r_istore dL_stage_110 rfl ?_
                refine AW.mono (c_stLoop hb hd he hB (by omega) (by omega) (μ.1 d 11).toNat 0 _ (by omega) (by omega)) ?_
                rintro r2 sh2 μ2 ⟨q1, q2, q3⟩
                refine ⟨q1.trans ?_, q2, q3⟩
                refine rI ?_
                have e1 : stopL2 0 = 0 := by decide
                unfold stL tankZ
                rw [e1]
                simp
              · exfalso; omega
            · exfalso; omega
          · exfalso; omega
        · exfalso; omega
      · exfalso; omega
    · exfalso; omega
  · exfalso; omega
set_option maxRecDepth 100000 in
set_option maxHeartbeats 4000000 in
theorem c_st01 (hb : sh[b]? = some (20, 23)) (hd : sh[d]? = some (20, 12)) (he : sh[e]? = some (20, 3)) {po : Int} (hB : CB (μ.1 d) (μ.1 e) po) : FMet yL_stage gL_stage sh [vR b, vR d, vR e, vI po, vI 1, vI 0] μ (some (vI (stL (μ.1 b) (μ.1 d) (μ.1 e) po 1 0))) μ := by
  have n3 := hB.1
  refine AMet.of (by decide) rfl (by decide) rfl ?_
  refine r_aload_n dL_stage_0 rfl ?_
  refine r_bipush dL_stage_1 (by decide) ?_
  refine r_iald dL_stage_3 (by assumption) rfl (by omega) ?_
  refine r_iload dL_stage_4 rfl ?_
  refine q_if_le (tgt := 16) dL_stage_6 rfl (by omega) (fun c6 => ?_) (fun c6 => ?_)
  · exfalso; omega
  · refine r_aload_n dL_stage_9 rfl ?_
    refine r_bipush dL_stage_10 (by decide) ?_
    refine r_iald dL_stage_12 (by assumption) rfl (by omega) ?_
    refine r_goto (tgt := 17) dL_stage_13 rfl ?_
    refine r_isub dL_stage_17 ?_
    refine r_iload dL_stage_18 rfl ?_
    refine r_iconst dL_stage_20 ?_
    refine q_icmp_le (tgt := 31) dL_stage_21 rfl (by omega) (by omega) (fun c21 => ?_) (fun c21 => ?_)
    · refine r_iconst dL_stage_31 ?_
      refine r_isub dL_stage_32 ?_
      refine r_istore dL_stage_33 rfl ?_
      refine r_aload_n dL_stage_35 rfl ?_
      refine r_iconst dL_stage_36 ?_
      refine r_iald dL_stage_37 (by assumption) rfl (by omega) ?_
      refine r_iload dL_stage_38 rfl ?_
      refine q_if_eq (tgt := 49) dL_stage_40 rfl (by omega) (fun c40 => ?_) (fun c40 => ?_)
      · refine r_iconst dL_stage_49 ?_
        refine r_imul dL_stage_50 ?_
        refine r_iload dL_stage_51 rfl ?_
        refine r_iload dL_stage_53 rfl ?_
        refine q_if_eq (tgt := 65) dL_stage_55 rfl (by omega) (fun c55 => ?_) (fun c55 => ?_)
        · refine r_iconst dL_stage_65 ?_
          refine r_imul dL_stage_66 ?_
          refine r_iadd dL_stage_67 ?_
          refine r_iload_n dL_stage_68 rfl ?_
          refine r_iload dL_stage_69 rfl ?_
          refine q_if_eq (tgt := 81) dL_stage_71 rfl (by omega) (fun c71 => ?_) (fun c71 => ?_)
          · refine r_iconst dL_stage_81 ?_
            refine r_imul dL_stage_82 ?_
            refine r_iadd dL_stage_83 ?_
            refine r_istore dL_stage_84 rfl ?_
            refine r_iload dL_stage_86 rfl ?_
            refine r_iconst dL_stage_88 ?_
            refine q_icmp_le (tgt := 96) dL_stage_89 rfl (by omega) (by omega) (fun c89 => ?_) (fun c89 => ?_)
            · refine r_iload dL_stage_96 rfl ?_
              refine r_iconst dL_stage_98 ?_
              refine q_icmp_le (tgt := 106) dL_stage_99 rfl (by omega) (by omega) (fun c99 => ?_) (fun c99 => ?_)
              · refine r_iconst dL_stage_106 ?_
                refine r_istore dL_stage_107 rfl ?_
                refine r_iconst dL_stage_109 ?_
                refine r_istore dL_stage_110 rfl ?_
                refine AW.mono (c_stLoop hb hd he hB (by omega) (by omega) (μ.1 d 11).toNat 0 _ (by omega) (by omega)) ?_
                rintro r2 sh2 μ2 ⟨q1, q2, q3⟩
                refine ⟨q1.trans ?_, q2, q3⟩
                refine rI ?_
                have e1 : stopL2 1 = 0 := by decide
                unfold stL tankZ
                rw [e1]
                simp
              · exfalso; omega
            · exfalso; omega
          · exfalso; omega
        · exfalso; omega
      · exfalso; omega
    · exfalso; omega
set_option maxRecDepth 100000 in
set_option maxHeartbeats 4000000 in
theorem c_st02 (hb : sh[b]? = some (20, 23)) (hd : sh[d]? = some (20, 12)) (he : sh[e]? = some (20, 3)) {po : Int} (hB : CB (μ.1 d) (μ.1 e) po) : FMet yL_stage gL_stage sh [vR b, vR d, vR e, vI po, vI 2, vI 0] μ (some (vI (stL (μ.1 b) (μ.1 d) (μ.1 e) po 2 0))) μ := by
  have n3 := hB.1
  refine AMet.of (by decide) rfl (by decide) rfl ?_
  refine r_aload_n dL_stage_0 rfl ?_
  refine r_bipush dL_stage_1 (by decide) ?_
  refine r_iald dL_stage_3 (by assumption) rfl (by omega) ?_
  refine r_iload dL_stage_4 rfl ?_
  refine q_if_le (tgt := 16) dL_stage_6 rfl (by omega) (fun c6 => ?_) (fun c6 => ?_)
  · exfalso; omega
  · refine r_aload_n dL_stage_9 rfl ?_
    refine r_bipush dL_stage_10 (by decide) ?_
    refine r_iald dL_stage_12 (by assumption) rfl (by omega) ?_
    refine r_goto (tgt := 17) dL_stage_13 rfl ?_
    refine r_isub dL_stage_17 ?_
    refine r_iload dL_stage_18 rfl ?_
    refine r_iconst dL_stage_20 ?_
    refine q_icmp_le (tgt := 31) dL_stage_21 rfl (by omega) (by omega) (fun c21 => ?_) (fun c21 => ?_)
    · refine r_iconst dL_stage_31 ?_
      refine r_isub dL_stage_32 ?_
      refine r_istore dL_stage_33 rfl ?_
      refine r_aload_n dL_stage_35 rfl ?_
      refine r_iconst dL_stage_36 ?_
      refine r_iald dL_stage_37 (by assumption) rfl (by omega) ?_
      refine r_iload dL_stage_38 rfl ?_
      refine q_if_eq (tgt := 49) dL_stage_40 rfl (by omega) (fun c40 => ?_) (fun c40 => ?_)
      · refine r_iconst dL_stage_49 ?_
        refine r_imul dL_stage_50 ?_
        refine r_iload dL_stage_51 rfl ?_
        refine r_iload dL_stage_53 rfl ?_
        refine q_if_eq (tgt := 65) dL_stage_55 rfl (by omega) (fun c55 => ?_) (fun c55 => ?_)
        · refine r_iconst dL_stage_65 ?_
          refine r_imul dL_stage_66 ?_
          refine r_iadd dL_stage_67 ?_
          refine r_iload_n dL_stage_68 rfl ?_
          refine r_iload dL_stage_69 rfl ?_
          refine q_if_eq (tgt := 81) dL_stage_71 rfl (by omega) (fun c71 => ?_) (fun c71 => ?_)
          · refine r_iconst dL_stage_81 ?_
            refine r_imul dL_stage_82 ?_
            refine r_iadd dL_stage_83 ?_
            refine r_istore dL_stage_84 rfl ?_
            refine r_iload dL_stage_86 rfl ?_
            refine r_iconst dL_stage_88 ?_
            refine q_icmp_le (tgt := 96) dL_stage_89 rfl (by omega) (by omega) (fun c89 => ?_) (fun c89 => ?_)
            · refine r_iload dL_stage_96 rfl ?_
              refine r_iconst dL_stage_98 ?_
              refine q_icmp_le (tgt := 106) dL_stage_99 rfl (by omega) (by omega) (fun c99 => ?_) (fun c99 => ?_)
              · exfalso; omega
              · refine r_iconst dL_stage_102 ?_
                refine r_goto (tgt := 107) dL_stage_103 rfl ?_
                refine r_istore dL_stage_107 rfl ?_
                refine r_iconst dL_stage_109 ?_
                refine r_istore dL_stage_110 rfl ?_
                refine AW.mono (c_stLoop hb hd he hB (by omega) (by omega) (μ.1 d 11).toNat 0 _ (by omega) (by omega)) ?_
                rintro r2 sh2 μ2 ⟨q1, q2, q3⟩
                refine ⟨q1.trans ?_, q2, q3⟩
                refine rI ?_
                have e1 : stopL2 2 = 1 := by decide
                unfold stL tankZ
                rw [e1]
                simp
            · exfalso; omega
          · exfalso; omega
        · exfalso; omega
      · exfalso; omega
    · exfalso; omega
set_option maxRecDepth 100000 in
set_option maxHeartbeats 4000000 in
theorem c_st03 (hb : sh[b]? = some (20, 23)) (hd : sh[d]? = some (20, 12)) (he : sh[e]? = some (20, 3)) {po : Int} (hB : CB (μ.1 d) (μ.1 e) po) : FMet yL_stage gL_stage sh [vR b, vR d, vR e, vI po, vI 3, vI 0] μ (some (vI (stL (μ.1 b) (μ.1 d) (μ.1 e) po 3 0))) μ := by
  have n3 := hB.1
  refine AMet.of (by decide) rfl (by decide) rfl ?_
  refine r_aload_n dL_stage_0 rfl ?_
  refine r_bipush dL_stage_1 (by decide) ?_
  refine r_iald dL_stage_3 (by assumption) rfl (by omega) ?_
  refine r_iload dL_stage_4 rfl ?_
  refine q_if_le (tgt := 16) dL_stage_6 rfl (by omega) (fun c6 => ?_) (fun c6 => ?_)
  · exfalso; omega
  · refine r_aload_n dL_stage_9 rfl ?_
    refine r_bipush dL_stage_10 (by decide) ?_
    refine r_iald dL_stage_12 (by assumption) rfl (by omega) ?_
    refine r_goto (tgt := 17) dL_stage_13 rfl ?_
    refine r_isub dL_stage_17 ?_
    refine r_iload dL_stage_18 rfl ?_
    refine r_iconst dL_stage_20 ?_
    refine q_icmp_le (tgt := 31) dL_stage_21 rfl (by omega) (by omega) (fun c21 => ?_) (fun c21 => ?_)
    · exfalso; omega
    · refine r_aload_n dL_stage_24 rfl ?_
      refine r_bipush dL_stage_25 (by decide) ?_
      refine r_iald dL_stage_27 (by assumption) rfl (by omega) ?_
      refine r_goto (tgt := 32) dL_stage_28 rfl ?_
      refine r_isub dL_stage_32 ?_
      refine r_istore dL_stage_33 rfl ?_
      refine r_aload_n dL_stage_35 rfl ?_
      refine r_iconst dL_stage_36 ?_
      refine r_iald dL_stage_37 (by assumption) rfl (by omega) ?_
      refine r_iload dL_stage_38 rfl ?_
      refine q_if_eq (tgt := 49) dL_stage_40 rfl (by omega) (fun c40 => ?_) (fun c40 => ?_)
      · refine r_iconst dL_stage_49 ?_
        refine r_imul dL_stage_50 ?_
        refine r_iload dL_stage_51 rfl ?_
        refine r_iload dL_stage_53 rfl ?_
        refine q_if_eq (tgt := 65) dL_stage_55 rfl (by omega) (fun c55 => ?_) (fun c55 => ?_)
        · refine r_iconst dL_stage_65 ?_
          refine r_imul dL_stage_66 ?_
          refine r_iadd dL_stage_67 ?_
          refine r_iload_n dL_stage_68 rfl ?_
          refine r_iload dL_stage_69 rfl ?_
          refine q_if_eq (tgt := 81) dL_stage_71 rfl (by omega) (fun c71 => ?_) (fun c71 => ?_)
          · refine r_iconst dL_stage_81 ?_
            refine r_imul dL_stage_82 ?_
            refine r_iadd dL_stage_83 ?_
            refine r_istore dL_stage_84 rfl ?_
            refine r_iload dL_stage_86 rfl ?_
            refine r_iconst dL_stage_88 ?_
            refine q_icmp_le (tgt := 96) dL_stage_89 rfl (by omega) (by omega) (fun c89 => ?_) (fun c89 => ?_)
            · refine r_iload dL_stage_96 rfl ?_
              refine r_iconst dL_stage_98 ?_
              refine q_icmp_le (tgt := 106) dL_stage_99 rfl (by omega) (by omega) (fun c99 => ?_) (fun c99 => ?_)
              · exfalso; omega
              · refine r_iconst dL_stage_102 ?_
                refine r_goto (tgt := 107) dL_stage_103 rfl ?_
                refine r_istore dL_stage_107 rfl ?_
                refine r_iconst dL_stage_109 ?_
                refine r_istore dL_stage_110 rfl ?_
                refine AW.mono (c_stLoop hb hd he hB (by omega) (by omega) (μ.1 d 11).toNat 0 _ (by omega) (by omega)) ?_
                rintro r2 sh2 μ2 ⟨q1, q2, q3⟩
                refine ⟨q1.trans ?_, q2, q3⟩
                refine rI ?_
                have e1 : stopL2 3 = 1 := by decide
                unfold stL tankZ
                rw [e1]
                simp
            · exfalso; omega
          · exfalso; omega
        · exfalso; omega
      · exfalso; omega
set_option maxRecDepth 100000 in
set_option maxHeartbeats 4000000 in
theorem c_st04 (hb : sh[b]? = some (20, 23)) (hd : sh[d]? = some (20, 12)) (he : sh[e]? = some (20, 3)) {po : Int} (hB : CB (μ.1 d) (μ.1 e) po) : FMet yL_stage gL_stage sh [vR b, vR d, vR e, vI po, vI 4, vI 0] μ (some (vI (stL (μ.1 b) (μ.1 d) (μ.1 e) po 4 0))) μ := by
  have n3 := hB.1
  refine AMet.of (by decide) rfl (by decide) rfl ?_
  refine r_aload_n dL_stage_0 rfl ?_
  refine r_bipush dL_stage_1 (by decide) ?_
  refine r_iald dL_stage_3 (by assumption) rfl (by omega) ?_
  refine r_iload dL_stage_4 rfl ?_
  refine q_if_le (tgt := 16) dL_stage_6 rfl (by omega) (fun c6 => ?_) (fun c6 => ?_)
  · exfalso; omega
  · refine r_aload_n dL_stage_9 rfl ?_
    refine r_bipush dL_stage_10 (by decide) ?_
    refine r_iald dL_stage_12 (by assumption) rfl (by omega) ?_
    refine r_goto (tgt := 17) dL_stage_13 rfl ?_
    refine r_isub dL_stage_17 ?_
    refine r_iload dL_stage_18 rfl ?_
    refine r_iconst dL_stage_20 ?_
    refine q_icmp_le (tgt := 31) dL_stage_21 rfl (by omega) (by omega) (fun c21 => ?_) (fun c21 => ?_)
    · exfalso; omega
    · refine r_aload_n dL_stage_24 rfl ?_
      refine r_bipush dL_stage_25 (by decide) ?_
      refine r_iald dL_stage_27 (by assumption) rfl (by omega) ?_
      refine r_goto (tgt := 32) dL_stage_28 rfl ?_
      refine r_isub dL_stage_32 ?_
      refine r_istore dL_stage_33 rfl ?_
      refine r_aload_n dL_stage_35 rfl ?_
      refine r_iconst dL_stage_36 ?_
      refine r_iald dL_stage_37 (by assumption) rfl (by omega) ?_
      refine r_iload dL_stage_38 rfl ?_
      refine q_if_eq (tgt := 49) dL_stage_40 rfl (by omega) (fun c40 => ?_) (fun c40 => ?_)
      · refine r_iconst dL_stage_49 ?_
        refine r_imul dL_stage_50 ?_
        refine r_iload dL_stage_51 rfl ?_
        refine r_iload dL_stage_53 rfl ?_
        refine q_if_eq (tgt := 65) dL_stage_55 rfl (by omega) (fun c55 => ?_) (fun c55 => ?_)
        · refine r_iconst dL_stage_65 ?_
          refine r_imul dL_stage_66 ?_
          refine r_iadd dL_stage_67 ?_
          refine r_iload_n dL_stage_68 rfl ?_
          refine r_iload dL_stage_69 rfl ?_
          refine q_if_eq (tgt := 81) dL_stage_71 rfl (by omega) (fun c71 => ?_) (fun c71 => ?_)
          · refine r_iconst dL_stage_81 ?_
            refine r_imul dL_stage_82 ?_
            refine r_iadd dL_stage_83 ?_
            refine r_istore dL_stage_84 rfl ?_
            refine r_iload dL_stage_86 rfl ?_
            refine r_iconst dL_stage_88 ?_
            refine q_icmp_le (tgt := 96) dL_stage_89 rfl (by omega) (by omega) (fun c89 => ?_) (fun c89 => ?_)
            · exfalso; omega
            · refine r_iconst dL_stage_92 ?_
              refine r_goto (tgt := 107) dL_stage_93 rfl ?_
              refine r_istore dL_stage_107 rfl ?_
              refine r_iconst dL_stage_109 ?_
              refine r_istore dL_stage_110 rfl ?_
              refine AW.mono (c_stLoop hb hd he hB (by omega) (by omega) (μ.1 d 11).toNat 0 _ (by omega) (by omega)) ?_
              rintro r2 sh2 μ2 ⟨q1, q2, q3⟩
              refine ⟨q1.trans ?_, q2, q3⟩
              refine rI ?_
              have e1 : stopL2 4 = 2 := by decide
              unfold stL tankZ
              rw [e1]
              simp
          · exfalso; omega
        · exfalso; omega
      · exfalso; omega
set_option maxRecDepth 100000 in
set_option maxHeartbeats 4000000 in
theorem c_st10 (hb : sh[b]? = some (20, 23)) (hd : sh[d]? = some (20, 12)) (he : sh[e]? = some (20, 3)) {po : Int} (hB : CB (μ.1 d) (μ.1 e) po) : FMet yL_stage gL_stage sh [vR b, vR d, vR e, vI po, vI 0, vI 1] μ (some (vI (stL (μ.1 b) (μ.1 d) (μ.1 e) po 0 1))) μ := by
  have n3 := hB.1
  refine AMet.of (by decide) rfl (by decide) rfl ?_
  refine r_aload_n dL_stage_0 rfl ?_
  refine r_bipush dL_stage_1 (by decide) ?_
  refine r_iald dL_stage_3 (by assumption) rfl (by omega) ?_
  refine r_iload dL_stage_4 rfl ?_
  refine q_if_le (tgt := 16) dL_stage_6 rfl (by omega) (fun c6 => ?_) (fun c6 => ?_)
  · refine r_iconst dL_stage_16 ?_
    refine r_isub dL_stage_17 ?_
    refine r_iload dL_stage_18 rfl ?_
    refine r_iconst dL_stage_20 ?_
    refine q_icmp_le (tgt := 31) dL_stage_21 rfl (by omega) (by omega) (fun c21 => ?_) (fun c21 => ?_)
    · refine r_iconst dL_stage_31 ?_
      refine r_isub dL_stage_32 ?_
      refine r_istore dL_stage_33 rfl ?_
      refine r_aload_n dL_stage_35 rfl ?_
      refine r_iconst dL_stage_36 ?_
      refine r_iald dL_stage_37 (by assumption) rfl (by omega) ?_
      refine r_iload dL_stage_38 rfl ?_
      refine q_if_eq (tgt := 49) dL_stage_40 rfl (by omega) (fun c40 => ?_) (fun c40 => ?_)
      · exfalso; omega
      · refine r_aload_n dL_stage_43 rfl ?_
        refine r_iconst dL_stage_44 ?_
        refine r_iald dL_stage_45 (by assumption) rfl (by omega) ?_
        refine r_goto (tgt := 50) dL_stage_46 rfl ?_
        refine r_imul dL_stage_50 ?_
        refine r_iload dL_stage_51 rfl ?_
        refine r_iload dL_stage_53 rfl ?_
        refine q_if_eq (tgt := 65) dL_stage_55 rfl (by omega) (fun c55 => ?_) (fun c55 => ?_)
        · exfalso; omega
        · refine r_aload_n dL_stage_58 rfl ?_
          refine r_bipush dL_stage_59 (by decide) ?_
          refine r_iald dL_stage_61 (by assumption) rfl (by omega) ?_
          refine r_goto (tgt := 66) dL_stage_62 rfl ?_
          refine r_imul dL_stage_66 ?_
          refine r_iadd dL_stage_67 ?_
          refine r_iload_n dL_stage_68 rfl ?_
          refine r_iload dL_stage_69 rfl ?_
          refine q_if_eq (tgt := 81) dL_stage_71 rfl (by omega) (fun c71 => ?_) (fun c71 => ?_)
          · exfalso; omega
          · refine r_aload_n dL_stage_74 rfl ?_
            refine r_bipush dL_stage_75 (by decide) ?_
            refine r_iald dL_stage_77 (by assumption) rfl (by omega) ?_
            refine r_goto (tgt := 82) dL_stage_78 rfl ?_
            refine r_imul dL_stage_82 ?_
            refine r_iadd dL_stage_83 ?_
            refine r_istore dL_stage_84 rfl ?_
            refine r_iload dL_stage_86 rfl ?_
            refine r_iconst dL_stage_88 ?_
            refine q_icmp_le (tgt := 96) dL_stage_89 rfl (by omega) (by omega) (fun c89 => ?_) (fun c89 => ?_)
            · refine r_iload dL_stage_96 rfl ?_
              refine r_iconst dL_stage_98 ?_
              refine q_icmp_le (tgt := 106) dL_stage_99 rfl (by omega) (by omega) (fun c99 => ?_) (fun c99 => ?_)
              · refine r_iconst dL_stage_106 ?_
                refine r_istore dL_stage_107 rfl ?_
                refine r_iconst dL_stage_109 ?_
                refine r_istore dL_stage_110 rfl ?_
                refine AW.mono (c_stLoop hb hd he hB (by omega) (by omega) (μ.1 d 11).toNat 0 _ (by omega) (by omega)) ?_
                rintro r2 sh2 μ2 ⟨q1, q2, q3⟩
                refine ⟨q1.trans ?_, q2, q3⟩
                refine rI ?_
                have e1 : stopL2 0 = 0 := by decide
                unfold stL tankZ
                rw [e1]
                simp
              · exfalso; omega
            · exfalso; omega
    · exfalso; omega
  · exfalso; omega
set_option maxRecDepth 100000 in
set_option maxHeartbeats 4000000 in
theorem c_st11 (hb : sh[b]? = some (20, 23)) (hd : sh[d]? = some (20, 12)) (he : sh[e]? = some (20, 3)) {po : Int} (hB : CB (μ.1 d) (μ.1 e) po) : FMet yL_stage gL_stage sh [vR b, vR d, vR e, vI po, vI 1, vI 1] μ (some (vI (stL (μ.1 b) (μ.1 d) (μ.1 e) po 1 1))) μ := by
  have n3 := hB.1
  refine AMet.of (by decide) rfl (by decide) rfl ?_
  refine r_aload_n dL_stage_0 rfl ?_
  refine r_bipush dL_stage_1 (by decide) ?_
  refine r_iald dL_stage_3 (by assumption) rfl (by omega) ?_
  refine r_iload dL_stage_4 rfl ?_
  refine q_if_le (tgt := 16) dL_stage_6 rfl (by omega) (fun c6 => ?_) (fun c6 => ?_)
  · exfalso; omega
  · refine r_aload_n dL_stage_9 rfl ?_
    refine r_bipush dL_stage_10 (by decide) ?_
    refine r_iald dL_stage_12 (by assumption) rfl (by omega) ?_
    refine r_goto (tgt := 17) dL_stage_13 rfl ?_
    refine r_isub dL_stage_17 ?_
    refine r_iload dL_stage_18 rfl ?_
    refine r_iconst dL_stage_20 ?_
    refine q_icmp_le (tgt := 31) dL_stage_21 rfl (by omega) (by omega) (fun c21 => ?_) (fun c21 => ?_)
    · refine r_iconst dL_stage_31 ?_
      refine r_isub dL_stage_32 ?_
      refine r_istore dL_stage_33 rfl ?_
      refine r_aload_n dL_stage_35 rfl ?_
      refine r_iconst dL_stage_36 ?_
      refine r_iald dL_stage_37 (by assumption) rfl (by omega) ?_
      refine r_iload dL_stage_38 rfl ?_
      refine q_if_eq (tgt := 49) dL_stage_40 rfl (by omega) (fun c40 => ?_) (fun c40 => ?_)
      · exfalso; omega
      · refine r_aload_n dL_stage_43 rfl ?_
        refine r_iconst dL_stage_44 ?_
        refine r_iald dL_stage_45 (by assumption) rfl (by omega) ?_
        refine r_goto (tgt := 50) dL_stage_46 rfl ?_
        refine r_imul dL_stage_50 ?_
        refine r_iload dL_stage_51 rfl ?_
        refine r_iload dL_stage_53 rfl ?_
        refine q_if_eq (tgt := 65) dL_stage_55 rfl (by omega) (fun c55 => ?_) (fun c55 => ?_)
        · exfalso; omega
        · refine r_aload_n dL_stage_58 rfl ?_
          refine r_bipush dL_stage_59 (by decide) ?_
          refine r_iald dL_stage_61 (by assumption) rfl (by omega) ?_
          refine r_goto (tgt := 66) dL_stage_62 rfl ?_
          refine r_imul dL_stage_66 ?_
          refine r_iadd dL_stage_67 ?_
          refine r_iload_n dL_stage_68 rfl ?_
          refine r_iload dL_stage_69 rfl ?_
          refine q_if_eq (tgt := 81) dL_stage_71 rfl (by omega) (fun c71 => ?_) (fun c71 => ?_)
          · exfalso; omega
          · refine r_aload_n dL_stage_74 rfl ?_
            refine r_bipush dL_stage_75 (by decide) ?_
            refine r_iald dL_stage_77 (by assumption) rfl (by omega) ?_
            refine r_goto (tgt := 82) dL_stage_78 rfl ?_
            refine r_imul dL_stage_82 ?_
            refine r_iadd dL_stage_83 ?_
            refine r_istore dL_stage_84 rfl ?_
            refine r_iload dL_stage_86 rfl ?_
            refine r_iconst dL_stage_88 ?_
            refine q_icmp_le (tgt := 96) dL_stage_89 rfl (by omega) (by omega) (fun c89 => ?_) (fun c89 => ?_)
            · refine r_iload dL_stage_96 rfl ?_
              refine r_iconst dL_stage_98 ?_
              refine q_icmp_le (tgt := 106) dL_stage_99 rfl (by omega) (by omega) (fun c99 => ?_) (fun c99 => ?_)
              · refine r_iconst dL_stage_106 ?_
                refine r_istore dL_stage_107 rfl ?_
                refine r_iconst dL_stage_109 ?_
                refine r_istore dL_stage_110 rfl ?_
                refine AW.mono (c_stLoop hb hd he hB (by omega) (by omega) (μ.1 d 11).toNat 0 _ (by omega) (by omega)) ?_
                rintro r2 sh2 μ2 ⟨q1, q2, q3⟩
                refine ⟨q1.trans ?_, q2, q3⟩
                refine rI ?_
                have e1 : stopL2 1 = 0 := by decide
                unfold stL tankZ
                rw [e1]
                simp
              · exfalso; omega
            · exfalso; omega
    · exfalso; omega
set_option maxRecDepth 100000 in
set_option maxHeartbeats 4000000 in
theorem c_st12 (hb : sh[b]? = some (20, 23)) (hd : sh[d]? = some (20, 12)) (he : sh[e]? = some (20, 3)) {po : Int} (hB : CB (μ.1 d) (μ.1 e) po) : FMet yL_stage gL_stage sh [vR b, vR d, vR e, vI po, vI 2, vI 1] μ (some (vI (stL (μ.1 b) (μ.1 d) (μ.1 e) po 2 1))) μ := by
  have n3 := hB.1
  refine AMet.of (by decide) rfl (by decide) rfl ?_
  refine r_aload_n dL_stage_0 rfl ?_
  refine r_bipush dL_stage_1 (by decide) ?_
  refine r_iald dL_stage_3 (by assumption) rfl (by omega) ?_
  refine r_iload dL_stage_4 rfl ?_
  refine q_if_le (tgt := 16) dL_stage_6 rfl (by omega) (fun c6 => ?_) (fun c6 => ?_)
  · exfalso; omega
  · refine r_aload_n dL_stage_9 rfl ?_
    refine r_bipush dL_stage_10 (by decide) ?_
    refine r_iald dL_stage_12 (by assumption) rfl (by omega) ?_
    refine r_goto (tgt := 17) dL_stage_13 rfl ?_
    refine r_isub dL_stage_17 ?_
    refine r_iload dL_stage_18 rfl ?_
    refine r_iconst dL_stage_20 ?_
    refine q_icmp_le (tgt := 31) dL_stage_21 rfl (by omega) (by omega) (fun c21 => ?_) (fun c21 => ?_)
    · refine r_iconst dL_stage_31 ?_
      refine r_isub dL_stage_32 ?_
      refine r_istore dL_stage_33 rfl ?_
      refine r_aload_n dL_stage_35 rfl ?_
      refine r_iconst dL_stage_36 ?_
      refine r_iald dL_stage_37 (by assumption) rfl (by omega) ?_
      refine r_iload dL_stage_38 rfl ?_
      refine q_if_eq (tgt := 49) dL_stage_40 rfl (by omega) (fun c40 => ?_) (fun c40 => ?_)
      · exfalso; omega
      · refine r_aload_n dL_stage_43 rfl ?_
        refine r_iconst dL_stage_44 ?_
        refine r_iald dL_stage_45 (by assumption) rfl (by omega) ?_
        refine r_goto (tgt := 50) dL_stage_46 rfl ?_
        refine r_imul dL_stage_50 ?_
        refine r_iload dL_stage_51 rfl ?_
        refine r_iload dL_stage_53 rfl ?_
        refine q_if_eq (tgt := 65) dL_stage_55 rfl (by omega) (fun c55 => ?_) (fun c55 => ?_)
        · exfalso; omega
        · refine r_aload_n dL_stage_58 rfl ?_
          refine r_bipush dL_stage_59 (by decide) ?_
          refine r_iald dL_stage_61 (by assumption) rfl (by omega) ?_
          refine r_goto (tgt := 66) dL_stage_62 rfl ?_
          refine r_imul dL_stage_66 ?_
          refine r_iadd dL_stage_67 ?_
          refine r_iload_n dL_stage_68 rfl ?_
          refine r_iload dL_stage_69 rfl ?_
          refine q_if_eq (tgt := 81) dL_stage_71 rfl (by omega) (fun c71 => ?_) (fun c71 => ?_)
          · exfalso; omega
          · refine r_aload_n dL_stage_74 rfl ?_
            refine r_bipush dL_stage_75 (by decide) ?_
            refine r_iald dL_stage_77 (by assumption) rfl (by omega) ?_
            refine r_goto (tgt := 82) dL_stage_78 rfl ?_
            refine r_imul dL_stage_82 ?_
            refine r_iadd dL_stage_83 ?_
            refine r_istore dL_stage_84 rfl ?_
            refine r_iload dL_stage_86 rfl ?_
            refine r_iconst dL_stage_88 ?_
            refine q_icmp_le (tgt := 96) dL_stage_89 rfl (by omega) (by omega) (fun c89 => ?_) (fun c89 => ?_)
            · refine r_iload dL_stage_96 rfl ?_
              refine r_iconst dL_stage_98 ?_
              refine q_icmp_le (tgt := 106) dL_stage_99 rfl (by omega) (by omega) (fun c99 => ?_) (fun c99 => ?_)
              · exfalso; omega
              · refine r_iconst dL_stage_102 ?_
                refine r_goto (tgt := 107) dL_stage_103 rfl ?_
                refine r_istore dL_stage_107 rfl ?_
                refine r_iconst dL_stage_109 ?_
                refine r_istore dL_stage_110 rfl ?_
                refine AW.mono (c_stLoop hb hd he hB (by omega) (by omega) (μ.1 d 11).toNat 0 _ (by omega) (by omega)) ?_
                rintro r2 sh2 μ2 ⟨q1, q2, q3⟩
                refine ⟨q1.trans ?_, q2, q3⟩
                refine rI ?_
                have e1 : stopL2 2 = 1 := by decide
                unfold stL tankZ
                rw [e1]
                simp
            · exfalso; omega
    · exfalso; omega
set_option maxRecDepth 100000 in
set_option maxHeartbeats 4000000 in
theorem c_st13 (hb : sh[b]? = some (20, 23)) (hd : sh[d]? = some (20, 12)) (he : sh[e]? = some (20, 3)) {po : Int} (hB : CB (μ.1 d) (μ.1 e) po) : FMet yL_stage gL_stage sh [vR b, vR d, vR e, vI po, vI 3, vI 1] μ (some (vI (stL (μ.1 b) (μ.1 d) (μ.1 e) po 3 1))) μ := by
  have n3 := hB.1
  refine AMet.of (by decide) rfl (by decide) rfl ?_
  refine r_aload_n dL_stage_0 rfl ?_
  refine r_bipush dL_stage_1 (by decide) ?_
  refine r_iald dL_stage_3 (by assumption) rfl (by omega) ?_
  refine r_iload dL_stage_4 rfl ?_
  refine q_if_le (tgt := 16) dL_stage_6 rfl (by omega) (fun c6 => ?_) (fun c6 => ?_)
  · exfalso; omega
  · refine r_aload_n dL_stage_9 rfl ?_
    refine r_bipush dL_stage_10 (by decide) ?_
    refine r_iald dL_stage_12 (by assumption) rfl (by omega) ?_
    refine r_goto (tgt := 17) dL_stage_13 rfl ?_
    refine r_isub dL_stage_17 ?_
    refine r_iload dL_stage_18 rfl ?_
    refine r_iconst dL_stage_20 ?_
    refine q_icmp_le (tgt := 31) dL_stage_21 rfl (by omega) (by omega) (fun c21 => ?_) (fun c21 => ?_)
    · exfalso; omega
    · refine r_aload_n dL_stage_24 rfl ?_
      refine r_bipush dL_stage_25 (by decide) ?_
      refine r_iald dL_stage_27 (by assumption) rfl (by omega) ?_
      refine r_goto (tgt := 32) dL_stage_28 rfl ?_
      refine r_isub dL_stage_32 ?_
      refine r_istore dL_stage_33 rfl ?_
      refine r_aload_n dL_stage_35 rfl ?_
      refine r_iconst dL_stage_36 ?_
      refine r_iald dL_stage_37 (by assumption) rfl (by omega) ?_
      refine r_iload dL_stage_38 rfl ?_
      refine q_if_eq (tgt := 49) dL_stage_40 rfl (by omega) (fun c40 => ?_) (fun c40 => ?_)
      · exfalso; omega
      · refine r_aload_n dL_stage_43 rfl ?_
        refine r_iconst dL_stage_44 ?_
        refine r_iald dL_stage_45 (by assumption) rfl (by omega) ?_
        refine r_goto (tgt := 50) dL_stage_46 rfl ?_
        refine r_imul dL_stage_50 ?_
        refine r_iload dL_stage_51 rfl ?_
        refine r_iload dL_stage_53 rfl ?_
        refine q_if_eq (tgt := 65) dL_stage_55 rfl (by omega) (fun c55 => ?_) (fun c55 => ?_)
        · exfalso; omega
        · refine r_aload_n dL_stage_58 rfl ?_
          refine r_bipush dL_stage_59 (by decide) ?_
          refine r_iald dL_stage_61 (by assumption) rfl (by omega) ?_
          refine r_goto (tgt := 66) dL_stage_62 rfl ?_
          refine r_imul dL_stage_66 ?_
          refine r_iadd dL_stage_67 ?_
          refine r_iload_n dL_stage_68 rfl ?_
          refine r_iload dL_stage_69 rfl ?_
          refine q_if_eq (tgt := 81) dL_stage_71 rfl (by omega) (fun c71 => ?_) (fun c71 => ?_)
          · exfalso; omega
          · refine r_aload_n dL_stage_74 rfl ?_
            refine r_bipush dL_stage_75 (by decide) ?_
            refine r_iald dL_stage_77 (by assumption) rfl (by omega) ?_
            refine r_goto (tgt := 82) dL_stage_78 rfl ?_
            refine r_imul dL_stage_82 ?_
            refine r_iadd dL_stage_83 ?_
            refine r_istore dL_stage_84 rfl ?_
            refine r_iload dL_stage_86 rfl ?_
            refine r_iconst dL_stage_88 ?_
            refine q_icmp_le (tgt := 96) dL_stage_89 rfl (by omega) (by omega) (fun c89 => ?_) (fun c89 => ?_)
            · refine r_iload dL_stage_96 rfl ?_
              refine r_iconst dL_stage_98 ?_
              refine q_icmp_le (tgt := 106) dL_stage_99 rfl (by omega) (by omega) (fun c99 => ?_) (fun c99 => ?_)
              · exfalso; omega
              · refine r_iconst dL_stage_102 ?_
                refine r_goto (tgt := 107) dL_stage_103 rfl ?_
                refine r_istore dL_stage_107 rfl ?_
                refine r_iconst dL_stage_109 ?_
                refine r_istore dL_stage_110 rfl ?_
                refine AW.mono (c_stLoop hb hd he hB (by omega) (by omega) (μ.1 d 11).toNat 0 _ (by omega) (by omega)) ?_
                rintro r2 sh2 μ2 ⟨q1, q2, q3⟩
                refine ⟨q1.trans ?_, q2, q3⟩
                refine rI ?_
                have e1 : stopL2 3 = 1 := by decide
                unfold stL tankZ
                rw [e1]
                simp
            · exfalso; omega
set_option maxRecDepth 100000 in
set_option maxHeartbeats 4000000 in
theorem c_st14 (hb : sh[b]? = some (20, 23)) (hd : sh[d]? = some (20, 12)) (he : sh[e]? = some (20, 3)) {po : Int} (hB : CB (μ.1 d) (μ.1 e) po) : FMet yL_stage gL_stage sh [vR b, vR d, vR e, vI po, vI 4, vI 1] μ (some (vI (stL (μ.1 b) (μ.1 d) (μ.1 e) po 4 1))) μ := by
  have n3 := hB.1
  refine AMet.of (by decide) rfl (by decide) rfl ?_
  refine r_aload_n dL_stage_0 rfl ?_
  refine r_bipush dL_stage_1 (by decide) ?_
  refine r_iald dL_stage_3 (by assumption) rfl (by omega) ?_
  refine r_iload dL_stage_4 rfl ?_
  refine q_if_le (tgt := 16) dL_stage_6 rfl (by omega) (fun c6 => ?_) (fun c6 => ?_)
  · exfalso; omega
  · refine r_aload_n dL_stage_9 rfl ?_
    refine r_bipush dL_stage_10 (by decide) ?_
    refine r_iald dL_stage_12 (by assumption) rfl (by omega) ?_
    refine r_goto (tgt := 17) dL_stage_13 rfl ?_
    refine r_isub dL_stage_17 ?_
    refine r_iload dL_stage_18 rfl ?_
    refine r_iconst dL_stage_20 ?_
    refine q_icmp_le (tgt := 31) dL_stage_21 rfl (by omega) (by omega) (fun c21 => ?_) (fun c21 => ?_)
    · exfalso; omega
    · refine r_aload_n dL_stage_24 rfl ?_
      refine r_bipush dL_stage_25 (by decide) ?_
      refine r_iald dL_stage_27 (by assumption) rfl (by omega) ?_
      refine r_goto (tgt := 32) dL_stage_28 rfl ?_
      refine r_isub dL_stage_32 ?_
      refine r_istore dL_stage_33 rfl ?_
      refine r_aload_n dL_stage_35 rfl ?_
      refine r_iconst dL_stage_36 ?_
      refine r_iald dL_stage_37 (by assumption) rfl (by omega) ?_
      refine r_iload dL_stage_38 rfl ?_
      refine q_if_eq (tgt := 49) dL_stage_40 rfl (by omega) (fun c40 => ?_) (fun c40 => ?_)
      · exfalso; omega
      · refine r_aload_n dL_stage_43 rfl ?_
        refine r_iconst dL_stage_44 ?_
        refine r_iald dL_stage_45 (by assumption) rfl (by omega) ?_
        refine r_goto (tgt := 50) dL_stage_46 rfl ?_
        refine r_imul dL_stage_50 ?_
        refine r_iload dL_stage_51 rfl ?_
        refine r_iload dL_stage_53 rfl ?_
        refine q_if_eq (tgt := 65) dL_stage_55 rfl (by omega) (fun c55 => ?_) (fun c55 => ?_)
        · exfalso; omega
        · refine r_aload_n dL_stage_58 rfl ?_
          refine r_bipush dL_stage_59 (by decide) ?_
          refine r_iald dL_stage_61 (by assumption) rfl (by omega) ?_
          refine r_goto (tgt := 66) dL_stage_62 rfl ?_
          refine r_imul dL_stage_66 ?_
          refine r_iadd dL_stage_67 ?_
          refine r_iload_n dL_stage_68 rfl ?_
          refine r_iload dL_stage_69 rfl ?_
          refine q_if_eq (tgt := 81) dL_stage_71 rfl (by omega) (fun c71 => ?_) (fun c71 => ?_)
          · exfalso; omega
          · refine r_aload_n dL_stage_74 rfl ?_
            refine r_bipush dL_stage_75 (by decide) ?_
            refine r_iald dL_stage_77 (by assumption) rfl (by omega) ?_
            refine r_goto (tgt := 82) dL_stage_78 rfl ?_
            refine r_imul dL_stage_82 ?_
            refine r_iadd dL_stage_83 ?_
            refine r_istore dL_stage_84 rfl ?_
            refine r_iload dL_stage_86 rfl ?_
            refine r_iconst dL_stage_88 ?_
            refine q_icmp_le (tgt := 96) dL_stage_89 rfl (by omega) (by omega) (fun c89 => ?_) (fun c89 => ?_)
            · exfalso; omega
            · refine r_iconst dL_stage_92 ?_
              refine r_goto (tgt := 107) dL_stage_93 rfl ?_
              refine r_istore dL_stage_107 rfl ?_
              refine r_iconst dL_stage_109 ?_
              refine r_istore dL_stage_110 rfl ?_
              refine AW.mono (c_stLoop hb hd he hB (by omega) (by omega) (μ.1 d 11).toNat 0 _ (by omega) (by omega)) ?_
              rintro r2 sh2 μ2 ⟨q1, q2, q3⟩
              refine ⟨q1.trans ?_, q2, q3⟩
              refine rI ?_
              have e1 : stopL2 4 = 2 := by decide
              unfold stL tankZ
              rw [e1]
              simp
theorem c_stage (hb : sh[b]? = some (20, 23)) (hd : sh[d]? = some (20, 12)) (he : sh[e]? = some (20, 3)) {po : Int} (hB : CB (μ.1 d) (μ.1 e) po) {i mo : Int} (hi : 0 ≤ i ∧ i ≤ 4) (hm : mo = 0 ∨ mo = 1) : FMet yL_stage gL_stage sh [vR b, vR d, vR e, vI po, vI i, vI mo] μ (some (vI (stL (μ.1 b) (μ.1 d) (μ.1 e) po i mo))) μ := by
  rcases hm with rfl | rfl <;> rcases (show i = 0 ∨ i = 1 ∨ i = 2 ∨ i = 3 ∨ i = 4 by omega) with rfl | rfl | rfl | rfl | rfl
  · exact c_st00 hb hd he hB
  · exact c_st01 hb hd he hB
  · exact c_st02 hb hd he hB
  · exact c_st03 hb hd he hB
  · exact c_st04 hb hd he hB
  · exact c_st10 hb hd he hB
  · exact c_st11 hb hd he hB
  · exact c_st12 hb hd he hB
  · exact c_st13 hb hd he hB
  · exact c_st14 hb hd he hB
end RECKON

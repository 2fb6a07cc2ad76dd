/-! 70.tab3: the class's table, moments and rows (wip/whole/src/70_tab3.py) -/
theorem mLe_s (ρ : Row) {k : Int} (hk : 0 ≤ k) (q : Int) : mLe ρ (k + 1).toNat q = if stopsF ρ k = q then max (mLe ρ k.toNat q) (loF ρ k) else mLe ρ k.toNat q := by
  unfold mLe
  rw [show (k + 1).toNat = k.toNat + 1 by omega, fld_snoc, show (0 : Int) + (k.toNat : Int) = k by omega]
theorem mMo_s (ρ : Row) {k : Int} (hk : 0 ≤ k) (q : Int) : mMo ρ (k + 1).toNat q = if stopsF ρ k = q then min (mMo ρ k.toNat q) (hiF ρ k) else mMo ρ k.toNat q := by
  unfold mMo
  rw [show (k + 1).toNat = k.toNat + 1 by omega, fld_snoc, show (0 : Int) + (k.toNat : Int) = k by omega]
theorem kLe_s (ρ : Row) {k : Int} (hk : 0 ≤ k) : kLe ρ (k + 1).toNat = if 9 - k ≤ ρ 10 then max (kLe ρ k.toNat) (mLe ρ (nSt ρ) (9 - k) - mhF ρ (9 - k)) else kLe ρ k.toNat := by
  unfold kLe
  rw [show (k + 1).toNat = k.toNat + 1 by omega, fld_snoc, show (0 : Int) + (k.toNat : Int) = k by omega]
theorem kMo_s (ρ : Row) {k : Int} (hk : 0 ≤ k) : kMo ρ (k + 1).toNat = if 9 - k ≤ ρ 10 then min (kMo ρ k.toNat) (mMo ρ (nSt ρ) (9 - k) - mhF ρ (9 - k)) else kMo ρ k.toNat := by
  unfold kMo
  rw [show (k + 1).toNat = k.toNat + 1 by omega, fld_snoc, show (0 : Int) + (k.toNat : Int) = k by omega]
def MmQ (μ : Mem) (ρ : Row) (n : Nat) : Prop := ∀ q, 0 ≤ q → q < 5 → μ.1 176 q = mLe ρ n q ∧ μ.1 177 q = mMo ρ n q
def TQ (μ : Mem) (ρ : Row) (L : List Ent) : Prop := μ.1 172 0 = 1 ∧ μ.1 172 7 = aLF ρ ∧ μ.1 172 8 = aMF ρ ∧ MmQ μ ρ (nSt ρ) ∧ RW μ (ρ 11) L
theorem bins_of {μ : Mem} {p c : Nat} {ρ : Row} (hB : BW μ p c ρ) : (μ.1 (p + 1) 0 = a0F ρ ∧ μ.1 (p + 1) 1 = a1F ρ) ∧ (μ.1 (p + 2) 0 = lim0 ρ ∧ μ.1 (p + 2) 1 = lim1 ρ) := by
  obtain ⟨-, ⟨⟨-, -, -, -, -, -, pb, -⟩, -⟩, ⟨hWP, -⟩, -⟩ := hB
  have hn := hWP.1
  unfold WFn at hn
  have b0 := pb 0 (by omega) (by omega)
  have b1 := pb 1 (by omega) (by omega)
  simp only [Int.add_zero, show (47 : Int) + 1 = 48 from rfl, show (49 : Int) + 1 = 50 from rfl] at b0 b1
  unfold a0F a1F lim0 lim1
  refine ⟨⟨?_, ?_⟩, ?_, ?_⟩
  · split
    · exact (b0.1 (by omega)).1
    · exact (b0.2 (by omega)).1
  · split
    · exact (b1.1 (by omega)).1
    · exact (b1.2 (by omega)).1
  · split
    · exact (b0.1 (by omega)).2
    · exact (b0.2 (by omega)).2
  · split
    · exact (b1.1 (by omega)).2
    · exact (b1.2 (by omega)).2
def RQ (μ : Mem) (μ2 : Mem) : Prop := Kp (fun a => a ≠ 176 ∧ a ≠ 177) μ μ2 ∧ μ2.2 = μ.2
theorem c_reckonMoments {μ : Mem} {p c : Nat} {ρ : Row} (hB : BW μ p c ρ)  : VMet yX8_reckonMoments gX8_reckonMoments SH [vR 172] μ (fun μ2 => RQ μ μ2 ∧ MmQ μ2 ρ (nSt ρ)) := by
  obtain ⟨⟨hT, t5, t6⟩, ⟨hP, ⟨hIC, e0, e5, eC⟩⟩, ⟨hWP, hPW, hAB, hLB⟩, hpp, hcc⟩ := id hB
  obtain ⟨t2, t3, t4, t9, t10, t11, t12, t13, t14⟩ := id hT
  obtain ⟨h0, h1, h2, h3, h4, h6, s1, s2, s3, s4, s5⟩ := id hIC
  obtain ⟨hIP, p0, p1, p2, p3, p4, pb, hF, hV⟩ := id hP
  obtain ⟨i0, i5, i6, i7, i8, j1, j2, hIF0, hIV0⟩ := id hIP
  obtain ⟨hIF, kf0, kh, kf4, ks, kf9, kj⟩ := id hF
  obtain ⟨u0, u1, u2, u3, u5, u6, u7, u8, u10, u11, y1, y2, y3, y4, y5, y6, y7, y8, y9⟩ := id hIF
  obtain ⟨hIV, v0, vt, v5, v8, vi⟩ := id hV
  obtain ⟨w0, w1, w2, w3, w4, w6, w7, w9, w10, w11, b1, b2, b3, b4, b5, b6, b7, b8, b9⟩ := id hIV
  have hn := hWP.1
  unfold WFn at hn
  have x172 : SH[172]? = some (7, 15) := rfl
  have x173 : SH[173]? = some (20, 720) := rfl
  have x174 : SH[174]? = some (20, 720) := rfl
  have x175 : SH[175]? = some (20, 720) := rfl
  have x176 : SH[176]? = some (20, 5) := rfl
  have x177 : SH[177]? = some (20, 5) := rfl
  have x178 : SH[178]? = some (20, 5) := rfl
  have x179 : SH[179]? = some (20, 6) := rfl
  have x180 : SH[180]? = some (20, 3) := rfl
  have x181 : SH[181]? = some (20, 10) := rfl
  have hst := fun i (hi : 0 ≤ i ∧ i ≤ ρ 9) => stops_le hWP.2.2.2.2.2 hi
  have lB : ∀ (f n : Nat) (k : Int) (μ1 : Mem) (o3 o4 o5 : Option AV), n < f → 0 ≤ k → k + n = ρ 9 + 1 → RQ μ μ1 → MmQ μ1 ρ k.toNat → AW gX8_reckonMoments SH μ1 0 0 39 [some (vR 172), some (vR (p + 13)), some (vI k), o3, o4, o5] [] (fun r2 sh2 μ2 => r2 = none ∧ sh2 = SH ∧ RQ μ μ2 ∧ MmQ μ2 ρ (nSt ρ)) := by
    intro f
    induction f with
    | zero => intro n; intros; omega
    | succ f ih =>
      intro n k μ1 o3 o4 o5 hf hk hn2 hr hm
      have hB1 : BW μ1 p c ρ := hB.mono (hr.1.mono (fun q hq => by (try dsimp only at *); omega)) (by rw [hr.2])
      obtain ⟨⟨hT, t5, t6⟩, ⟨hP, ⟨hIC, e0, e5, eC⟩⟩, ⟨hWP, hPW, hAB, hLB⟩, hpp, hcc⟩ := id hB1
      obtain ⟨t2, t3, t4, t9, t10, t11, t12, t13, t14⟩ := id hT
      obtain ⟨h0, h1, h2, h3, h4, h6, s1, s2, s3, s4, s5⟩ := id hIC
      obtain ⟨hIP, p0, p1, p2, p3, p4, pb, hF, hV⟩ := id hP
      obtain ⟨i0, i5, i6, i7, i8, j1, j2, hIF0, hIV0⟩ := id hIP
      obtain ⟨hIF, kf0, kh, kf4, ks, kf9, kj⟩ := id hF
      obtain ⟨u0, u1, u2, u3, u5, u6, u7, u8, u10, u11, y1, y2, y3, y4, y5, y6, y7, y8, y9⟩ := id hIF
      obtain ⟨hIV, v0, vt, v5, v8, vi⟩ := id hV
      obtain ⟨w0, w1, w2, w3, w4, w6, w7, w9, w10, w11, b1, b2, b3, b4, b5, b6, b7, b8, b9⟩ := id hIV
      have hn := hWP.1
      unfold WFn at hn
      have x172 : SH[172]? = some (7, 15) := rfl
      have x173 : SH[173]? = some (20, 720) := rfl
      have x174 : SH[174]? = some (20, 720) := rfl
      have x175 : SH[175]? = some (20, 720) := rfl
      have x176 : SH[176]? = some (20, 5) := rfl
      have x177 : SH[177]? = some (20, 5) := rfl
      have x178 : SH[178]? = some (20, 5) := rfl
      have x179 : SH[179]? = some (20, 6) := rfl
      have x180 : SH[180]? = some (20, 3) := rfl
      have x181 : SH[181]? = some (20, 10) := rfl
      refine r_iload_n dX8_reckonMoments_39 rfl ?_
      refine r_aload_n dX8_reckonMoments_40 rfl ?_
      refine r_getI dX8_reckonMoments_41 fl_X8_109 rfl (by assumption) ?_
      refine q_icmp_gt (tgt := 164) dX8_reckonMoments_44 rfl (by omega) (by omega) (fun c44 => ?_) (fun c44 => ?_)
      · refine r_return dX8_reckonMoments_164 rfl rfl rfl ?_
        refine ⟨rfl, rfl, hr, ?_⟩
        rw [show nSt ρ = k.toNat by unfold nSt; omega]
        exact hm
      · have hsk := hst k ⟨hk, by omega⟩
        have hlh := lh_rng hWP hPW hAB (i := k) ⟨hk, by omega⟩
        have hml := mLe_rng hWP hPW hAB (n := k.toNat) (by omega) (stopsF ρ k)
        have vik := vi k hk (by omega)
        have hbi := bins_of hB1
        have hmk := hm (stopsF ρ k) (by omega) (by omega)
        refine r_aload_n dX8_reckonMoments_47 rfl ?_
        refine r_getR dX8_reckonMoments_48 fl_X8_114 rfl (by assumption) (by assumption) ?_
        refine r_iload_n dX8_reckonMoments_51 rfl ?_
        refine r_iald dX8_reckonMoments_52 (by assumption) rfl (by omega) ?_
        rw [vik.2.2]
        refine r_istore_n dX8_reckonMoments_53 rfl ?_
        refine r_aload_n dX8_reckonMoments_54 rfl ?_
        refine r_getR dX8_reckonMoments_55 fl_X8_117 rfl (by assumption) (by assumption) ?_
        refine r_iload_n dX8_reckonMoments_58 rfl ?_
        refine r_iald dX8_reckonMoments_59 (by assumption) rfl (by omega) ?_
        rw [vik.1]
        refine r_aload_n dX8_reckonMoments_60 rfl ?_
        refine r_getR dX8_reckonMoments_61 fl_X8_51 rfl (by assumption) (by assumption) ?_
        refine r_getI dX8_reckonMoments_64 fl_X8_55 rfl (by assumption) ?_
        rw [e5]
        refine r_iadd dX8_reckonMoments_67 ?_
        refine r_aload_n dX8_reckonMoments_68 rfl ?_
        refine r_iload_n dX8_reckonMoments_69 rfl ?_
        refine r_cV1F1 dX8_reckonMoments_70 ml_X8_120 yl_X8_weightBehind ⟨rfl, rfl⟩ (by assumption) ⟨_, rfl⟩ rfl rfl rfl rfl (c_weightBehind hB1 (by omega)) ?_
        refine r_iadd dX8_reckonMoments_73 ?_
        refine r_istore dX8_reckonMoments_74 rfl ?_
        refine r_aload_n dX8_reckonMoments_76 rfl ?_
        refine r_getR dX8_reckonMoments_77 fl_X8_123 rfl (by assumption) (by assumption) ?_
        refine r_iload_n dX8_reckonMoments_80 rfl ?_
        refine r_iald dX8_reckonMoments_81 (by assumption) rfl (by omega) ?_
        rw [vik.2.1]
        refine r_aload_n dX8_reckonMoments_82 rfl ?_
        refine r_getR dX8_reckonMoments_83 fl_X8_51 rfl (by assumption) (by assumption) ?_
        refine r_getI dX8_reckonMoments_86 fl_X8_55 rfl (by assumption) ?_
        rw [e5]
        refine r_aload_n dX8_reckonMoments_89 rfl ?_
        refine r_getR dX8_reckonMoments_90 fl_X8_47 rfl (by assumption) (by assumption) ?_
        refine r_getR dX8_reckonMoments_93 fl_X8_126 rfl (by assumption) (by assumption) ?_
        refine r_iconst dX8_reckonMoments_96 ?_
        refine r_iald dX8_reckonMoments_97 (by assumption) rfl (by omega) ?_
        rw [hbi.1.2]
        refine r_imul dX8_reckonMoments_98 ?_
        refine r_iadd dX8_reckonMoments_99 ?_
        refine r_istore dX8_reckonMoments_100 rfl ?_
        refine r_aload_n dX8_reckonMoments_102 rfl ?_
        refine r_getR dX8_reckonMoments_103 fl_X8_21 rfl (by assumption) (by assumption) ?_
        refine r_iload_n dX8_reckonMoments_106 rfl ?_
        refine r_aload_n dX8_reckonMoments_107 rfl ?_
        refine r_getR dX8_reckonMoments_108 fl_X8_21 rfl (by assumption) (by assumption) ?_
        refine r_iload_n dX8_reckonMoments_111 rfl ?_
        refine r_iald dX8_reckonMoments_112 (by assumption) rfl (by omega) ?_
        rw [hmk.1]
        refine r_iload dX8_reckonMoments_113 rfl ?_
        refine r_aload_n dX8_reckonMoments_115 rfl ?_
        refine r_getR dX8_reckonMoments_116 fl_X8_47 rfl (by assumption) (by assumption) ?_
        refine r_getI dX8_reckonMoments_119 fl_X8_129 rfl (by assumption) ?_
        rw [p2]
        refine r_imul dX8_reckonMoments_122 ?_
        refine r_iload dX8_reckonMoments_123 rfl ?_
        refine r_isub dX8_reckonMoments_125 ?_
        rw [show (baseW ρ k + ρ 12 + wbF ρ (stopsF ρ k)) * ρ 2 - (baseM ρ k + ρ 12 * a1F ρ) = loF ρ k from rfl]
        refine r_cS2F1 dX8_reckonMoments_126 ml_X8_65 yl_J9_max_7cf53 ⟨rfl, rfl⟩ rfl rfl rfl rfl (j_max (by omega) (by omega)) ?_
        refine r_iast dX8_reckonMoments_129 (by assumption) rfl (by omega) ?_
        refine r_aload_n dX8_reckonMoments_130 rfl ?_
        refine r_getR dX8_reckonMoments_131 fl_X8_24 rfl (by assumption) (by assumption) ?_
        refine r_iload_n dX8_reckonMoments_134 rfl ?_
        refine r_aload_n dX8_reckonMoments_135 rfl ?_
        refine r_getR dX8_reckonMoments_136 fl_X8_24 rfl (by assumption) (by assumption) ?_
        refine r_iload_n dX8_reckonMoments_139 rfl ?_
        refine r_iald dX8_reckonMoments_140 (by assumption) rfl (by omega) ?_
        rw [sI_ne (by omega), hmk.2]
        refine r_iload dX8_reckonMoments_141 rfl ?_
        refine r_aload_n dX8_reckonMoments_143 rfl ?_
        refine r_getR dX8_reckonMoments_144 fl_X8_47 rfl (by assumption) (by assumption) ?_
        refine r_getI dX8_reckonMoments_147 fl_X8_132 rfl (by assumption) ?_
        rw [sI_ne (by omega), p3]
        refine r_imul dX8_reckonMoments_150 ?_
        refine r_iload dX8_reckonMoments_151 rfl ?_
        refine r_isub dX8_reckonMoments_153 ?_
        rw [show (baseW ρ k + ρ 12 + wbF ρ (stopsF ρ k)) * ρ 3 - (baseM ρ k + ρ 12 * a1F ρ) = hiF ρ k from rfl]
        refine r_cS2F1 dX8_reckonMoments_154 ml_X8_74 yl_J9_min_7cf53 ⟨rfl, rfl⟩ rfl rfl rfl rfl (j_min (by omega) (by omega)) ?_
        refine r_iast dX8_reckonMoments_157 (by assumption) rfl (by omega) ?_
        refine r_iinc dX8_reckonMoments_158 rfl rfl ?_
        refine r_goto (tgt := 39) dX8_reckonMoments_161 rfl ?_
        refine ih (n - 1) (k + 1) _ _ _ _ (by omega) (by omega) (by omega) ⟨(hr.1.sI (by (try dsimp only); omega)).sI (by (try dsimp only); omega), hr.2⟩ ?_
        intro q q0 q1
        have hq := hm q q0 q1
        rw [mLe_s ρ hk, mMo_s ρ hk]
        by_cases e : stopsF ρ k = q
        · rw [if_pos e, if_pos e, ← e]
          exact ⟨by rw [sI_ne (by omega), sI_at], by rw [sI_at]⟩
        · rw [if_neg e, if_neg e]
          exact ⟨by rw [sI_ne (by omega), sI_nj (fun h => e h.symm)]; exact hq.1, by rw [sI_nj (fun h => e h.symm), sI_ne (by omega)]; exact hq.2⟩
  have lA : ∀ (f n : Nat) (k : Int) (μ1 : Mem) (o2 o3 o4 o5 : Option AV), n < f → 0 ≤ k → k + n = 5 → RQ μ μ1 → (∀ q, 0 ≤ q → q < k → μ1.1 176 q = -1000000000 ∧ μ1.1 177 q = 1000000000) → AW gX8_reckonMoments SH μ1 0 0 2 [some (vR 172), some (vI k), o2, o3, o4, o5] [] (fun r2 sh2 μ2 => r2 = none ∧ sh2 = SH ∧ RQ μ μ2 ∧ MmQ μ2 ρ (nSt ρ)) := by
    intro f
    induction f with
    | zero => intro n; intros; omega
    | succ f ih =>
      intro n k μ1 o2 o3 o4 o5 hf hk hn2 hr hm
      have hB1 : BW μ1 p c ρ := hB.mono (hr.1.mono (fun q hq => by (try dsimp only at *); omega)) (by rw [hr.2])
      obtain ⟨⟨hT, t5, t6⟩, ⟨hP, ⟨hIC, e0, e5, eC⟩⟩, ⟨hWP, hPW, hAB, hLB⟩, hpp, hcc⟩ := id hB1
      obtain ⟨t2, t3, t4, t9, t10, t11, t12, t13, t14⟩ := id hT
      obtain ⟨h0, h1, h2, h3, h4, h6, s1, s2, s3, s4, s5⟩ := id hIC
      obtain ⟨hIP, p0, p1, p2, p3, p4, pb, hF, hV⟩ := id hP
      obtain ⟨i0, i5, i6, i7, i8, j1, j2, hIF0, hIV0⟩ := id hIP
      obtain ⟨hIF, kf0, kh, kf4, ks, kf9, kj⟩ := id hF
      obtain ⟨u0, u1, u2, u3, u5, u6, u7, u8, u10, u11, y1, y2, y3, y4, y5, y6, y7, y8, y9⟩ := id hIF
      obtain ⟨hIV, v0, vt, v5, v8, vi⟩ := id hV
      obtain ⟨w0, w1, w2, w3, w4, w6, w7, w9, w10, w11, b1, b2, b3, b4, b5, b6, b7, b8, b9⟩ := id hIV
      have hn := hWP.1
      unfold WFn at hn
      have x172 : SH[172]? = some (7, 15) := rfl
      have x173 : SH[173]? = some (20, 720) := rfl
      have x174 : SH[174]? = some (20, 720) := rfl
      have x175 : SH[175]? = some (20, 720) := rfl
      have x176 : SH[176]? = some (20, 5) := rfl
      have x177 : SH[177]? = some (20, 5) := rfl
      have x178 : SH[178]? = some (20, 5) := rfl
      have x179 : SH[179]? = some (20, 6) := rfl
      have x180 : SH[180]? = some (20, 3) := rfl
      have x181 : SH[181]? = some (20, 10) := rfl
      refine r_iload_n dX8_reckonMoments_2 rfl ?_
      refine r_iconst dX8_reckonMoments_3 ?_
      refine q_icmp_gt (tgt := 29) dX8_reckonMoments_4 rfl (by omega) (by omega) (fun c4 => ?_) (fun c4 => ?_)
      · refine r_aload_n dX8_reckonMoments_29 rfl ?_
        refine r_getR dX8_reckonMoments_30 fl_X8_47 rfl (by assumption) (by assumption) ?_
        refine r_getR dX8_reckonMoments_33 fl_X8_105 rfl (by assumption) (by assumption) ?_
        refine r_astore_n dX8_reckonMoments_36 rfl ?_
        refine r_iconst dX8_reckonMoments_37 ?_
        refine r_istore_n dX8_reckonMoments_38 rfl ?_
        refine lB _ (ρ 9 + 1).toNat 0 μ1 _ _ _ (Nat.lt_succ_self _) (by omega) (by omega) hr (fun q q0 q1 => ?_)
        exact hm q q0 (by omega)
      · refine r_aload_n dX8_reckonMoments_7 rfl ?_
        refine r_getR dX8_reckonMoments_8 fl_X8_21 rfl (by assumption) (by assumption) ?_
        refine r_iload_n dX8_reckonMoments_11 rfl ?_
        refine r_ldc (x := -1000000000) dX8_reckonMoments_12 kl_X8_103 rfl ?_
        refine r_iast dX8_reckonMoments_14 (by assumption) rfl (by omega) ?_
        refine r_aload_n dX8_reckonMoments_15 rfl ?_
        refine r_getR dX8_reckonMoments_16 fl_X8_24 rfl (by assumption) (by assumption) ?_
        refine r_iload_n dX8_reckonMoments_19 rfl ?_
        refine r_ldc (x := 1000000000) dX8_reckonMoments_20 kl_X8_104 rfl ?_
        refine r_iast dX8_reckonMoments_22 (by assumption) rfl (by omega) ?_
        refine r_iinc dX8_reckonMoments_23 rfl rfl ?_
        refine r_goto (tgt := 2) dX8_reckonMoments_26 rfl ?_
        refine ih (n - 1) (k + 1) _ _ _ _ _ (by omega) (by omega) (by omega) ⟨(hr.1.sI (by (try dsimp only); omega)).sI (by (try dsimp only); omega), hr.2⟩ ?_
        intro q q0 q1
        by_cases e : q = k
        · rw [e]
          exact ⟨by rw [sI_ne (by omega), sI_at], by rw [sI_at]⟩
        · have hq := hm q q0 (by omega)
          exact ⟨by rw [sI_ne (by omega), sI_nj e]; exact hq.1, by rw [sI_nj e, sI_ne (by omega)]; exact hq.2⟩
  refine AMet.of (by decide) rfl (by decide) rfl ?_
  refine r_iconst dX8_reckonMoments_0 ?_
  refine r_istore_n dX8_reckonMoments_1 rfl ?_
  exact lA _ 5 0 μ _ _ _ _ (Nat.lt_succ_self _) (by omega) (by omega) ⟨Kp.rf _ _, rfl⟩ (fun q q0 q1 => by omega)
theorem RW.keep {μ μ2 : Mem} {N : Int} {L : List Ent} (h : RW μ N L) (h1 : μ2.1 172 1 = μ.1 172 1) (h2 : ∀ i, 0 ≤ i → i < L.length → μ2.1 173 i = μ.1 173 i ∧ μ2.1 174 i = μ.1 174 i ∧ μ2.1 175 i = μ.1 175 i) : RW μ2 N L := by
  obtain ⟨a, b, c, d⟩ := h
  refine ⟨h1.trans a, b, c, fun i e he => ?_⟩
  have hi := (List.getElem?_eq_some_iff.1 he).1
  obtain ⟨x, y, z⟩ := h2 i (by omega) (by omega)
  rw [x, y, z]
  exact d i e he
def KQ (μ μ2 : Mem) (N : Int) (L : List Ent) : Prop := Kp (fun a => ¬ (172 ≤ a ∧ a < 176)) μ μ2 ∧ μ2.2 = μ.2 ∧ (∀ j, j ≠ 1 → μ2.1 172 j = μ.1 172 j) ∧ RW μ2 N L
theorem RW.app {μ μ2 : Mem} {N : Int} {L : List Ent} {e : Ent} (h : RW μ N L) (h7 : L.length < 720) (he0 : 0 ≤ e.2.2) (hE : (expE (L ++ [e])).length ≤ 72000) (h1 : μ2.1 172 1 = μ.1 172 1 + 1) (h2 : ∀ i, 0 ≤ i → i < L.length → μ2.1 173 i = μ.1 173 i ∧ μ2.1 174 i = μ.1 174 i ∧ μ2.1 175 i = μ.1 175 i) (h3 : μ2.1 173 L.length = packC N e.1 ∧ μ2.1 174 L.length = e.2.1 ∧ μ2.1 175 L.length = upC L L.length + e.2.2) : RW μ2 N (L ++ [e]) := by
  obtain ⟨a, b, c, d⟩ := h
  refine ⟨?_, ?_, hE, fun i x hx => ?_⟩
  · rw [h1, a, List.length_append]; simp
  · rw [List.length_append]; simp; omega
  · by_cases hi : i < L.length
    · rw [List.getElem?_append_left hi] at hx
      obtain ⟨p, q, r⟩ := h2 i (by omega) (by omega)
      rw [p, q, r, upC_app (by omega)]
      exact d i x hx
    · have hlt := (List.getElem?_eq_some_iff.1 hx).1
      rw [List.length_append, List.length_singleton] at hlt
      obtain rfl : i = L.length := by omega
      have hu := upC_s hx
      rw [List.getElem?_append_right (Nat.le_refl _), Nat.sub_self] at hx
      obtain rfl : e = x := by simpa using hx
      rw [hu, upC_app (Nat.le_refl _)]
      refine ⟨h3.1, h3.2.1, h3.2.2.trans ?_⟩
      omega
theorem fdiv_rng {x s : Int} (hs : s ≠ 0) (hx : -1100000000 ≤ x ∧ x ≤ 1100000000) : -1100000001 ≤ x.fdiv s ∧ x.fdiv s ≤ 1100000000 := by
  have h := tdiv_rng (b := s) (a := x) (by omega)
  have h2 := Int.natAbs_tdiv_le_natAbs x s
  by_cases c : (x < 0 ↔ s < 0)
  · rw [fdiv_same hs c]; omega
  · rw [fdiv_diff hs c]
    split <;> omega
theorem c_keepRow {μ : Mem} {p c : Nat} {ρ : Row} (hB : BW μ p c ρ) {L : List Ent} (hA : AR μ ρ (ρ 11)) (hl : LyS ρ (ρ 11)) (hQ : TQ μ ρ L) (h7 : L.length + (keepE ρ).length ≤ 720) (hE : (expE (L ++ keepE ρ)).length ≤ 72000) : VMet yX8_keepRow gX8_keepRow SH [vR 172] μ (fun μ2 => KQ μ μ2 (ρ 11) (L ++ keepE ρ)) := by
  obtain ⟨⟨hT, t5, t6⟩, ⟨hP, ⟨hIC, e0, e5, eC⟩⟩, ⟨hWP, hPW, hAB, hLB⟩, hpp, hcc⟩ := id hB
  obtain ⟨t2, t3, t4, t9, t10, t11, t12, t13, t14⟩ := id hT
  obtain ⟨h0, h1, h2, h3, h4, h6, s1, s2, s3, s4, s5⟩ := id hIC
  obtain ⟨hIP, p0, p1, p2, p3, p4, pb, hF, hV⟩ := id hP
  obtain ⟨i0, i5, i6, i7, i8, j1, j2, hIF0, hIV0⟩ := id hIP
  obtain ⟨hIF, kf0, kh, kf4, ks, kf9, kj⟩ := id hF
  obtain ⟨u0, u1, u2, u3, u5, u6, u7, u8, u10, u11, y1, y2, y3, y4, y5, y6, y7, y8, y9⟩ := id hIF
  obtain ⟨hIV, v0, vt, v5, v8, vi⟩ := id hV
  obtain ⟨w0, w1, w2, w3, w4, w6, w7, w9, w10, w11, b1, b2, b3, b4, b5, b6, b7, b8, b9⟩ := id hIV
  have hn := hWP.1
  unfold WFn at hn
  have x172 : SH[172]? = some (7, 15) := rfl
  have x173 : SH[173]? = some (20, 720) := rfl
  have x174 : SH[174]? = some (20, 720) := rfl
  have x175 : SH[175]? = some (20, 720) := rfl
  have x176 : SH[176]? = some (20, 5) := rfl
  have x177 : SH[177]? = some (20, 5) := rfl
  have x178 : SH[178]? = some (20, 5) := rfl
  have x179 : SH[179]? = some (20, 6) := rfl
  have x180 : SH[180]? = some (20, 3) := rfl
  have x181 : SH[181]? = some (20, 10) := rfl
  obtain ⟨a8, a9, a10, a11⟩ := id hA
  obtain ⟨m0, m7, m8, hMQ, hRW⟩ := id hQ
  have hbi := bins_of hB
  have harm := arm_rng hAB.1
  have hk10 := kLe_rng hWP hPW hAB hl 10
  have hlb := hLB
  unfold LimB at hlb
  have haL : 0 ≤ aLF ρ ∧ aLF ρ ≤ 200 := by unfold aLF; omega
  have haM : -1 ≤ aMF ρ ∧ aMF ρ ≤ 200 := by unfold aMF; omega
  have hsl : -99 ≤ slF ρ ∧ slF ρ ≤ 99 := by unfold slF; omega
  have l172 : ∀ f t : Int, f = frF ρ → t = toF ρ → okS ρ → AW gX8_keepRow SH μ 0 0 172 [some (vR 172), some (vI (kLe ρ 10)), some (vI (kMo ρ 10)), some (vI (mhF ρ (-1))), some (vI (slF ρ)), some (vI f), some (vI t)] [] (fun r2 sh2 μ2 => r2 = none ∧ sh2 = SH ∧ KQ μ μ2 (ρ 11) (L ++ keepE ρ)) := by
    intro f t hf ht hok
    have hft := fr_rng (ρ := ρ) (by omega) hAB.2
    have hf2 : f ≤ 2147483647 := by
      by_cases hh : slF ρ = 0
      · rw [hf]; unfold frF; rw [if_pos hh]; omega
      · rw [hf]; unfold frF; rw [if_neg hh]
        have hd : ∀ x : Int, -1100000000 ≤ x ∧ x ≤ 1100000000 → -1100000001 ≤ x.fdiv (slF ρ) ∧ x.fdiv (slF ρ) ≤ 1100000000 := fun x hx => fdiv_rng hh hx
        have := hd (-(if 0 < slF ρ then kLe ρ 10 else kMo ρ 10)) (by split <;> omega)
        omega
    have ht2 : -2147483648 ≤ t := by
      by_cases hh : slF ρ = 0
      · rw [ht]; unfold toF; rw [if_pos hh]; omega
      · rw [ht]; unfold toF; rw [if_neg hh]
        have hd : ∀ x : Int, -1100000000 ≤ x ∧ x ≤ 1100000000 → -1100000001 ≤ x.fdiv (slF ρ) ∧ x.fdiv (slF ρ) ≤ 1100000000 := fun x hx => fdiv_rng hh hx
        have := hd (if 0 < slF ρ then kMo ρ 10 else kLe ρ 10) (by split <;> omega)
        omega
    rw [← hf, ← ht] at hft
    have hup := upC_le (L := L) (n := L.length)
    have hr1 := hRW.1
    have hr3 := hRW.2.2.1
    refine r_iload dX8_keepRow_172 rfl ?_
    refine r_iload dX8_keepRow_174 rfl ?_
    refine q_icmp_gt (tgt := 250) dX8_keepRow_176 rfl (by omega) (by omega) (fun c176 => ?_) (fun c176 => ?_)
    · refine r_return dX8_keepRow_250 rfl rfl rfl ?_
      first
      | (refine ⟨rfl, rfl, Kp.rf _ _, rfl, fun _ _ => rfl, ?_⟩
         rw [show keepE ρ = [] from if_neg (fun h => by omega), List.append_nil]
         exact hRW)
      | (refine ⟨rfl, rfl, ((((Kp.rf _ μ).sI (by (try dsimp only); omega)).sI (by (try dsimp only); omega)).sI (by (try dsimp only); omega)).sI (by (try dsimp only); omega), rfl, fun j hj => by rw [sI_nj hj, sI_ne (by omega), sI_ne (by omega), sI_ne (by omega)], ?_⟩
         rw [hkE]
         refine hRW.app (by omega) (by (try dsimp only); omega) hE (by rw [sI_at, hr1]) (fun i i0 i1 => ⟨by rw [sI_ne (by omega), sI_ne (by omega), sI_ne (by omega), sI_nj (by omega)], by rw [sI_ne (by omega), sI_ne (by omega), sI_nj (by omega), sI_ne (by omega)], by rw [sI_ne (by omega), sI_nj (by omega), sI_ne (by omega), sI_ne (by omega)]⟩) ⟨by rw [sI_ne (by omega), sI_ne (by omega), sI_ne (by omega), sI_at], by rw [sI_ne (by omega), sI_ne (by omega), sI_at], by rw [sI_ne (by omega), sI_at]; (try dsimp only); omega⟩)
    · have hkE : keepE ρ = [(codeR ρ, f, t - f + 1)] := by
        unfold keepE
        rw [if_pos ⟨hok, by omega⟩, ← hf, ← ht]
      rw [hkE, List.length_singleton] at h7
      rw [hkE] at hE
      refine r_aload_n dX8_keepRow_179 rfl ?_
      refine r_getI dX8_keepRow_180 fl_X8_43 rfl (by assumption) ?_
      rw [hr1]
      refine r_sipush dX8_keepRow_183 (by decide) ?_
      refine q_icmp_ge (tgt := 250) dX8_keepRow_186 rfl (by omega) (by omega) (fun c186 => ?_) (fun c186 => ?_)
      · exact absurd c186 (by omega)
      · refine r_aload_n dX8_keepRow_189 rfl ?_
        refine r_getR dX8_keepRow_190 fl_X8_11 rfl (by assumption) (by assumption) ?_
        refine r_aload_n dX8_keepRow_193 rfl ?_
        refine r_getI dX8_keepRow_194 fl_X8_43 rfl (by assumption) ?_
        rw [hr1]
        refine r_aload_n dX8_keepRow_197 rfl ?_
        refine r_cV0F1 dX8_keepRow_198 ml_X8_182 yl_X8_packedPlaces ⟨rfl, rfl⟩ (by assumption) ⟨_, rfl⟩ rfl rfl rfl rfl (c_packedPlaces hB hl a8) ?_
        refine r_iast dX8_keepRow_201 (by assumption) rfl (by omega) ?_
        refine r_aload_n dX8_keepRow_202 rfl ?_
        refine r_getR dX8_keepRow_203 fl_X8_15 rfl (by assumption) (by assumption) ?_
        refine r_aload_n dX8_keepRow_206 rfl ?_
        refine r_getI dX8_keepRow_207 fl_X8_43 rfl (by assumption) ?_
        rw [sI_ne (by omega), hr1]
        refine r_iload dX8_keepRow_210 rfl ?_
        refine r_iast dX8_keepRow_212 (by assumption) rfl (by omega) ?_
        refine r_aload_n dX8_keepRow_213 rfl ?_
        refine r_getR dX8_keepRow_214 fl_X8_18 rfl (by assumption) (by assumption) ?_
        refine r_aload_n dX8_keepRow_217 rfl ?_
        refine r_getI dX8_keepRow_218 fl_X8_43 rfl (by assumption) ?_
        rw [sI_ne (by omega), sI_ne (by omega), hr1]
        refine r_aload_n dX8_keepRow_221 rfl ?_
        refine r_aload_n dX8_keepRow_222 rfl ?_
        refine r_getI dX8_keepRow_223 fl_X8_43 rfl (by assumption) ?_
        rw [sI_ne (by omega), sI_ne (by omega), hr1]
        refine r_iconst dX8_keepRow_226 ?_
        refine r_isub dX8_keepRow_227 ?_
        refine r_cV1F1 dX8_keepRow_228 ml_X8_99 yl_X8_upTo ⟨rfl, rfl⟩ (by assumption) ⟨_, rfl⟩ rfl rfl rfl rfl (c_upTo (L := L) (N := ρ 11) (μ := setI (setI μ 173 L.length (packC (ρ 11) (codeR ρ))) 174 L.length f) hT (hRW.keep (by rw [sI_ne (by omega), sI_ne (by omega)]) (fun i i0 i1 => ⟨by rw [sI_ne (by omega), sI_nj (by omega)], by rw [sI_nj (by omega), sI_ne (by omega)], by rw [sI_ne (by omega), sI_ne (by omega)]⟩)) (by omega)) ?_
        rw [upF_s (by omega), show ((L.length : Int) - 1 + 1).toNat = L.length by omega]
        refine r_iload dX8_keepRow_231 rfl ?_
        refine r_iadd dX8_keepRow_233 ?_
        refine r_iload dX8_keepRow_234 rfl ?_
        refine r_isub dX8_keepRow_236 ?_
        refine r_iconst dX8_keepRow_237 ?_
        refine r_iadd dX8_keepRow_238 ?_
        refine r_iast dX8_keepRow_239 (by assumption) rfl (by omega) ?_
        refine r_aload_n dX8_keepRow_240 rfl ?_
        refine r_dup dX8_keepRow_241 rfl ?_
        refine r_getI dX8_keepRow_242 fl_X8_43 rfl (by assumption) ?_
        rw [sI_ne (by omega), sI_ne (by omega), sI_ne (by omega), hr1]
        refine r_iconst dX8_keepRow_245 ?_
        refine r_iadd dX8_keepRow_246 ?_
        refine r_putI dX8_keepRow_247 fl_X8_43 (by assumption) ?_
        refine r_return dX8_keepRow_250 rfl rfl rfl ?_
        first
        | (refine ⟨rfl, rfl, Kp.rf _ _, rfl, fun _ _ => rfl, ?_⟩
           rw [show keepE ρ = [] from if_neg (fun h => by omega), List.append_nil]
           exact hRW)
        | (refine ⟨rfl, rfl, ((((Kp.rf _ μ).sI (by (try dsimp only); omega)).sI (by (try dsimp only); omega)).sI (by (try dsimp only); omega)).sI (by (try dsimp only); omega), rfl, fun j hj => by rw [sI_nj hj, sI_ne (by omega), sI_ne (by omega), sI_ne (by omega)], ?_⟩
           rw [hkE]
           refine hRW.app (by omega) (by (try dsimp only); omega) hE (by rw [sI_at, hr1]) (fun i i0 i1 => ⟨by rw [sI_ne (by omega), sI_ne (by omega), sI_ne (by omega), sI_nj (by omega)], by rw [sI_ne (by omega), sI_ne (by omega), sI_nj (by omega), sI_ne (by omega)], by rw [sI_ne (by omega), sI_nj (by omega), sI_ne (by omega), sI_ne (by omega)]⟩) ⟨by rw [sI_ne (by omega), sI_ne (by omega), sI_ne (by omega), sI_at], by rw [sI_ne (by omega), sI_ne (by omega), sI_at], by rw [sI_ne (by omega), sI_at]; (try dsimp only); omega⟩)
  have lK : ∀ o4 o5 o6 : Option AV, AW gX8_keepRow SH μ 0 0 76 [some (vR 172), some (vI (kLe ρ 10)), some (vI (kMo ρ 10)), some (vI (mhF ρ (-1))), o4, o5, o6] [] (fun r2 sh2 μ2 => r2 = none ∧ sh2 = SH ∧ KQ μ μ2 (ρ 11) (L ++ keepE ρ)) := by
    intro o4 o5 o6
    have hd : ∀ x : Int, slF ρ ≠ 0 → -1100000000 ≤ x ∧ x ≤ 1100000000 → -1100000001 ≤ x.fdiv (slF ρ) ∧ x.fdiv (slF ρ) ≤ 1100000000 := fun x hh hx => fdiv_rng hh hx
    have d1 := hd (-kLe ρ 10)
    have d2 := hd (-kMo ρ 10)
    have d3 := hd (kLe ρ 10)
    have d4 := hd (kMo ρ 10)
    refine r_aload_n dX8_keepRow_76 rfl ?_
    refine r_getR dX8_keepRow_77 fl_X8_47 rfl (by assumption) (by assumption) ?_
    refine r_getR dX8_keepRow_80 fl_X8_126 rfl (by assumption) (by assumption) ?_
    refine r_iconst dX8_keepRow_83 ?_
    refine r_iald dX8_keepRow_84 (by assumption) rfl (by omega) ?_
    rw [hbi.1.1]
    refine r_aload_n dX8_keepRow_85 rfl ?_
    refine r_getR dX8_keepRow_86 fl_X8_47 rfl (by assumption) (by assumption) ?_
    refine r_getR dX8_keepRow_89 fl_X8_126 rfl (by assumption) (by assumption) ?_
    refine r_iconst dX8_keepRow_92 ?_
    refine r_iald dX8_keepRow_93 (by assumption) rfl (by omega) ?_
    rw [hbi.1.2]
    refine r_isub dX8_keepRow_94 ?_
    rw [show a0F ρ - a1F ρ = slF ρ from rfl]
    refine r_istore dX8_keepRow_95 rfl ?_
    refine r_aload_n dX8_keepRow_97 rfl ?_
    refine r_getI dX8_keepRow_98 fl_X8_71 rfl (by assumption) ?_
    rw [m7]
    refine r_istore dX8_keepRow_101 rfl ?_
    refine r_aload_n dX8_keepRow_103 rfl ?_
    refine r_getI dX8_keepRow_104 fl_X8_77 rfl (by assumption) ?_
    rw [m8]
    refine r_istore dX8_keepRow_107 rfl ?_
    refine r_iload dX8_keepRow_109 rfl ?_
    refine q_if_eq (tgt := 163) dX8_keepRow_111 rfl (by omega) (fun c111 => ?_) (fun c111 => ?_)
    · refine r_iload_n dX8_keepRow_163 rfl ?_
      refine q_if_gt (tgt := 171) dX8_keepRow_164 rfl (by omega) (fun c164 => ?_) (fun c164 => ?_)
      · refine r_return dX8_keepRow_171 rfl rfl rfl ?_
        refine ⟨rfl, rfl, Kp.rf _ _, rfl, fun _ _ => rfl, ?_⟩
        rw [show keepE ρ = [] from if_neg (fun h => by have := h.1; unfold okS at this; omega), List.append_nil]
        exact hRW
      · refine r_iload_n dX8_keepRow_167 rfl ?_
        refine q_if_ge (tgt := 172) dX8_keepRow_168 rfl (by omega) (fun c168 => ?_) (fun c168 => ?_)
        · first
          | (exfalso; omega)
          | exact l172 _ _ (by unfold frF; rw [if_pos (by omega)]) (by unfold toF; rw [if_pos (by omega)]) (by unfold okS; omega)
          | exact l172 _ _ (by unfold frF; rw [if_neg (by omega), if_pos (by omega)]) (by unfold toF; rw [if_neg (by omega), if_pos (by omega)]) (by unfold okS; omega)
          | exact l172 _ _ (by unfold frF; rw [if_neg (by omega), if_neg (by omega)]) (by unfold toF; rw [if_neg (by omega), if_neg (by omega)]) (by unfold okS; omega)
        · refine r_return dX8_keepRow_171 rfl rfl rfl ?_
          refine ⟨rfl, rfl, Kp.rf _ _, rfl, fun _ _ => rfl, ?_⟩
          rw [show keepE ρ = [] from if_neg (fun h => by have := h.1; unfold okS at this; omega), List.append_nil]
          exact hRW
    · refine r_iload dX8_keepRow_114 rfl ?_
      refine r_iload dX8_keepRow_116 rfl ?_
      refine q_if_le (tgt := 125) dX8_keepRow_118 rfl (by omega) (fun c118 => ?_) (fun c118 => ?_)
      · refine r_iload_n dX8_keepRow_125 rfl ?_
        refine r_ineg dX8_keepRow_126 ?_
        refine r_iload dX8_keepRow_127 rfl ?_
        refine r_cS2F1 dX8_keepRow_129 ml_X8_179 yl_J9_floorDiv_7cf53 ⟨rfl, rfl⟩ rfl rfl rfl rfl (j_floorDiv (by omega) (by omega) (by omega)) ?_
        refine r_ineg dX8_keepRow_132 ?_
        refine r_cS2F1 dX8_keepRow_133 ml_X8_65 yl_J9_max_7cf53 ⟨rfl, rfl⟩ rfl rfl rfl rfl (j_max (by omega) (by omega)) ?_
        refine r_istore dX8_keepRow_136 rfl ?_
        refine r_iload dX8_keepRow_138 rfl ?_
        refine r_iload dX8_keepRow_140 rfl ?_
        refine q_if_le (tgt := 149) dX8_keepRow_142 rfl (by omega) (fun c142 => ?_) (fun c142 => ?_)
        · refine r_iload_n dX8_keepRow_149 rfl ?_
          refine r_iload dX8_keepRow_150 rfl ?_
          refine r_cS2F1 dX8_keepRow_152 ml_X8_179 yl_J9_floorDiv_7cf53 ⟨rfl, rfl⟩ rfl rfl rfl rfl (j_floorDiv (by omega) (by omega) (by omega)) ?_
          refine r_cS2F1 dX8_keepRow_155 ml_X8_74 yl_J9_min_7cf53 ⟨rfl, rfl⟩ rfl rfl rfl rfl (j_min (by omega) (by omega)) ?_
          refine r_istore dX8_keepRow_158 rfl ?_
          refine r_goto (tgt := 172) dX8_keepRow_160 rfl ?_
          first
          | (exfalso; omega)
          | exact l172 _ _ (by unfold frF; rw [if_pos (by omega)]) (by unfold toF; rw [if_pos (by omega)]) (by unfold okS; omega)
          | exact l172 _ _ (by unfold frF; rw [if_neg (by omega), if_pos (by omega)]) (by unfold toF; rw [if_neg (by omega), if_pos (by omega)]) (by unfold okS; omega)
          | exact l172 _ _ (by unfold frF; rw [if_neg (by omega), if_neg (by omega)]) (by unfold toF; rw [if_neg (by omega), if_neg (by omega)]) (by unfold okS; omega)
        · refine r_iload_n dX8_keepRow_145 rfl ?_
          refine r_goto (tgt := 150) dX8_keepRow_146 rfl ?_
          refine r_iload dX8_keepRow_150 rfl ?_
          refine r_cS2F1 dX8_keepRow_152 ml_X8_179 yl_J9_floorDiv_7cf53 ⟨rfl, rfl⟩ rfl rfl rfl rfl (j_floorDiv (by omega) (by omega) (by omega)) ?_
          refine r_cS2F1 dX8_keepRow_155 ml_X8_74 yl_J9_min_7cf53 ⟨rfl, rfl⟩ rfl rfl rfl rfl (j_min (by omega) (by omega)) ?_
          refine r_istore dX8_keepRow_158 rfl ?_
          refine r_goto (tgt := 172) dX8_keepRow_160 rfl ?_
          first
          | (exfalso; omega)
          | exact l172 _ _ (by unfold frF; rw [if_pos (by omega)]) (by unfold toF; rw [if_pos (by omega)]) (by unfold okS; omega)
          | exact l172 _ _ (by unfold frF; rw [if_neg (by omega), if_pos (by omega)]) (by unfold toF; rw [if_neg (by omega), if_pos (by omega)]) (by unfold okS; omega)
          | exact l172 _ _ (by unfold frF; rw [if_neg (by omega), if_neg (by omega)]) (by unfold toF; rw [if_neg (by omega), if_neg (by omega)]) (by unfold okS; omega)
      · refine r_iload_n dX8_keepRow_121 rfl ?_
        refine r_goto (tgt := 126) dX8_keepRow_122 rfl ?_
        refine r_ineg dX8_keepRow_126 ?_
        refine r_iload dX8_keepRow_127 rfl ?_
        refine r_cS2F1 dX8_keepRow_129 ml_X8_179 yl_J9_floorDiv_7cf53 ⟨rfl, rfl⟩ rfl rfl rfl rfl (j_floorDiv (by omega) (by omega) (by omega)) ?_
        refine r_ineg dX8_keepRow_132 ?_
        refine r_cS2F1 dX8_keepRow_133 ml_X8_65 yl_J9_max_7cf53 ⟨rfl, rfl⟩ rfl rfl rfl rfl (j_max (by omega) (by omega)) ?_
        refine r_istore dX8_keepRow_136 rfl ?_
        refine r_iload dX8_keepRow_138 rfl ?_
        refine r_iload dX8_keepRow_140 rfl ?_
        refine q_if_le (tgt := 149) dX8_keepRow_142 rfl (by omega) (fun c142 => ?_) (fun c142 => ?_)
        · refine r_iload_n dX8_keepRow_149 rfl ?_
          refine r_iload dX8_keepRow_150 rfl ?_
          refine r_cS2F1 dX8_keepRow_152 ml_X8_179 yl_J9_floorDiv_7cf53 ⟨rfl, rfl⟩ rfl rfl rfl rfl (j_floorDiv (by omega) (by omega) (by omega)) ?_
          refine r_cS2F1 dX8_keepRow_155 ml_X8_74 yl_J9_min_7cf53 ⟨rfl, rfl⟩ rfl rfl rfl rfl (j_min (by omega) (by omega)) ?_
          refine r_istore dX8_keepRow_158 rfl ?_
          refine r_goto (tgt := 172) dX8_keepRow_160 rfl ?_
          first
          | (exfalso; omega)
          | exact l172 _ _ (by unfold frF; rw [if_pos (by omega)]) (by unfold toF; rw [if_pos (by omega)]) (by unfold okS; omega)
          | exact l172 _ _ (by unfold frF; rw [if_neg (by omega), if_pos (by omega)]) (by unfold toF; rw [if_neg (by omega), if_pos (by omega)]) (by unfold okS; omega)
          | exact l172 _ _ (by unfold frF; rw [if_neg (by omega), if_neg (by omega)]) (by unfold toF; rw [if_neg (by omega), if_neg (by omega)]) (by unfold okS; omega)
        · refine r_iload_n dX8_keepRow_145 rfl ?_
          refine r_goto (tgt := 150) dX8_keepRow_146 rfl ?_
          refine r_iload dX8_keepRow_150 rfl ?_
          refine r_cS2F1 dX8_keepRow_152 ml_X8_179 yl_J9_floorDiv_7cf53 ⟨rfl, rfl⟩ rfl rfl rfl rfl (j_floorDiv (by omega) (by omega) (by omega)) ?_
          refine r_cS2F1 dX8_keepRow_155 ml_X8_74 yl_J9_min_7cf53 ⟨rfl, rfl⟩ rfl rfl rfl rfl (j_min (by omega) (by omega)) ?_
          refine r_istore dX8_keepRow_158 rfl ?_
          refine r_goto (tgt := 172) dX8_keepRow_160 rfl ?_
          first
          | (exfalso; omega)
          | exact l172 _ _ (by unfold frF; rw [if_pos (by omega)]) (by unfold toF; rw [if_pos (by omega)]) (by unfold okS; omega)
          | exact l172 _ _ (by unfold frF; rw [if_neg (by omega), if_pos (by omega)]) (by unfold toF; rw [if_neg (by omega), if_pos (by omega)]) (by unfold okS; omega)
          | exact l172 _ _ (by unfold frF; rw [if_neg (by omega), if_neg (by omega)]) (by unfold toF; rw [if_neg (by omega), if_neg (by omega)]) (by unfold okS; omega)
  have loop : ∀ (f n : Nat) (k : Int) (o5 o6 : Option AV), n < f → 0 ≤ k → k + n = 10 → AW gX8_keepRow SH μ 0 0 12 [some (vR 172), some (vI (kLe ρ k.toNat)), some (vI (kMo ρ k.toNat)), some (vI (mhF ρ (9 - k))), some (vI (9 - k)), o5, o6] [] (fun r2 sh2 μ2 => r2 = none ∧ sh2 = SH ∧ KQ μ μ2 (ρ 11) (L ++ keepE ρ)) := by
    intro f
    induction f with
    | zero => intro n; intros; omega
    | succ f ih =>
      intro n k o5 o6 hf hk hn2
      refine r_iload dX8_keepRow_12 rfl ?_
      refine q_if_lt (tgt := 76) dX8_keepRow_14 rfl (by omega) (fun c14 => ?_) (fun c14 => ?_)
      · obtain rfl : k = 10 := by omega
        exact lK _ _ _
      · have hkr := kLe_rng hWP hPW hAB hl k.toNat
        have hmr := mLe_rng hWP hPW hAB (n := nSt ρ) (by unfold nSt; omega) (9 - k)
        have hhr := mk_rng hWP.1 hWP.2.1 hPW hl (9 - k)
        have hsr := ms_rng hWP.1 hWP.2.1 hPW ⟨by omega, Int.le_refl _⟩ hl (9 - k)
        have hst := mk_step ρ (9 - k)
        refine r_iload dX8_keepRow_17 rfl ?_
        refine r_aload_n dX8_keepRow_19 rfl ?_
        refine r_getR dX8_keepRow_20 fl_X8_47 rfl (by assumption) (by assumption) ?_
        refine r_getR dX8_keepRow_23 fl_X8_105 rfl (by assumption) (by assumption) ?_
        refine r_getI dX8_keepRow_26 fl_X8_176 rfl (by assumption) ?_
        rw [v8]
        refine q_icmp_gt (tgt := 60) dX8_keepRow_29 rfl (by omega) (by omega) (fun c29 => ?_) (fun c29 => ?_)
        · refine r_iload_n dX8_keepRow_60 rfl ?_
          refine r_aload_n dX8_keepRow_61 rfl ?_
          refine r_getR dX8_keepRow_62 fl_X8_36 rfl (by assumption) (by assumption) ?_
          refine r_iload dX8_keepRow_65 rfl ?_
          refine r_iald dX8_keepRow_67 (by assumption) rfl (by omega) ?_
          rw [a11 (9 - k) (by omega) (by omega)]
          refine r_iadd dX8_keepRow_68 ?_
          refine r_istore_n dX8_keepRow_69 rfl ?_
          refine r_iinc dX8_keepRow_70 rfl rfl ?_
          refine r_goto (tgt := 12) dX8_keepRow_73 rfl ?_
          have q := ih (n - 1) (k + 1) o5 o6 (by omega) (by omega) (by omega)
          rw [kLe_s ρ hk, kMo_s ρ hk, show (9 : Int) - (k + 1) = 9 - k + -1 by omega, show mhF ρ (9 - k + -1) = mhF ρ (9 - k) + msF ρ (ρ 11) (9 - k) from hst] at q
          first
          | (rw [if_pos (by omega), if_pos (by omega)] at q; exact q)
          | (rw [if_neg (by omega), if_neg (by omega)] at q; exact q)
        · refine r_iload_n dX8_keepRow_32 rfl ?_
          refine r_aload_n dX8_keepRow_33 rfl ?_
          refine r_getR dX8_keepRow_34 fl_X8_21 rfl (by assumption) (by assumption) ?_
          refine r_iload dX8_keepRow_37 rfl ?_
          refine r_iald dX8_keepRow_39 (by assumption) rfl (by omega) ?_
          rw [(hMQ (9 - k) (by omega) (by omega)).1]
          refine r_iload_n dX8_keepRow_40 rfl ?_
          refine r_isub dX8_keepRow_41 ?_
          refine r_cS2F1 dX8_keepRow_42 ml_X8_65 yl_J9_max_7cf53 ⟨rfl, rfl⟩ rfl rfl rfl rfl (j_max (by omega) (by omega)) ?_
          refine r_istore_n dX8_keepRow_45 rfl ?_
          refine r_iload_n dX8_keepRow_46 rfl ?_
          refine r_aload_n dX8_keepRow_47 rfl ?_
          refine r_getR dX8_keepRow_48 fl_X8_24 rfl (by assumption) (by assumption) ?_
          refine r_iload dX8_keepRow_51 rfl ?_
          refine r_iald dX8_keepRow_53 (by assumption) rfl (by omega) ?_
          rw [(hMQ (9 - k) (by omega) (by omega)).2]
          refine r_iload_n dX8_keepRow_54 rfl ?_
          refine r_isub dX8_keepRow_55 ?_
          refine r_cS2F1 dX8_keepRow_56 ml_X8_74 yl_J9_min_7cf53 ⟨rfl, rfl⟩ rfl rfl rfl rfl (j_min (by omega) (by omega)) ?_
          refine r_istore_n dX8_keepRow_59 rfl ?_
          refine r_iload_n dX8_keepRow_60 rfl ?_
          refine r_aload_n dX8_keepRow_61 rfl ?_
          refine r_getR dX8_keepRow_62 fl_X8_36 rfl (by assumption) (by assumption) ?_
          refine r_iload dX8_keepRow_65 rfl ?_
          refine r_iald dX8_keepRow_67 (by assumption) rfl (by omega) ?_
          rw [a11 (9 - k) (by omega) (by omega)]
          refine r_iadd dX8_keepRow_68 ?_
          refine r_istore_n dX8_keepRow_69 rfl ?_
          refine r_iinc dX8_keepRow_70 rfl rfl ?_
          refine r_goto (tgt := 12) dX8_keepRow_73 rfl ?_
          have q := ih (n - 1) (k + 1) o5 o6 (by omega) (by omega) (by omega)
          rw [kLe_s ρ hk, kMo_s ρ hk, show (9 : Int) - (k + 1) = 9 - k + -1 by omega, show mhF ρ (9 - k + -1) = mhF ρ (9 - k) + msF ρ (ρ 11) (9 - k) from hst] at q
          first
          | (rw [if_pos (by omega), if_pos (by omega)] at q; exact q)
          | (rw [if_neg (by omega), if_neg (by omega)] at q; exact q)
  refine AMet.of (by decide) rfl (by decide) rfl ?_
  refine r_ldc (x := -1000000000) dX8_keepRow_0 kl_X8_103 rfl ?_
  refine r_istore_n dX8_keepRow_2 rfl ?_
  refine r_ldc (x := 1000000000) dX8_keepRow_3 kl_X8_104 rfl ?_
  refine r_istore_n dX8_keepRow_5 rfl ?_
  refine r_iconst dX8_keepRow_6 ?_
  refine r_istore_n dX8_keepRow_7 rfl ?_
  refine r_bipush dX8_keepRow_8 (by decide) ?_
  refine r_istore dX8_keepRow_10 rfl ?_
  have q := loop _ 10 0 none none (Nat.lt_succ_self _) (by omega) (by omega)
  rw [show (9 : Int) - 0 = 9 from rfl, mk_9 hPW (by omega)] at q
  exact q

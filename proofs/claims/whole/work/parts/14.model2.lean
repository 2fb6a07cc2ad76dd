/-! 14.model2: the reference: stages, rules (wip/whole/src/14_model2.py) -/
theorem mul_abs {a b : Int} (ha : -5000 ≤ a ∧ a ≤ 5000) (hb : 0 ≤ b ∧ b ≤ 99) : -500000 ≤ a * b ∧ a * b ≤ 500000 := by
  have h1 : a * b ≤ 5000 * b := Int.mul_le_mul_of_nonneg_right ha.2 hb.1
  have h2 : -5000 * b ≤ a * b := Int.mul_le_mul_of_nonneg_right ha.1 hb.1
  omega
theorem ior_rng (x y : Int) : -2147483648 ≤ ior x y ∧ ior x y < 2147483648 := by
  unfold ior
  have h1 := Int32.le_toInt (Int32.ofInt x ||| Int32.ofInt y)
  have h2 := Int32.toInt_lt (Int32.ofInt x ||| Int32.ofInt y)
  omega
theorem fld_rng {f : Int → Int → Int} (hf : ∀ j a, -2147483648 ≤ a ∧ a < 2147483648 → -2147483648 ≤ f j a ∧ f j a < 2147483648) : ∀ (n : Nat) (k a : Int), -2147483648 ≤ a ∧ a < 2147483648 → -2147483648 ≤ fld f n k a ∧ fld f n k a < 2147483648
  | 0, _, _, h => h
  | n + 1, k, a, h => fld_rng hf n (k + 1) _ (hf k a h)
theorem blkF_rng (ρ : Row) (k : Int) : -2147483648 ≤ blkF ρ k ∧ blkF ρ k < 2147483648 := by
  unfold blkF
  split
  · omega
  · refine fld_rng (fun j a h => ?_) _ _ _ (by omega)
    split
    · exact ior_rng _ _
    · exact h
theorem m_adds {sh : Sh} {μ : Mem} {m : Nat} {W M w a : Int} (hM : IsModel sh μ.2.2 m)  : FMet yX12_adds gX12_adds sh [vR m, vI w, vI a] (wmI μ m W M) none (wmI μ m (W + w) (M + w * a)) := by
  obtain ⟨g0, f1, z1, f2, z2, f3, z3, f4, z4, f5, z5, f6, z6, f7, z7, f8, z8, f9, z9, f10, z10, f11, z11, f12, z12, f13, z13, f14, z14⟩ := id hM
  rw [show wmI μ m (W + w) (M + w * a) = wmI (wmI μ m W M) m (W + w) (M + w * a) from wm_wm.symm]
  refine AMet.of (by decide) rfl (by decide) rfl ?_
  refine r_aload_n dX12_adds_0 rfl ?_
  refine r_dup dX12_adds_1 rfl ?_
  refine r_getI dX12_adds_2 fl_X12_242 rfl (by assumption) ?_
  try rw [wm_21]
  try (rw [show (setI (wmI μ m W M) m 21 (W + w)).1 m 22 = M by simp [setI, wmI]])
  refine r_iload_n dX12_adds_5 rfl ?_
  refine r_iadd dX12_adds_6 ?_
  refine r_putI dX12_adds_7 fl_X12_242 (by assumption) ?_
  refine r_aload_n dX12_adds_10 rfl ?_
  refine r_dup dX12_adds_11 rfl ?_
  refine r_getI dX12_adds_12 fl_X12_245 rfl (by assumption) ?_
  try rw [wm_21]
  try (rw [show (setI (wmI μ m W M) m 21 (W + w)).1 m 22 = M by simp [setI, wmI]])
  refine r_iload_n dX12_adds_15 rfl ?_
  refine r_iload_n dX12_adds_16 rfl ?_
  refine r_imul dX12_adds_17 ?_
  refine r_iadd dX12_adds_18 ?_
  refine r_putI dX12_adds_19 fl_X12_245 (by assumption) ?_
  refine r_return dX12_adds_22 rfl rfl rfl ?_
  exact ⟨rfl, rfl, rfl⟩
theorem m_stageAt {sh : Sh} {μ : Mem} {m : Nat} {i : Int} (hM : IsModel sh μ.2.2 m) (hw : WF (μ.1 (m + 1))) (hi : 0 ≤ i ∧ i ≤ μ.1 (m + 1) 9) : FMet yX12_stageAt gX12_stageAt sh [vR m, vI i] μ none (wmI μ m (stW (μ.1 (m + 1)) i) (stM (μ.1 (m + 1)) i)) := by
  obtain ⟨g0, f1, z1, f2, z2, f3, z3, f4, z4, f5, z5, f6, z6, f7, z7, f8, z8, f9, z9, f10, z10, f11, z11, f12, z12, f13, z13, f14, z14⟩ := id hM
  obtain ⟨⟨hn, hss, hh, hj, ht, hg⟩, hb, hp, hd⟩ := id hw
  unfold WFn at hn
  have lp4 : ∀ (f n : Nat) (k : Int) (W M p : Int), n < f → 0 ≤ k → k + n = μ.1 (m + 1) 11 → (0 ≤ p ∧ p ≤ 12) → AW gX12_stageAt sh (wmI μ m W M) 0 0 174 [some (vR m), some (vI i), some (vI p), some (vI k)] [] (fun r2 sh2 μ2 => r2 = none ∧ sh2 = sh ∧ μ2 = wmI μ m (W + sumF (fun j => if 0 ≤ (μ.1 (m + 1)) (93 + j) ∧ p < (μ.1 (m + 1)) (88 + j) then (μ.1 (m + 1)) (83 + j) else 0) n k) (M + sumF (fun j => if 0 ≤ (μ.1 (m + 1)) (93 + j) ∧ p < (μ.1 (m + 1)) (88 + j) then (μ.1 (m + 1)) (83 + j) * (μ.1 (m + 1)) (25 + (μ.1 (m + 1)) (93 + j)) else 0) n k)) := by
    intro f
    induction f with
    | zero => intro n; intros; omega
    | succ f ih =>
      intro n k W M p hf hk hn2 hpr
      refine r_iload_n dX12_stageAt_174 rfl ?_
      refine r_aload_n dX12_stageAt_175 rfl ?_
      refine r_getR dX12_stageAt_176 fl_X12_7 rfl (by assumption) (by assumption) ?_
      refine r_bipush dX12_stageAt_179 (by decide) ?_
      refine r_iald dX12_stageAt_181 (by assumption) rfl (by omega) ?_
      try rw [wm_s]
      refine q_icmp_ge (tgt := 246) dX12_stageAt_182 rfl (by omega) (by omega) (fun c182 => ?_) (fun c182 => ?_)
      · refine r_return dX12_stageAt_246 rfl rfl rfl ?_
        obtain rfl : n = 0 := by omega
        refine ⟨rfl, rfl, ?_⟩
        simp [sumF]
      · refine r_aload_n dX12_stageAt_185 rfl ?_
        refine r_getR dX12_stageAt_186 fl_X12_7 rfl (by assumption) (by assumption) ?_
        refine r_bipush dX12_stageAt_189 (by decide) ?_
        refine r_iload_n dX12_stageAt_191 rfl ?_
        refine r_iadd dX12_stageAt_192 ?_
        refine r_iald dX12_stageAt_193 (by assumption) rfl (by omega) ?_
        try rw [wm_s]
        have q1 := hp k (by omega) (by omega)
        refine q_if_lt (tgt := 240) dX12_stageAt_194 rfl (by omega) (fun c194 => ?_) (fun c194 => ?_)
        · refine r_iinc dX12_stageAt_240 rfl rfl ?_
          refine r_goto (tgt := 174) dX12_stageAt_243 rfl ?_
          obtain ⟨q, rfl⟩ : ∃ q, n = q + 1 := ⟨n - 1, by omega⟩
          refine AW.mono (ih q (k + 1) _ _ p (by omega) (by omega) (by omega) hpr) ?_
          rintro r sh2 μ2 ⟨rfl, rfl, rfl⟩
          refine ⟨rfl, rfl, ?_⟩
          rw [sumF, sumF]
          first | (rw [if_pos ⟨by omega, by omega⟩, if_pos ⟨by omega, by omega⟩]; congr 1 <;> omega) | (rw [if_neg (by omega), if_neg (by omega)]; congr 1 <;> omega)
        · refine r_aload_n dX12_stageAt_197 rfl ?_
          refine r_getR dX12_stageAt_198 fl_X12_7 rfl (by assumption) (by assumption) ?_
          refine r_bipush dX12_stageAt_201 (by decide) ?_
          refine r_iload_n dX12_stageAt_203 rfl ?_
          refine r_iadd dX12_stageAt_204 ?_
          refine r_iald dX12_stageAt_205 (by assumption) rfl (by omega) ?_
          try rw [wm_s]
          refine r_iload_n dX12_stageAt_206 rfl ?_
          refine q_icmp_le (tgt := 240) dX12_stageAt_207 rfl (by omega) (by omega) (fun c207 => ?_) (fun c207 => ?_)
          · refine r_iinc dX12_stageAt_240 rfl rfl ?_
            refine r_goto (tgt := 174) dX12_stageAt_243 rfl ?_
            obtain ⟨q, rfl⟩ : ∃ q, n = q + 1 := ⟨n - 1, by omega⟩
            refine AW.mono (ih q (k + 1) _ _ p (by omega) (by omega) (by omega) hpr) ?_
            rintro r sh2 μ2 ⟨rfl, rfl, rfl⟩
            refine ⟨rfl, rfl, ?_⟩
            rw [sumF, sumF]
            first | (rw [if_pos ⟨by omega, by omega⟩, if_pos ⟨by omega, by omega⟩]; congr 1 <;> omega) | (rw [if_neg (by omega), if_neg (by omega)]; congr 1 <;> omega)
          · refine r_aload_n dX12_stageAt_210 rfl ?_
            refine r_aload_n dX12_stageAt_211 rfl ?_
            refine r_getR dX12_stageAt_212 fl_X12_7 rfl (by assumption) (by assumption) ?_
            refine r_bipush dX12_stageAt_215 (by decide) ?_
            refine r_iload_n dX12_stageAt_217 rfl ?_
            refine r_iadd dX12_stageAt_218 ?_
            refine r_iald dX12_stageAt_219 (by assumption) rfl (by omega) ?_
            try rw [wm_s]
            refine r_aload_n dX12_stageAt_220 rfl ?_
            refine r_getR dX12_stageAt_221 fl_X12_7 rfl (by assumption) (by assumption) ?_
            refine r_bipush dX12_stageAt_224 (by decide) ?_
            refine r_aload_n dX12_stageAt_226 rfl ?_
            refine r_getR dX12_stageAt_227 fl_X12_7 rfl (by assumption) (by assumption) ?_
            refine r_bipush dX12_stageAt_230 (by decide) ?_
            refine r_iload_n dX12_stageAt_232 rfl ?_
            refine r_iadd dX12_stageAt_233 ?_
            refine r_iald dX12_stageAt_234 (by assumption) rfl (by omega) ?_
            try rw [wm_s]
            refine r_iadd dX12_stageAt_235 ?_
            refine r_iald dX12_stageAt_236 (by assumption) rfl (by omega) ?_
            try rw [wm_s]
            refine r_cV2F0 dX12_stageAt_237 ml_X12_248 yl_X12_adds ⟨rfl, rfl⟩ (by assumption) ⟨_, rfl⟩ rfl rfl rfl rfl (m_adds hM) ?_
            refine r_iinc dX12_stageAt_240 rfl rfl ?_
            refine r_goto (tgt := 174) dX12_stageAt_243 rfl ?_
            obtain ⟨q, rfl⟩ : ∃ q, n = q + 1 := ⟨n - 1, by omega⟩
            refine AW.mono (ih q (k + 1) _ _ p (by omega) (by omega) (by omega) hpr) ?_
            rintro r sh2 μ2 ⟨rfl, rfl, rfl⟩
            refine ⟨rfl, rfl, ?_⟩
            rw [sumF, sumF]
            first | (rw [if_pos ⟨by omega, by omega⟩, if_pos ⟨by omega, by omega⟩]; congr 1 <;> omega) | (rw [if_neg (by omega), if_neg (by omega)]; congr 1 <;> omega)
  have lp3 : ∀ (f n : Nat) (k : Int) (W M p : Int), n < f → 0 ≤ k → k + n = μ.1 (m + 1) 7 → (0 ≤ p ∧ p ≤ 12) → AW gX12_stageAt sh (wmI μ m W M) 0 0 133 [some (vR m), some (vI i), some (vI p), some (vI k)] [] (fun r2 sh2 μ2 => r2 = none ∧ sh2 = sh ∧ μ2 = wmI μ m (W + sumF (fun b => (μ.1 (m + 1)) (51 + b)) n k + sumF (fun j => if 0 ≤ (μ.1 (m + 1)) (93 + j) ∧ p < (μ.1 (m + 1)) (88 + j) then (μ.1 (m + 1)) (83 + j) else 0) ((μ.1 (m + 1)) 11).toNat 0) (M + sumF (fun b => (μ.1 (m + 1)) (51 + b) * (μ.1 (m + 1)) (47 + b)) n k + sumF (fun j => if 0 ≤ (μ.1 (m + 1)) (93 + j) ∧ p < (μ.1 (m + 1)) (88 + j) then (μ.1 (m + 1)) (83 + j) * (μ.1 (m + 1)) (25 + (μ.1 (m + 1)) (93 + j)) else 0) ((μ.1 (m + 1)) 11).toNat 0)) := by
    intro f
    induction f with
    | zero => intro n; intros; omega
    | succ f ih =>
      intro n k W M p hf hk hn2 hpr
      refine r_iload_n dX12_stageAt_133 rfl ?_
      refine r_aload_n dX12_stageAt_134 rfl ?_
      refine r_getR dX12_stageAt_135 fl_X12_7 rfl (by assumption) (by assumption) ?_
      refine r_bipush dX12_stageAt_138 (by decide) ?_
      refine r_iald dX12_stageAt_140 (by assumption) rfl (by omega) ?_
      try rw [wm_s]
      refine q_icmp_ge (tgt := 172) dX12_stageAt_141 rfl (by omega) (by omega) (fun c141 => ?_) (fun c141 => ?_)
      · refine r_iconst dX12_stageAt_172 ?_
        refine r_istore_n dX12_stageAt_173 rfl ?_
        obtain rfl : n = 0 := by omega
        refine AW.mono (lp4 _ (μ.1 (m + 1) 11).toNat 0 W M p (Nat.lt_succ_self _) (by omega) (by omega) hpr) ?_
        rintro r sh2 μ2 ⟨rfl, rfl, rfl⟩
        refine ⟨rfl, rfl, ?_⟩
        simp [sumF]
      · refine r_aload_n dX12_stageAt_144 rfl ?_
        refine r_aload_n dX12_stageAt_145 rfl ?_
        refine r_getR dX12_stageAt_146 fl_X12_7 rfl (by assumption) (by assumption) ?_
        refine r_bipush dX12_stageAt_149 (by decide) ?_
        refine r_iload_n dX12_stageAt_151 rfl ?_
        refine r_iadd dX12_stageAt_152 ?_
        refine r_iald dX12_stageAt_153 (by assumption) rfl (by omega) ?_
        try rw [wm_s]
        refine r_aload_n dX12_stageAt_154 rfl ?_
        refine r_getR dX12_stageAt_155 fl_X12_7 rfl (by assumption) (by assumption) ?_
        refine r_bipush dX12_stageAt_158 (by decide) ?_
        refine r_iload_n dX12_stageAt_160 rfl ?_
        refine r_iadd dX12_stageAt_161 ?_
        refine r_iald dX12_stageAt_162 (by assumption) rfl (by omega) ?_
        try rw [wm_s]
        refine r_cV2F0 dX12_stageAt_163 ml_X12_248 yl_X12_adds ⟨rfl, rfl⟩ (by assumption) ⟨_, rfl⟩ rfl rfl rfl rfl (m_adds hM) ?_
        refine r_iinc dX12_stageAt_166 rfl rfl ?_
        refine r_goto (tgt := 133) dX12_stageAt_169 rfl ?_
        obtain ⟨q, rfl⟩ : ∃ q, n = q + 1 := ⟨n - 1, by omega⟩
        refine AW.mono (ih q (k + 1) _ _ p (by omega) (by omega) (by omega) hpr) ?_
        rintro r sh2 μ2 ⟨rfl, rfl, rfl⟩
        refine ⟨rfl, rfl, ?_⟩
        rw [sumF, sumF]
        congr 1 <;> omega
  have lp2 : ∀ (f n : Nat) (k : Int) (W M p : Int), n < f → 0 ≤ k → k + n = μ.1 (m + 1) 8 → (0 ≤ p ∧ p ≤ 12) → AW gX12_stageAt sh (wmI μ m W M) 0 0 92 [some (vR m), some (vI i), some (vI p), some (vI k)] [] (fun r2 sh2 μ2 => r2 = none ∧ sh2 = sh ∧ μ2 = wmI μ m (W + sumF (fun t => (μ.1 (m + 1)) (56 + t)) n k + sumF (fun b => (μ.1 (m + 1)) (51 + b)) ((μ.1 (m + 1)) 7).toNat 0 + sumF (fun j => if 0 ≤ (μ.1 (m + 1)) (93 + j) ∧ p < (μ.1 (m + 1)) (88 + j) then (μ.1 (m + 1)) (83 + j) else 0) ((μ.1 (m + 1)) 11).toNat 0) (M + sumF (fun t => (μ.1 (m + 1)) (56 + t) * (μ.1 (m + 1)) (53 + t)) n k + sumF (fun b => (μ.1 (m + 1)) (51 + b) * (μ.1 (m + 1)) (47 + b)) ((μ.1 (m + 1)) 7).toNat 0 + sumF (fun j => if 0 ≤ (μ.1 (m + 1)) (93 + j) ∧ p < (μ.1 (m + 1)) (88 + j) then (μ.1 (m + 1)) (83 + j) * (μ.1 (m + 1)) (25 + (μ.1 (m + 1)) (93 + j)) else 0) ((μ.1 (m + 1)) 11).toNat 0)) := by
    intro f
    induction f with
    | zero => intro n; intros; omega
    | succ f ih =>
      intro n k W M p hf hk hn2 hpr
      refine r_iload_n dX12_stageAt_92 rfl ?_
      refine r_aload_n dX12_stageAt_93 rfl ?_
      refine r_getR dX12_stageAt_94 fl_X12_7 rfl (by assumption) (by assumption) ?_
      refine r_bipush dX12_stageAt_97 (by decide) ?_
      refine r_iald dX12_stageAt_99 (by assumption) rfl (by omega) ?_
      try rw [wm_s]
      refine q_icmp_ge (tgt := 131) dX12_stageAt_100 rfl (by omega) (by omega) (fun c100 => ?_) (fun c100 => ?_)
      · refine r_iconst dX12_stageAt_131 ?_
        refine r_istore_n dX12_stageAt_132 rfl ?_
        obtain rfl : n = 0 := by omega
        refine AW.mono (lp3 _ (μ.1 (m + 1) 7).toNat 0 W M p (Nat.lt_succ_self _) (by omega) (by omega) hpr) ?_
        rintro r sh2 μ2 ⟨rfl, rfl, rfl⟩
        refine ⟨rfl, rfl, ?_⟩
        simp [sumF]
      · refine r_aload_n dX12_stageAt_103 rfl ?_
        refine r_aload_n dX12_stageAt_104 rfl ?_
        refine r_getR dX12_stageAt_105 fl_X12_7 rfl (by assumption) (by assumption) ?_
        refine r_bipush dX12_stageAt_108 (by decide) ?_
        refine r_iload_n dX12_stageAt_110 rfl ?_
        refine r_iadd dX12_stageAt_111 ?_
        refine r_iald dX12_stageAt_112 (by assumption) rfl (by omega) ?_
        try rw [wm_s]
        refine r_aload_n dX12_stageAt_113 rfl ?_
        refine r_getR dX12_stageAt_114 fl_X12_7 rfl (by assumption) (by assumption) ?_
        refine r_bipush dX12_stageAt_117 (by decide) ?_
        refine r_iload_n dX12_stageAt_119 rfl ?_
        refine r_iadd dX12_stageAt_120 ?_
        refine r_iald dX12_stageAt_121 (by assumption) rfl (by omega) ?_
        try rw [wm_s]
        refine r_cV2F0 dX12_stageAt_122 ml_X12_248 yl_X12_adds ⟨rfl, rfl⟩ (by assumption) ⟨_, rfl⟩ rfl rfl rfl rfl (m_adds hM) ?_
        refine r_iinc dX12_stageAt_125 rfl rfl ?_
        refine r_goto (tgt := 92) dX12_stageAt_128 rfl ?_
        obtain ⟨q, rfl⟩ : ∃ q, n = q + 1 := ⟨n - 1, by omega⟩
        refine AW.mono (ih q (k + 1) _ _ p (by omega) (by omega) (by omega) hpr) ?_
        rintro r sh2 μ2 ⟨rfl, rfl, rfl⟩
        refine ⟨rfl, rfl, ?_⟩
        rw [sumF, sumF]
        congr 1 <;> omega
  have lp1 : ∀ (f n : Nat) (k : Int) (W M p : Int), n < f → 0 ≤ k → k + n = i → W + sumF (fun j => if (μ.1 (m + 1)) (59 + j) < 0 then 0 else -(μ.1 (m + 1)) (71 + j)) n k + sumF (fun t => (μ.1 (m + 1)) (56 + t)) ((μ.1 (m + 1)) 8).toNat 0 = baseW (μ.1 (m + 1)) i → M + sumF (fun j => if (μ.1 (m + 1)) (59 + j) < 0 then 0 else -(μ.1 (m + 1)) (71 + j) * (μ.1 (m + 1)) (53 + (μ.1 (m + 1)) (59 + j))) n k + sumF (fun t => (μ.1 (m + 1)) (56 + t) * (μ.1 (m + 1)) (53 + t)) ((μ.1 (m + 1)) 8).toNat 0 = baseM (μ.1 (m + 1)) i → p + sumF (fun j => if (μ.1 (m + 1)) (59 + j) < 0 then 1 else 0) n k = stopsF (μ.1 (m + 1)) i → (0 ≤ p ∧ p ≤ k) → AW gX12_stageAt sh (wmI μ m W M) 0 0 30 [some (vR m), some (vI i), some (vI p), some (vI k)] [] (fun r2 sh2 μ2 => r2 = none ∧ sh2 = sh ∧ μ2 = wmI μ m (stW (μ.1 (m + 1)) i) (stM (μ.1 (m + 1)) i)) := by
    intro f
    induction f with
    | zero => intro n; intros; omega
    | succ f ih =>
      intro n k W M p hf hk hn2 e1 e2 e3 hp0
      refine r_iload_n dX12_stageAt_30 rfl ?_
      refine r_iload_n dX12_stageAt_31 rfl ?_
      refine q_icmp_ge (tgt := 90) dX12_stageAt_32 rfl (by omega) (by omega) (fun c32 => ?_) (fun c32 => ?_)
      · refine r_iconst dX12_stageAt_90 ?_
        refine r_istore_n dX12_stageAt_91 rfl ?_
        obtain rfl : n = 0 := by omega
        simp only [sumF, Int.add_zero] at e1 e2 e3
        have hpr := stopsF_rng (μ.1 (m + 1)) i hi.1
        refine AW.mono (lp2 _ (μ.1 (m + 1) 8).toNat 0 W M p (Nat.lt_succ_self _) (by omega) (by omega) (by omega)) ?_
        rintro r sh2 μ2 ⟨rfl, rfl, rfl⟩
        refine ⟨rfl, rfl, ?_⟩
        subst e3
        rw [e1, e2]
        rfl
      · refine r_aload_n dX12_stageAt_35 rfl ?_
        refine r_getR dX12_stageAt_36 fl_X12_7 rfl (by assumption) (by assumption) ?_
        refine r_bipush dX12_stageAt_39 (by decide) ?_
        refine r_iload_n dX12_stageAt_41 rfl ?_
        refine r_iadd dX12_stageAt_42 ?_
        refine r_iald dX12_stageAt_43 (by assumption) rfl (by omega) ?_
        try rw [wm_s]
        have q1 := hg.1 k (by omega) (by omega)
        refine q_if_ge (tgt := 53) dX12_stageAt_44 rfl (by omega) (fun c44 => ?_) (fun c44 => ?_)
        · refine r_aload_n dX12_stageAt_53 rfl ?_
          refine r_aload_n dX12_stageAt_54 rfl ?_
          refine r_getR dX12_stageAt_55 fl_X12_7 rfl (by assumption) (by assumption) ?_
          refine r_bipush dX12_stageAt_58 (by decide) ?_
          refine r_iload_n dX12_stageAt_60 rfl ?_
          refine r_iadd dX12_stageAt_61 ?_
          refine r_iald dX12_stageAt_62 (by assumption) rfl (by omega) ?_
          try rw [wm_s]
          refine r_ineg dX12_stageAt_63 ?_
          refine r_aload_n dX12_stageAt_64 rfl ?_
          refine r_getR dX12_stageAt_65 fl_X12_7 rfl (by assumption) (by assumption) ?_
          refine r_bipush dX12_stageAt_68 (by decide) ?_
          refine r_aload_n dX12_stageAt_70 rfl ?_
          refine r_getR dX12_stageAt_71 fl_X12_7 rfl (by assumption) (by assumption) ?_
          refine r_bipush dX12_stageAt_74 (by decide) ?_
          refine r_iload_n dX12_stageAt_76 rfl ?_
          refine r_iadd dX12_stageAt_77 ?_
          refine r_iald dX12_stageAt_78 (by assumption) rfl (by omega) ?_
          try rw [wm_s]
          refine r_iadd dX12_stageAt_79 ?_
          refine r_iald dX12_stageAt_80 (by assumption) rfl (by omega) ?_
          try rw [wm_s]
          refine r_cV2F0 dX12_stageAt_81 ml_X12_248 yl_X12_adds ⟨rfl, rfl⟩ (by assumption) ⟨_, rfl⟩ rfl rfl rfl rfl (m_adds hM) ?_
          refine r_iinc dX12_stageAt_84 rfl rfl ?_
          refine r_goto (tgt := 30) dX12_stageAt_87 rfl ?_
          obtain ⟨q, rfl⟩ : ∃ q, n = q + 1 := ⟨n - 1, by omega⟩
          rw [sumF] at e1 e2 e3
          first | rw [if_pos (by omega)] at e1 e2 e3 | rw [if_neg (by omega)] at e1 e2 e3
          exact ih q (k + 1) _ _ _ (by omega) (by omega) (by omega) (by omega) (by omega) (by omega) (by omega)
        · refine r_iinc dX12_stageAt_47 rfl rfl ?_
          refine r_goto (tgt := 84) dX12_stageAt_50 rfl ?_
          refine r_iinc dX12_stageAt_84 rfl rfl ?_
          refine r_goto (tgt := 30) dX12_stageAt_87 rfl ?_
          obtain ⟨q, rfl⟩ : ∃ q, n = q + 1 := ⟨n - 1, by omega⟩
          rw [sumF] at e1 e2 e3
          first | rw [if_pos (by omega)] at e1 e2 e3 | rw [if_neg (by omega)] at e1 e2 e3
          exact ih q (k + 1) _ _ _ (by omega) (by omega) (by omega) (by omega) (by omega) (by omega) (by omega)
  refine AMet.of (by decide) rfl (by decide) rfl ?_
  refine r_aload_n dX12_stageAt_0 rfl ?_
  refine r_iconst dX12_stageAt_1 ?_
  refine r_putI dX12_stageAt_2 fl_X12_242 (by assumption) ?_
  refine r_aload_n dX12_stageAt_5 rfl ?_
  refine r_iconst dX12_stageAt_6 ?_
  refine r_putI dX12_stageAt_7 fl_X12_245 (by assumption) ?_
  refine r_aload_n dX12_stageAt_10 rfl ?_
  refine r_aload_n dX12_stageAt_11 rfl ?_
  refine r_getR dX12_stageAt_12 fl_X12_7 rfl (by assumption) (by assumption) ?_
  refine r_iconst dX12_stageAt_15 ?_
  refine r_iald dX12_stageAt_16 (by assumption) rfl (by omega) ?_
  try rw [show (setI (setI μ m 21 0) m 22 0).1 (m + 1) = μ.1 (m + 1) from wm_s]
  refine r_aload_n dX12_stageAt_17 rfl ?_
  refine r_getR dX12_stageAt_18 fl_X12_7 rfl (by assumption) (by assumption) ?_
  refine r_iconst dX12_stageAt_21 ?_
  refine r_iald dX12_stageAt_22 (by assumption) rfl (by omega) ?_
  try rw [show (setI (setI μ m 21 0) m 22 0).1 (m + 1) = μ.1 (m + 1) from wm_s]
  refine r_cV2F0 dX12_stageAt_23 ml_X12_248 yl_X12_adds ⟨rfl, rfl⟩ (by assumption) ⟨_, rfl⟩ rfl rfl rfl rfl (m_adds (W := 0) (M := 0) hM) ?_
  
  refine r_iconst dX12_stageAt_26 ?_
  refine r_istore_n dX12_stageAt_27 rfl ?_
  refine r_iconst dX12_stageAt_28 ?_
  refine r_istore_n dX12_stageAt_29 rfl ?_
  exact lp1 _ i.toNat 0 _ _ 0 (Nat.lt_succ_self _) (by omega) (by omega) (by simp [baseW]) (by simp [baseM]) (by simp [stopsF]) (by omega)
theorem m_isInSpan {sh : Sh} {μ : Mem} {m : Nat} {i : Int} (hM : IsModel sh μ.2.2 m) (hw : WF (μ.1 (m + 1))) (hi : 0 ≤ i ∧ i ≤ μ.1 (m + 1) 9) : FMet yX12_isInSpan gX12_isInSpan sh [vR m, vI i] μ (some (vI (b2i (decide (stW (μ.1 (m + 1)) i * (μ.1 (m + 1)) 2 ≤ stM (μ.1 (m + 1)) i ∧ stM (μ.1 (m + 1)) i ≤ stW (μ.1 (m + 1)) i * (μ.1 (m + 1)) 3))))) (wmI μ m (stW (μ.1 (m + 1)) i) (stM (μ.1 (m + 1)) i)) := by
  obtain ⟨g0, f1, z1, f2, z2, f3, z3, f4, z4, f5, z5, f6, z6, f7, z7, f8, z8, f9, z9, f10, z10, f11, z11, f12, z12, f13, z13, f14, z14⟩ := id hM
  obtain ⟨⟨hn, hss, hh, hj, ht, hg⟩, hb, hp, hd⟩ := id hw
  unfold WFn at hn
  have hr := st_rng hw hi
  have hW : -5000 ≤ stW (μ.1 (m + 1)) i ∧ stW (μ.1 (m + 1)) i ≤ 5000 := by have a1 := hr.2.2.2.2.1 (stopsF (μ.1 (m + 1)) i); unfold stW; omega
  have hMM : -500000 ≤ stM (μ.1 (m + 1)) i ∧ stM (μ.1 (m + 1)) i ≤ 500000 := by have a1 := hr.2.2.2.2.2 (stopsF (μ.1 (m + 1)) i); unfold stM; omega
  have hm2 : -500000 ≤ stW (μ.1 (m + 1)) i * (μ.1 (m + 1)) 2 ∧ stW (μ.1 (m + 1)) i * (μ.1 (m + 1)) 2 ≤ 500000 := mul_abs hW (by omega)
  have hm3 : -500000 ≤ stW (μ.1 (m + 1)) i * (μ.1 (m + 1)) 3 ∧ stW (μ.1 (m + 1)) i * (μ.1 (m + 1)) 3 ≤ 500000 := mul_abs hW (by omega)
  refine AMet.of (by decide) rfl (by decide) rfl ?_
  refine r_aload_n dX12_isInSpan_0 rfl ?_
  refine r_iload_n dX12_isInSpan_1 rfl ?_
  refine r_cV1F0 dX12_isInSpan_2 ml_X12_252 yl_X12_stageAt ⟨rfl, rfl⟩ (by assumption) ⟨_, rfl⟩ rfl rfl rfl rfl (m_stageAt hM hw hi) ?_
  refine r_aload_n dX12_isInSpan_5 rfl ?_
  refine r_getI dX12_isInSpan_6 fl_X12_245 rfl (by assumption) ?_
  (try rw [wm_21]); (try rw [wm_22])
  refine r_aload_n dX12_isInSpan_9 rfl ?_
  refine r_getI dX12_isInSpan_10 fl_X12_242 rfl (by assumption) ?_
  (try rw [wm_21]); (try rw [wm_22])
  refine r_aload_n dX12_isInSpan_13 rfl ?_
  refine r_getR dX12_isInSpan_14 fl_X12_7 rfl (by assumption) (by assumption) ?_
  refine r_iconst dX12_isInSpan_17 ?_
  refine r_iald dX12_isInSpan_18 (by assumption) rfl (by omega) ?_
  try rw [wm_s]
  refine r_imul dX12_isInSpan_19 ?_
  refine q_icmp_lt (tgt := 45) dX12_isInSpan_20 rfl (by omega) (by omega) (fun c20 => ?_) (fun c20 => ?_)
  · refine r_iconst dX12_isInSpan_45 ?_
    refine r_zreturn dX12_isInSpan_46 (by first | exact Or.inl rfl | exact Or.inr rfl | exact b2i_01 _ | omega) rfl rfl rfl ?_
    refine ⟨?_, rfl, rfl⟩; congr 2; simp only [b2i, decide_eq_true_eq]; split <;> omega
  · refine r_aload_n dX12_isInSpan_23 rfl ?_
    refine r_getI dX12_isInSpan_24 fl_X12_245 rfl (by assumption) ?_
    (try rw [wm_21]); (try rw [wm_22])
    refine r_aload_n dX12_isInSpan_27 rfl ?_
    refine r_getI dX12_isInSpan_28 fl_X12_242 rfl (by assumption) ?_
    (try rw [wm_21]); (try rw [wm_22])
    refine r_aload_n dX12_isInSpan_31 rfl ?_
    refine r_getR dX12_isInSpan_32 fl_X12_7 rfl (by assumption) (by assumption) ?_
    refine r_iconst dX12_isInSpan_35 ?_
    refine r_iald dX12_isInSpan_36 (by assumption) rfl (by omega) ?_
    try rw [wm_s]
    refine r_imul dX12_isInSpan_37 ?_
    refine q_icmp_gt (tgt := 45) dX12_isInSpan_38 rfl (by omega) (by omega) (fun c38 => ?_) (fun c38 => ?_)
    · refine r_iconst dX12_isInSpan_45 ?_
      refine r_zreturn dX12_isInSpan_46 (by first | exact Or.inl rfl | exact Or.inr rfl | exact b2i_01 _ | omega) rfl rfl rfl ?_
      refine ⟨?_, rfl, rfl⟩; congr 2; simp only [b2i, decide_eq_true_eq]; split <;> omega
    · refine r_iconst dX12_isInSpan_41 ?_
      refine r_goto (tgt := 46) dX12_isInSpan_42 rfl ?_
      refine r_zreturn dX12_isInSpan_46 (by first | exact Or.inl rfl | exact Or.inr rfl | exact b2i_01 _ | omega) rfl rfl rfl ?_
      refine ⟨?_, rfl, rfl⟩; congr 2; simp only [b2i, decide_eq_true_eq]; split <;> omega
theorem m_blockers {sh : Sh} {μ : Mem} {m : Nat} {k0 : Int} (hM : IsModel sh μ.2.2 m) (hw : WF (μ.1 (m + 1))) (hk0 : 0 ≤ k0 ∧ k0 < μ.1 (m + 1) 11) : FMet yX12_blockers gX12_blockers sh [vR m, vI k0] μ (some (vI (blkF (μ.1 (m + 1)) k0))) μ := by
  obtain ⟨g0, f1, z1, f2, z2, f3, z3, f4, z4, f5, z5, f6, z6, f7, z7, f8, z8, f9, z9, f10, z10, f11, z11, f12, z12, f13, z13, f14, z14⟩ := id hM
  obtain ⟨⟨hn, hss, hh, hj, ht, hg⟩, hb, hp, hd⟩ := id hw
  unfold WFn at hn
  have q0 := hp k0 (by omega) (by omega)
  have loop : ∀ (f n : Nat) (k : Int) (a : Int), n < f → 0 ≤ k → k + n = μ.1 (m + 1) 11 → AW gX12_blockers sh μ 0 0 33 [some (vR m), some (vI k0), some (vI a), some (vI (wayF (μ.1 (m + 1)) ((μ.1 (m + 1)) (93 + k0)))), some (vI k)] [] (fun r2 sh2 μ2 => r2 = some (vI (fld (fun j a => if 0 ≤ (μ.1 (m + 1)) (93 + j) ∧ bit (wayF (μ.1 (m + 1)) ((μ.1 (m + 1)) (93 + k0))) ((μ.1 (m + 1)) (93 + j)) = true ∧ (μ.1 (m + 1)) (88 + k0) < (μ.1 (m + 1)) (88 + j) then ior a (ishl 1 j) else a) n k a)) ∧ sh2 = sh ∧ μ2 = μ) := by
    intro f
    induction f with
    | zero => intro n; intros; omega
    | succ f ih =>
      intro n k a hf hk hn2
      refine r_iload dX12_blockers_33 rfl ?_
      refine r_aload_n dX12_blockers_35 rfl ?_
      refine r_getR dX12_blockers_36 fl_X12_7 rfl (by assumption) (by assumption) ?_
      refine r_bipush dX12_blockers_39 (by decide) ?_
      refine r_iald dX12_blockers_41 (by assumption) rfl (by omega) ?_
      refine q_icmp_ge (tgt := 110) dX12_blockers_42 rfl (by omega) (by omega) (fun c42 => ?_) (fun c42 => ?_)
      · refine r_iload_n dX12_blockers_110 rfl ?_
        refine r_ireturn dX12_blockers_111 rfl rfl rfl ?_
        obtain rfl : n = 0 := by omega
        exact ⟨rfl, rfl, rfl⟩
      · refine r_aload_n dX12_blockers_45 rfl ?_
        refine r_getR dX12_blockers_46 fl_X12_7 rfl (by assumption) (by assumption) ?_
        refine r_bipush dX12_blockers_49 (by decide) ?_
        refine r_iload dX12_blockers_51 rfl ?_
        refine r_iadd dX12_blockers_53 ?_
        refine r_iald dX12_blockers_54 (by assumption) rfl (by omega) ?_
        have q1 := hp k (by omega) (by omega)
        refine q_if_lt (tgt := 104) dX12_blockers_55 rfl (by omega) (fun c55 => ?_) (fun c55 => ?_)
        · refine r_iinc dX12_blockers_104 rfl rfl ?_
          refine r_goto (tgt := 33) dX12_blockers_107 rfl ?_
          obtain ⟨q, rfl⟩ : ∃ q, n = q + 1 := ⟨n - 1, by omega⟩
          refine AW.mono (ih q (k + 1) _ (by omega) (by omega) (by omega)) ?_
          rintro r sh2 μ2 ⟨rfl, rfl, rfl⟩
          refine ⟨?_, rfl, rfl⟩
          rw [fld]
          congr 3
          first | (rw [if_pos ⟨by omega, by assumption, by omega⟩]; done) | (rw [if_neg (by omega)]; done) | (rw [if_neg (by intro hh1; rw [hh1.2.1] at c72; cases c72)]; done)
        · refine r_iload_n dX12_blockers_58 rfl ?_
          refine r_aload_n dX12_blockers_59 rfl ?_
          refine r_getR dX12_blockers_60 fl_X12_7 rfl (by assumption) (by assumption) ?_
          refine r_bipush dX12_blockers_63 (by decide) ?_
          refine r_iload dX12_blockers_65 rfl ?_
          refine r_iadd dX12_blockers_67 ?_
          refine r_iald dX12_blockers_68 (by assumption) rfl (by omega) ?_
          refine r_cS2F1 dX12_blockers_69 ml_X12_255 yl_X12_bitOf ⟨rfl, rfl⟩ rfl rfl rfl rfl (m_bitOf) ?_
          refine r_if_eqB (tgt := 104) dX12_blockers_72 rfl (fun c72 => ?_) (fun c72 => ?_)
          · refine r_iinc dX12_blockers_104 rfl rfl ?_
            refine r_goto (tgt := 33) dX12_blockers_107 rfl ?_
            obtain ⟨q, rfl⟩ : ∃ q, n = q + 1 := ⟨n - 1, by omega⟩
            refine AW.mono (ih q (k + 1) _ (by omega) (by omega) (by omega)) ?_
            rintro r sh2 μ2 ⟨rfl, rfl, rfl⟩
            refine ⟨?_, rfl, rfl⟩
            rw [fld]
            congr 3
            first | (rw [if_pos ⟨by omega, by assumption, by omega⟩]; done) | (rw [if_neg (by omega)]; done) | (rw [if_neg (by intro hh1; rw [hh1.2.1] at c72; cases c72)]; done)
          · refine r_aload_n dX12_blockers_75 rfl ?_
            refine r_getR dX12_blockers_76 fl_X12_7 rfl (by assumption) (by assumption) ?_
            refine r_bipush dX12_blockers_79 (by decide) ?_
            refine r_iload dX12_blockers_81 rfl ?_
            refine r_iadd dX12_blockers_83 ?_
            refine r_iald dX12_blockers_84 (by assumption) rfl (by omega) ?_
            refine r_aload_n dX12_blockers_85 rfl ?_
            refine r_getR dX12_blockers_86 fl_X12_7 rfl (by assumption) (by assumption) ?_
            refine r_bipush dX12_blockers_89 (by decide) ?_
            refine r_iload_n dX12_blockers_91 rfl ?_
            refine r_iadd dX12_blockers_92 ?_
            refine r_iald dX12_blockers_93 (by assumption) rfl (by omega) ?_
            refine q_icmp_le (tgt := 104) dX12_blockers_94 rfl (by omega) (by omega) (fun c94 => ?_) (fun c94 => ?_)
            · refine r_iinc dX12_blockers_104 rfl rfl ?_
              refine r_goto (tgt := 33) dX12_blockers_107 rfl ?_
              obtain ⟨q, rfl⟩ : ∃ q, n = q + 1 := ⟨n - 1, by omega⟩
              refine AW.mono (ih q (k + 1) _ (by omega) (by omega) (by omega)) ?_
              rintro r sh2 μ2 ⟨rfl, rfl, rfl⟩
              refine ⟨?_, rfl, rfl⟩
              rw [fld]
              congr 3
              first | (rw [if_pos ⟨by omega, by assumption, by omega⟩]; done) | (rw [if_neg (by omega)]; done) | (rw [if_neg (by intro hh1; rw [hh1.2.1] at c72; cases c72)]; done)
            · refine r_iload_n dX12_blockers_97 rfl ?_
              refine r_iconst dX12_blockers_98 ?_
              refine r_iload dX12_blockers_99 rfl ?_
              refine r_ishl dX12_blockers_101 ?_
              refine r_ior dX12_blockers_102 ?_
              refine r_istore_n dX12_blockers_103 rfl ?_
              refine r_iinc dX12_blockers_104 rfl rfl ?_
              refine r_goto (tgt := 33) dX12_blockers_107 rfl ?_
              obtain ⟨q, rfl⟩ : ∃ q, n = q + 1 := ⟨n - 1, by omega⟩
              refine AW.mono (ih q (k + 1) _ (by omega) (by omega) (by omega)) ?_
              rintro r sh2 μ2 ⟨rfl, rfl, rfl⟩
              refine ⟨?_, rfl, rfl⟩
              rw [fld]
              congr 3
              first | (rw [if_pos ⟨by omega, by assumption, by omega⟩]; done) | (rw [if_neg (by omega)]; done) | (rw [if_neg (by intro hh1; rw [hh1.2.1] at c72; cases c72)]; done)
  refine AMet.of (by decide) rfl (by decide) rfl ?_
  refine r_iconst dX12_blockers_0 ?_
  refine r_istore_n dX12_blockers_1 rfl ?_
  refine r_aload_n dX12_blockers_2 rfl ?_
  refine r_getR dX12_blockers_3 fl_X12_7 rfl (by assumption) (by assumption) ?_
  refine r_bipush dX12_blockers_6 (by decide) ?_
  refine r_iload_n dX12_blockers_8 rfl ?_
  refine r_iadd dX12_blockers_9 ?_
  refine r_iald dX12_blockers_10 (by assumption) rfl (by omega) ?_
  refine q_if_ge (tgt := 16) dX12_blockers_11 rfl (by omega) (fun c11 => ?_) (fun c11 => ?_)
  · refine r_aload_n dX12_blockers_16 rfl ?_
    refine r_aload_n dX12_blockers_17 rfl ?_
    refine r_getR dX12_blockers_18 fl_X12_7 rfl (by assumption) (by assumption) ?_
    refine r_bipush dX12_blockers_21 (by decide) ?_
    refine r_iload_n dX12_blockers_23 rfl ?_
    refine r_iadd dX12_blockers_24 ?_
    refine r_iald dX12_blockers_25 (by assumption) rfl (by omega) ?_
    refine r_cV1F1 dX12_blockers_26 ml_X12_222 yl_X12_wayOf ⟨rfl, rfl⟩ (by assumption) ⟨_, rfl⟩ rfl rfl rfl rfl (m_wayOf hM hw.1 (by omega)) ?_
    refine r_istore_n dX12_blockers_29 rfl ?_
    refine r_iconst dX12_blockers_30 ?_
    refine r_istore dX12_blockers_31 rfl ?_
    refine AW.mono (loop _ ((μ.1 (m + 1)) 11).toNat 0 0 (Nat.lt_succ_self _) (by omega) (by omega)) ?_
    rintro r sh2 μ2 ⟨rfl, hq⟩
    refine ⟨?_, hq⟩
    unfold blkF
    rw [if_neg (by omega)]
  · refine r_iconst dX12_blockers_14 ?_
    refine r_ireturn dX12_blockers_15 rfl rfl rfl ?_
    refine ⟨?_, rfl, rfl⟩; unfold blkF; rw [if_pos (by omega)]
theorem m_places {sh : Sh} {μ : Mem} {m : Nat} {r : Int} (hM : IsModel sh μ.2.2 m) (hw : WF (μ.1 (m + 1))) (hr : 1 ≤ r ∧ r ≤ 7) : FMet yX12_places gX12_places sh [vR m, vI r] μ (some (vI (plcF (μ.1 (m + 1)) r))) μ := by
  obtain ⟨g0, f1, z1, f2, z2, f3, z3, f4, z4, f5, z5, f6, z6, f7, z7, f8, z8, f9, z9, f10, z10, f11, z11, f12, z12, f13, z13, f14, z14⟩ := id hM
  obtain ⟨⟨hn, hss, hh, hj, ht, hg⟩, hb, hp, hd⟩ := id hw
  unfold WFn at hn
  refine AMet.of (by decide) rfl (by decide) rfl ?_
  refine r_iload_n dX12_places_0 rfl ?_
  rcases (show (r < 1 ∨ 6 < r) ∨ r = 1 ∨ r = 2 ∨ r = 3 ∨ r = 4 ∨ r = 5 ∨ r = 6 by omega) with s1 | s1 | s1 | s1 | s1 | s1 | s1
  · refine r_tableOut (tgt := 72) dX12_places_1 (by omega) s1 rfl ?_
    refine r_aload_n dX12_places_72 rfl ?_
    refine r_getR dX12_places_73 fl_X12_7 rfl (by assumption) (by assumption) ?_
    refine r_bipush dX12_places_76 (by decide) ?_
    refine r_iald dX12_places_78 (by assumption) rfl (by omega) ?_
    refine r_iconst dX12_places_79 ?_
    refine r_iadd dX12_places_80 ?_
    refine r_ireturn dX12_places_81 rfl rfl rfl ?_
    refine ⟨?_, rfl, rfl⟩
    first | rfl | (rw [show r = 7 by omega]; simp [plcF])
  · subst s1
    refine r_tableIn (tgt := 40) dX12_places_1 (by decide) (by decide) (by decide) rfl rfl ?_
    refine r_aload_n dX12_places_40 rfl ?_
    refine r_getR dX12_places_41 fl_X12_7 rfl (by assumption) (by assumption) ?_
    refine r_bipush dX12_places_44 (by decide) ?_
    refine r_iald dX12_places_46 (by assumption) rfl (by omega) ?_
    refine r_ireturn dX12_places_47 rfl rfl rfl ?_
    refine ⟨?_, rfl, rfl⟩
    first | rfl | (rw [show r = 7 by omega]; simp [plcF])
  · subst s1
    refine r_tableIn (tgt := 48) dX12_places_1 (by decide) (by decide) (by decide) rfl rfl ?_
    refine r_aload_n dX12_places_48 rfl ?_
    refine r_getR dX12_places_49 fl_X12_7 rfl (by assumption) (by assumption) ?_
    refine r_iconst dX12_places_52 ?_
    refine r_iald dX12_places_53 (by assumption) rfl (by omega) ?_
    refine r_ireturn dX12_places_54 rfl rfl rfl ?_
    refine ⟨?_, rfl, rfl⟩
    first | rfl | (rw [show r = 7 by omega]; simp [plcF])
  · subst s1
    refine r_tableIn (tgt := 55) dX12_places_1 (by decide) (by decide) (by decide) rfl rfl ?_
    refine r_aload_n dX12_places_55 rfl ?_
    refine r_getR dX12_places_56 fl_X12_7 rfl (by assumption) (by assumption) ?_
    refine r_bipush dX12_places_59 (by decide) ?_
    refine r_iald dX12_places_61 (by assumption) rfl (by omega) ?_
    refine r_ireturn dX12_places_62 rfl rfl rfl ?_
    refine ⟨?_, rfl, rfl⟩
    first | rfl | (rw [show r = 7 by omega]; simp [plcF])
  · subst s1
    refine r_tableIn (tgt := 63) dX12_places_1 (by decide) (by decide) (by decide) rfl rfl ?_
    refine r_aload_n dX12_places_63 rfl ?_
    refine r_getR dX12_places_64 fl_X12_7 rfl (by assumption) (by assumption) ?_
    refine r_iconst dX12_places_67 ?_
    refine r_iald dX12_places_68 (by assumption) rfl (by omega) ?_
    refine r_ireturn dX12_places_69 rfl rfl rfl ?_
    refine ⟨?_, rfl, rfl⟩
    first | rfl | (rw [show r = 7 by omega]; simp [plcF])
  · subst s1
    refine r_tableIn (tgt := 70) dX12_places_1 (by decide) (by decide) (by decide) rfl rfl ?_
    refine r_iconst dX12_places_70 ?_
    refine r_ireturn dX12_places_71 rfl rfl rfl ?_
    refine ⟨?_, rfl, rfl⟩
    first | rfl | (rw [show r = 7 by omega]; simp [plcF])
  · subst s1
    refine r_tableIn (tgt := 48) dX12_places_1 (by decide) (by decide) (by decide) rfl rfl ?_
    refine r_aload_n dX12_places_48 rfl ?_
    refine r_getR dX12_places_49 fl_X12_7 rfl (by assumption) (by assumption) ?_
    refine r_iconst dX12_places_52 ?_
    refine r_iald dX12_places_53 (by assumption) rfl (by omega) ?_
    refine r_ireturn dX12_places_54 rfl rfl rfl ?_
    refine ⟨?_, rfl, rfl⟩
    first | rfl | (rw [show r = 7 by omega]; simp [plcF])
theorem m_isBroken {sh : Sh} {μ : Mem} {m : Nat} {r k : Int} (hM : IsModel sh μ.2.2 m) (hw : WF (μ.1 (m + 1))) (hr : 1 ≤ r ∧ r ≤ 7) (hk : 0 ≤ k ∧ k < plcF (μ.1 (m + 1)) r) : IMet yX12_isBroken gX12_isBroken sh [vR m, vI r, vI k] μ (fun x μ2 => x = b2i (brkF (μ.1 (m + 1)) r k) ∧ Sc m μ μ2) := by
  obtain ⟨g0, f1, z1, f2, z2, f3, z3, f4, z4, f5, z5, f6, z6, f7, z7, f8, z8, f9, z9, f10, z10, f11, z11, f12, z12, f13, z13, f14, z14⟩ := id hM
  obtain ⟨⟨hn, hss, hh, hj, ht, hg⟩, hb, hp, hd⟩ := id hw
  unfold WFn at hn
  have hwl := hw.wl
  have hwo := fun s => wOnF_rng (ρ := (μ.1 (m + 1))) hw.1.1 hp s
  have hih := fun s => inHoldF_rng (ρ := (μ.1 (m + 1))) hw.1.1 hp s
  refine AMet.of (by decide) rfl (by decide) rfl ?_
  refine r_iload_n dX12_isBroken_0 rfl ?_
  rcases (show (r < 1 ∨ 6 < r) ∨ r = 1 ∨ r = 2 ∨ r = 3 ∨ r = 4 ∨ r = 5 ∨ r = 6 by omega) with s1 | s1 | s1 | s1 | s1 | s1 | s1
  · refine r_tableOut (tgt := 208) dX12_isBroken_1 (by omega) s1 rfl ?_
    obtain rfl : r = 7 := by omega
    have hk2 : k < μ.1 (m + 1) 9 + 1 := by simpa [plcF] using hk.2
    refine r_aload_n dX12_isBroken_208 rfl ?_
    refine r_iload_n dX12_isBroken_209 rfl ?_
    refine r_cV1F1 dX12_isBroken_210 ml_X12_261 yl_X12_isInSpan ⟨rfl, rfl⟩ (by assumption) ⟨_, rfl⟩ rfl rfl rfl rfl (m_isInSpan hM hw (by omega)) ?_
    refine r_if_neB (tgt := 220) dX12_isBroken_213 rfl (fun c213 => ?_) (fun c213 => ?_)
    · refine r_iconst dX12_isBroken_220 ?_
      refine r_zreturn dX12_isBroken_221 (by first | exact Or.inl rfl | exact Or.inr rfl | exact b2i_01 _ | omega) rfl rfl rfl ?_
      refine ⟨rfl, _, rfl, ?_, by first | exact Sc.rf _ _ | exact wm_Sc _ _ _ _⟩
      simp only [brkF, b2i]
      first | (rw [if_pos (by simp; omega)]; done) | (rw [if_neg (by simp; omega)]; done) | (simp_all; done)
    · refine r_iconst dX12_isBroken_216 ?_
      refine r_goto (tgt := 221) dX12_isBroken_217 rfl ?_
      refine r_zreturn dX12_isBroken_221 (by first | exact Or.inl rfl | exact Or.inr rfl | exact b2i_01 _ | omega) rfl rfl rfl ?_
      refine ⟨rfl, _, rfl, ?_, by first | exact Sc.rf _ _ | exact wm_Sc _ _ _ _⟩
      simp only [brkF, b2i]
      first | (rw [if_pos (by simp; omega)]; done) | (rw [if_neg (by simp; omega)]; done) | (simp_all; done)
  · subst s1
    refine r_tableIn (tgt := 40) dX12_isBroken_1 (by decide) (by decide) (by decide) rfl rfl ?_
    simp only [plcF] at hk
    have hk2 : k < μ.1 (m + 1) 11 := by simpa using hk.2
    have q1 := hp k (by omega) hk2
    refine r_aload_n dX12_isBroken_40 rfl ?_
    refine r_getR dX12_isBroken_41 fl_X12_7 rfl (by assumption) (by assumption) ?_
    refine r_bipush dX12_isBroken_44 (by decide) ?_
    refine r_iload_n dX12_isBroken_46 rfl ?_
    refine r_iadd dX12_isBroken_47 ?_
    refine r_iald dX12_isBroken_48 (by assumption) rfl (by omega) ?_
    refine q_if_ge (tgt := 56) dX12_isBroken_49 rfl (by omega) (fun c49 => ?_) (fun c49 => ?_)
    · refine r_iconst dX12_isBroken_56 ?_
      refine r_zreturn dX12_isBroken_57 (by first | exact Or.inl rfl | exact Or.inr rfl | exact b2i_01 _ | omega) rfl rfl rfl ?_
      refine ⟨rfl, _, rfl, ?_, by first | exact Sc.rf _ _ | exact wm_Sc _ _ _ _⟩
      simp only [brkF, b2i]
      first | (rw [if_pos (by simp; omega)]; done) | (rw [if_neg (by simp; omega)]; done) | (simp_all; done)
    · refine r_iconst dX12_isBroken_52 ?_
      refine r_goto (tgt := 57) dX12_isBroken_53 rfl ?_
      refine r_zreturn dX12_isBroken_57 (by first | exact Or.inl rfl | exact Or.inr rfl | exact b2i_01 _ | omega) rfl rfl rfl ?_
      refine ⟨rfl, _, rfl, ?_, by first | exact Sc.rf _ _ | exact wm_Sc _ _ _ _⟩
      simp only [brkF, b2i]
      first | (rw [if_pos (by simp; omega)]; done) | (rw [if_neg (by simp; omega)]; done) | (simp_all; done)
  · subst s1
    refine r_tableIn (tgt := 58) dX12_isBroken_1 (by decide) (by decide) (by decide) rfl rfl ?_
    have hk2 : k < μ.1 (m + 1) 5 := by simpa [plcF] using hk.2
    have q1 := hss k (by omega) hk2
    have q2 := hwo k
    refine r_aload_n dX12_isBroken_58 rfl ?_
    refine r_iload_n dX12_isBroken_59 rfl ?_
    refine r_cV1F1 dX12_isBroken_60 ml_X12_213 yl_X12_weightOn ⟨rfl, rfl⟩ (by assumption) ⟨_, rfl⟩ rfl rfl rfl rfl (m_weightOn hM hwl (by omega)) ?_
    refine r_aload_n dX12_isBroken_63 rfl ?_
    refine r_getR dX12_isBroken_64 fl_X12_7 rfl (by assumption) (by assumption) ?_
    refine r_bipush dX12_isBroken_67 (by decide) ?_
    refine r_iload_n dX12_isBroken_69 rfl ?_
    refine r_iadd dX12_isBroken_70 ?_
    refine r_iald dX12_isBroken_71 (by assumption) rfl (by omega) ?_
    refine q_icmp_le (tgt := 79) dX12_isBroken_72 rfl (by omega) (by omega) (fun c72 => ?_) (fun c72 => ?_)
    · refine r_iconst dX12_isBroken_79 ?_
      refine r_zreturn dX12_isBroken_80 (by first | exact Or.inl rfl | exact Or.inr rfl | exact b2i_01 _ | omega) rfl rfl rfl ?_
      refine ⟨rfl, _, rfl, ?_, by first | exact Sc.rf _ _ | exact wm_Sc _ _ _ _⟩
      simp only [brkF, b2i]
      first | (rw [if_pos (by simp; omega)]; done) | (rw [if_neg (by simp; omega)]; done) | (simp_all; done)
    · refine r_iconst dX12_isBroken_75 ?_
      refine r_goto (tgt := 80) dX12_isBroken_76 rfl ?_
      refine r_zreturn dX12_isBroken_80 (by first | exact Or.inl rfl | exact Or.inr rfl | exact b2i_01 _ | omega) rfl rfl rfl ?_
      refine ⟨rfl, _, rfl, ?_, by first | exact Sc.rf _ _ | exact wm_Sc _ _ _ _⟩
      simp only [brkF, b2i]
      first | (rw [if_pos (by simp; omega)]; done) | (rw [if_neg (by simp; omega)]; done) | (simp_all; done)
  · subst s1
    refine r_tableIn (tgt := 81) dX12_isBroken_1 (by decide) (by decide) (by decide) rfl rfl ?_
    have hk2 : k < μ.1 (m + 1) 6 := by simpa [plcF] using hk.2
    have q1 := hj k (by omega) hk2
    have q2 := hwo (μ.1 (m + 1) (37 + k))
    have q3 := hwo (μ.1 (m + 1) (37 + k) + 1)
    refine r_aload_n dX12_isBroken_81 rfl ?_
    refine r_aload_n dX12_isBroken_82 rfl ?_
    refine r_getR dX12_isBroken_83 fl_X12_7 rfl (by assumption) (by assumption) ?_
    refine r_bipush dX12_isBroken_86 (by decide) ?_
    refine r_iload_n dX12_isBroken_88 rfl ?_
    refine r_iadd dX12_isBroken_89 ?_
    refine r_iald dX12_isBroken_90 (by assumption) rfl (by omega) ?_
    refine r_cV1F1 dX12_isBroken_91 ml_X12_213 yl_X12_weightOn ⟨rfl, rfl⟩ (by assumption) ⟨_, rfl⟩ rfl rfl rfl rfl (m_weightOn hM hwl (by omega)) ?_
    refine r_aload_n dX12_isBroken_94 rfl ?_
    refine r_aload_n dX12_isBroken_95 rfl ?_
    refine r_getR dX12_isBroken_96 fl_X12_7 rfl (by assumption) (by assumption) ?_
    refine r_bipush dX12_isBroken_99 (by decide) ?_
    refine r_iload_n dX12_isBroken_101 rfl ?_
    refine r_iadd dX12_isBroken_102 ?_
    refine r_iald dX12_isBroken_103 (by assumption) rfl (by omega) ?_
    refine r_iconst dX12_isBroken_104 ?_
    refine r_iadd dX12_isBroken_105 ?_
    refine r_cV1F1 dX12_isBroken_106 ml_X12_213 yl_X12_weightOn ⟨rfl, rfl⟩ (by assumption) ⟨_, rfl⟩ rfl rfl rfl rfl (m_weightOn hM hwl (by omega)) ?_
    refine r_iadd dX12_isBroken_109 ?_
    refine r_aload_n dX12_isBroken_110 rfl ?_
    refine r_getR dX12_isBroken_111 fl_X12_7 rfl (by assumption) (by assumption) ?_
    refine r_bipush dX12_isBroken_114 (by decide) ?_
    refine r_iload_n dX12_isBroken_116 rfl ?_
    refine r_iadd dX12_isBroken_117 ?_
    refine r_iald dX12_isBroken_118 (by assumption) rfl (by omega) ?_
    refine q_icmp_le (tgt := 126) dX12_isBroken_119 rfl (by omega) (by omega) (fun c119 => ?_) (fun c119 => ?_)
    · refine r_iconst dX12_isBroken_126 ?_
      refine r_zreturn dX12_isBroken_127 (by first | exact Or.inl rfl | exact Or.inr rfl | exact b2i_01 _ | omega) rfl rfl rfl ?_
      refine ⟨rfl, _, rfl, ?_, by first | exact Sc.rf _ _ | exact wm_Sc _ _ _ _⟩
      simp only [brkF, b2i]
      first | (rw [if_pos (by simp; omega)]; done) | (rw [if_neg (by simp; omega)]; done) | (simp_all; done)
    · refine r_iconst dX12_isBroken_122 ?_
      refine r_goto (tgt := 127) dX12_isBroken_123 rfl ?_
      refine r_zreturn dX12_isBroken_127 (by first | exact Or.inl rfl | exact Or.inr rfl | exact b2i_01 _ | omega) rfl rfl rfl ?_
      refine ⟨rfl, _, rfl, ?_, by first | exact Sc.rf _ _ | exact wm_Sc _ _ _ _⟩
      simp only [brkF, b2i]
      first | (rw [if_pos (by simp; omega)]; done) | (rw [if_neg (by simp; omega)]; done) | (simp_all; done)
  · subst s1
    refine r_tableIn (tgt := 128) dX12_isBroken_1 (by decide) (by decide) (by decide) rfl rfl ?_
    have hk2 : k < μ.1 (m + 1) 4 := by simpa [plcF] using hk.2
    have q1 := hh k (by omega) hk2
    have q2 := hih k
    refine r_aload_n dX12_isBroken_128 rfl ?_
    refine r_iload_n dX12_isBroken_129 rfl ?_
    refine r_cV1F1 dX12_isBroken_130 ml_X12_225 yl_X12_inHold ⟨rfl, rfl⟩ (by assumption) ⟨_, rfl⟩ rfl rfl rfl rfl (m_inHold hM hw (by omega)) ?_
    refine r_aload_n dX12_isBroken_133 rfl ?_
    refine r_getR dX12_isBroken_134 fl_X12_7 rfl (by assumption) (by assumption) ?_
    refine r_bipush dX12_isBroken_137 (by decide) ?_
    refine r_iload_n dX12_isBroken_139 rfl ?_
    refine r_iadd dX12_isBroken_140 ?_
    refine r_iald dX12_isBroken_141 (by assumption) rfl (by omega) ?_
    refine q_icmp_le (tgt := 149) dX12_isBroken_142 rfl (by omega) (by omega) (fun c142 => ?_) (fun c142 => ?_)
    · refine r_iconst dX12_isBroken_149 ?_
      refine r_zreturn dX12_isBroken_150 (by first | exact Or.inl rfl | exact Or.inr rfl | exact b2i_01 _ | omega) rfl rfl rfl ?_
      refine ⟨rfl, _, rfl, ?_, by first | exact Sc.rf _ _ | exact wm_Sc _ _ _ _⟩
      simp only [brkF, b2i]
      first | (rw [if_pos (by simp; omega)]; done) | (rw [if_neg (by simp; omega)]; done) | (simp_all; done)
    · refine r_iconst dX12_isBroken_145 ?_
      refine r_goto (tgt := 150) dX12_isBroken_146 rfl ?_
      refine r_zreturn dX12_isBroken_150 (by first | exact Or.inl rfl | exact Or.inr rfl | exact b2i_01 _ | omega) rfl rfl rfl ?_
      refine ⟨rfl, _, rfl, ?_, by first | exact Sc.rf _ _ | exact wm_Sc _ _ _ _⟩
      simp only [brkF, b2i]
      first | (rw [if_pos (by simp; omega)]; done) | (rw [if_neg (by simp; omega)]; done) | (simp_all; done)
  · subst s1
    refine r_tableIn (tgt := 151) dX12_isBroken_1 (by decide) (by decide) (by decide) rfl rfl ?_
    have q1 := hb 0 (by omega) (by omega)
    have q2 := hb 1 (by omega) (by omega)
    simp only [Int.add_zero] at q1
    have q3 : (51 : Int) + 1 = 52 := rfl
    have q4 : (49 : Int) + 1 = 50 := rfl
    rw [q3, q4] at q2
    refine r_aload_n dX12_isBroken_151 rfl ?_
    refine r_getR dX12_isBroken_152 fl_X12_7 rfl (by assumption) (by assumption) ?_
    refine r_bipush dX12_isBroken_155 (by decide) ?_
    refine r_iald dX12_isBroken_157 (by assumption) rfl (by omega) ?_
    refine r_aload_n dX12_isBroken_158 rfl ?_
    refine r_getR dX12_isBroken_159 fl_X12_7 rfl (by assumption) (by assumption) ?_
    refine r_bipush dX12_isBroken_162 (by decide) ?_
    refine r_iald dX12_isBroken_164 (by assumption) rfl (by omega) ?_
    refine r_iadd dX12_isBroken_165 ?_
    refine r_aload_n dX12_isBroken_166 rfl ?_
    refine r_getR dX12_isBroken_167 fl_X12_7 rfl (by assumption) (by assumption) ?_
    refine r_bipush dX12_isBroken_170 (by decide) ?_
    refine r_iald dX12_isBroken_172 (by assumption) rfl (by omega) ?_
    refine q_icmp_eq (tgt := 180) dX12_isBroken_173 rfl (by omega) (by omega) (fun c173 => ?_) (fun c173 => ?_)
    · refine r_iconst dX12_isBroken_180 ?_
      refine r_zreturn dX12_isBroken_181 (by first | exact Or.inl rfl | exact Or.inr rfl | exact b2i_01 _ | omega) rfl rfl rfl ?_
      refine ⟨rfl, _, rfl, ?_, by first | exact Sc.rf _ _ | exact wm_Sc _ _ _ _⟩
      simp only [brkF, b2i]
      first | (rw [if_pos (by simp; omega)]; done) | (rw [if_neg (by simp; omega)]; done) | (simp_all; done)
    · refine r_iconst dX12_isBroken_176 ?_
      refine r_goto (tgt := 181) dX12_isBroken_177 rfl ?_
      refine r_zreturn dX12_isBroken_181 (by first | exact Or.inl rfl | exact Or.inr rfl | exact b2i_01 _ | omega) rfl rfl rfl ?_
      refine ⟨rfl, _, rfl, ?_, by first | exact Sc.rf _ _ | exact wm_Sc _ _ _ _⟩
      simp only [brkF, b2i]
      first | (rw [if_pos (by simp; omega)]; done) | (rw [if_neg (by simp; omega)]; done) | (simp_all; done)
  · subst s1
    refine r_tableIn (tgt := 182) dX12_isBroken_1 (by decide) (by decide) (by decide) rfl rfl ?_
    have hk2 : k < μ.1 (m + 1) 5 := by simpa [plcF] using hk.2
    have q1 := onF_rng (ρ := μ.1 (m + 1)) (by omega) k
    refine r_aload_n dX12_isBroken_182 rfl ?_
    refine r_iload_n dX12_isBroken_183 rfl ?_
    refine r_cV1F1 dX12_isBroken_184 ml_X12_210 yl_X12_on ⟨rfl, rfl⟩ (by assumption) ⟨_, rfl⟩ rfl rfl rfl rfl (m_on hM hwl (by omega)) ?_
    refine q_if_lt (tgt := 206) dX12_isBroken_187 rfl (by omega) (fun c187 => ?_) (fun c187 => ?_)
    · refine r_iconst dX12_isBroken_206 ?_
      refine r_zreturn dX12_isBroken_207 (by first | exact Or.inl rfl | exact Or.inr rfl | exact b2i_01 _ | omega) rfl rfl rfl ?_
      refine ⟨rfl, _, rfl, ?_, by first | exact Sc.rf _ _ | exact wm_Sc _ _ _ _⟩
      simp only [brkF, b2i]
      first | (rw [if_pos (by simp; omega)]; done) | (rw [if_neg (by simp; omega)]; done) | (simp_all; done)
    · refine r_aload_n dX12_isBroken_190 rfl ?_
      refine r_aload_n dX12_isBroken_191 rfl ?_
      refine r_iload_n dX12_isBroken_192 rfl ?_
      refine r_cV1F1 dX12_isBroken_193 ml_X12_210 yl_X12_on ⟨rfl, rfl⟩ (by assumption) ⟨_, rfl⟩ rfl rfl rfl rfl (m_on hM hwl (by omega)) ?_
      have q5 := blkF_rng (μ.1 (m + 1)) (onF (μ.1 (m + 1)) k)
      refine r_cV1F1 dX12_isBroken_196 ml_X12_258 yl_X12_blockers ⟨rfl, rfl⟩ (by assumption) ⟨_, rfl⟩ rfl rfl rfl rfl (m_blockers hM hw (by omega)) ?_
      refine q_if_eq (tgt := 206) dX12_isBroken_199 rfl (by omega) (fun c199 => ?_) (fun c199 => ?_)
      · refine r_iconst dX12_isBroken_206 ?_
        refine r_zreturn dX12_isBroken_207 (by first | exact Or.inl rfl | exact Or.inr rfl | exact b2i_01 _ | omega) rfl rfl rfl ?_
        refine ⟨rfl, _, rfl, ?_, by first | exact Sc.rf _ _ | exact wm_Sc _ _ _ _⟩
        simp only [brkF, b2i]
        first | (rw [if_pos (by simp; omega)]; done) | (rw [if_neg (by simp; omega)]; done) | (simp_all; done)
      · refine r_iconst dX12_isBroken_202 ?_
        refine r_goto (tgt := 207) dX12_isBroken_203 rfl ?_
        refine r_zreturn dX12_isBroken_207 (by first | exact Or.inl rfl | exact Or.inr rfl | exact b2i_01 _ | omega) rfl rfl rfl ?_
        refine ⟨rfl, _, rfl, ?_, by first | exact Sc.rf _ _ | exact wm_Sc _ _ _ _⟩
        simp only [brkF, b2i]
        first | (rw [if_pos (by simp; omega)]; done) | (rw [if_neg (by simp; omega)]; done) | (simp_all; done)
theorem fnd_hit {p : Int → Bool} {n : Nat} {k r : Int} (h1 : k ≤ r) (h2 : r < k + n) (h3 : ∀ j, k ≤ j → j < r → p j = false) (h4 : p r = true) : fnd p n k = r := by
  rcases fnd_spec (p := p) n k with ⟨_, h⟩ | ⟨a, b, c, d⟩
  · rw [h r h1 h2] at h4; cases h4
  · rcases Int.lt_trichotomy (fnd p n k) r with h | h | h
    · rw [h3 _ a h] at c; cases c
    · exact h
    · rw [d r h1 h] at h4; cases h4
theorem fnd_none {p : Int → Bool} {n : Nat} {k : Int} (h : ∀ j, k ≤ j → j < k + n → p j = false) : fnd p n k = -1 := by
  rcases fnd_spec (p := p) n k with ⟨h1, _⟩ | ⟨a, b, c, d⟩
  · exact h1
  · rw [h _ a b] at c; cases c
theorem plc_rng {ρ : Row} (hn : WFn ρ) (r : Int) : 0 ≤ plcF ρ r ∧ plcF ρ r ≤ 13 := by
  unfold WFn at hn
  unfold plcF
  split
  · omega
  · split
    · omega
    · split
      · omega
      · split
        · omega
        · split <;> omega
theorem m_broken {sh : Sh} {μ : Mem} {m : Nat} (hM : IsModel sh μ.2.2 m) (hw : WF (μ.1 (m + 1))) : IMet yX12_broken gX12_broken sh [vR m] μ (fun x μ2 => x = brokF (μ.1 (m + 1)) ∧ Sc m μ μ2 ∧ μ2.1 m 23 = whereF (μ.1 (m + 1))) := by
  obtain ⟨⟨hn, hss, hh, hj, ht, hg⟩, hb, hp, hd⟩ := id hw
  have hpl := plc_rng hn
  have lin : ∀ (f n : Nat) (k : Int) (r : Int) (m1 : Mem), n < f → 0 ≤ k → k + n = plcF (μ.1 (m + 1)) r → (1 ≤ r ∧ r ≤ 7) → Sc m μ m1 → (∀ j, 0 ≤ j → j < k → brkF (μ.1 (m + 1)) r j = false) → (∀ q, 1 ≤ q → q < r → atF (μ.1 (m + 1)) q = -1) → (∀ m2, Sc m μ m2 → atF (μ.1 (m + 1)) r = -1 → ∀ k, AW gX12_broken sh m2 0 0 41 [some (vR m), some (vI r), some (vI k)] [] (fun r2 sh2 μ2 => sh2 = sh ∧ ∃ x, r2 = some (vI x) ∧ x = brokF (μ.1 (m + 1)) ∧ Sc m μ μ2 ∧ μ2.1 m 23 = whereF (μ.1 (m + 1)))) → AW gX12_broken sh m1 0 0 10 [some (vR m), some (vI r), some (vI k)] [] (fun r2 sh2 μ2 => sh2 = sh ∧ ∃ x, r2 = some (vI x) ∧ x = brokF (μ.1 (m + 1)) ∧ Sc m μ μ2 ∧ μ2.1 m 23 = whereF (μ.1 (m + 1))) := by
    intro f
    induction f with
    | zero => intro n; intros; omega
    | succ f ih =>
      intro n k r m1 hf hk hn2 hr hsc hA hB hC
      have hM1 : IsModel sh m1.2.2 m := by rw [hsc.1]; exact hM
      have hrow : m1.1 (m + 1) = μ.1 (m + 1) := hsc.row (by omega)
      have hw1 : WF (m1.1 (m + 1)) := by rw [hrow]; exact hw
      have hpr := hpl r
      obtain ⟨g0, f1, z1, f2, z2, f3, z3, f4, z4, f5, z5, f6, z6, f7, z7, f8, z8, f9, z9, f10, z10, f11, z11, f12, z12, f13, z13, f14, z14⟩ := id hM1
      refine r_iload_n dX12_broken_10 rfl ?_
      refine r_aload_n dX12_broken_11 rfl ?_
      refine r_iload_n dX12_broken_12 rfl ?_
      refine r_cV1F1 dX12_broken_13 ml_X12_264 yl_X12_places ⟨rfl, rfl⟩ (by assumption) ⟨_, rfl⟩ rfl rfl rfl rfl (m_places hM1 hw1 (by omega)) ?_
      rw [hrow]
      refine q_icmp_ge (tgt := 41) dX12_broken_16 rfl (by omega) (by omega) (fun c16 => ?_) (fun c16 => ?_)
      · refine hC m1 hsc ?_ k
        unfold atF
        exact fnd_none (fun j h1 h2 => hA j h1 (by omega))
      · refine r_aload_n dX12_broken_19 rfl ?_
        refine r_iload_n dX12_broken_20 rfl ?_
        refine r_iload_n dX12_broken_21 rfl ?_
        refine r_cV2I dX12_broken_22 ml_X12_267 yl_X12_isBroken ⟨rfl, rfl⟩ (by assumption) ⟨_, rfl⟩ rfl rfl rfl rfl (m_isBroken hM1 hw1 (by omega) (by rw [hrow]; omega)) ?_
        rintro x μ3 ⟨rfl, hs3⟩
        rw [hrow]
        have hM3 : IsModel sh μ3.2.2 m := by rw [hs3.1]; exact hM1
        have g3 : sh[m]? = some (11, 34) := g0
        refine r_if_eqB (tgt := 35) dX12_broken_25 rfl (fun c25 => ?_) (fun c25 => ?_)
        · refine r_iinc dX12_broken_35 rfl rfl ?_
          refine r_goto (tgt := 10) dX12_broken_38 rfl ?_
          obtain ⟨q, rfl⟩ : ∃ q, n = q + 1 := ⟨n - 1, by omega⟩
          refine ih q (k + 1) r μ3 (by omega) (by omega) (by omega) hr (hsc.tr hs3) (fun j h1 h2 => ?_) hB (fun m2 h1 h2 => hC m2 h1 h2)
          by_cases hj : j = k
          · rw [hj]; exact c25
          · exact hA j h1 (by omega)
        · refine r_aload_n dX12_broken_28 rfl ?_
          refine r_iload_n dX12_broken_29 rfl ?_
          refine r_putI dX12_broken_30 fl_X12_270 (by assumption) ?_
          refine r_iload_n dX12_broken_33 rfl ?_
          refine r_ireturn dX12_broken_34 rfl rfl rfl ?_
          have hat : atF (μ.1 (m + 1)) r = k := by
            unfold atF
            exact fnd_hit (by omega) (by omega) hA c25
          have hbr : brokF (μ.1 (m + 1)) = r := by
            have : fnd (fun r => decide (0 ≤ atF (μ.1 (m + 1)) r)) 7 1 = r := fnd_hit (by omega) (by omega) (fun j h1 h2 => by rw [hB j h1 h2]; rfl) (by rw [hat]; simp; omega)
            unfold brokF
            rw [this]
            simp only
            rw [if_neg (by omega)]
          refine ⟨rfl, r, rfl, hbr.symm, (hsc.tr hs3).tr ⟨rfl, fun a i hai => ?_⟩, ?_⟩
          · simp only [setI]; rw [if_neg (by omega)]
          · unfold whereF
            rw [hbr, hat, if_neg (by omega)]
            simp [setI]
  have lout : ∀ (f n : Nat) (k : Int) (m1 : Mem) (o2 : Option AV), n < f → 1 ≤ k → k + n = 8 → Sc m μ m1 → (∀ q, 1 ≤ q → q < k → atF (μ.1 (m + 1)) q = -1) → AW gX12_broken sh m1 0 0 2 [some (vR m), some (vI k), o2] [] (fun r2 sh2 μ2 => sh2 = sh ∧ ∃ x, r2 = some (vI x) ∧ x = brokF (μ.1 (m + 1)) ∧ Sc m μ μ2 ∧ μ2.1 m 23 = whereF (μ.1 (m + 1))) := by
    intro f
    induction f with
    | zero => intro n; intros; omega
    | succ f ih =>
      intro n k m1 o2 hf hk hn2 hsc hB
      refine r_iload_n dX12_broken_2 rfl ?_
      refine r_bipush dX12_broken_3 (by decide) ?_
      refine q_icmp_ge (tgt := 47) dX12_broken_5 rfl (by omega) (by omega) (fun c5 => ?_) (fun c5 => ?_)
      · have g0 : sh[m]? = some (11, 34) := hM.1
        refine r_aload_n dX12_broken_47 rfl ?_
        refine r_iconst dX12_broken_48 ?_
        refine r_putI dX12_broken_49 fl_X12_270 (by assumption) ?_
        refine r_iconst dX12_broken_52 ?_
        refine r_ireturn dX12_broken_53 rfl rfl rfl ?_
        have hbr : brokF (μ.1 (m + 1)) = 0 := by
          have : fnd (fun r => decide (0 ≤ atF (μ.1 (m + 1)) r)) 7 1 = -1 := fnd_none (fun j h1 h2 => by rw [hB j h1 (by omega)]; rfl)
          unfold brokF
          rw [this]
          rfl
        refine ⟨rfl, 0, rfl, hbr.symm, hsc.tr ⟨rfl, fun a i hai => ?_⟩, ?_⟩
        · simp only [setI]; rw [if_neg (by omega)]
        · unfold whereF
          rw [hbr]
          simp [setI]
      · refine r_iconst dX12_broken_8 ?_
        refine r_istore_n dX12_broken_9 rfl ?_
        refine lin _ (plcF (μ.1 (m + 1)) k).toNat 0 k m1 (Nat.lt_succ_self _) (by omega) (by have := hpl k; omega) (by omega) hsc (fun j h1 h2 => by omega) hB (fun m2 h1 h2 k2 => ?_)
        obtain ⟨q, rfl⟩ : ∃ q, n = q + 1 := ⟨n - 1, by omega⟩
        refine r_iinc dX12_broken_41 rfl rfl ?_
        refine r_goto (tgt := 2) dX12_broken_44 rfl ?_
        refine ih q (k + 1) m2 _ (by omega) (by omega) (by omega) h1 (fun j h3 h4 => ?_)
        by_cases hj : j = k
        · rw [hj]; exact h2
        · exact hB j h3 (by omega)
  refine AMet.of (by decide) rfl (by decide) rfl ?_
  refine r_iconst dX12_broken_0 ?_
  refine r_istore_n dX12_broken_1 rfl ?_
  exact lout _ 7 1 μ none (Nat.lt_succ_self _) (by omega) (by omega) (Sc.rf m μ) (fun q h1 h2 => by omega)
theorem m_why {sh : Sh} {μ : Mem} {m : Nat} (hM : IsModel sh μ.2.2 m) (hw : WF (μ.1 (m + 1))) : IMet yX12_why gX12_why sh [vR m] μ (fun x μ2 => x = brokF (μ.1 (m + 1)) ∧ Sc m μ μ2) := by
  refine AMet.of (by decide) rfl (by decide) rfl ?_
  refine r_aload_n dX12_why_0 rfl ?_
  refine r_cV0I dX12_why_1 ml_X12_273 yl_X12_broken ⟨rfl, rfl⟩ hM.1 ⟨_, rfl⟩ rfl rfl rfl rfl (m_broken hM hw) ?_
  rintro x μ3 ⟨rfl, hs3, hw3⟩
  refine r_ireturn dX12_why_4 rfl rfl rfl ?_
  exact ⟨rfl, _, rfl, rfl, hs3⟩
theorem brok_rng (ρ : Row) : 0 ≤ brokF ρ ∧ brokF ρ ≤ 7 := by
  unfold brokF
  simp only
  rcases fnd_spec (p := fun r => decide (0 ≤ atF ρ r)) 7 1 with ⟨h, _⟩ | ⟨h1, h2, _⟩
  · rw [h]; simp
  · split <;> omega
theorem m_where {sh : Sh} {μ : Mem} {m : Nat} (hM : IsModel sh μ.2.2 m) (hw : WF (μ.1 (m + 1))) : IMet yX12_where gX12_where sh [vR m] μ (fun x μ2 => x = whereF (μ.1 (m + 1)) ∧ Sc m μ μ2) := by
  have hbr := brok_rng (μ.1 (m + 1))
  refine AMet.of (by decide) rfl (by decide) rfl ?_
  refine r_aload_n dX12_where_0 rfl ?_
  refine r_cV0I dX12_where_1 ml_X12_273 yl_X12_broken ⟨rfl, rfl⟩ hM.1 ⟨_, rfl⟩ rfl rfl rfl rfl (m_broken hM hw) ?_
  rintro x μ3 ⟨rfl, hs3, hw3⟩
  refine q_if_ne (tgt := 11) dX12_where_4 rfl (by omega) (fun c4 => ?_) (fun c4 => ?_)
  · refine r_aload_n dX12_where_11 rfl ?_
    refine r_getI dX12_where_12 fl_X12_270 rfl hM.1 ?_
    refine r_ireturn dX12_where_15 rfl rfl rfl ?_
    refine ⟨rfl, _, rfl, ?_, hs3⟩
    first | exact hw3 | (unfold whereF; rw [if_pos (by omega)])
  · refine r_iconst dX12_where_7 ?_
    refine r_goto (tgt := 15) dX12_where_8 rfl ?_
    refine r_ireturn dX12_where_15 rfl rfl rfl ?_
    refine ⟨rfl, _, rfl, ?_, hs3⟩
    first | exact hw3 | (unfold whereF; rw [if_pos (by omega)])
theorem m_blocks {sh : Sh} {μ : Mem} {m : Nat} {k : Int} (hM : IsModel sh μ.2.2 m) (hw : WF (μ.1 (m + 1))) (hk : -2147483648 ≤ k ∧ k < 2147483648)  : FMet yX12_blocks gX12_blocks sh [vR m, vI k] μ (some (vI (if 0 ≤ k ∧ k < (μ.1 (m + 1)) 11 then blkF (μ.1 (m + 1)) k else -1))) μ := by
  have hwl := hw.wl
  refine AMet.of (by decide) rfl (by decide) rfl ?_
  refine r_aload_n dX12_blocks_0 rfl ?_
  refine r_iload_n dX12_blocks_1 rfl ?_
  refine r_cV1F1 dX12_blocks_2 ml_X12_216 yl_X12_isPallet ⟨rfl, rfl⟩ hM.1 ⟨_, rfl⟩ rfl rfl rfl rfl (m_isPallet hM hwl hk) ?_
  refine r_if_eqB (tgt := 16) dX12_blocks_5 rfl (fun c5 => ?_) (fun c5 => ?_)
  · refine r_iconst dX12_blocks_16 ?_
    refine r_ireturn dX12_blocks_17 rfl rfl rfl ?_
    refine ⟨?_, rfl, rfl⟩
    first | (rw [if_pos (of_decide_eq_true c5)]; done) | (rw [if_neg (of_decide_eq_false c5)]; done)
  · refine r_aload_n dX12_blocks_8 rfl ?_
    refine r_iload_n dX12_blocks_9 rfl ?_
    refine r_cV1F1 dX12_blocks_10 ml_X12_258 yl_X12_blockers ⟨rfl, rfl⟩ hM.1 ⟨_, rfl⟩ rfl rfl rfl rfl (m_blockers hM hw (of_decide_eq_true c5)) ?_
    refine r_goto (tgt := 17) dX12_blocks_13 rfl ?_
    refine r_ireturn dX12_blocks_17 rfl rfl rfl ?_
    refine ⟨?_, rfl, rfl⟩
    first | (rw [if_pos (of_decide_eq_true c5)]; done) | (rw [if_neg (of_decide_eq_false c5)]; done)
theorem m_stage {sh : Sh} {μ : Mem} {m : Nat} {i w : Int} (hM : IsModel sh μ.2.2 m) (hw : WF (μ.1 (m + 1))) (hi0 : -2147483648 ≤ i ∧ i < 2147483648) (hw0 : -2147483648 ≤ w ∧ w < 2147483648) : IMet yX12_stage gX12_stage sh [vR m, vI i, vI w] μ (fun x μ2 => x = (if (0 ≤ i ∧ i ≤ (μ.1 (m + 1)) 9) ∧ 0 ≤ w ∧ w ≤ 3 then (if w = 0 then stW (μ.1 (m + 1)) i else if w = 1 then stM (μ.1 (m + 1)) i else if w = 2 then stM (μ.1 (m + 1)) i - stW (μ.1 (m + 1)) i * (μ.1 (m + 1)) 2 else stW (μ.1 (m + 1)) i * (μ.1 (m + 1)) 3 - stM (μ.1 (m + 1)) i) else -1000000) ∧ Sc m μ μ2) := by
  obtain ⟨g0, f1, z1, f2, z2, f3, z3, f4, z4, f5, z5, f6, z6, f7, z7, f8, z8, f9, z9, f10, z10, f11, z11, f12, z12, f13, z13, f14, z14⟩ := id hM
  obtain ⟨⟨hn, hss, hh, hj, ht, hg⟩, hb, hp, hd⟩ := id hw
  unfold WFn at hn
  refine AMet.of (by decide) rfl (by decide) rfl ?_
  refine r_iload_n dX12_stage_0 rfl ?_
  refine r_iconst dX12_stage_1 ?_
  refine r_aload_n dX12_stage_2 rfl ?_
  refine r_getR dX12_stage_3 fl_X12_7 rfl (by assumption) (by assumption) ?_
  refine r_bipush dX12_stage_6 (by decide) ?_
  refine r_iald dX12_stage_8 (by assumption) rfl (by omega) ?_
  try rw [wm_s]
  refine r_cS3F1 dX12_stage_9 ml_X12_73 yl_X12_isIn ⟨rfl, rfl⟩ rfl rfl rfl rfl (m_isIn hi0 (by omega) (by omega)) ?_
  refine r_if_eqB (tgt := 24) dX12_stage_12 rfl (fun c12 => ?_) (fun c12 => ?_)
  · have d12 := of_decide_eq_false c12
    skip
    refine r_ldcw (x := -1000000) dX12_stage_24 kl_X12_276 rfl ?_
    refine r_ireturn dX12_stage_27 rfl rfl rfl ?_
    refine ⟨rfl, _, rfl, ?_, by first | exact Sc.rf _ _ | exact wm_Sc _ _ _ _⟩
    first | (rw [if_neg (by omega)]; done) | (rw [if_pos ⟨d12, d21⟩]; first | (rw [if_pos (by assumption)]; done) | (rw [if_neg (by assumption), if_pos (by assumption)]; done) | (rw [if_neg (by assumption), if_neg (by assumption), if_pos (by assumption)]; done) | (rw [if_neg (by assumption), if_neg (by assumption), if_neg (by assumption)]; done))
  · have d12 := of_decide_eq_true c12
    refine r_iload_n dX12_stage_15 rfl ?_
    refine r_iconst dX12_stage_16 ?_
    refine r_iconst dX12_stage_17 ?_
    refine r_cS3F1 dX12_stage_18 ml_X12_73 yl_X12_isIn ⟨rfl, rfl⟩ rfl rfl rfl rfl (m_isIn hw0 (by omega) (by omega)) ?_
    refine r_if_neB (tgt := 28) dX12_stage_21 rfl (fun c21 => ?_) (fun c21 => ?_)
    · have d21 := of_decide_eq_true c21
      refine r_aload_n dX12_stage_28 rfl ?_
      refine r_iload_n dX12_stage_29 rfl ?_
      refine r_cV1F0 dX12_stage_30 ml_X12_252 yl_X12_stageAt ⟨rfl, rfl⟩ (by assumption) ⟨_, rfl⟩ rfl rfl rfl rfl (m_stageAt hM hw (of_decide_eq_true c12)) ?_
      refine r_iload_n dX12_stage_33 rfl ?_
      refine q_if_ne (tgt := 44) dX12_stage_34 rfl (by omega) (fun c34 => ?_) (fun c34 => ?_)
      · refine r_iload_n dX12_stage_44 rfl ?_
        refine r_iconst dX12_stage_45 ?_
        refine q_icmp_ne (tgt := 56) dX12_stage_46 rfl (by omega) (by omega) (fun c46 => ?_) (fun c46 => ?_)
        · refine r_iload_n dX12_stage_56 rfl ?_
          refine r_iconst dX12_stage_57 ?_
          refine q_icmp_ne (tgt := 80) dX12_stage_58 rfl (by omega) (by omega) (fun c58 => ?_) (fun c58 => ?_)
          · refine r_aload_n dX12_stage_80 rfl ?_
            refine r_getI dX12_stage_81 fl_X12_242 rfl (by assumption) ?_
            (try rw [wm_21]); (try rw [wm_22])
            refine r_aload_n dX12_stage_84 rfl ?_
            refine r_getR dX12_stage_85 fl_X12_7 rfl (by assumption) (by assumption) ?_
            refine r_iconst dX12_stage_88 ?_
            refine r_iald dX12_stage_89 (by assumption) rfl (by omega) ?_
            try rw [wm_s]
            refine r_imul dX12_stage_90 ?_
            refine r_aload_n dX12_stage_91 rfl ?_
            refine r_getI dX12_stage_92 fl_X12_245 rfl (by assumption) ?_
            (try rw [wm_21]); (try rw [wm_22])
            refine r_isub dX12_stage_95 ?_
            refine r_ireturn dX12_stage_96 rfl rfl rfl ?_
            refine ⟨rfl, _, rfl, ?_, by first | exact Sc.rf _ _ | exact wm_Sc _ _ _ _⟩
            first | (rw [if_neg (by omega)]; done) | (rw [if_pos ⟨d12, d21⟩]; first | (rw [if_pos (by assumption)]; done) | (rw [if_neg (by assumption), if_pos (by assumption)]; done) | (rw [if_neg (by assumption), if_neg (by assumption), if_pos (by assumption)]; done) | (rw [if_neg (by assumption), if_neg (by assumption), if_neg (by assumption)]; done))
          · refine r_aload_n dX12_stage_61 rfl ?_
            refine r_getI dX12_stage_62 fl_X12_245 rfl (by assumption) ?_
            (try rw [wm_21]); (try rw [wm_22])
            refine r_aload_n dX12_stage_65 rfl ?_
            refine r_getI dX12_stage_66 fl_X12_242 rfl (by assumption) ?_
            (try rw [wm_21]); (try rw [wm_22])
            refine r_aload_n dX12_stage_69 rfl ?_
            refine r_getR dX12_stage_70 fl_X12_7 rfl (by assumption) (by assumption) ?_
            refine r_iconst dX12_stage_73 ?_
            refine r_iald dX12_stage_74 (by assumption) rfl (by omega) ?_
            try rw [wm_s]
            refine r_imul dX12_stage_75 ?_
            refine r_isub dX12_stage_76 ?_
            refine r_goto (tgt := 96) dX12_stage_77 rfl ?_
            refine r_ireturn dX12_stage_96 rfl rfl rfl ?_
            refine ⟨rfl, _, rfl, ?_, by first | exact Sc.rf _ _ | exact wm_Sc _ _ _ _⟩
            first | (rw [if_neg (by omega)]; done) | (rw [if_pos ⟨d12, d21⟩]; first | (rw [if_pos (by assumption)]; done) | (rw [if_neg (by assumption), if_pos (by assumption)]; done) | (rw [if_neg (by assumption), if_neg (by assumption), if_pos (by assumption)]; done) | (rw [if_neg (by assumption), if_neg (by assumption), if_neg (by assumption)]; done))
        · refine r_aload_n dX12_stage_49 rfl ?_
          refine r_getI dX12_stage_50 fl_X12_245 rfl (by assumption) ?_
          (try rw [wm_21]); (try rw [wm_22])
          refine r_goto (tgt := 96) dX12_stage_53 rfl ?_
          refine r_ireturn dX12_stage_96 rfl rfl rfl ?_
          refine ⟨rfl, _, rfl, ?_, by first | exact Sc.rf _ _ | exact wm_Sc _ _ _ _⟩
          first | (rw [if_neg (by omega)]; done) | (rw [if_pos ⟨d12, d21⟩]; first | (rw [if_pos (by assumption)]; done) | (rw [if_neg (by assumption), if_pos (by assumption)]; done) | (rw [if_neg (by assumption), if_neg (by assumption), if_pos (by assumption)]; done) | (rw [if_neg (by assumption), if_neg (by assumption), if_neg (by assumption)]; done))
      · refine r_aload_n dX12_stage_37 rfl ?_
        refine r_getI dX12_stage_38 fl_X12_242 rfl (by assumption) ?_
        (try rw [wm_21]); (try rw [wm_22])
        refine r_goto (tgt := 96) dX12_stage_41 rfl ?_
        refine r_ireturn dX12_stage_96 rfl rfl rfl ?_
        refine ⟨rfl, _, rfl, ?_, by first | exact Sc.rf _ _ | exact wm_Sc _ _ _ _⟩
        first | (rw [if_neg (by omega)]; done) | (rw [if_pos ⟨d12, d21⟩]; first | (rw [if_pos (by assumption)]; done) | (rw [if_neg (by assumption), if_pos (by assumption)]; done) | (rw [if_neg (by assumption), if_neg (by assumption), if_pos (by assumption)]; done) | (rw [if_neg (by assumption), if_neg (by assumption), if_neg (by assumption)]; done))
    · have d21 := of_decide_eq_false c21
      skip
      refine r_ldcw (x := -1000000) dX12_stage_24 kl_X12_276 rfl ?_
      refine r_ireturn dX12_stage_27 rfl rfl rfl ?_
      refine ⟨rfl, _, rfl, ?_, by first | exact Sc.rf _ _ | exact wm_Sc _ _ _ _⟩
      first | (rw [if_neg (by omega)]; done) | (rw [if_pos ⟨d12, d21⟩]; first | (rw [if_pos (by assumption)]; done) | (rw [if_neg (by assumption), if_pos (by assumption)]; done) | (rw [if_neg (by assumption), if_neg (by assumption), if_pos (by assumption)]; done) | (rw [if_neg (by assumption), if_neg (by assumption), if_neg (by assumption)]; done))

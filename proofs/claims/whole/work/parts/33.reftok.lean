/-! 33.reftok: the reference's way with tokens (wip/whole/src/33_reftok.py) -/
theorem i2b_id0 : ∀ v : Nat, v < 128 → i2b (v : Int) = (v : Int) := by decide +kernel
theorem i2b_id {x : Int} (h : 0 ≤ x ∧ x < 128) : i2b x = x := by
  obtain ⟨n, rfl⟩ := Int.eq_ofNat_of_zero_le h.1
  exact i2b_id0 n (by omega)
theorem fld_snoc {α : Type} (f : Int → α → α) : ∀ (n : Nat) (k : Int) (a : α), fld f (n + 1) k a = f (k + n) (fld f n k a)
  | 0, k, a => by simp [fld]
  | n + 1, k, a => by
    rw [fld, fld_snoc f n (k + 1), fld]
    congr 1
    omega
/-- tape and size while a text is read -/
def RTap (m : Nat) (μ : Mem) (T : Tq) : Prop := μ.1 m 8 = T.2 ∧ (0 ≤ T.2 ∧ T.2 ≤ 540) ∧ ∀ i, 0 ≤ i → i < T.2 → (-128 ≤ μ.1 (m + 6) i ∧ μ.1 (m + 6) i < 128) ∧ iand (μ.1 (m + 6) i) 255 = T.1 i ∧ 0 ≤ T.1 i ∧ T.1 i ≤ 255
/-- only the token at hand has changed -/
def RK (m : Nat) (μ μ2 : Mem) : Prop := μ2.2 = μ.2 ∧ (∀ a : Nat, a ≠ m → a ≠ m + 7 → μ2.1 a = μ.1 a) ∧ ∀ j : Int, j < 9 ∨ 13 < j → μ2.1 m j = μ.1 m j
theorem RK.rf (m : Nat) (μ : Mem) : RK m μ μ := ⟨rfl, fun _ _ _ => rfl, fun _ _ => rfl⟩
theorem RK.tr {m : Nat} {a b c : Mem} (h1 : RK m a b) (h2 : RK m b c) : RK m a c := ⟨h2.1.trans h1.1, fun q e f => (h2.2.1 q e f).trans (h1.2.1 q e f), fun j h => (h2.2.2 j h).trans (h1.2.2 j h)⟩
theorem RK.sI {m : Nat} {μ μ2 : Mem} (h : RK m μ μ2) {j x : Int} (hj : 9 ≤ j ∧ j ≤ 13) : RK m μ (setI μ2 m j x) := ⟨h.1, fun a h1 h2 => (funext fun i => ifn (fun e => h1 e)).trans (h.2.1 a h1 h2), fun i hi => (if_neg (by omega)).trans (h.2.2 i hi)⟩
theorem RK.s7 {m : Nat} {μ μ2 : Mem} (h : RK m μ μ2) {j x : Int} : RK m μ (setI μ2 (m + 7) j x) := ⟨h.1, fun a h1 h2 => (funext fun i => ifn (fun e => h2 e)).trans (h.2.1 a h1 h2), fun i hi => (ifn (by omega)).trans (h.2.2 i hi)⟩
theorem RTap.mono {m : Nat} {μ μ2 : Mem} {T : Tq} (h : RTap m μ T) (h8 : μ2.1 m 8 = μ.1 m 8) (h6 : μ2.1 (m + 6) = μ.1 (m + 6)) : RTap m μ2 T := by
  unfold RTap at *
  rw [h8, h6]
  exact h
theorem RTap.rk {m : Nat} {μ μ2 : Mem} {T : Tq} (h : RTap m μ T) (hk : RK m μ μ2) : RTap m μ2 T := h.mono (hk.2.2 8 (by omega)) (hk.2.1 _ (by omega) (by omega))
/-- the token at hand -/
def AT (m : Nat) (μ : Mem) (T : Tq) (τ : Sg) : Prop := μ.1 m 10 = sF τ ∧ μ.1 m 11 = sK τ ∧ (sK τ ≠ 4 → μ.1 m 9 = sT τ) ∧ (sK τ = 2 → μ.1 m 12 = numV T (sF τ) (sT τ)) ∧
  (sK τ = 1 → μ.1 m 13 = sT τ - sF τ ∧ ∀ i, 0 ≤ i → i < sT τ - sF τ → μ.1 (m + 7) i = T.1 (sF τ + i))
theorem sm_dg {c : Int} (h : isAl c = true) : b2i (isSm c) + b2i (isDg c) = 1 := by
  unfold isAl isSm isDg at *
  simp only [Bool.or_eq_true, decide_eq_true_eq] at h
  rcases h with h | h
  · rw [decide_eq_true h, decide_eq_false (by omega)]; rfl
  · rw [decide_eq_true h, decide_eq_false (by omega)]; rfl
def pkk (T : Tq) (k : Int) : Int := if k < T.2 then T.1 k else -1
theorem pkk_in {T : Tq} {k : Int} (h : k < T.2) : pkk T k = T.1 k := if_pos h
theorem pkk_out {T : Tq} {k : Int} (h : T.2 ≤ k) : pkk T k = -1 := if_neg (by omega)
theorem m_isSmall {sh : Sh} {μ : Mem} {c : Int} (hc : -2147483648 ≤ c ∧ c < 2147483648)  : FMet yX12_isSmall gX12_isSmall sh [vI c] μ (some (vI (b2i (isSm c)))) μ := by
  refine AMet.of (by decide) rfl (by decide) rfl ?_
  refine r_iload_n dX12_isSmall_0 rfl ?_
  refine r_bipush dX12_isSmall_1 (by decide) ?_
  refine r_bipush dX12_isSmall_3 (by decide) ?_
  refine r_cS3F1 dX12_isSmall_5 ml_X12_73 yl_X12_isIn ⟨rfl, rfl⟩ rfl rfl rfl rfl (m_isIn (by omega) (by omega) (by omega)) ?_
  refine r_zreturn dX12_isSmall_8 (by first | exact Or.inl rfl | exact Or.inr rfl | exact b2i_01 _ | omega) rfl rfl rfl ?_
  refine ⟨rI ?_, rfl, rfl⟩
  unfold isSm
  rfl
theorem m_isDigit {sh : Sh} {μ : Mem} {c : Int} (hc : -2147483648 ≤ c ∧ c < 2147483648)  : FMet yX12_isDigit gX12_isDigit sh [vI c] μ (some (vI (b2i (isDg c)))) μ := by
  refine AMet.of (by decide) rfl (by decide) rfl ?_
  refine r_iload_n dX12_isDigit_0 rfl ?_
  refine r_bipush dX12_isDigit_1 (by decide) ?_
  refine r_bipush dX12_isDigit_3 (by decide) ?_
  refine r_cS3F1 dX12_isDigit_5 ml_X12_73 yl_X12_isIn ⟨rfl, rfl⟩ rfl rfl rfl rfl (m_isIn (by omega) (by omega) (by omega)) ?_
  refine r_zreturn dX12_isDigit_8 (by first | exact Or.inl rfl | exact Or.inr rfl | exact b2i_01 _ | omega) rfl rfl rfl ?_
  refine ⟨rI ?_, rfl, rfl⟩
  unfold isDg
  rfl
theorem m_peek {sh : Sh} {μ : Mem} {m : Nat} {T : Tq} (hM : IsModel sh μ.2.2 m) (hT : RTap m μ T) {k : Int} (h9 : μ.1 m 9 = k) (hk : 0 ≤ k ∧ k ≤ T.2)  : FMet yX12_peek gX12_peek sh [vR m] μ (some (vI (pkk T k))) μ := by
  obtain ⟨g0, f1, z1, f2, z2, f3, z3, f4, z4, f5, z5, f6, z6, f7, z7, f8, z8, f9, z9, f10, z10, f11, z11, f12, z12, f13, z13, f14, z14⟩ := id hM
  obtain ⟨t1, t2, t3⟩ := id hT
  refine AMet.of (by decide) rfl (by decide) rfl ?_
  refine r_aload_n dX12_peek_0 rfl ?_
  refine r_getI dX12_peek_1 fl_X12_67 rfl (by assumption) ?_
  (try rw [h9]); (try rw [t1])
  refine r_aload_n dX12_peek_4 rfl ?_
  refine r_getI dX12_peek_5 fl_X12_70 rfl (by assumption) ?_
  (try rw [h9]); (try rw [t1])
  refine q_icmp_ge (tgt := 27) dX12_peek_8 rfl (by omega) (by omega) (fun c8 => ?_) (fun c8 => ?_)
  · refine r_iconst dX12_peek_27 ?_
    refine r_ireturn dX12_peek_28 rfl rfl rfl ?_
    refine ⟨rI ?_, rfl, rfl⟩
    first | rw [pkk_in (by omega)] | rw [pkk_out (by omega)]
  · have tk := t3 k (by omega) (by omega)
    refine r_aload_n dX12_peek_11 rfl ?_
    refine r_getR dX12_peek_12 fl_X12_26 rfl (by assumption) (by assumption) ?_
    refine r_aload_n dX12_peek_15 rfl ?_
    refine r_getI dX12_peek_16 fl_X12_67 rfl (by assumption) ?_
    (try rw [h9]); (try rw [t1])
    refine r_bald dX12_peek_19 (by assumption) rfl (by omega) ?_
    refine r_sipush dX12_peek_20 (by decide) ?_
    refine r_iand dX12_peek_23 ?_
    rw [tk.2.1]
    refine r_goto (tgt := 28) dX12_peek_24 rfl ?_
    refine r_ireturn dX12_peek_28 rfl rfl rfl ?_
    refine ⟨rI ?_, rfl, rfl⟩
    first | rw [pkk_in (by omega)] | rw [pkk_out (by omega)]
theorem m_bad {sh : Sh} {μ : Mem} {m : Nat} (hM : IsModel sh μ.2.2 m) {k v : Int}  : FMet yX12_bad gX12_bad sh [vR m, vI k, vI v] μ (some (vI 0)) (setI (setI μ m 14 k) m 15 v) := by
  obtain ⟨g0, f1, z1, f2, z2, f3, z3, f4, z4, f5, z5, f6, z6, f7, z7, f8, z8, f9, z9, f10, z10, f11, z11, f12, z12, f13, z13, f14, z14⟩ := id hM
  refine AMet.of (by decide) rfl (by decide) rfl ?_
  refine r_aload_n dX12_bad_0 rfl ?_
  refine r_iload_n dX12_bad_1 rfl ?_
  refine r_putI dX12_bad_2 fl_X12_77 (by assumption) ?_
  refine r_aload_n dX12_bad_5 rfl ?_
  refine r_iload_n dX12_bad_6 rfl ?_
  refine r_putI dX12_bad_7 fl_X12_80 (by assumption) ?_
  refine r_iconst dX12_bad_10 ?_
  refine r_zreturn dX12_bad_11 (by first | exact Or.inl rfl | exact Or.inr rfl | exact b2i_01 _ | omega) rfl rfl rfl ?_
  exact ⟨rfl, rfl, rfl⟩
theorem m_badHere {sh : Sh} {μ : Mem} {m : Nat} (hM : IsModel sh μ.2.2 m) {k : Int}  : FMet yX12_badHere gX12_badHere sh [vR m, vI k] μ (some (vI 0)) (setI (setI μ m 14 k) m 15 (μ.1 m 10)) := by
  obtain ⟨g0, f1, z1, f2, z2, f3, z3, f4, z4, f5, z5, f6, z6, f7, z7, f8, z8, f9, z9, f10, z10, f11, z11, f12, z12, f13, z13, f14, z14⟩ := id hM
  refine AMet.of (by decide) rfl (by decide) rfl ?_
  refine r_aload_n dX12_badHere_0 rfl ?_
  refine r_iload_n dX12_badHere_1 rfl ?_
  refine r_aload_n dX12_badHere_2 rfl ?_
  refine r_getI dX12_badHere_3 fl_X12_83 rfl (by assumption) ?_
  refine r_cV2F1 dX12_badHere_6 ml_X12_86 yl_X12_bad ⟨rfl, rfl⟩ (by assumption) ⟨_, rfl⟩ rfl rfl rfl rfl (m_bad hM) ?_
  refine r_zreturn dX12_badHere_9 (by first | exact Or.inl rfl | exact Or.inr rfl | exact b2i_01 _ | omega) rfl rfl rfl ?_
  exact ⟨rfl, rfl, rfl⟩
theorem m_next {sh : Sh} {μ : Mem} {m : Nat} {T : Tq} (hM : IsModel sh μ.2.2 m) (hT : RTap m μ T) {p : Int} (h9 : μ.1 m 9 = p) (hp : 0 ≤ p ∧ p ≤ T.2) (pl : Int)  : VMet yX12_next gX12_next sh [vR m] μ (fun μ2 => RK m μ μ2 ∧ AT m μ2 T (nx2 T (runE (isSp T.1) (T.2 - p).toNat p) pl)) := by
  obtain ⟨t1, t2, t3⟩ := id hT
  have lB : ∀ (f n : Nat) (oc o3 : Option AV) (k : Int) (a s d pl : Int) (μ' : Mem), n < f → 0 ≤ k → k + n = T.2 → RK m μ μ' → (μ'.1 m 9 = k ∧ μ'.1 m 10 = a) → μ'.1 m 12 = fld (fun i v => v * 10 + T.1 i - 48) (min (k - a) 3).toNat a 0 → (∀ i, 0 ≤ i → i < k - a → i < 8 → μ'.1 (m + 7) i = T.1 (a + i)) → (0 ≤ a ∧ a ≤ k ∧ a < T.2) → (k = a → isAl (T.1 k) = true) → (s + d = k - a ∧ 0 ≤ s ∧ 0 ≤ d) → AW gX12_next sh μ' 0 0 93 [some (vR m), oc, some (vI s), o3] [] (fun r2 sh2 μ2 => r2 = none ∧ sh2 = sh ∧ RK m μ μ2 ∧ AT m μ2 T (runE (fun i => isAl (T.1 i)) n k, a, kindF (runE (fun i => isAl (T.1 i)) n k - a) (d + dgE T.1 n k), 0, pl)) := by
    intro f
    induction f with
    | zero => intro n; intros; omega
    | succ f ih =>
      intro n oc o3 k a s d pl μ' hf hk hn2 hk1 h910 hnum hlet ha hka hsd0
      have hM1 : IsModel sh μ'.2.2 m := by rw [hk1.1]; exact hM
      have hT1 : RTap m μ' T := hT.rk hk1
      obtain ⟨h9, h10⟩ := h910
      obtain ⟨g0, f1, z1, f2, z2, f3, z3, f4, z4, f5, z5, f6, z6, f7, z7, f8, z8, f9, z9, f10, z10, f11, z11, f12, z12, f13, z13, f14, z14⟩ := id hM1
      clear g0
      have g0 := hM1.1
      by_cases hend : T.2 ≤ k
      · have hpk : pkk T k = -1 := pkk_out hend
        refine r_aload_n dX12_next_93 rfl ?_
        refine r_cV0F1 dX12_next_94 ml_X12_90 yl_X12_peek ⟨rfl, rfl⟩ (by assumption) ⟨_, rfl⟩ rfl rfl rfl rfl ((by first | exact m_peek hM1 hT1 h9 (by omega) | exact m_peek hM2 hT2 h92 (by omega))) ?_
        refine r_cS1F1 dX12_next_97 ml_X12_97 yl_X12_isSmall ⟨rfl, rfl⟩ rfl rfl rfl rfl (m_isSmall (by omega)) ?_
        refine r_if_neB (tgt := 113) dX12_next_100 rfl (fun c100 => ?_) (fun c100 => ?_)
        · exact absurd c100 (by rw [hpk]; decide)
        · refine r_aload_n dX12_next_103 rfl ?_
          refine r_cV0F1 dX12_next_104 ml_X12_90 yl_X12_peek ⟨rfl, rfl⟩ (by assumption) ⟨_, rfl⟩ rfl rfl rfl rfl ((by first | exact m_peek hM1 hT1 h9 (by omega) | exact m_peek hM2 hT2 h92 (by omega))) ?_
          refine r_cS1F1 dX12_next_107 ml_X12_101 yl_X12_isDigit ⟨rfl, rfl⟩ rfl rfl rfl rfl (m_isDigit (by omega)) ?_
          refine r_if_eqB (tgt := 202) dX12_next_110 rfl (fun c110 => ?_) (fun c110 => ?_)
          · obtain rfl : n = 0 := by omega
            have hrun : runE (fun i => isAl (T.1 i)) 0 k = k := rfl
            have hdg : dgE T.1 0 k = 0 := rfl
            refine r_aload_n dX12_next_202 rfl ?_
            refine r_aload_n dX12_next_203 rfl ?_
            refine r_getI dX12_next_204 fl_X12_67 rfl (by assumption) ?_
            (try rw [h9]); (try rw [h10]); (try (simp (disch := omega) only [sI_at, sI_ne, sI_nj]; try rw [h9]; try rw [h10]))
            refine r_aload_n dX12_next_207 rfl ?_
            refine r_getI dX12_next_208 fl_X12_83 rfl (by assumption) ?_
            (try rw [h9]); (try rw [h10]); (try (simp (disch := omega) only [sI_at, sI_ne, sI_nj]; try rw [h9]; try rw [h10]))
            refine r_isub dX12_next_211 ?_
            refine r_putI dX12_next_212 fl_X12_107 (by assumption) ?_
            refine r_aload_n dX12_next_215 rfl ?_
            refine r_iload_n dX12_next_216 rfl ?_
            refine r_aload_n dX12_next_217 rfl ?_
            refine r_getI dX12_next_218 fl_X12_107 rfl (by assumption) ?_
            (try rw [h9]); (try rw [h10]); (try (simp (disch := omega) only [sI_at, sI_ne, sI_nj]; try rw [h9]; try rw [h10]))
            refine q_icmp_ne (tgt := 237) dX12_next_221 rfl (by omega) (by omega) (fun c221 => ?_) (fun c221 => ?_)
            · refine r_iload_n dX12_next_237 rfl ?_
              refine q_if_ne (tgt := 253) dX12_next_238 rfl (by omega) (fun c238 => ?_) (fun c238 => ?_)
              · refine r_iconst dX12_next_253 ?_
                refine r_putI dX12_next_254 fl_X12_94 (by assumption) ?_
                refine r_return dX12_next_257 rfl rfl rfl ?_
                refine ⟨rfl, rfl, ((hk1.sI (by omega)).sI (by omega)), ?_⟩
                unfold AT
                simp only [mkT, mkF, mkK, mkE, mkP]
                rw [hrun, hdg]
                have hkd : kindF (k - a) d = 4 := by
                  unfold kindF
                  first | (rw [if_pos (by omega)]; done) | (rw [if_neg (by omega), if_pos (by omega)]; done) | (rw [if_neg (by omega), if_neg (by omega)]; done)
                rw [Int.add_zero, hkd]
                simp (disch := omega) only [sI_at, sI_ne, sI_nj, sI_L]
                refine ⟨h10, trivial, fun _ => h9, fun h2 => ?_, fun h1 => ?_⟩
                · first
                  | exact absurd h2 (by decide)
                  | rw [hnum, Int.min_eq_left (by omega)]; rfl
                · first
                  | exact absurd h1 (by decide)
                  | exact ⟨rfl, fun i h3 h4 => hlet i h3 (by omega) (by omega)⟩
                  | exact ⟨trivial, fun i h3 h4 => hlet i h3 (by omega) (by omega)⟩
              · refine r_aload_n dX12_next_241 rfl ?_
                refine r_getI dX12_next_242 fl_X12_107 rfl (by assumption) ?_
                (try rw [h9]); (try rw [h10]); (try (simp (disch := omega) only [sI_at, sI_ne, sI_nj]; try rw [h9]; try rw [h10]))
                refine r_iconst dX12_next_245 ?_
                refine q_icmp_ge (tgt := 253) dX12_next_246 rfl (by omega) (by omega) (fun c246 => ?_) (fun c246 => ?_)
                · refine r_iconst dX12_next_253 ?_
                  refine r_putI dX12_next_254 fl_X12_94 (by assumption) ?_
                  refine r_return dX12_next_257 rfl rfl rfl ?_
                  refine ⟨rfl, rfl, ((hk1.sI (by omega)).sI (by omega)), ?_⟩
                  unfold AT
                  simp only [mkT, mkF, mkK, mkE, mkP]
                  rw [hrun, hdg]
                  have hkd : kindF (k - a) d = 4 := by
                    unfold kindF
                    first | (rw [if_pos (by omega)]; done) | (rw [if_neg (by omega), if_pos (by omega)]; done) | (rw [if_neg (by omega), if_neg (by omega)]; done)
                  rw [Int.add_zero, hkd]
                  simp (disch := omega) only [sI_at, sI_ne, sI_nj, sI_L]
                  refine ⟨h10, trivial, fun _ => h9, fun h2 => ?_, fun h1 => ?_⟩
                  · first
                    | exact absurd h2 (by decide)
                    | rw [hnum, Int.min_eq_left (by omega)]; rfl
                  · first
                    | exact absurd h1 (by decide)
                    | exact ⟨rfl, fun i h3 h4 => hlet i h3 (by omega) (by omega)⟩
                    | exact ⟨trivial, fun i h3 h4 => hlet i h3 (by omega) (by omega)⟩
                · refine r_iconst dX12_next_249 ?_
                  refine r_goto (tgt := 254) dX12_next_250 rfl ?_
                  refine r_putI dX12_next_254 fl_X12_94 (by assumption) ?_
                  refine r_return dX12_next_257 rfl rfl rfl ?_
                  refine ⟨rfl, rfl, ((hk1.sI (by omega)).sI (by omega)), ?_⟩
                  unfold AT
                  simp only [mkT, mkF, mkK, mkE, mkP]
                  rw [hrun, hdg]
                  have hkd : kindF (k - a) d = 2 := by
                    unfold kindF
                    first | (rw [if_pos (by omega)]; done) | (rw [if_neg (by omega), if_pos (by omega)]; done) | (rw [if_neg (by omega), if_neg (by omega)]; done)
                  rw [Int.add_zero, hkd]
                  simp (disch := omega) only [sI_at, sI_ne, sI_nj, sI_L]
                  refine ⟨h10, trivial, fun _ => h9, fun h2 => ?_, fun h1 => ?_⟩
                  · first
                    | exact absurd h2 (by decide)
                    | rw [hnum, Int.min_eq_left (by omega)]; rfl
                  · first
                    | exact absurd h1 (by decide)
                    | exact ⟨rfl, fun i h3 h4 => hlet i h3 (by omega) (by omega)⟩
                    | exact ⟨trivial, fun i h3 h4 => hlet i h3 (by omega) (by omega)⟩
            · refine r_aload_n dX12_next_224 rfl ?_
              refine r_getI dX12_next_225 fl_X12_107 rfl (by assumption) ?_
              (try rw [h9]); (try rw [h10]); (try (simp (disch := omega) only [sI_at, sI_ne, sI_nj]; try rw [h9]; try rw [h10]))
              refine r_bipush dX12_next_228 (by decide) ?_
              refine q_icmp_ge (tgt := 237) dX12_next_230 rfl (by omega) (by omega) (fun c230 => ?_) (fun c230 => ?_)
              · refine r_iload_n dX12_next_237 rfl ?_
                refine q_if_ne (tgt := 253) dX12_next_238 rfl (by omega) (fun c238 => ?_) (fun c238 => ?_)
                · refine r_iconst dX12_next_253 ?_
                  refine r_putI dX12_next_254 fl_X12_94 (by assumption) ?_
                  refine r_return dX12_next_257 rfl rfl rfl ?_
                  refine ⟨rfl, rfl, ((hk1.sI (by omega)).sI (by omega)), ?_⟩
                  unfold AT
                  simp only [mkT, mkF, mkK, mkE, mkP]
                  rw [hrun, hdg]
                  have hkd : kindF (k - a) d = 4 := by
                    unfold kindF
                    first | (rw [if_pos (by omega)]; done) | (rw [if_neg (by omega), if_pos (by omega)]; done) | (rw [if_neg (by omega), if_neg (by omega)]; done)
                  rw [Int.add_zero, hkd]
                  simp (disch := omega) only [sI_at, sI_ne, sI_nj, sI_L]
                  refine ⟨h10, trivial, fun _ => h9, fun h2 => ?_, fun h1 => ?_⟩
                  · first
                    | exact absurd h2 (by decide)
                    | rw [hnum, Int.min_eq_left (by omega)]; rfl
                  · first
                    | exact absurd h1 (by decide)
                    | exact ⟨rfl, fun i h3 h4 => hlet i h3 (by omega) (by omega)⟩
                    | exact ⟨trivial, fun i h3 h4 => hlet i h3 (by omega) (by omega)⟩
                · refine r_aload_n dX12_next_241 rfl ?_
                  refine r_getI dX12_next_242 fl_X12_107 rfl (by assumption) ?_
                  (try rw [h9]); (try rw [h10]); (try (simp (disch := omega) only [sI_at, sI_ne, sI_nj]; try rw [h9]; try rw [h10]))
                  refine r_iconst dX12_next_245 ?_
                  refine q_icmp_ge (tgt := 253) dX12_next_246 rfl (by omega) (by omega) (fun c246 => ?_) (fun c246 => ?_)
                  · refine r_iconst dX12_next_253 ?_
                    refine r_putI dX12_next_254 fl_X12_94 (by assumption) ?_
                    refine r_return dX12_next_257 rfl rfl rfl ?_
                    refine ⟨rfl, rfl, ((hk1.sI (by omega)).sI (by omega)), ?_⟩
                    unfold AT
                    simp only [mkT, mkF, mkK, mkE, mkP]
                    rw [hrun, hdg]
                    have hkd : kindF (k - a) d = 4 := by
                      unfold kindF
                      first | (rw [if_pos (by omega)]; done) | (rw [if_neg (by omega), if_pos (by omega)]; done) | (rw [if_neg (by omega), if_neg (by omega)]; done)
                    rw [Int.add_zero, hkd]
                    simp (disch := omega) only [sI_at, sI_ne, sI_nj, sI_L]
                    refine ⟨h10, trivial, fun _ => h9, fun h2 => ?_, fun h1 => ?_⟩
                    · first
                      | exact absurd h2 (by decide)
                      | rw [hnum, Int.min_eq_left (by omega)]; rfl
                    · first
                      | exact absurd h1 (by decide)
                      | exact ⟨rfl, fun i h3 h4 => hlet i h3 (by omega) (by omega)⟩
                      | exact ⟨trivial, fun i h3 h4 => hlet i h3 (by omega) (by omega)⟩
                  · refine r_iconst dX12_next_249 ?_
                    refine r_goto (tgt := 254) dX12_next_250 rfl ?_
                    refine r_putI dX12_next_254 fl_X12_94 (by assumption) ?_
                    refine r_return dX12_next_257 rfl rfl rfl ?_
                    refine ⟨rfl, rfl, ((hk1.sI (by omega)).sI (by omega)), ?_⟩
                    unfold AT
                    simp only [mkT, mkF, mkK, mkE, mkP]
                    rw [hrun, hdg]
                    have hkd : kindF (k - a) d = 2 := by
                      unfold kindF
                      first | (rw [if_pos (by omega)]; done) | (rw [if_neg (by omega), if_pos (by omega)]; done) | (rw [if_neg (by omega), if_neg (by omega)]; done)
                    rw [Int.add_zero, hkd]
                    simp (disch := omega) only [sI_at, sI_ne, sI_nj, sI_L]
                    refine ⟨h10, trivial, fun _ => h9, fun h2 => ?_, fun h1 => ?_⟩
                    · first
                      | exact absurd h2 (by decide)
                      | rw [hnum, Int.min_eq_left (by omega)]; rfl
                    · first
                      | exact absurd h1 (by decide)
                      | exact ⟨rfl, fun i h3 h4 => hlet i h3 (by omega) (by omega)⟩
                      | exact ⟨trivial, fun i h3 h4 => hlet i h3 (by omega) (by omega)⟩
              · refine r_iconst dX12_next_233 ?_
                refine r_goto (tgt := 254) dX12_next_234 rfl ?_
                refine r_putI dX12_next_254 fl_X12_94 (by assumption) ?_
                refine r_return dX12_next_257 rfl rfl rfl ?_
                refine ⟨rfl, rfl, ((hk1.sI (by omega)).sI (by omega)), ?_⟩
                unfold AT
                simp only [mkT, mkF, mkK, mkE, mkP]
                rw [hrun, hdg]
                have hkd : kindF (k - a) d = 1 := by
                  unfold kindF
                  first | (rw [if_pos (by omega)]; done) | (rw [if_neg (by omega), if_pos (by omega)]; done) | (rw [if_neg (by omega), if_neg (by omega)]; done)
                rw [Int.add_zero, hkd]
                simp (disch := omega) only [sI_at, sI_ne, sI_nj, sI_L]
                refine ⟨h10, trivial, fun _ => h9, fun h2 => ?_, fun h1 => ?_⟩
                · first
                  | exact absurd h2 (by decide)
                  | rw [hnum, Int.min_eq_left (by omega)]; rfl
                · first
                  | exact absurd h1 (by decide)
                  | exact ⟨rfl, fun i h3 h4 => hlet i h3 (by omega) (by omega)⟩
                  | exact ⟨trivial, fun i h3 h4 => hlet i h3 (by omega) (by omega)⟩
          · exact absurd c110 (by rw [hpk]; decide)
      · have hpk : pkk T k = T.1 k := pkk_in (by omega)
        have tk := t3 k (by omega) (by omega)
        refine r_aload_n dX12_next_93 rfl ?_
        refine r_cV0F1 dX12_next_94 ml_X12_90 yl_X12_peek ⟨rfl, rfl⟩ (by assumption) ⟨_, rfl⟩ rfl rfl rfl rfl ((by first | exact m_peek hM1 hT1 h9 (by omega) | exact m_peek hM2 hT2 h92 (by omega))) ?_
        rw [hpk]
        refine r_cS1F1 dX12_next_97 ml_X12_97 yl_X12_isSmall ⟨rfl, rfl⟩ rfl rfl rfl rfl (m_isSmall (by omega)) ?_
        refine r_if_neB (tgt := 113) dX12_next_100 rfl (fun c100 => ?_) (fun c100 => ?_)
        · have hal : isAl (T.1 k) = true := by
            unfold isAl
            first | (rw [c100]; rfl) | (rw [c110]; simp)
          obtain ⟨q, rfl⟩ : ∃ q, n = q + 1 := ⟨n - 1, by omega⟩
          refine r_aload_n dX12_next_113 rfl ?_
          refine r_getI dX12_next_114 fl_X12_67 rfl (by assumption) ?_
          (try rw [h9]); (try rw [h10]); (try (simp (disch := omega) only [sI_at, sI_ne, sI_nj]; try rw [h9]; try rw [h10]))
          refine r_aload_n dX12_next_117 rfl ?_
          refine r_getI dX12_next_118 fl_X12_83 rfl (by assumption) ?_
          (try rw [h9]); (try rw [h10]); (try (simp (disch := omega) only [sI_at, sI_ne, sI_nj]; try rw [h9]; try rw [h10]))
          refine r_isub dX12_next_121 ?_
          refine r_istore_n dX12_next_122 rfl ?_
          refine r_iload_n dX12_next_123 rfl ?_
          refine r_bipush dX12_next_124 (by decide) ?_
          refine q_icmp_ge (tgt := 140) dX12_next_126 rfl (by omega) (by omega) (fun c126 => ?_) (fun c126 => ?_)
          · refine r_iload_n dX12_next_140 rfl ?_
            refine r_aload_n dX12_next_141 rfl ?_
            refine r_cV0F1 dX12_next_142 ml_X12_90 yl_X12_peek ⟨rfl, rfl⟩ (by assumption) ⟨_, rfl⟩ rfl rfl rfl rfl ((by first | exact m_peek hM1 hT1 h9 (by omega) | exact m_peek hM2 hT2 h92 (by omega))) ?_
            rw [hpk]
            refine r_cS1F1 dX12_next_145 ml_X12_97 yl_X12_isSmall ⟨rfl, rfl⟩ rfl rfl rfl rfl (m_isSmall (by omega)) ?_
            refine r_if_eqB (tgt := 155) dX12_next_148 rfl (fun c148 => ?_) (fun c148 => ?_)
            · refine r_iconst dX12_next_155 ?_
              refine r_iadd dX12_next_156 ?_
              refine r_istore_n dX12_next_157 rfl ?_
              refine r_aload_n dX12_next_158 rfl ?_
              refine r_iload_n dX12_next_159 rfl ?_
              refine r_iconst dX12_next_160 ?_
              refine q_icmp_ge (tgt := 182) dX12_next_161 rfl (by omega) (by omega) (fun c161 => ?_) (fun c161 => ?_)
              · refine r_aload_n dX12_next_182 rfl ?_
                refine r_getI dX12_next_183 fl_X12_104 rfl (by assumption) ?_
                (try rw [h9]); (try rw [h10]); (try (simp (disch := omega) only [sI_at, sI_ne, sI_nj]; try rw [h9]; try rw [h10]))
                refine r_putI dX12_next_186 fl_X12_104 (by assumption) ?_
                refine r_aload_n dX12_next_189 rfl ?_
                refine r_dup dX12_next_190 rfl ?_
                refine r_getI dX12_next_191 fl_X12_67 rfl (by assumption) ?_
                (try rw [h9]); (try rw [h10]); (try (simp (disch := omega) only [sI_at, sI_ne, sI_nj]; try rw [h9]; try rw [h10]))
                refine r_iconst dX12_next_194 ?_
                refine r_iadd dX12_next_195 ?_
                refine r_putI dX12_next_196 fl_X12_67 (by assumption) ?_
                refine r_goto (tgt := 93) dX12_next_199 rfl ?_
                rw [runE, dgE, if_pos hal, if_pos hal]
                have hb := b2i_01 (isDg (T.1 k))
                have hsd := sm_dg hal
                have e1 : b2i true = 1 := rfl
                have e0 : b2i false = 0 := rfl
                rw [c148] at hsd
                simp only [e1, e0] at hsd
                have hlt : T.1 k < 128 := by
                  unfold isAl isSm isDg at hal
                  simp only [Bool.or_eq_true, decide_eq_true_eq] at hal
                  omega
                rw [← Int.add_assoc]
                refine ih q _ _ (k + 1) a _ (d + b2i (isDg (T.1 k))) pl _ (by omega) (by omega) (by omega) (by first | exact ((hk1.s7).sI (by omega)).sI (by omega) | exact (hk1.sI (by omega)).sI (by omega)) ⟨by simp (disch := omega) only [sI_at, sI_ne, sI_nj], by (simp (disch := omega) only [sI_at, sI_ne, sI_nj]; exact h10)⟩ ?_ ?_ (by omega) (fun e => by omega) (by omega)
                · simp (disch := omega) only [sI_at, sI_ne, sI_nj]
                  first
                  | (rw [show (min (k + 1 - a) 3).toNat = (min (k - a) 3).toNat + 1 by omega, fld_snoc, ← hnum, show a + ((min (k - a) 3).toNat : Int) = k by omega]; omega)
                  | (rw [show (min (k + 1 - a) 3).toNat = (min (k - a) 3).toNat by omega]; exact hnum)
                · intro i hi0 hi1 hi8
                  first
                  | (simp (disch := omega) only [sI_ne]
                     by_cases e : i = k - a
                     · rw [e, sI_at, i2b_id (by omega), show a + (k - a) = k by omega]
                     · rw [sI_nj (by omega)]; exact hlet i hi0 (by omega) hi8)
                  | (simp (disch := omega) only [sI_ne]; exact hlet i hi0 (by omega) hi8)
              · refine r_bipush dX12_next_164 (by decide) ?_
                refine r_aload_n dX12_next_166 rfl ?_
                refine r_getI dX12_next_167 fl_X12_104 rfl (by assumption) ?_
                (try rw [h9]); (try rw [h10]); (try (simp (disch := omega) only [sI_at, sI_ne, sI_nj]; try rw [h9]; try rw [h10]))
                refine r_imul dX12_next_170 ?_
                refine r_aload_n dX12_next_171 rfl ?_
                refine r_cV0F1 dX12_next_172 ml_X12_90 yl_X12_peek ⟨rfl, rfl⟩ (by assumption) ⟨_, rfl⟩ rfl rfl rfl rfl ((by first | exact m_peek hM1 hT1 h9 (by omega) | exact m_peek hM2 hT2 h92 (by omega))) ?_
                rw [hpk]
                refine r_iadd dX12_next_175 ?_
                refine r_bipush dX12_next_176 (by decide) ?_
                refine r_isub dX12_next_178 ?_
                refine r_goto (tgt := 186) dX12_next_179 rfl ?_
                refine r_putI dX12_next_186 fl_X12_104 (by assumption) ?_
                refine r_aload_n dX12_next_189 rfl ?_
                refine r_dup dX12_next_190 rfl ?_
                refine r_getI dX12_next_191 fl_X12_67 rfl (by assumption) ?_
                (try rw [h9]); (try rw [h10]); (try (simp (disch := omega) only [sI_at, sI_ne, sI_nj]; try rw [h9]; try rw [h10]))
                refine r_iconst dX12_next_194 ?_
                refine r_iadd dX12_next_195 ?_
                refine r_putI dX12_next_196 fl_X12_67 (by assumption) ?_
                refine r_goto (tgt := 93) dX12_next_199 rfl ?_
                rw [runE, dgE, if_pos hal, if_pos hal]
                have hb := b2i_01 (isDg (T.1 k))
                have hsd := sm_dg hal
                have e1 : b2i true = 1 := rfl
                have e0 : b2i false = 0 := rfl
                rw [c148] at hsd
                simp only [e1, e0] at hsd
                have hlt : T.1 k < 128 := by
                  unfold isAl isSm isDg at hal
                  simp only [Bool.or_eq_true, decide_eq_true_eq] at hal
                  omega
                rw [← Int.add_assoc]
                refine ih q _ _ (k + 1) a _ (d + b2i (isDg (T.1 k))) pl _ (by omega) (by omega) (by omega) (by first | exact ((hk1.s7).sI (by omega)).sI (by omega) | exact (hk1.sI (by omega)).sI (by omega)) ⟨by simp (disch := omega) only [sI_at, sI_ne, sI_nj], by (simp (disch := omega) only [sI_at, sI_ne, sI_nj]; exact h10)⟩ ?_ ?_ (by omega) (fun e => by omega) (by omega)
                · simp (disch := omega) only [sI_at, sI_ne, sI_nj]
                  first
                  | (rw [show (min (k + 1 - a) 3).toNat = (min (k - a) 3).toNat + 1 by omega, fld_snoc, ← hnum, show a + ((min (k - a) 3).toNat : Int) = k by omega]; omega)
                  | (rw [show (min (k + 1 - a) 3).toNat = (min (k - a) 3).toNat by omega]; exact hnum)
                · intro i hi0 hi1 hi8
                  first
                  | (simp (disch := omega) only [sI_ne]
                     by_cases e : i = k - a
                     · rw [e, sI_at, i2b_id (by omega), show a + (k - a) = k by omega]
                     · rw [sI_nj (by omega)]; exact hlet i hi0 (by omega) hi8)
                  | (simp (disch := omega) only [sI_ne]; exact hlet i hi0 (by omega) hi8)
            · refine r_iconst dX12_next_151 ?_
              refine r_goto (tgt := 156) dX12_next_152 rfl ?_
              refine r_iadd dX12_next_156 ?_
              refine r_istore_n dX12_next_157 rfl ?_
              refine r_aload_n dX12_next_158 rfl ?_
              refine r_iload_n dX12_next_159 rfl ?_
              refine r_iconst dX12_next_160 ?_
              refine q_icmp_ge (tgt := 182) dX12_next_161 rfl (by omega) (by omega) (fun c161 => ?_) (fun c161 => ?_)
              · refine r_aload_n dX12_next_182 rfl ?_
                refine r_getI dX12_next_183 fl_X12_104 rfl (by assumption) ?_
                (try rw [h9]); (try rw [h10]); (try (simp (disch := omega) only [sI_at, sI_ne, sI_nj]; try rw [h9]; try rw [h10]))
                refine r_putI dX12_next_186 fl_X12_104 (by assumption) ?_
                refine r_aload_n dX12_next_189 rfl ?_
                refine r_dup dX12_next_190 rfl ?_
                refine r_getI dX12_next_191 fl_X12_67 rfl (by assumption) ?_
                (try rw [h9]); (try rw [h10]); (try (simp (disch := omega) only [sI_at, sI_ne, sI_nj]; try rw [h9]; try rw [h10]))
                refine r_iconst dX12_next_194 ?_
                refine r_iadd dX12_next_195 ?_
                refine r_putI dX12_next_196 fl_X12_67 (by assumption) ?_
                refine r_goto (tgt := 93) dX12_next_199 rfl ?_
                rw [runE, dgE, if_pos hal, if_pos hal]
                have hb := b2i_01 (isDg (T.1 k))
                have hsd := sm_dg hal
                have e1 : b2i true = 1 := rfl
                have e0 : b2i false = 0 := rfl
                rw [c148] at hsd
                simp only [e1, e0] at hsd
                have hlt : T.1 k < 128 := by
                  unfold isAl isSm isDg at hal
                  simp only [Bool.or_eq_true, decide_eq_true_eq] at hal
                  omega
                rw [← Int.add_assoc]
                refine ih q _ _ (k + 1) a _ (d + b2i (isDg (T.1 k))) pl _ (by omega) (by omega) (by omega) (by first | exact ((hk1.s7).sI (by omega)).sI (by omega) | exact (hk1.sI (by omega)).sI (by omega)) ⟨by simp (disch := omega) only [sI_at, sI_ne, sI_nj], by (simp (disch := omega) only [sI_at, sI_ne, sI_nj]; exact h10)⟩ ?_ ?_ (by omega) (fun e => by omega) (by omega)
                · simp (disch := omega) only [sI_at, sI_ne, sI_nj]
                  first
                  | (rw [show (min (k + 1 - a) 3).toNat = (min (k - a) 3).toNat + 1 by omega, fld_snoc, ← hnum, show a + ((min (k - a) 3).toNat : Int) = k by omega]; omega)
                  | (rw [show (min (k + 1 - a) 3).toNat = (min (k - a) 3).toNat by omega]; exact hnum)
                · intro i hi0 hi1 hi8
                  first
                  | (simp (disch := omega) only [sI_ne]
                     by_cases e : i = k - a
                     · rw [e, sI_at, i2b_id (by omega), show a + (k - a) = k by omega]
                     · rw [sI_nj (by omega)]; exact hlet i hi0 (by omega) hi8)
                  | (simp (disch := omega) only [sI_ne]; exact hlet i hi0 (by omega) hi8)
              · refine r_bipush dX12_next_164 (by decide) ?_
                refine r_aload_n dX12_next_166 rfl ?_
                refine r_getI dX12_next_167 fl_X12_104 rfl (by assumption) ?_
                (try rw [h9]); (try rw [h10]); (try (simp (disch := omega) only [sI_at, sI_ne, sI_nj]; try rw [h9]; try rw [h10]))
                refine r_imul dX12_next_170 ?_
                refine r_aload_n dX12_next_171 rfl ?_
                refine r_cV0F1 dX12_next_172 ml_X12_90 yl_X12_peek ⟨rfl, rfl⟩ (by assumption) ⟨_, rfl⟩ rfl rfl rfl rfl ((by first | exact m_peek hM1 hT1 h9 (by omega) | exact m_peek hM2 hT2 h92 (by omega))) ?_
                rw [hpk]
                refine r_iadd dX12_next_175 ?_
                refine r_bipush dX12_next_176 (by decide) ?_
                refine r_isub dX12_next_178 ?_
                refine r_goto (tgt := 186) dX12_next_179 rfl ?_
                refine r_putI dX12_next_186 fl_X12_104 (by assumption) ?_
                refine r_aload_n dX12_next_189 rfl ?_
                refine r_dup dX12_next_190 rfl ?_
                refine r_getI dX12_next_191 fl_X12_67 rfl (by assumption) ?_
                (try rw [h9]); (try rw [h10]); (try (simp (disch := omega) only [sI_at, sI_ne, sI_nj]; try rw [h9]; try rw [h10]))
                refine r_iconst dX12_next_194 ?_
                refine r_iadd dX12_next_195 ?_
                refine r_putI dX12_next_196 fl_X12_67 (by assumption) ?_
                refine r_goto (tgt := 93) dX12_next_199 rfl ?_
                rw [runE, dgE, if_pos hal, if_pos hal]
                have hb := b2i_01 (isDg (T.1 k))
                have hsd := sm_dg hal
                have e1 : b2i true = 1 := rfl
                have e0 : b2i false = 0 := rfl
                rw [c148] at hsd
                simp only [e1, e0] at hsd
                have hlt : T.1 k < 128 := by
                  unfold isAl isSm isDg at hal
                  simp only [Bool.or_eq_true, decide_eq_true_eq] at hal
                  omega
                rw [← Int.add_assoc]
                refine ih q _ _ (k + 1) a _ (d + b2i (isDg (T.1 k))) pl _ (by omega) (by omega) (by omega) (by first | exact ((hk1.s7).sI (by omega)).sI (by omega) | exact (hk1.sI (by omega)).sI (by omega)) ⟨by simp (disch := omega) only [sI_at, sI_ne, sI_nj], by (simp (disch := omega) only [sI_at, sI_ne, sI_nj]; exact h10)⟩ ?_ ?_ (by omega) (fun e => by omega) (by omega)
                · simp (disch := omega) only [sI_at, sI_ne, sI_nj]
                  first
                  | (rw [show (min (k + 1 - a) 3).toNat = (min (k - a) 3).toNat + 1 by omega, fld_snoc, ← hnum, show a + ((min (k - a) 3).toNat : Int) = k by omega]; omega)
                  | (rw [show (min (k + 1 - a) 3).toNat = (min (k - a) 3).toNat by omega]; exact hnum)
                · intro i hi0 hi1 hi8
                  first
                  | (simp (disch := omega) only [sI_ne]
                     by_cases e : i = k - a
                     · rw [e, sI_at, i2b_id (by omega), show a + (k - a) = k by omega]
                     · rw [sI_nj (by omega)]; exact hlet i hi0 (by omega) hi8)
                  | (simp (disch := omega) only [sI_ne]; exact hlet i hi0 (by omega) hi8)
          · refine r_aload_n dX12_next_129 rfl ?_
            refine r_getR dX12_next_130 fl_X12_30 rfl (by assumption) (by assumption) ?_
            refine r_iload_n dX12_next_133 rfl ?_
            refine r_aload_n dX12_next_134 rfl ?_
            refine r_cV0F1 dX12_next_135 ml_X12_90 yl_X12_peek ⟨rfl, rfl⟩ (by assumption) ⟨_, rfl⟩ rfl rfl rfl rfl ((by first | exact m_peek hM1 hT1 h9 (by omega) | exact m_peek hM2 hT2 h92 (by omega))) ?_
            rw [hpk]
            refine r_i2b dX12_next_138 ?_
            refine r_bast dX12_next_139 (by assumption) rfl (by omega) (i2b_rng _) ?_
            have hM2 : IsModel sh (setI μ' (m + 7) (k - a) (i2b (T.1 k))).2.2 m := hM1
            have hT2 : RTap m (setI μ' (m + 7) (k - a) (i2b (T.1 k))) T := hT.rk hk1.s7
            have h92 : (setI μ' (m + 7) (k - a) (i2b (T.1 k))).1 m 9 = k := by rw [sI_ne (by omega)]; exact h9
            refine r_iload_n dX12_next_140 rfl ?_
            refine r_aload_n dX12_next_141 rfl ?_
            refine r_cV0F1 dX12_next_142 ml_X12_90 yl_X12_peek ⟨rfl, rfl⟩ (by assumption) ⟨_, rfl⟩ rfl rfl rfl rfl ((by first | exact m_peek hM1 hT1 h9 (by omega) | exact m_peek hM2 hT2 h92 (by omega))) ?_
            rw [hpk]
            refine r_cS1F1 dX12_next_145 ml_X12_97 yl_X12_isSmall ⟨rfl, rfl⟩ rfl rfl rfl rfl (m_isSmall (by omega)) ?_
            refine r_if_eqB (tgt := 155) dX12_next_148 rfl (fun c148 => ?_) (fun c148 => ?_)
            · refine r_iconst dX12_next_155 ?_
              refine r_iadd dX12_next_156 ?_
              refine r_istore_n dX12_next_157 rfl ?_
              refine r_aload_n dX12_next_158 rfl ?_
              refine r_iload_n dX12_next_159 rfl ?_
              refine r_iconst dX12_next_160 ?_
              refine q_icmp_ge (tgt := 182) dX12_next_161 rfl (by omega) (by omega) (fun c161 => ?_) (fun c161 => ?_)
              · refine r_aload_n dX12_next_182 rfl ?_
                refine r_getI dX12_next_183 fl_X12_104 rfl (by assumption) ?_
                (try rw [h9]); (try rw [h10]); (try (simp (disch := omega) only [sI_at, sI_ne, sI_nj]; try rw [h9]; try rw [h10]))
                refine r_putI dX12_next_186 fl_X12_104 (by assumption) ?_
                refine r_aload_n dX12_next_189 rfl ?_
                refine r_dup dX12_next_190 rfl ?_
                refine r_getI dX12_next_191 fl_X12_67 rfl (by assumption) ?_
                (try rw [h9]); (try rw [h10]); (try (simp (disch := omega) only [sI_at, sI_ne, sI_nj]; try rw [h9]; try rw [h10]))
                refine r_iconst dX12_next_194 ?_
                refine r_iadd dX12_next_195 ?_
                refine r_putI dX12_next_196 fl_X12_67 (by assumption) ?_
                refine r_goto (tgt := 93) dX12_next_199 rfl ?_
                rw [runE, dgE, if_pos hal, if_pos hal]
                have hb := b2i_01 (isDg (T.1 k))
                have hsd := sm_dg hal
                have e1 : b2i true = 1 := rfl
                have e0 : b2i false = 0 := rfl
                rw [c148] at hsd
                simp only [e1, e0] at hsd
                have hlt : T.1 k < 128 := by
                  unfold isAl isSm isDg at hal
                  simp only [Bool.or_eq_true, decide_eq_true_eq] at hal
                  omega
                rw [← Int.add_assoc]
                refine ih q _ _ (k + 1) a _ (d + b2i (isDg (T.1 k))) pl _ (by omega) (by omega) (by omega) (by first | exact ((hk1.s7).sI (by omega)).sI (by omega) | exact (hk1.sI (by omega)).sI (by omega)) ⟨by simp (disch := omega) only [sI_at, sI_ne, sI_nj], by (simp (disch := omega) only [sI_at, sI_ne, sI_nj]; exact h10)⟩ ?_ ?_ (by omega) (fun e => by omega) (by omega)
                · simp (disch := omega) only [sI_at, sI_ne, sI_nj]
                  first
                  | (rw [show (min (k + 1 - a) 3).toNat = (min (k - a) 3).toNat + 1 by omega, fld_snoc, ← hnum, show a + ((min (k - a) 3).toNat : Int) = k by omega]; omega)
                  | (rw [show (min (k + 1 - a) 3).toNat = (min (k - a) 3).toNat by omega]; exact hnum)
                · intro i hi0 hi1 hi8
                  first
                  | (simp (disch := omega) only [sI_ne]
                     by_cases e : i = k - a
                     · rw [e, sI_at, i2b_id (by omega), show a + (k - a) = k by omega]
                     · rw [sI_nj (by omega)]; exact hlet i hi0 (by omega) hi8)
                  | (simp (disch := omega) only [sI_ne]; exact hlet i hi0 (by omega) hi8)
              · refine r_bipush dX12_next_164 (by decide) ?_
                refine r_aload_n dX12_next_166 rfl ?_
                refine r_getI dX12_next_167 fl_X12_104 rfl (by assumption) ?_
                (try rw [h9]); (try rw [h10]); (try (simp (disch := omega) only [sI_at, sI_ne, sI_nj]; try rw [h9]; try rw [h10]))
                refine r_imul dX12_next_170 ?_
                refine r_aload_n dX12_next_171 rfl ?_
                refine r_cV0F1 dX12_next_172 ml_X12_90 yl_X12_peek ⟨rfl, rfl⟩ (by assumption) ⟨_, rfl⟩ rfl rfl rfl rfl ((by first | exact m_peek hM1 hT1 h9 (by omega) | exact m_peek hM2 hT2 h92 (by omega))) ?_
                rw [hpk]
                refine r_iadd dX12_next_175 ?_
                refine r_bipush dX12_next_176 (by decide) ?_
                refine r_isub dX12_next_178 ?_
                refine r_goto (tgt := 186) dX12_next_179 rfl ?_
                refine r_putI dX12_next_186 fl_X12_104 (by assumption) ?_
                refine r_aload_n dX12_next_189 rfl ?_
                refine r_dup dX12_next_190 rfl ?_
                refine r_getI dX12_next_191 fl_X12_67 rfl (by assumption) ?_
                (try rw [h9]); (try rw [h10]); (try (simp (disch := omega) only [sI_at, sI_ne, sI_nj]; try rw [h9]; try rw [h10]))
                refine r_iconst dX12_next_194 ?_
                refine r_iadd dX12_next_195 ?_
                refine r_putI dX12_next_196 fl_X12_67 (by assumption) ?_
                refine r_goto (tgt := 93) dX12_next_199 rfl ?_
                rw [runE, dgE, if_pos hal, if_pos hal]
                have hb := b2i_01 (isDg (T.1 k))
                have hsd := sm_dg hal
                have e1 : b2i true = 1 := rfl
                have e0 : b2i false = 0 := rfl
                rw [c148] at hsd
                simp only [e1, e0] at hsd
                have hlt : T.1 k < 128 := by
                  unfold isAl isSm isDg at hal
                  simp only [Bool.or_eq_true, decide_eq_true_eq] at hal
                  omega
                rw [← Int.add_assoc]
                refine ih q _ _ (k + 1) a _ (d + b2i (isDg (T.1 k))) pl _ (by omega) (by omega) (by omega) (by first | exact ((hk1.s7).sI (by omega)).sI (by omega) | exact (hk1.sI (by omega)).sI (by omega)) ⟨by simp (disch := omega) only [sI_at, sI_ne, sI_nj], by (simp (disch := omega) only [sI_at, sI_ne, sI_nj]; exact h10)⟩ ?_ ?_ (by omega) (fun e => by omega) (by omega)
                · simp (disch := omega) only [sI_at, sI_ne, sI_nj]
                  first
                  | (rw [show (min (k + 1 - a) 3).toNat = (min (k - a) 3).toNat + 1 by omega, fld_snoc, ← hnum, show a + ((min (k - a) 3).toNat : Int) = k by omega]; omega)
                  | (rw [show (min (k + 1 - a) 3).toNat = (min (k - a) 3).toNat by omega]; exact hnum)
                · intro i hi0 hi1 hi8
                  first
                  | (simp (disch := omega) only [sI_ne]
                     by_cases e : i = k - a
                     · rw [e, sI_at, i2b_id (by omega), show a + (k - a) = k by omega]
                     · rw [sI_nj (by omega)]; exact hlet i hi0 (by omega) hi8)
                  | (simp (disch := omega) only [sI_ne]; exact hlet i hi0 (by omega) hi8)
            · refine r_iconst dX12_next_151 ?_
              refine r_goto (tgt := 156) dX12_next_152 rfl ?_
              refine r_iadd dX12_next_156 ?_
              refine r_istore_n dX12_next_157 rfl ?_
              refine r_aload_n dX12_next_158 rfl ?_
              refine r_iload_n dX12_next_159 rfl ?_
              refine r_iconst dX12_next_160 ?_
              refine q_icmp_ge (tgt := 182) dX12_next_161 rfl (by omega) (by omega) (fun c161 => ?_) (fun c161 => ?_)
              · refine r_aload_n dX12_next_182 rfl ?_
                refine r_getI dX12_next_183 fl_X12_104 rfl (by assumption) ?_
                (try rw [h9]); (try rw [h10]); (try (simp (disch := omega) only [sI_at, sI_ne, sI_nj]; try rw [h9]; try rw [h10]))
                refine r_putI dX12_next_186 fl_X12_104 (by assumption) ?_
                refine r_aload_n dX12_next_189 rfl ?_
                refine r_dup dX12_next_190 rfl ?_
                refine r_getI dX12_next_191 fl_X12_67 rfl (by assumption) ?_
                (try rw [h9]); (try rw [h10]); (try (simp (disch := omega) only [sI_at, sI_ne, sI_nj]; try rw [h9]; try rw [h10]))
                refine r_iconst dX12_next_194 ?_
                refine r_iadd dX12_next_195 ?_
                refine r_putI dX12_next_196 fl_X12_67 (by assumption) ?_
                refine r_goto (tgt := 93) dX12_next_199 rfl ?_
                rw [runE, dgE, if_pos hal, if_pos hal]
                have hb := b2i_01 (isDg (T.1 k))
                have hsd := sm_dg hal
                have e1 : b2i true = 1 := rfl
                have e0 : b2i false = 0 := rfl
                rw [c148] at hsd
                simp only [e1, e0] at hsd
                have hlt : T.1 k < 128 := by
                  unfold isAl isSm isDg at hal
                  simp only [Bool.or_eq_true, decide_eq_true_eq] at hal
                  omega
                rw [← Int.add_assoc]
                refine ih q _ _ (k + 1) a _ (d + b2i (isDg (T.1 k))) pl _ (by omega) (by omega) (by omega) (by first | exact ((hk1.s7).sI (by omega)).sI (by omega) | exact (hk1.sI (by omega)).sI (by omega)) ⟨by simp (disch := omega) only [sI_at, sI_ne, sI_nj], by (simp (disch := omega) only [sI_at, sI_ne, sI_nj]; exact h10)⟩ ?_ ?_ (by omega) (fun e => by omega) (by omega)
                · simp (disch := omega) only [sI_at, sI_ne, sI_nj]
                  first
                  | (rw [show (min (k + 1 - a) 3).toNat = (min (k - a) 3).toNat + 1 by omega, fld_snoc, ← hnum, show a + ((min (k - a) 3).toNat : Int) = k by omega]; omega)
                  | (rw [show (min (k + 1 - a) 3).toNat = (min (k - a) 3).toNat by omega]; exact hnum)
                · intro i hi0 hi1 hi8
                  first
                  | (simp (disch := omega) only [sI_ne]
                     by_cases e : i = k - a
                     · rw [e, sI_at, i2b_id (by omega), show a + (k - a) = k by omega]
                     · rw [sI_nj (by omega)]; exact hlet i hi0 (by omega) hi8)
                  | (simp (disch := omega) only [sI_ne]; exact hlet i hi0 (by omega) hi8)
              · refine r_bipush dX12_next_164 (by decide) ?_
                refine r_aload_n dX12_next_166 rfl ?_
                refine r_getI dX12_next_167 fl_X12_104 rfl (by assumption) ?_
                (try rw [h9]); (try rw [h10]); (try (simp (disch := omega) only [sI_at, sI_ne, sI_nj]; try rw [h9]; try rw [h10]))
                refine r_imul dX12_next_170 ?_
                refine r_aload_n dX12_next_171 rfl ?_
                refine r_cV0F1 dX12_next_172 ml_X12_90 yl_X12_peek ⟨rfl, rfl⟩ (by assumption) ⟨_, rfl⟩ rfl rfl rfl rfl ((by first | exact m_peek hM1 hT1 h9 (by omega) | exact m_peek hM2 hT2 h92 (by omega))) ?_
                rw [hpk]
                refine r_iadd dX12_next_175 ?_
                refine r_bipush dX12_next_176 (by decide) ?_
                refine r_isub dX12_next_178 ?_
                refine r_goto (tgt := 186) dX12_next_179 rfl ?_
                refine r_putI dX12_next_186 fl_X12_104 (by assumption) ?_
                refine r_aload_n dX12_next_189 rfl ?_
                refine r_dup dX12_next_190 rfl ?_
                refine r_getI dX12_next_191 fl_X12_67 rfl (by assumption) ?_
                (try rw [h9]); (try rw [h10]); (try (simp (disch := omega) only [sI_at, sI_ne, sI_nj]; try rw [h9]; try rw [h10]))
                refine r_iconst dX12_next_194 ?_
                refine r_iadd dX12_next_195 ?_
                refine r_putI dX12_next_196 fl_X12_67 (by assumption) ?_
                refine r_goto (tgt := 93) dX12_next_199 rfl ?_
                rw [runE, dgE, if_pos hal, if_pos hal]
                have hb := b2i_01 (isDg (T.1 k))
                have hsd := sm_dg hal
                have e1 : b2i true = 1 := rfl
                have e0 : b2i false = 0 := rfl
                rw [c148] at hsd
                simp only [e1, e0] at hsd
                have hlt : T.1 k < 128 := by
                  unfold isAl isSm isDg at hal
                  simp only [Bool.or_eq_true, decide_eq_true_eq] at hal
                  omega
                rw [← Int.add_assoc]
                refine ih q _ _ (k + 1) a _ (d + b2i (isDg (T.1 k))) pl _ (by omega) (by omega) (by omega) (by first | exact ((hk1.s7).sI (by omega)).sI (by omega) | exact (hk1.sI (by omega)).sI (by omega)) ⟨by simp (disch := omega) only [sI_at, sI_ne, sI_nj], by (simp (disch := omega) only [sI_at, sI_ne, sI_nj]; exact h10)⟩ ?_ ?_ (by omega) (fun e => by omega) (by omega)
                · simp (disch := omega) only [sI_at, sI_ne, sI_nj]
                  first
                  | (rw [show (min (k + 1 - a) 3).toNat = (min (k - a) 3).toNat + 1 by omega, fld_snoc, ← hnum, show a + ((min (k - a) 3).toNat : Int) = k by omega]; omega)
                  | (rw [show (min (k + 1 - a) 3).toNat = (min (k - a) 3).toNat by omega]; exact hnum)
                · intro i hi0 hi1 hi8
                  first
                  | (simp (disch := omega) only [sI_ne]
                     by_cases e : i = k - a
                     · rw [e, sI_at, i2b_id (by omega), show a + (k - a) = k by omega]
                     · rw [sI_nj (by omega)]; exact hlet i hi0 (by omega) hi8)
                  | (simp (disch := omega) only [sI_ne]; exact hlet i hi0 (by omega) hi8)
        · refine r_aload_n dX12_next_103 rfl ?_
          refine r_cV0F1 dX12_next_104 ml_X12_90 yl_X12_peek ⟨rfl, rfl⟩ (by assumption) ⟨_, rfl⟩ rfl rfl rfl rfl ((by first | exact m_peek hM1 hT1 h9 (by omega) | exact m_peek hM2 hT2 h92 (by omega))) ?_
          rw [hpk]
          refine r_cS1F1 dX12_next_107 ml_X12_101 yl_X12_isDigit ⟨rfl, rfl⟩ rfl rfl rfl rfl (m_isDigit (by omega)) ?_
          refine r_if_eqB (tgt := 202) dX12_next_110 rfl (fun c110 => ?_) (fun c110 => ?_)
          · have hal : isAl (T.1 k) = false := by unfold isAl; rw [c100, c110]; rfl
            have hka2 : ¬ k = a := fun e => by have := hka e; rw [hal] at this; exact Bool.false_ne_true this
            obtain ⟨q, rfl⟩ : ∃ q, n = q + 1 := ⟨n - 1, by omega⟩
            have hrun : runE (fun i => isAl (T.1 i)) (q + 1) k = k := by rw [runE, if_neg (by rw [hal]; decide)]
            have hdg : dgE T.1 (q + 1) k = 0 := by rw [dgE, if_neg (by rw [hal]; decide)]
            refine r_aload_n dX12_next_202 rfl ?_
            refine r_aload_n dX12_next_203 rfl ?_
            refine r_getI dX12_next_204 fl_X12_67 rfl (by assumption) ?_
            (try rw [h9]); (try rw [h10]); (try (simp (disch := omega) only [sI_at, sI_ne, sI_nj]; try rw [h9]; try rw [h10]))
            refine r_aload_n dX12_next_207 rfl ?_
            refine r_getI dX12_next_208 fl_X12_83 rfl (by assumption) ?_
            (try rw [h9]); (try rw [h10]); (try (simp (disch := omega) only [sI_at, sI_ne, sI_nj]; try rw [h9]; try rw [h10]))
            refine r_isub dX12_next_211 ?_
            refine r_putI dX12_next_212 fl_X12_107 (by assumption) ?_
            refine r_aload_n dX12_next_215 rfl ?_
            refine r_iload_n dX12_next_216 rfl ?_
            refine r_aload_n dX12_next_217 rfl ?_
            refine r_getI dX12_next_218 fl_X12_107 rfl (by assumption) ?_
            (try rw [h9]); (try rw [h10]); (try (simp (disch := omega) only [sI_at, sI_ne, sI_nj]; try rw [h9]; try rw [h10]))
            refine q_icmp_ne (tgt := 237) dX12_next_221 rfl (by omega) (by omega) (fun c221 => ?_) (fun c221 => ?_)
            · refine r_iload_n dX12_next_237 rfl ?_
              refine q_if_ne (tgt := 253) dX12_next_238 rfl (by omega) (fun c238 => ?_) (fun c238 => ?_)
              · refine r_iconst dX12_next_253 ?_
                refine r_putI dX12_next_254 fl_X12_94 (by assumption) ?_
                refine r_return dX12_next_257 rfl rfl rfl ?_
                refine ⟨rfl, rfl, ((hk1.sI (by omega)).sI (by omega)), ?_⟩
                unfold AT
                simp only [mkT, mkF, mkK, mkE, mkP]
                rw [hrun, hdg]
                have hkd : kindF (k - a) d = 4 := by
                  unfold kindF
                  first | (rw [if_pos (by omega)]; done) | (rw [if_neg (by omega), if_pos (by omega)]; done) | (rw [if_neg (by omega), if_neg (by omega)]; done)
                rw [Int.add_zero, hkd]
                simp (disch := omega) only [sI_at, sI_ne, sI_nj, sI_L]
                refine ⟨h10, trivial, fun _ => h9, fun h2 => ?_, fun h1 => ?_⟩
                · first
                  | exact absurd h2 (by decide)
                  | rw [hnum, Int.min_eq_left (by omega)]; rfl
                · first
                  | exact absurd h1 (by decide)
                  | exact ⟨rfl, fun i h3 h4 => hlet i h3 (by omega) (by omega)⟩
                  | exact ⟨trivial, fun i h3 h4 => hlet i h3 (by omega) (by omega)⟩
              · refine r_aload_n dX12_next_241 rfl ?_
                refine r_getI dX12_next_242 fl_X12_107 rfl (by assumption) ?_
                (try rw [h9]); (try rw [h10]); (try (simp (disch := omega) only [sI_at, sI_ne, sI_nj]; try rw [h9]; try rw [h10]))
                refine r_iconst dX12_next_245 ?_
                refine q_icmp_ge (tgt := 253) dX12_next_246 rfl (by omega) (by omega) (fun c246 => ?_) (fun c246 => ?_)
                · refine r_iconst dX12_next_253 ?_
                  refine r_putI dX12_next_254 fl_X12_94 (by assumption) ?_
                  refine r_return dX12_next_257 rfl rfl rfl ?_
                  refine ⟨rfl, rfl, ((hk1.sI (by omega)).sI (by omega)), ?_⟩
                  unfold AT
                  simp only [mkT, mkF, mkK, mkE, mkP]
                  rw [hrun, hdg]
                  have hkd : kindF (k - a) d = 4 := by
                    unfold kindF
                    first | (rw [if_pos (by omega)]; done) | (rw [if_neg (by omega), if_pos (by omega)]; done) | (rw [if_neg (by omega), if_neg (by omega)]; done)
                  rw [Int.add_zero, hkd]
                  simp (disch := omega) only [sI_at, sI_ne, sI_nj, sI_L]
                  refine ⟨h10, trivial, fun _ => h9, fun h2 => ?_, fun h1 => ?_⟩
                  · first
                    | exact absurd h2 (by decide)
                    | rw [hnum, Int.min_eq_left (by omega)]; rfl
                  · first
                    | exact absurd h1 (by decide)
                    | exact ⟨rfl, fun i h3 h4 => hlet i h3 (by omega) (by omega)⟩
                    | exact ⟨trivial, fun i h3 h4 => hlet i h3 (by omega) (by omega)⟩
                · refine r_iconst dX12_next_249 ?_
                  refine r_goto (tgt := 254) dX12_next_250 rfl ?_
                  refine r_putI dX12_next_254 fl_X12_94 (by assumption) ?_
                  refine r_return dX12_next_257 rfl rfl rfl ?_
                  refine ⟨rfl, rfl, ((hk1.sI (by omega)).sI (by omega)), ?_⟩
                  unfold AT
                  simp only [mkT, mkF, mkK, mkE, mkP]
                  rw [hrun, hdg]
                  have hkd : kindF (k - a) d = 2 := by
                    unfold kindF
                    first | (rw [if_pos (by omega)]; done) | (rw [if_neg (by omega), if_pos (by omega)]; done) | (rw [if_neg (by omega), if_neg (by omega)]; done)
                  rw [Int.add_zero, hkd]
                  simp (disch := omega) only [sI_at, sI_ne, sI_nj, sI_L]
                  refine ⟨h10, trivial, fun _ => h9, fun h2 => ?_, fun h1 => ?_⟩
                  · first
                    | exact absurd h2 (by decide)
                    | rw [hnum, Int.min_eq_left (by omega)]; rfl
                  · first
                    | exact absurd h1 (by decide)
                    | exact ⟨rfl, fun i h3 h4 => hlet i h3 (by omega) (by omega)⟩
                    | exact ⟨trivial, fun i h3 h4 => hlet i h3 (by omega) (by omega)⟩
            · refine r_aload_n dX12_next_224 rfl ?_
              refine r_getI dX12_next_225 fl_X12_107 rfl (by assumption) ?_
              (try rw [h9]); (try rw [h10]); (try (simp (disch := omega) only [sI_at, sI_ne, sI_nj]; try rw [h9]; try rw [h10]))
              refine r_bipush dX12_next_228 (by decide) ?_
              refine q_icmp_ge (tgt := 237) dX12_next_230 rfl (by omega) (by omega) (fun c230 => ?_) (fun c230 => ?_)
              · refine r_iload_n dX12_next_237 rfl ?_
                refine q_if_ne (tgt := 253) dX12_next_238 rfl (by omega) (fun c238 => ?_) (fun c238 => ?_)
                · refine r_iconst dX12_next_253 ?_
                  refine r_putI dX12_next_254 fl_X12_94 (by assumption) ?_
                  refine r_return dX12_next_257 rfl rfl rfl ?_
                  refine ⟨rfl, rfl, ((hk1.sI (by omega)).sI (by omega)), ?_⟩
                  unfold AT
                  simp only [mkT, mkF, mkK, mkE, mkP]
                  rw [hrun, hdg]
                  have hkd : kindF (k - a) d = 4 := by
                    unfold kindF
                    first | (rw [if_pos (by omega)]; done) | (rw [if_neg (by omega), if_pos (by omega)]; done) | (rw [if_neg (by omega), if_neg (by omega)]; done)
                  rw [Int.add_zero, hkd]
                  simp (disch := omega) only [sI_at, sI_ne, sI_nj, sI_L]
                  refine ⟨h10, trivial, fun _ => h9, fun h2 => ?_, fun h1 => ?_⟩
                  · first
                    | exact absurd h2 (by decide)
                    | rw [hnum, Int.min_eq_left (by omega)]; rfl
                  · first
                    | exact absurd h1 (by decide)
                    | exact ⟨rfl, fun i h3 h4 => hlet i h3 (by omega) (by omega)⟩
                    | exact ⟨trivial, fun i h3 h4 => hlet i h3 (by omega) (by omega)⟩
                · refine r_aload_n dX12_next_241 rfl ?_
                  refine r_getI dX12_next_242 fl_X12_107 rfl (by assumption) ?_
                  (try rw [h9]); (try rw [h10]); (try (simp (disch := omega) only [sI_at, sI_ne, sI_nj]; try rw [h9]; try rw [h10]))
                  refine r_iconst dX12_next_245 ?_
                  refine q_icmp_ge (tgt := 253) dX12_next_246 rfl (by omega) (by omega) (fun c246 => ?_) (fun c246 => ?_)
                  · refine r_iconst dX12_next_253 ?_
                    refine r_putI dX12_next_254 fl_X12_94 (by assumption) ?_
                    refine r_return dX12_next_257 rfl rfl rfl ?_
                    refine ⟨rfl, rfl, ((hk1.sI (by omega)).sI (by omega)), ?_⟩
                    unfold AT
                    simp only [mkT, mkF, mkK, mkE, mkP]
                    rw [hrun, hdg]
                    have hkd : kindF (k - a) d = 4 := by
                      unfold kindF
                      first | (rw [if_pos (by omega)]; done) | (rw [if_neg (by omega), if_pos (by omega)]; done) | (rw [if_neg (by omega), if_neg (by omega)]; done)
                    rw [Int.add_zero, hkd]
                    simp (disch := omega) only [sI_at, sI_ne, sI_nj, sI_L]
                    refine ⟨h10, trivial, fun _ => h9, fun h2 => ?_, fun h1 => ?_⟩
                    · first
                      | exact absurd h2 (by decide)
                      | rw [hnum, Int.min_eq_left (by omega)]; rfl
                    · first
                      | exact absurd h1 (by decide)
                      | exact ⟨rfl, fun i h3 h4 => hlet i h3 (by omega) (by omega)⟩
                      | exact ⟨trivial, fun i h3 h4 => hlet i h3 (by omega) (by omega)⟩
                  · refine r_iconst dX12_next_249 ?_
                    refine r_goto (tgt := 254) dX12_next_250 rfl ?_
                    refine r_putI dX12_next_254 fl_X12_94 (by assumption) ?_
                    refine r_return dX12_next_257 rfl rfl rfl ?_
                    refine ⟨rfl, rfl, ((hk1.sI (by omega)).sI (by omega)), ?_⟩
                    unfold AT
                    simp only [mkT, mkF, mkK, mkE, mkP]
                    rw [hrun, hdg]
                    have hkd : kindF (k - a) d = 2 := by
                      unfold kindF
                      first | (rw [if_pos (by omega)]; done) | (rw [if_neg (by omega), if_pos (by omega)]; done) | (rw [if_neg (by omega), if_neg (by omega)]; done)
                    rw [Int.add_zero, hkd]
                    simp (disch := omega) only [sI_at, sI_ne, sI_nj, sI_L]
                    refine ⟨h10, trivial, fun _ => h9, fun h2 => ?_, fun h1 => ?_⟩
                    · first
                      | exact absurd h2 (by decide)
                      | rw [hnum, Int.min_eq_left (by omega)]; rfl
                    · first
                      | exact absurd h1 (by decide)
                      | exact ⟨rfl, fun i h3 h4 => hlet i h3 (by omega) (by omega)⟩
                      | exact ⟨trivial, fun i h3 h4 => hlet i h3 (by omega) (by omega)⟩
              · refine r_iconst dX12_next_233 ?_
                refine r_goto (tgt := 254) dX12_next_234 rfl ?_
                refine r_putI dX12_next_254 fl_X12_94 (by assumption) ?_
                refine r_return dX12_next_257 rfl rfl rfl ?_
                refine ⟨rfl, rfl, ((hk1.sI (by omega)).sI (by omega)), ?_⟩
                unfold AT
                simp only [mkT, mkF, mkK, mkE, mkP]
                rw [hrun, hdg]
                have hkd : kindF (k - a) d = 1 := by
                  unfold kindF
                  first | (rw [if_pos (by omega)]; done) | (rw [if_neg (by omega), if_pos (by omega)]; done) | (rw [if_neg (by omega), if_neg (by omega)]; done)
                rw [Int.add_zero, hkd]
                simp (disch := omega) only [sI_at, sI_ne, sI_nj, sI_L]
                refine ⟨h10, trivial, fun _ => h9, fun h2 => ?_, fun h1 => ?_⟩
                · first
                  | exact absurd h2 (by decide)
                  | rw [hnum, Int.min_eq_left (by omega)]; rfl
                · first
                  | exact absurd h1 (by decide)
                  | exact ⟨rfl, fun i h3 h4 => hlet i h3 (by omega) (by omega)⟩
                  | exact ⟨trivial, fun i h3 h4 => hlet i h3 (by omega) (by omega)⟩
          · have hal : isAl (T.1 k) = true := by
              unfold isAl
              first | (rw [c100]; rfl) | (rw [c110]; simp)
            obtain ⟨q, rfl⟩ : ∃ q, n = q + 1 := ⟨n - 1, by omega⟩
            refine r_aload_n dX12_next_113 rfl ?_
            refine r_getI dX12_next_114 fl_X12_67 rfl (by assumption) ?_
            (try rw [h9]); (try rw [h10]); (try (simp (disch := omega) only [sI_at, sI_ne, sI_nj]; try rw [h9]; try rw [h10]))
            refine r_aload_n dX12_next_117 rfl ?_
            refine r_getI dX12_next_118 fl_X12_83 rfl (by assumption) ?_
            (try rw [h9]); (try rw [h10]); (try (simp (disch := omega) only [sI_at, sI_ne, sI_nj]; try rw [h9]; try rw [h10]))
            refine r_isub dX12_next_121 ?_
            refine r_istore_n dX12_next_122 rfl ?_
            refine r_iload_n dX12_next_123 rfl ?_
            refine r_bipush dX12_next_124 (by decide) ?_
            refine q_icmp_ge (tgt := 140) dX12_next_126 rfl (by omega) (by omega) (fun c126 => ?_) (fun c126 => ?_)
            · refine r_iload_n dX12_next_140 rfl ?_
              refine r_aload_n dX12_next_141 rfl ?_
              refine r_cV0F1 dX12_next_142 ml_X12_90 yl_X12_peek ⟨rfl, rfl⟩ (by assumption) ⟨_, rfl⟩ rfl rfl rfl rfl ((by first | exact m_peek hM1 hT1 h9 (by omega) | exact m_peek hM2 hT2 h92 (by omega))) ?_
              rw [hpk]
              refine r_cS1F1 dX12_next_145 ml_X12_97 yl_X12_isSmall ⟨rfl, rfl⟩ rfl rfl rfl rfl (m_isSmall (by omega)) ?_
              refine r_if_eqB (tgt := 155) dX12_next_148 rfl (fun c148 => ?_) (fun c148 => ?_)
              · refine r_iconst dX12_next_155 ?_
                refine r_iadd dX12_next_156 ?_
                refine r_istore_n dX12_next_157 rfl ?_
                refine r_aload_n dX12_next_158 rfl ?_
                refine r_iload_n dX12_next_159 rfl ?_
                refine r_iconst dX12_next_160 ?_
                refine q_icmp_ge (tgt := 182) dX12_next_161 rfl (by omega) (by omega) (fun c161 => ?_) (fun c161 => ?_)
                · refine r_aload_n dX12_next_182 rfl ?_
                  refine r_getI dX12_next_183 fl_X12_104 rfl (by assumption) ?_
                  (try rw [h9]); (try rw [h10]); (try (simp (disch := omega) only [sI_at, sI_ne, sI_nj]; try rw [h9]; try rw [h10]))
                  refine r_putI dX12_next_186 fl_X12_104 (by assumption) ?_
                  refine r_aload_n dX12_next_189 rfl ?_
                  refine r_dup dX12_next_190 rfl ?_
                  refine r_getI dX12_next_191 fl_X12_67 rfl (by assumption) ?_
                  (try rw [h9]); (try rw [h10]); (try (simp (disch := omega) only [sI_at, sI_ne, sI_nj]; try rw [h9]; try rw [h10]))
                  refine r_iconst dX12_next_194 ?_
                  refine r_iadd dX12_next_195 ?_
                  refine r_putI dX12_next_196 fl_X12_67 (by assumption) ?_
                  refine r_goto (tgt := 93) dX12_next_199 rfl ?_
                  rw [runE, dgE, if_pos hal, if_pos hal]
                  have hb := b2i_01 (isDg (T.1 k))
                  have hsd := sm_dg hal
                  have e1 : b2i true = 1 := rfl
                  have e0 : b2i false = 0 := rfl
                  rw [c148] at hsd
                  simp only [e1, e0] at hsd
                  have hlt : T.1 k < 128 := by
                    unfold isAl isSm isDg at hal
                    simp only [Bool.or_eq_true, decide_eq_true_eq] at hal
                    omega
                  rw [← Int.add_assoc]
                  refine ih q _ _ (k + 1) a _ (d + b2i (isDg (T.1 k))) pl _ (by omega) (by omega) (by omega) (by first | exact ((hk1.s7).sI (by omega)).sI (by omega) | exact (hk1.sI (by omega)).sI (by omega)) ⟨by simp (disch := omega) only [sI_at, sI_ne, sI_nj], by (simp (disch := omega) only [sI_at, sI_ne, sI_nj]; exact h10)⟩ ?_ ?_ (by omega) (fun e => by omega) (by omega)
                  · simp (disch := omega) only [sI_at, sI_ne, sI_nj]
                    first
                    | (rw [show (min (k + 1 - a) 3).toNat = (min (k - a) 3).toNat + 1 by omega, fld_snoc, ← hnum, show a + ((min (k - a) 3).toNat : Int) = k by omega]; omega)
                    | (rw [show (min (k + 1 - a) 3).toNat = (min (k - a) 3).toNat by omega]; exact hnum)
                  · intro i hi0 hi1 hi8
                    first
                    | (simp (disch := omega) only [sI_ne]
                       by_cases e : i = k - a
                       · rw [e, sI_at, i2b_id (by omega), show a + (k - a) = k by omega]
                       · rw [sI_nj (by omega)]; exact hlet i hi0 (by omega) hi8)
                    | (simp (disch := omega) only [sI_ne]; exact hlet i hi0 (by omega) hi8)
                · refine r_bipush dX12_next_164 (by decide) ?_
                  refine r_aload_n dX12_next_166 rfl ?_
                  refine r_getI dX12_next_167 fl_X12_104 rfl (by assumption) ?_
                  (try rw [h9]); (try rw [h10]); (try (simp (disch := omega) only [sI_at, sI_ne, sI_nj]; try rw [h9]; try rw [h10]))
                  refine r_imul dX12_next_170 ?_
                  refine r_aload_n dX12_next_171 rfl ?_
                  refine r_cV0F1 dX12_next_172 ml_X12_90 yl_X12_peek ⟨rfl, rfl⟩ (by assumption) ⟨_, rfl⟩ rfl rfl rfl rfl ((by first | exact m_peek hM1 hT1 h9 (by omega) | exact m_peek hM2 hT2 h92 (by omega))) ?_
                  rw [hpk]
                  refine r_iadd dX12_next_175 ?_
                  refine r_bipush dX12_next_176 (by decide) ?_
                  refine r_isub dX12_next_178 ?_
                  refine r_goto (tgt := 186) dX12_next_179 rfl ?_
                  refine r_putI dX12_next_186 fl_X12_104 (by assumption) ?_
                  refine r_aload_n dX12_next_189 rfl ?_
                  refine r_dup dX12_next_190 rfl ?_
                  refine r_getI dX12_next_191 fl_X12_67 rfl (by assumption) ?_
                  (try rw [h9]); (try rw [h10]); (try (simp (disch := omega) only [sI_at, sI_ne, sI_nj]; try rw [h9]; try rw [h10]))
                  refine r_iconst dX12_next_194 ?_
                  refine r_iadd dX12_next_195 ?_
                  refine r_putI dX12_next_196 fl_X12_67 (by assumption) ?_
                  refine r_goto (tgt := 93) dX12_next_199 rfl ?_
                  rw [runE, dgE, if_pos hal, if_pos hal]
                  have hb := b2i_01 (isDg (T.1 k))
                  have hsd := sm_dg hal
                  have e1 : b2i true = 1 := rfl
                  have e0 : b2i false = 0 := rfl
                  rw [c148] at hsd
                  simp only [e1, e0] at hsd
                  have hlt : T.1 k < 128 := by
                    unfold isAl isSm isDg at hal
                    simp only [Bool.or_eq_true, decide_eq_true_eq] at hal
                    omega
                  rw [← Int.add_assoc]
                  refine ih q _ _ (k + 1) a _ (d + b2i (isDg (T.1 k))) pl _ (by omega) (by omega) (by omega) (by first | exact ((hk1.s7).sI (by omega)).sI (by omega) | exact (hk1.sI (by omega)).sI (by omega)) ⟨by simp (disch := omega) only [sI_at, sI_ne, sI_nj], by (simp (disch := omega) only [sI_at, sI_ne, sI_nj]; exact h10)⟩ ?_ ?_ (by omega) (fun e => by omega) (by omega)
                  · simp (disch := omega) only [sI_at, sI_ne, sI_nj]
                    first
                    | (rw [show (min (k + 1 - a) 3).toNat = (min (k - a) 3).toNat + 1 by omega, fld_snoc, ← hnum, show a + ((min (k - a) 3).toNat : Int) = k by omega]; omega)
                    | (rw [show (min (k + 1 - a) 3).toNat = (min (k - a) 3).toNat by omega]; exact hnum)
                  · intro i hi0 hi1 hi8
                    first
                    | (simp (disch := omega) only [sI_ne]
                       by_cases e : i = k - a
                       · rw [e, sI_at, i2b_id (by omega), show a + (k - a) = k by omega]
                       · rw [sI_nj (by omega)]; exact hlet i hi0 (by omega) hi8)
                    | (simp (disch := omega) only [sI_ne]; exact hlet i hi0 (by omega) hi8)
              · refine r_iconst dX12_next_151 ?_
                refine r_goto (tgt := 156) dX12_next_152 rfl ?_
                refine r_iadd dX12_next_156 ?_
                refine r_istore_n dX12_next_157 rfl ?_
                refine r_aload_n dX12_next_158 rfl ?_
                refine r_iload_n dX12_next_159 rfl ?_
                refine r_iconst dX12_next_160 ?_
                refine q_icmp_ge (tgt := 182) dX12_next_161 rfl (by omega) (by omega) (fun c161 => ?_) (fun c161 => ?_)
                · refine r_aload_n dX12_next_182 rfl ?_
                  refine r_getI dX12_next_183 fl_X12_104 rfl (by assumption) ?_
                  (try rw [h9]); (try rw [h10]); (try (simp (disch := omega) only [sI_at, sI_ne, sI_nj]; try rw [h9]; try rw [h10]))
                  refine r_putI dX12_next_186 fl_X12_104 (by assumption) ?_
                  refine r_aload_n dX12_next_189 rfl ?_
                  refine r_dup dX12_next_190 rfl ?_
                  refine r_getI dX12_next_191 fl_X12_67 rfl (by assumption) ?_
                  (try rw [h9]); (try rw [h10]); (try (simp (disch := omega) only [sI_at, sI_ne, sI_nj]; try rw [h9]; try rw [h10]))
                  refine r_iconst dX12_next_194 ?_
                  refine r_iadd dX12_next_195 ?_
                  refine r_putI dX12_next_196 fl_X12_67 (by assumption) ?_
                  refine r_goto (tgt := 93) dX12_next_199 rfl ?_
                  rw [runE, dgE, if_pos hal, if_pos hal]
                  have hb := b2i_01 (isDg (T.1 k))
                  have hsd := sm_dg hal
                  have e1 : b2i true = 1 := rfl
                  have e0 : b2i false = 0 := rfl
                  rw [c148] at hsd
                  simp only [e1, e0] at hsd
                  have hlt : T.1 k < 128 := by
                    unfold isAl isSm isDg at hal
                    simp only [Bool.or_eq_true, decide_eq_true_eq] at hal
                    omega
                  rw [← Int.add_assoc]
                  refine ih q _ _ (k + 1) a _ (d + b2i (isDg (T.1 k))) pl _ (by omega) (by omega) (by omega) (by first | exact ((hk1.s7).sI (by omega)).sI (by omega) | exact (hk1.sI (by omega)).sI (by omega)) ⟨by simp (disch := omega) only [sI_at, sI_ne, sI_nj], by (simp (disch := omega) only [sI_at, sI_ne, sI_nj]; exact h10)⟩ ?_ ?_ (by omega) (fun e => by omega) (by omega)
                  · simp (disch := omega) only [sI_at, sI_ne, sI_nj]
                    first
                    | (rw [show (min (k + 1 - a) 3).toNat = (min (k - a) 3).toNat + 1 by omega, fld_snoc, ← hnum, show a + ((min (k - a) 3).toNat : Int) = k by omega]; omega)
                    | (rw [show (min (k + 1 - a) 3).toNat = (min (k - a) 3).toNat by omega]; exact hnum)
                  · intro i hi0 hi1 hi8
                    first
                    | (simp (disch := omega) only [sI_ne]
                       by_cases e : i = k - a
                       · rw [e, sI_at, i2b_id (by omega), show a + (k - a) = k by omega]
                       · rw [sI_nj (by omega)]; exact hlet i hi0 (by omega) hi8)
                    | (simp (disch := omega) only [sI_ne]; exact hlet i hi0 (by omega) hi8)
                · refine r_bipush dX12_next_164 (by decide) ?_
                  refine r_aload_n dX12_next_166 rfl ?_
                  refine r_getI dX12_next_167 fl_X12_104 rfl (by assumption) ?_
                  (try rw [h9]); (try rw [h10]); (try (simp (disch := omega) only [sI_at, sI_ne, sI_nj]; try rw [h9]; try rw [h10]))
                  refine r_imul dX12_next_170 ?_
                  refine r_aload_n dX12_next_171 rfl ?_
                  refine r_cV0F1 dX12_next_172 ml_X12_90 yl_X12_peek ⟨rfl, rfl⟩ (by assumption) ⟨_, rfl⟩ rfl rfl rfl rfl ((by first | exact m_peek hM1 hT1 h9 (by omega) | exact m_peek hM2 hT2 h92 (by omega))) ?_
                  rw [hpk]
                  refine r_iadd dX12_next_175 ?_
                  refine r_bipush dX12_next_176 (by decide) ?_
                  refine r_isub dX12_next_178 ?_
                  refine r_goto (tgt := 186) dX12_next_179 rfl ?_
                  refine r_putI dX12_next_186 fl_X12_104 (by assumption) ?_
                  refine r_aload_n dX12_next_189 rfl ?_
                  refine r_dup dX12_next_190 rfl ?_
                  refine r_getI dX12_next_191 fl_X12_67 rfl (by assumption) ?_
                  (try rw [h9]); (try rw [h10]); (try (simp (disch := omega) only [sI_at, sI_ne, sI_nj]; try rw [h9]; try rw [h10]))
                  refine r_iconst dX12_next_194 ?_
                  refine r_iadd dX12_next_195 ?_
                  refine r_putI dX12_next_196 fl_X12_67 (by assumption) ?_
                  refine r_goto (tgt := 93) dX12_next_199 rfl ?_
                  rw [runE, dgE, if_pos hal, if_pos hal]
                  have hb := b2i_01 (isDg (T.1 k))
                  have hsd := sm_dg hal
                  have e1 : b2i true = 1 := rfl
                  have e0 : b2i false = 0 := rfl
                  rw [c148] at hsd
                  simp only [e1, e0] at hsd
                  have hlt : T.1 k < 128 := by
                    unfold isAl isSm isDg at hal
                    simp only [Bool.or_eq_true, decide_eq_true_eq] at hal
                    omega
                  rw [← Int.add_assoc]
                  refine ih q _ _ (k + 1) a _ (d + b2i (isDg (T.1 k))) pl _ (by omega) (by omega) (by omega) (by first | exact ((hk1.s7).sI (by omega)).sI (by omega) | exact (hk1.sI (by omega)).sI (by omega)) ⟨by simp (disch := omega) only [sI_at, sI_ne, sI_nj], by (simp (disch := omega) only [sI_at, sI_ne, sI_nj]; exact h10)⟩ ?_ ?_ (by omega) (fun e => by omega) (by omega)
                  · simp (disch := omega) only [sI_at, sI_ne, sI_nj]
                    first
                    | (rw [show (min (k + 1 - a) 3).toNat = (min (k - a) 3).toNat + 1 by omega, fld_snoc, ← hnum, show a + ((min (k - a) 3).toNat : Int) = k by omega]; omega)
                    | (rw [show (min (k + 1 - a) 3).toNat = (min (k - a) 3).toNat by omega]; exact hnum)
                  · intro i hi0 hi1 hi8
                    first
                    | (simp (disch := omega) only [sI_ne]
                       by_cases e : i = k - a
                       · rw [e, sI_at, i2b_id (by omega), show a + (k - a) = k by omega]
                       · rw [sI_nj (by omega)]; exact hlet i hi0 (by omega) hi8)
                    | (simp (disch := omega) only [sI_ne]; exact hlet i hi0 (by omega) hi8)
            · refine r_aload_n dX12_next_129 rfl ?_
              refine r_getR dX12_next_130 fl_X12_30 rfl (by assumption) (by assumption) ?_
              refine r_iload_n dX12_next_133 rfl ?_
              refine r_aload_n dX12_next_134 rfl ?_
              refine r_cV0F1 dX12_next_135 ml_X12_90 yl_X12_peek ⟨rfl, rfl⟩ (by assumption) ⟨_, rfl⟩ rfl rfl rfl rfl ((by first | exact m_peek hM1 hT1 h9 (by omega) | exact m_peek hM2 hT2 h92 (by omega))) ?_
              rw [hpk]
              refine r_i2b dX12_next_138 ?_
              refine r_bast dX12_next_139 (by assumption) rfl (by omega) (i2b_rng _) ?_
              have hM2 : IsModel sh (setI μ' (m + 7) (k - a) (i2b (T.1 k))).2.2 m := hM1
              have hT2 : RTap m (setI μ' (m + 7) (k - a) (i2b (T.1 k))) T := hT.rk hk1.s7
              have h92 : (setI μ' (m + 7) (k - a) (i2b (T.1 k))).1 m 9 = k := by rw [sI_ne (by omega)]; exact h9
              refine r_iload_n dX12_next_140 rfl ?_
              refine r_aload_n dX12_next_141 rfl ?_
              refine r_cV0F1 dX12_next_142 ml_X12_90 yl_X12_peek ⟨rfl, rfl⟩ (by assumption) ⟨_, rfl⟩ rfl rfl rfl rfl ((by first | exact m_peek hM1 hT1 h9 (by omega) | exact m_peek hM2 hT2 h92 (by omega))) ?_
              rw [hpk]
              refine r_cS1F1 dX12_next_145 ml_X12_97 yl_X12_isSmall ⟨rfl, rfl⟩ rfl rfl rfl rfl (m_isSmall (by omega)) ?_
              refine r_if_eqB (tgt := 155) dX12_next_148 rfl (fun c148 => ?_) (fun c148 => ?_)
              · refine r_iconst dX12_next_155 ?_
                refine r_iadd dX12_next_156 ?_
                refine r_istore_n dX12_next_157 rfl ?_
                refine r_aload_n dX12_next_158 rfl ?_
                refine r_iload_n dX12_next_159 rfl ?_
                refine r_iconst dX12_next_160 ?_
                refine q_icmp_ge (tgt := 182) dX12_next_161 rfl (by omega) (by omega) (fun c161 => ?_) (fun c161 => ?_)
                · refine r_aload_n dX12_next_182 rfl ?_
                  refine r_getI dX12_next_183 fl_X12_104 rfl (by assumption) ?_
                  (try rw [h9]); (try rw [h10]); (try (simp (disch := omega) only [sI_at, sI_ne, sI_nj]; try rw [h9]; try rw [h10]))
                  refine r_putI dX12_next_186 fl_X12_104 (by assumption) ?_
                  refine r_aload_n dX12_next_189 rfl ?_
                  refine r_dup dX12_next_190 rfl ?_
                  refine r_getI dX12_next_191 fl_X12_67 rfl (by assumption) ?_
                  (try rw [h9]); (try rw [h10]); (try (simp (disch := omega) only [sI_at, sI_ne, sI_nj]; try rw [h9]; try rw [h10]))
                  refine r_iconst dX12_next_194 ?_
                  refine r_iadd dX12_next_195 ?_
                  refine r_putI dX12_next_196 fl_X12_67 (by assumption) ?_
                  refine r_goto (tgt := 93) dX12_next_199 rfl ?_
                  rw [runE, dgE, if_pos hal, if_pos hal]
                  have hb := b2i_01 (isDg (T.1 k))
                  have hsd := sm_dg hal
                  have e1 : b2i true = 1 := rfl
                  have e0 : b2i false = 0 := rfl
                  rw [c148] at hsd
                  simp only [e1, e0] at hsd
                  have hlt : T.1 k < 128 := by
                    unfold isAl isSm isDg at hal
                    simp only [Bool.or_eq_true, decide_eq_true_eq] at hal
                    omega
                  rw [← Int.add_assoc]
                  refine ih q _ _ (k + 1) a _ (d + b2i (isDg (T.1 k))) pl _ (by omega) (by omega) (by omega) (by first | exact ((hk1.s7).sI (by omega)).sI (by omega) | exact (hk1.sI (by omega)).sI (by omega)) ⟨by simp (disch := omega) only [sI_at, sI_ne, sI_nj], by (simp (disch := omega) only [sI_at, sI_ne, sI_nj]; exact h10)⟩ ?_ ?_ (by omega) (fun e => by omega) (by omega)
                  · simp (disch := omega) only [sI_at, sI_ne, sI_nj]
                    first
                    | (rw [show (min (k + 1 - a) 3).toNat = (min (k - a) 3).toNat + 1 by omega, fld_snoc, ← hnum, show a + ((min (k - a) 3).toNat : Int) = k by omega]; omega)
                    | (rw [show (min (k + 1 - a) 3).toNat = (min (k - a) 3).toNat by omega]; exact hnum)
                  · intro i hi0 hi1 hi8
                    first
                    | (simp (disch := omega) only [sI_ne]
                       by_cases e : i = k - a
                       · rw [e, sI_at, i2b_id (by omega), show a + (k - a) = k by omega]
                       · rw [sI_nj (by omega)]; exact hlet i hi0 (by omega) hi8)
                    | (simp (disch := omega) only [sI_ne]; exact hlet i hi0 (by omega) hi8)
                · refine r_bipush dX12_next_164 (by decide) ?_
                  refine r_aload_n dX12_next_166 rfl ?_
                  refine r_getI dX12_next_167 fl_X12_104 rfl (by assumption) ?_
                  (try rw [h9]); (try rw [h10]); (try (simp (disch := omega) only [sI_at, sI_ne, sI_nj]; try rw [h9]; try rw [h10]))
                  refine r_imul dX12_next_170 ?_
                  refine r_aload_n dX12_next_171 rfl ?_
                  refine r_cV0F1 dX12_next_172 ml_X12_90 yl_X12_peek ⟨rfl, rfl⟩ (by assumption) ⟨_, rfl⟩ rfl rfl rfl rfl ((by first | exact m_peek hM1 hT1 h9 (by omega) | exact m_peek hM2 hT2 h92 (by omega))) ?_
                  rw [hpk]
                  refine r_iadd dX12_next_175 ?_
                  refine r_bipush dX12_next_176 (by decide) ?_
                  refine r_isub dX12_next_178 ?_
                  refine r_goto (tgt := 186) dX12_next_179 rfl ?_
                  refine r_putI dX12_next_186 fl_X12_104 (by assumption) ?_
                  refine r_aload_n dX12_next_189 rfl ?_
                  refine r_dup dX12_next_190 rfl ?_
                  refine r_getI dX12_next_191 fl_X12_67 rfl (by assumption) ?_
                  (try rw [h9]); (try rw [h10]); (try (simp (disch := omega) only [sI_at, sI_ne, sI_nj]; try rw [h9]; try rw [h10]))
                  refine r_iconst dX12_next_194 ?_
                  refine r_iadd dX12_next_195 ?_
                  refine r_putI dX12_next_196 fl_X12_67 (by assumption) ?_
                  refine r_goto (tgt := 93) dX12_next_199 rfl ?_
                  rw [runE, dgE, if_pos hal, if_pos hal]
                  have hb := b2i_01 (isDg (T.1 k))
                  have hsd := sm_dg hal
                  have e1 : b2i true = 1 := rfl
                  have e0 : b2i false = 0 := rfl
                  rw [c148] at hsd
                  simp only [e1, e0] at hsd
                  have hlt : T.1 k < 128 := by
                    unfold isAl isSm isDg at hal
                    simp only [Bool.or_eq_true, decide_eq_true_eq] at hal
                    omega
                  rw [← Int.add_assoc]
                  refine ih q _ _ (k + 1) a _ (d + b2i (isDg (T.1 k))) pl _ (by omega) (by omega) (by omega) (by first | exact ((hk1.s7).sI (by omega)).sI (by omega) | exact (hk1.sI (by omega)).sI (by omega)) ⟨by simp (disch := omega) only [sI_at, sI_ne, sI_nj], by (simp (disch := omega) only [sI_at, sI_ne, sI_nj]; exact h10)⟩ ?_ ?_ (by omega) (fun e => by omega) (by omega)
                  · simp (disch := omega) only [sI_at, sI_ne, sI_nj]
                    first
                    | (rw [show (min (k + 1 - a) 3).toNat = (min (k - a) 3).toNat + 1 by omega, fld_snoc, ← hnum, show a + ((min (k - a) 3).toNat : Int) = k by omega]; omega)
                    | (rw [show (min (k + 1 - a) 3).toNat = (min (k - a) 3).toNat by omega]; exact hnum)
                  · intro i hi0 hi1 hi8
                    first
                    | (simp (disch := omega) only [sI_ne]
                       by_cases e : i = k - a
                       · rw [e, sI_at, i2b_id (by omega), show a + (k - a) = k by omega]
                       · rw [sI_nj (by omega)]; exact hlet i hi0 (by omega) hi8)
                    | (simp (disch := omega) only [sI_ne]; exact hlet i hi0 (by omega) hi8)
              · refine r_iconst dX12_next_151 ?_
                refine r_goto (tgt := 156) dX12_next_152 rfl ?_
                refine r_iadd dX12_next_156 ?_
                refine r_istore_n dX12_next_157 rfl ?_
                refine r_aload_n dX12_next_158 rfl ?_
                refine r_iload_n dX12_next_159 rfl ?_
                refine r_iconst dX12_next_160 ?_
                refine q_icmp_ge (tgt := 182) dX12_next_161 rfl (by omega) (by omega) (fun c161 => ?_) (fun c161 => ?_)
                · refine r_aload_n dX12_next_182 rfl ?_
                  refine r_getI dX12_next_183 fl_X12_104 rfl (by assumption) ?_
                  (try rw [h9]); (try rw [h10]); (try (simp (disch := omega) only [sI_at, sI_ne, sI_nj]; try rw [h9]; try rw [h10]))
                  refine r_putI dX12_next_186 fl_X12_104 (by assumption) ?_
                  refine r_aload_n dX12_next_189 rfl ?_
                  refine r_dup dX12_next_190 rfl ?_
                  refine r_getI dX12_next_191 fl_X12_67 rfl (by assumption) ?_
                  (try rw [h9]); (try rw [h10]); (try (simp (disch := omega) only [sI_at, sI_ne, sI_nj]; try rw [h9]; try rw [h10]))
                  refine r_iconst dX12_next_194 ?_
                  refine r_iadd dX12_next_195 ?_
                  refine r_putI dX12_next_196 fl_X12_67 (by assumption) ?_
                  refine r_goto (tgt := 93) dX12_next_199 rfl ?_
                  rw [runE, dgE, if_pos hal, if_pos hal]
                  have hb := b2i_01 (isDg (T.1 k))
                  have hsd := sm_dg hal
                  have e1 : b2i true = 1 := rfl
                  have e0 : b2i false = 0 := rfl
                  rw [c148] at hsd
                  simp only [e1, e0] at hsd
                  have hlt : T.1 k < 128 := by
                    unfold isAl isSm isDg at hal
                    simp only [Bool.or_eq_true, decide_eq_true_eq] at hal
                    omega
                  rw [← Int.add_assoc]
                  refine ih q _ _ (k + 1) a _ (d + b2i (isDg (T.1 k))) pl _ (by omega) (by omega) (by omega) (by first | exact ((hk1.s7).sI (by omega)).sI (by omega) | exact (hk1.sI (by omega)).sI (by omega)) ⟨by simp (disch := omega) only [sI_at, sI_ne, sI_nj], by (simp (disch := omega) only [sI_at, sI_ne, sI_nj]; exact h10)⟩ ?_ ?_ (by omega) (fun e => by omega) (by omega)
                  · simp (disch := omega) only [sI_at, sI_ne, sI_nj]
                    first
                    | (rw [show (min (k + 1 - a) 3).toNat = (min (k - a) 3).toNat + 1 by omega, fld_snoc, ← hnum, show a + ((min (k - a) 3).toNat : Int) = k by omega]; omega)
                    | (rw [show (min (k + 1 - a) 3).toNat = (min (k - a) 3).toNat by omega]; exact hnum)
                  · intro i hi0 hi1 hi8
                    first
                    | (simp (disch := omega) only [sI_ne]
                       by_cases e : i = k - a
                       · rw [e, sI_at, i2b_id (by omega), show a + (k - a) = k by omega]
                       · rw [sI_nj (by omega)]; exact hlet i hi0 (by omega) hi8)
                    | (simp (disch := omega) only [sI_ne]; exact hlet i hi0 (by omega) hi8)
                · refine r_bipush dX12_next_164 (by decide) ?_
                  refine r_aload_n dX12_next_166 rfl ?_
                  refine r_getI dX12_next_167 fl_X12_104 rfl (by assumption) ?_
                  (try rw [h9]); (try rw [h10]); (try (simp (disch := omega) only [sI_at, sI_ne, sI_nj]; try rw [h9]; try rw [h10]))
                  refine r_imul dX12_next_170 ?_
                  refine r_aload_n dX12_next_171 rfl ?_
                  refine r_cV0F1 dX12_next_172 ml_X12_90 yl_X12_peek ⟨rfl, rfl⟩ (by assumption) ⟨_, rfl⟩ rfl rfl rfl rfl ((by first | exact m_peek hM1 hT1 h9 (by omega) | exact m_peek hM2 hT2 h92 (by omega))) ?_
                  rw [hpk]
                  refine r_iadd dX12_next_175 ?_
                  refine r_bipush dX12_next_176 (by decide) ?_
                  refine r_isub dX12_next_178 ?_
                  refine r_goto (tgt := 186) dX12_next_179 rfl ?_
                  refine r_putI dX12_next_186 fl_X12_104 (by assumption) ?_
                  refine r_aload_n dX12_next_189 rfl ?_
                  refine r_dup dX12_next_190 rfl ?_
                  refine r_getI dX12_next_191 fl_X12_67 rfl (by assumption) ?_
                  (try rw [h9]); (try rw [h10]); (try (simp (disch := omega) only [sI_at, sI_ne, sI_nj]; try rw [h9]; try rw [h10]))
                  refine r_iconst dX12_next_194 ?_
                  refine r_iadd dX12_next_195 ?_
                  refine r_putI dX12_next_196 fl_X12_67 (by assumption) ?_
                  refine r_goto (tgt := 93) dX12_next_199 rfl ?_
                  rw [runE, dgE, if_pos hal, if_pos hal]
                  have hb := b2i_01 (isDg (T.1 k))
                  have hsd := sm_dg hal
                  have e1 : b2i true = 1 := rfl
                  have e0 : b2i false = 0 := rfl
                  rw [c148] at hsd
                  simp only [e1, e0] at hsd
                  have hlt : T.1 k < 128 := by
                    unfold isAl isSm isDg at hal
                    simp only [Bool.or_eq_true, decide_eq_true_eq] at hal
                    omega
                  rw [← Int.add_assoc]
                  refine ih q _ _ (k + 1) a _ (d + b2i (isDg (T.1 k))) pl _ (by omega) (by omega) (by omega) (by first | exact ((hk1.s7).sI (by omega)).sI (by omega) | exact (hk1.sI (by omega)).sI (by omega)) ⟨by simp (disch := omega) only [sI_at, sI_ne, sI_nj], by (simp (disch := omega) only [sI_at, sI_ne, sI_nj]; exact h10)⟩ ?_ ?_ (by omega) (fun e => by omega) (by omega)
                  · simp (disch := omega) only [sI_at, sI_ne, sI_nj]
                    first
                    | (rw [show (min (k + 1 - a) 3).toNat = (min (k - a) 3).toNat + 1 by omega, fld_snoc, ← hnum, show a + ((min (k - a) 3).toNat : Int) = k by omega]; omega)
                    | (rw [show (min (k + 1 - a) 3).toNat = (min (k - a) 3).toNat by omega]; exact hnum)
                  · intro i hi0 hi1 hi8
                    first
                    | (simp (disch := omega) only [sI_ne]
                       by_cases e : i = k - a
                       · rw [e, sI_at, i2b_id (by omega), show a + (k - a) = k by omega]
                       · rw [sI_nj (by omega)]; exact hlet i hi0 (by omega) hi8)
                    | (simp (disch := omega) only [sI_ne]; exact hlet i hi0 (by omega) hi8)
  have lA : ∀ (f n : Nat) (o1 o2 o3 : Option AV) (k pl : Int) (μ' : Mem), n < f → 0 ≤ k → k + n = T.2 → RK m μ μ' → μ'.1 m 9 = k → AW gX12_next sh μ' 0 0 0 [some (vR m), o1, o2, o3] [] (fun r2 sh2 μ2 => r2 = none ∧ sh2 = sh ∧ RK m μ μ2 ∧ AT m μ2 T (nx2 T (runE (isSp T.1) n k) pl)) := by
    intro f
    induction f with
    | zero => intro n; intros; omega
    | succ f ih =>
      intro n o1 o2 o3 k pl μ' hf hk hn2 hk1 h9
      have hM1 : IsModel sh μ'.2.2 m := by rw [hk1.1]; exact hM
      have hT1 : RTap m μ' T := hT.rk hk1
      obtain ⟨g0, f1, z1, f2, z2, f3, z3, f4, z4, f5, z5, f6, z6, f7, z7, f8, z8, f9, z9, f10, z10, f11, z11, f12, z12, f13, z13, f14, z14⟩ := id hM1
      clear g0
      have g0 := hM1.1
      by_cases hend : T.2 ≤ k
      · have hpk : pkk T k = -1 := pkk_out hend
        refine r_aload_n dX12_next_0 rfl ?_
        refine r_cV0F1 dX12_next_1 ml_X12_90 yl_X12_peek ⟨rfl, rfl⟩ (by assumption) ⟨_, rfl⟩ rfl rfl rfl rfl ((by first | exact m_peek hM1 hT1 h9 (by omega) | exact m_peek (μ := setI μ' m 10 k) (k := k) hM1 (hT.rk (hk1.sI (by omega))) (by rw [sI_nj (by omega)]; exact h9) (by omega))) ?_
        rw [hpk]
        refine r_bipush dX12_next_4 (by decide) ?_
        skip
        refine q_icmp_ne (tgt := 22) dX12_next_6 rfl (by omega) (by omega) (fun c6 => ?_) (fun c6 => ?_)
        · refine r_aload_n dX12_next_22 rfl ?_
          refine r_aload_n dX12_next_23 rfl ?_
          refine r_getI dX12_next_24 fl_X12_67 rfl (by assumption) ?_
          (try rw [h9]); (try rw [h10]); (try (simp (disch := omega) only [sI_at, sI_ne, sI_nj]; try rw [h9]; try rw [h10]))
          refine r_putI dX12_next_27 fl_X12_83 (by assumption) ?_
          refine r_aload_n dX12_next_30 rfl ?_
          refine r_cV0F1 dX12_next_31 ml_X12_90 yl_X12_peek ⟨rfl, rfl⟩ (by assumption) ⟨_, rfl⟩ rfl rfl rfl rfl ((by first | exact m_peek hM1 hT1 h9 (by omega) | exact m_peek (μ := setI μ' m 10 k) (k := k) hM1 (hT.rk (hk1.sI (by omega))) (by rw [sI_nj (by omega)]; exact h9) (by omega))) ?_
          rw [hpk]
          refine r_istore_n dX12_next_34 rfl ?_
          refine r_iload_n dX12_next_35 rfl ?_
          refine r_iconst dX12_next_36 ?_
          refine q_icmp_ne (tgt := 46) dX12_next_37 rfl (by omega) (by omega) (fun c37 => ?_) (fun c37 => ?_)
          · exact absurd rfl c37
          · refine r_aload_n dX12_next_40 rfl ?_
            refine r_iconst dX12_next_41 ?_
            refine r_putI dX12_next_42 fl_X12_94 (by assumption) ?_
            refine r_return dX12_next_45 rfl rfl rfl ?_
            refine ⟨rfl, rfl, ((hk1.sI (by omega)).sI (by omega)), ?_⟩
            rw [show runE (isSp T.1) n k = k from by obtain rfl : n = 0 := (by omega); rfl]
            unfold nx2
            rw [if_pos (by omega)]
            unfold AT
            simp only [mkT, mkF, mkK, mkE, mkP]
            simp (disch := omega) only [sI_at, sI_ne, sI_nj, sI_L]
            exact ⟨trivial, trivial, fun _ => h9, fun h => absurd h (by decide), fun h => absurd h (by decide)⟩
        · exact absurd c6 (by omega)
      · have hpk : pkk T k = T.1 k := pkk_in (by omega)
        have tk := t3 k (by omega) (by omega)
        refine r_aload_n dX12_next_0 rfl ?_
        refine r_cV0F1 dX12_next_1 ml_X12_90 yl_X12_peek ⟨rfl, rfl⟩ (by assumption) ⟨_, rfl⟩ rfl rfl rfl rfl ((by first | exact m_peek hM1 hT1 h9 (by omega) | exact m_peek (μ := setI μ' m 10 k) (k := k) hM1 (hT.rk (hk1.sI (by omega))) (by rw [sI_nj (by omega)]; exact h9) (by omega))) ?_
        rw [hpk]
        refine r_bipush dX12_next_4 (by decide) ?_
        refine q_icmp_ne (tgt := 22) dX12_next_6 rfl (by omega) (by omega) (fun c6 => ?_) (fun c6 => ?_)
        · refine r_aload_n dX12_next_22 rfl ?_
          refine r_aload_n dX12_next_23 rfl ?_
          refine r_getI dX12_next_24 fl_X12_67 rfl (by assumption) ?_
          (try rw [h9]); (try rw [h10]); (try (simp (disch := omega) only [sI_at, sI_ne, sI_nj]; try rw [h9]; try rw [h10]))
          refine r_putI dX12_next_27 fl_X12_83 (by assumption) ?_
          refine r_aload_n dX12_next_30 rfl ?_
          refine r_cV0F1 dX12_next_31 ml_X12_90 yl_X12_peek ⟨rfl, rfl⟩ (by assumption) ⟨_, rfl⟩ rfl rfl rfl rfl ((by first | exact m_peek hM1 hT1 h9 (by omega) | exact m_peek (μ := setI μ' m 10 k) (k := k) hM1 (hT.rk (hk1.sI (by omega))) (by rw [sI_nj (by omega)]; exact h9) (by omega))) ?_
          rw [hpk]
          refine r_istore_n dX12_next_34 rfl ?_
          refine r_iload_n dX12_next_35 rfl ?_
          refine r_iconst dX12_next_36 ?_
          refine q_icmp_ne (tgt := 46) dX12_next_37 rfl (by omega) (by omega) (fun c37 => ?_) (fun c37 => ?_)
          · refine r_iload_n dX12_next_46 rfl ?_
            refine r_cS1F1 dX12_next_47 ml_X12_97 yl_X12_isSmall ⟨rfl, rfl⟩ rfl rfl rfl rfl (m_isSmall (by omega)) ?_
            refine r_if_neB (tgt := 86) dX12_next_50 rfl (fun c50 => ?_) (fun c50 => ?_)
            · refine r_iconst dX12_next_86 ?_
              refine r_istore_n dX12_next_87 rfl ?_
              refine r_aload_n dX12_next_88 rfl ?_
              refine r_iconst dX12_next_89 ?_
              refine r_putI dX12_next_90 fl_X12_104 (by assumption) ?_
              rw [show runE (isSp T.1) n k = k from by obtain ⟨q, rfl⟩ : ∃ q, n = q + 1 := ⟨n - 1, by omega⟩; rw [runE, if_neg (by rw [show isSp T.1 k = false from decide_eq_false c6]; decide)]]
              unfold nx2
              have hal : ¬ T.1 k = 59 := by
                intro h
                first
                | (rw [h] at c50; exact absurd c50 (by decide))
                | (rw [h] at c57; exact absurd c57 (by decide))
              rw [if_neg (by omega), if_neg hal, show (T.2 - k).toNat = n by omega]
              refine AW.mono (lB _ n _ _ k k 0 0 pl _ (Nat.lt_succ_self _) (by omega) (by omega) ((hk1.sI (by omega)).sI (by omega)) ⟨by (simp (disch := omega) only [sI_nj]; exact h9), by simp (disch := omega) only [sI_at, sI_nj]⟩ ?_ (fun i h1 h2 => by omega) (by omega) (fun _ => by unfold isAl; first | (rw [c50]; rfl) | (rw [c57]; simp)) (by omega)) ?_
              · rw [show (min (k - k) 3).toNat = 0 by omega, fld]
                simp (disch := omega) only [sI_at]
              · intro r sh2 μ2 h
                rw [Int.zero_add] at h
                exact h
            · refine r_iload_n dX12_next_53 rfl ?_
              refine r_cS1F1 dX12_next_54 ml_X12_101 yl_X12_isDigit ⟨rfl, rfl⟩ rfl rfl rfl rfl (m_isDigit (by omega)) ?_
              refine r_if_neB (tgt := 86) dX12_next_57 rfl (fun c57 => ?_) (fun c57 => ?_)
              · refine r_iconst dX12_next_86 ?_
                refine r_istore_n dX12_next_87 rfl ?_
                refine r_aload_n dX12_next_88 rfl ?_
                refine r_iconst dX12_next_89 ?_
                refine r_putI dX12_next_90 fl_X12_104 (by assumption) ?_
                rw [show runE (isSp T.1) n k = k from by obtain ⟨q, rfl⟩ : ∃ q, n = q + 1 := ⟨n - 1, by omega⟩; rw [runE, if_neg (by rw [show isSp T.1 k = false from decide_eq_false c6]; decide)]]
                unfold nx2
                have hal : ¬ T.1 k = 59 := by
                  intro h
                  first
                  | (rw [h] at c50; exact absurd c50 (by decide))
                  | (rw [h] at c57; exact absurd c57 (by decide))
                rw [if_neg (by omega), if_neg hal, show (T.2 - k).toNat = n by omega]
                refine AW.mono (lB _ n _ _ k k 0 0 pl _ (Nat.lt_succ_self _) (by omega) (by omega) ((hk1.sI (by omega)).sI (by omega)) ⟨by (simp (disch := omega) only [sI_nj]; exact h9), by simp (disch := omega) only [sI_at, sI_nj]⟩ ?_ (fun i h1 h2 => by omega) (by omega) (fun _ => by unfold isAl; first | (rw [c50]; rfl) | (rw [c57]; simp)) (by omega)) ?_
                · rw [show (min (k - k) 3).toNat = 0 by omega, fld]
                  simp (disch := omega) only [sI_at]
                · intro r sh2 μ2 h
                  rw [Int.zero_add] at h
                  exact h
              · refine r_aload_n dX12_next_60 rfl ?_
                refine r_dup dX12_next_61 rfl ?_
                refine r_getI dX12_next_62 fl_X12_67 rfl (by assumption) ?_
                (try rw [h9]); (try rw [h10]); (try (simp (disch := omega) only [sI_at, sI_ne, sI_nj]; try rw [h9]; try rw [h10]))
                refine r_iconst dX12_next_65 ?_
                refine r_iadd dX12_next_66 ?_
                refine r_putI dX12_next_67 fl_X12_67 (by assumption) ?_
                refine r_aload_n dX12_next_70 rfl ?_
                refine r_iload_n dX12_next_71 rfl ?_
                refine r_bipush dX12_next_72 (by decide) ?_
                refine q_icmp_ne (tgt := 81) dX12_next_74 rfl (by omega) (by omega) (fun c74 => ?_) (fun c74 => ?_)
                · refine r_iconst dX12_next_81 ?_
                  refine r_putI dX12_next_82 fl_X12_94 (by assumption) ?_
                  refine r_return dX12_next_85 rfl rfl rfl ?_
                  first
                  | (refine ⟨rfl, rfl, (((hk1.sI (by omega)).sI (by omega)).sI (by omega)), ?_⟩
                     rw [show runE (isSp T.1) n k = k from by obtain ⟨q, rfl⟩ : ∃ q, n = q + 1 := ⟨n - 1, by omega⟩; rw [runE, if_neg (by rw [show isSp T.1 k = false from decide_eq_false c6]; decide)]]
                     unfold nx2
                     rw [if_neg (by omega), if_pos (by omega)]
                     unfold AT
                     simp only [mkT, mkF, mkK, mkE, mkP]
                     simp (disch := omega) only [sI_at, sI_ne, sI_nj, sI_L]
                     exact ⟨trivial, trivial, fun _ => trivial, fun h => absurd h (by decide), fun h => absurd h (by decide)⟩)
                  | (refine ⟨rfl, rfl, (((hk1.sI (by omega)).sI (by omega)).sI (by omega)), ?_⟩
                     rw [show runE (isSp T.1) n k = k from by obtain ⟨q, rfl⟩ : ∃ q, n = q + 1 := ⟨n - 1, by omega⟩; rw [runE, if_neg (by rw [show isSp T.1 k = false from decide_eq_false c6]; decide)]]
                     unfold nx2
                     have hal : isAl (T.1 k) = false := by unfold isAl; rw [c50, c57]; rfl
                     obtain ⟨q, hq⟩ : ∃ q, (T.2 - k).toNat = q + 1 := ⟨(T.2 - k).toNat - 1, by omega⟩
                     rw [if_neg (by omega), if_neg (by omega), hq]
                     have hrun : runE (fun i => isAl (T.1 i)) (q + 1) k = k := by rw [runE, if_neg (by rw [hal]; decide)]
                     have hdg : dgE T.1 (q + 1) k = 0 := by rw [dgE, if_neg (by rw [hal]; decide)]
                     rw [hrun, hdg, show kindF (k - k) 0 = 4 by rw [Int.sub_self]; rfl]
                     unfold AT
                     simp only [mkT, mkF, mkK, mkE, mkP]
                     simp (disch := omega) only [sI_at, sI_ne, sI_nj, sI_L]
                     exact ⟨trivial, trivial, fun h => absurd rfl h, fun h => absurd h (by decide), fun h => absurd h (by decide)⟩)
                · refine r_iconst dX12_next_77 ?_
                  refine r_goto (tgt := 82) dX12_next_78 rfl ?_
                  refine r_putI dX12_next_82 fl_X12_94 (by assumption) ?_
                  refine r_return dX12_next_85 rfl rfl rfl ?_
                  first
                  | (refine ⟨rfl, rfl, (((hk1.sI (by omega)).sI (by omega)).sI (by omega)), ?_⟩
                     rw [show runE (isSp T.1) n k = k from by obtain ⟨q, rfl⟩ : ∃ q, n = q + 1 := ⟨n - 1, by omega⟩; rw [runE, if_neg (by rw [show isSp T.1 k = false from decide_eq_false c6]; decide)]]
                     unfold nx2
                     rw [if_neg (by omega), if_pos (by omega)]
                     unfold AT
                     simp only [mkT, mkF, mkK, mkE, mkP]
                     simp (disch := omega) only [sI_at, sI_ne, sI_nj, sI_L]
                     exact ⟨trivial, trivial, fun _ => trivial, fun h => absurd h (by decide), fun h => absurd h (by decide)⟩)
                  | (refine ⟨rfl, rfl, (((hk1.sI (by omega)).sI (by omega)).sI (by omega)), ?_⟩
                     rw [show runE (isSp T.1) n k = k from by obtain ⟨q, rfl⟩ : ∃ q, n = q + 1 := ⟨n - 1, by omega⟩; rw [runE, if_neg (by rw [show isSp T.1 k = false from decide_eq_false c6]; decide)]]
                     unfold nx2
                     have hal : isAl (T.1 k) = false := by unfold isAl; rw [c50, c57]; rfl
                     obtain ⟨q, hq⟩ : ∃ q, (T.2 - k).toNat = q + 1 := ⟨(T.2 - k).toNat - 1, by omega⟩
                     rw [if_neg (by omega), if_neg (by omega), hq]
                     have hrun : runE (fun i => isAl (T.1 i)) (q + 1) k = k := by rw [runE, if_neg (by rw [hal]; decide)]
                     have hdg : dgE T.1 (q + 1) k = 0 := by rw [dgE, if_neg (by rw [hal]; decide)]
                     rw [hrun, hdg, show kindF (k - k) 0 = 4 by rw [Int.sub_self]; rfl]
                     unfold AT
                     simp only [mkT, mkF, mkK, mkE, mkP]
                     simp (disch := omega) only [sI_at, sI_ne, sI_nj, sI_L]
                     exact ⟨trivial, trivial, fun h => absurd rfl h, fun h => absurd h (by decide), fun h => absurd h (by decide)⟩)
          · exact absurd c37 (by omega)
        · refine r_aload_n dX12_next_9 rfl ?_
          refine r_dup dX12_next_10 rfl ?_
          refine r_getI dX12_next_11 fl_X12_67 rfl (by assumption) ?_
          (try rw [h9]); (try rw [h10]); (try (simp (disch := omega) only [sI_at, sI_ne, sI_nj]; try rw [h9]; try rw [h10]))
          refine r_iconst dX12_next_14 ?_
          refine r_iadd dX12_next_15 ?_
          refine r_putI dX12_next_16 fl_X12_67 (by assumption) ?_
          refine r_goto (tgt := 0) dX12_next_19 rfl ?_
          obtain ⟨q, rfl⟩ : ∃ q, n = q + 1 := ⟨n - 1, by omega⟩
          rw [runE, if_pos (show isSp T.1 k = true from decide_eq_true (by omega))]
          exact ih q _ _ _ (k + 1) pl _ (by omega) (by omega) (by omega) (hk1.sI (by omega)) (by simp (disch := omega) only [sI_at])
  refine AMet.of (by decide) rfl (by decide) rfl ?_
  exact lA _ (T.2 - p).toNat _ _ _ p pl μ (Nat.lt_succ_self _) (by omega) (by omega) (RK.rf _ _) h9

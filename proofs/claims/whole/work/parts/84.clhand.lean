/-! 84.clhand: how often through doors, in the class (wip/whole/src/84_clhand.py) -/
def hsT (ρ : Row) (g : Int) (H : Int → Bool) : Int → Bool := fun o => !allF (fun k => !(H k && hsW ρ g o k)) (ρ 11).toNat 0
theorem hsT_iff {ρ : Row} {g : Int} {H : Int → Bool} {o : Int} (h0 : 0 ≤ ρ 11) : hsT ρ g H o = true ↔ ∃ k, (0 ≤ k ∧ k < ρ 11) ∧ H k = true ∧ hsW ρ g o k = true := by
  unfold hsT
  rw [Bool.not_eq_true', Bool.eq_false_iff, ne_eq, allF_iff]
  constructor
  · intro h
    by_cases c : ∃ k, (0 ≤ k ∧ k < ρ 11) ∧ H k = true ∧ hsW ρ g o k = true
    · exact c
    · exfalso
      apply h
      intro i i0 i1
      rw [Bool.not_eq_true', Bool.eq_false_iff, ne_eq, Bool.and_eq_true]
      exact fun e => c ⟨i, ⟨i0, by omega⟩, e⟩
  · rintro ⟨k, hk, h1, h2⟩ h
    have := h k hk.1 (by omega)
    rw [h1, h2] at this
    cases this
def wyA (ρ : Row) (g k t : Int) : Prop := (0 ≤ ρ (93 + k) ∧ bit (wayF ρ (ρ (93 + k))) t = true) ∨ bit (wayF ρ (tgF ρ g k)) t = true
theorem hsW_iff {ρ : Row} {g o k : Int} : hsW ρ g o k = true ↔ 0 ≤ ρ (93 + o) ∧ wyA ρ g k (ρ (93 + o)) := by
  unfold hsW wyA
  rw [Bool.and_eq_true, decide_eq_true_eq, Bool.or_eq_true, Bool.and_eq_true, decide_eq_true_eq]
theorem tg_dg {ρ : Row} {g k : Int} (hk : 0 ≤ k ∧ k < ρ 11) : tgF ρ g k = dg (ρ 11) g k - 1 := lay_at hk
theorem bit_iff {h k : Int} : bit h k = true ↔ iand (ishr h k) 1 = 1 := by
  unfold bit
  rw [decide_eq_true_eq]
theorem bit_or32 {a b s : Int} (hs : 0 ≤ s ∧ s < 32) : bit (ior a b) s = (bit a s || bit b s) := by
  obtain ⟨s, rfl⟩ := Int.eq_ofNat_of_zero_le hs.1
  exact bit_ior (by omega)
theorem bit_z {s : Int} (hs : 0 ≤ s ∧ s < 32) : bit 0 s = false := by
  obtain ⟨s, rfl⟩ := Int.eq_ofNat_of_zero_le hs.1
  exact bit_032 s (by omega)
set_option maxRecDepth 100000 in
set_option maxHeartbeats 4000000 in
theorem c_standInWay {μ : Mem} {a c : Nat} {ρ : Row} (hF : RelF SH μ a ρ) (hC : RelC SH μ c ρ) (hw : WF ρ) (hT : IsTab μ.2.2) {L : List Ent} (hW : RW μ (ρ 11) L) (hd : ∀ (i : Nat) (e : Ent), L[i]? = some e → ∀ j, 0 ≤ j → j < ρ 11 → 1 ≤ dg (ρ 11) e.1 j) {r : Int} {e : Ent} (he : 0 ≤ r ∧ L[r.toNat]? = some e) (hsp : ∀ k, 0 ≤ k → k < ρ 11 → dg (ρ 11) e.1 k - 1 < ρ 5) {h : Int} {H : Int → Bool} (hH : ∀ k, 0 ≤ k → k < ρ 11 → bit h k = H k)  : IMet yX7_standInWay gX7_standInWay SH [vR a, vR c, vR 172, vI r, vI h] μ (fun x μ2 => μ2 = μ ∧ ∀ q, 0 ≤ q → q < ρ 11 → bit x q = hsT ρ e.1 H q) := by
  have hn0 := hw.1.1
  have hn := hw.1.1
  unfold WFn at hn
  have hS : 0 ≤ ρ 5 ∧ ρ 5 ≤ 6 := by omega
  obtain ⟨hIF, kf0, kh, kf4, ks, kf9, kj⟩ := id hF
  obtain ⟨u0, u1, u2, u3, u5, u6, u7, u8, u10, u11, y1, y2, y3, y4, y5, y6, y7, y8, y9⟩ := id hIF
  obtain ⟨hIC, e0, e5, e51, e52, eC⟩ := id hC
  obtain ⟨h0, h1, h2, h3, h4, h6, s1, s2, s3, s4, s5⟩ := id hIC
  have x172 : SH[172]? = some (7, 15) := rfl
  have hrl : r.toNat < L.length := (List.getElem?_eq_some_iff.1 he.2).1
  have hr32 : -2147483648 ≤ r ∧ r < 2147483648 := by have := hW.2.1; omega
  have hdg : ∀ k, 0 ≤ k → k < ρ 11 → 1 ≤ dg (ρ 11) e.1 k := hd _ _ he.2
  have l2 : ∀ (w : Int), (∀ t, 0 ≤ t ∧ t < 32 → (bit w t = true ↔ ∃ k, (0 ≤ k ∧ k < ρ 11) ∧ H k = true ∧ wyA ρ e.1 k t)) → ∀ (f n : Nat) (k : Int) (v : Int), n < f → 0 ≤ k → k + n = ρ 11 → (∀ q, 0 ≤ q → q < ρ 11 → (bit v q = true ↔ q < k ∧ 0 ≤ ρ (93 + q) ∧ bit w (ρ (93 + q)) = true)) → AW gX7_standInWay SH μ 0 0 107 [some (vR a), some (vR c), some (vR 172), some (vI r), some (vI h), some (vI w), some (vI v), some (vI k)] [] (fun r2 sh2 μ2 => sh2 = SH ∧ ∃ x, r2 = some (vI x) ∧ μ2 = μ ∧ ∀ q, 0 ≤ q → q < ρ 11 → bit x q = hsT ρ e.1 H q) := by
    intro w hwy f
    induction f with
    | zero => intro n; intros; omega
    | succ f ih =>
      intro n k v hf hk hn2 hv
      refine r_iload dX7_standInWay_107 rfl ?_
      refine r_aload_n dX7_standInWay_109 rfl ?_
      refine r_getI dX7_standInWay_110 fl_X7_52 rfl (by assumption) ?_
      rw [e0]
      refine q_icmp_ge (tgt := 161) dX7_standInWay_113 rfl (by omega) (by omega) (fun c113 => ?_) (fun c113 => ?_)
      · refine r_iload dX7_standInWay_161 rfl ?_
        refine r_ireturn dX7_standInWay_163 rfl rfl rfl ?_
        refine ⟨rfl, _, rfl, rfl, fun q q0 q1 => ?_⟩
        rw [Bool.eq_iff_iff, hv q q0 q1, hsT_iff (by omega)]
        have qP := (hw.2.2.1 q q0 q1).2.2.1
        constructor
        · rintro ⟨-, b1, b2⟩
          obtain ⟨k', k0, k1, k2⟩ := (hwy (ρ (93 + q)) ⟨b1, by omega⟩).1 b2
          exact ⟨k', k0, k1, hsW_iff.2 ⟨b1, k2⟩⟩
        · rintro ⟨k', k0, k1, k2⟩
          obtain ⟨b1, b2⟩ := hsW_iff.1 k2
          exact ⟨by omega, b1, (hwy (ρ (93 + q)) ⟨b1, by omega⟩).2 ⟨k', k0, k1, b2⟩⟩
      · have kC := eC k (by omega) (by omega)
        have kP := (hw.2.2.1 k (by omega) (by omega)).2.2.1
        refine r_aload_n dX7_standInWay_116 rfl ?_
        refine r_aload_n dX7_standInWay_117 rfl ?_
        refine r_getR dX7_standInWay_118 fl_X7_55 rfl (by assumption) (by assumption) ?_
        refine r_iload dX7_standInWay_121 rfl ?_
        refine r_iald dX7_standInWay_123 (by assumption) rfl (by omega) ?_
        rw [kC.2.2.1]
        refine r_cV1F1 dX7_standInWay_124 ml_X7_90 yl_X1_hasSpot ⟨rfl, rfl⟩ (by assumption) ⟨_, rfl⟩ rfl rfl rfl rfl (c_hasSpot hF hn0 (by omega)) ?_
        refine r_if_eqB (tgt := 155) dX7_standInWay_127 rfl (fun c127 => ?_) (fun c127 => ?_)
        · have c127 := of_decide_eq_false c127
          refine r_iinc dX7_standInWay_155 rfl rfl ?_
          refine r_goto (tgt := 107) dX7_standInWay_158 rfl ?_
          refine ih (n - 1) (k + 1) _ (by omega) (by omega) (by omega) (fun q q0 q1 => ?_)
          first
          | (rw [bit_set ⟨q0, by omega⟩ ⟨by omega, by omega⟩, Bool.or_eq_true, hv q q0 q1, decide_eq_true_eq]
             have cb := bit_iff.2 c143
             constructor
             · rintro (⟨b1, b2⟩ | b)
               · exact ⟨by omega, b2⟩
               · rw [b]; exact ⟨by omega, by omega, cb⟩
             · rintro ⟨b1, b2⟩
               by_cases z : q = k
               · exact Or.inr z
               · exact Or.inl ⟨by omega, b2⟩)
          | (rw [hv q q0 q1]
             constructor
             · rintro ⟨b1, b2⟩; exact ⟨by omega, b2⟩
             · rintro ⟨b1, b2, b3⟩
               by_cases z : q = k
               · exfalso
                 rw [z] at b2 b3
                 first
                 | exact c143 (bit_iff.1 b3)
                 | omega
               · exact ⟨by omega, b2, b3⟩)
        · have c127 := of_decide_eq_true c127
          refine r_iload dX7_standInWay_130 rfl ?_
          refine r_aload_n dX7_standInWay_132 rfl ?_
          refine r_getR dX7_standInWay_133 fl_X7_55 rfl (by assumption) (by assumption) ?_
          refine r_iload dX7_standInWay_136 rfl ?_
          refine r_iald dX7_standInWay_138 (by assumption) rfl (by omega) ?_
          rw [kC.2.2.1]
          refine r_ishr dX7_standInWay_139 ?_
          refine r_iconst dX7_standInWay_140 ?_
          refine r_iand dX7_standInWay_141 ?_
          refine r_iconst dX7_standInWay_142 ?_
          refine q_icmp_ne (tgt := 155) dX7_standInWay_143 rfl (iand_rng _ _) (by omega) (fun c143 => ?_) (fun c143 => ?_)
          · refine r_iinc dX7_standInWay_155 rfl rfl ?_
            refine r_goto (tgt := 107) dX7_standInWay_158 rfl ?_
            refine ih (n - 1) (k + 1) _ (by omega) (by omega) (by omega) (fun q q0 q1 => ?_)
            first
            | (rw [bit_set ⟨q0, by omega⟩ ⟨by omega, by omega⟩, Bool.or_eq_true, hv q q0 q1, decide_eq_true_eq]
               have cb := bit_iff.2 c143
               constructor
               · rintro (⟨b1, b2⟩ | b)
                 · exact ⟨by omega, b2⟩
                 · rw [b]; exact ⟨by omega, by omega, cb⟩
               · rintro ⟨b1, b2⟩
                 by_cases z : q = k
                 · exact Or.inr z
                 · exact Or.inl ⟨by omega, b2⟩)
            | (rw [hv q q0 q1]
               constructor
               · rintro ⟨b1, b2⟩; exact ⟨by omega, b2⟩
               · rintro ⟨b1, b2, b3⟩
                 by_cases z : q = k
                 · exfalso
                   rw [z] at b2 b3
                   first
                   | exact c143 (bit_iff.1 b3)
                   | omega
                 · exact ⟨by omega, b2, b3⟩)
          · refine r_iload dX7_standInWay_146 rfl ?_
            refine r_iconst dX7_standInWay_148 ?_
            refine r_iload dX7_standInWay_149 rfl ?_
            refine r_ishl dX7_standInWay_151 ?_
            refine r_ior dX7_standInWay_152 ?_
            refine r_istore dX7_standInWay_153 rfl ?_
            refine r_iinc dX7_standInWay_155 rfl rfl ?_
            refine r_goto (tgt := 107) dX7_standInWay_158 rfl ?_
            refine ih (n - 1) (k + 1) _ (by omega) (by omega) (by omega) (fun q q0 q1 => ?_)
            first
            | (rw [bit_set ⟨q0, by omega⟩ ⟨by omega, by omega⟩, Bool.or_eq_true, hv q q0 q1, decide_eq_true_eq]
               have cb := bit_iff.2 c143
               constructor
               · rintro (⟨b1, b2⟩ | b)
                 · exact ⟨by omega, b2⟩
                 · rw [b]; exact ⟨by omega, by omega, cb⟩
               · rintro ⟨b1, b2⟩
                 by_cases z : q = k
                 · exact Or.inr z
                 · exact Or.inl ⟨by omega, b2⟩)
            | (rw [hv q q0 q1]
               constructor
               · rintro ⟨b1, b2⟩; exact ⟨by omega, b2⟩
               · rintro ⟨b1, b2, b3⟩
                 by_cases z : q = k
                 · exfalso
                   rw [z] at b2 b3
                   first
                   | exact c143 (bit_iff.1 b3)
                   | omega
                 · exact ⟨by omega, b2, b3⟩)
  have l1 : ∀ (f n : Nat) (k : Int) (w : Int) (o7 : Option AV), n < f → 0 ≤ k → k + n = ρ 11 → (∀ t, 0 ≤ t ∧ t < 32 → (bit w t = true ↔ ∃ j, (0 ≤ j ∧ j < k) ∧ H j = true ∧ wyA ρ e.1 j t)) → AW gX7_standInWay SH μ 0 0 6 [some (vR a), some (vR c), some (vR 172), some (vI r), some (vI h), some (vI w), some (vI k), o7] [] (fun r2 sh2 μ2 => sh2 = SH ∧ ∃ x, r2 = some (vI x) ∧ μ2 = μ ∧ ∀ q, 0 ≤ q → q < ρ 11 → bit x q = hsT ρ e.1 H q) := by
    intro f
    induction f with
    | zero => intro n; intros; omega
    | succ f ih =>
      intro n k w o7 hf hk hn2 hv
      refine r_iload dX7_standInWay_6 rfl ?_
      refine r_aload_n dX7_standInWay_8 rfl ?_
      refine r_getI dX7_standInWay_9 fl_X7_52 rfl (by assumption) ?_
      rw [e0]
      refine q_icmp_ge (tgt := 101) dX7_standInWay_12 rfl (by omega) (by omega) (fun c12 => ?_) (fun c12 => ?_)
      · refine r_iconst dX7_standInWay_101 ?_
        refine r_istore dX7_standInWay_102 rfl ?_
        refine r_iconst dX7_standInWay_104 ?_
        refine r_istore dX7_standInWay_105 rfl ?_
        obtain rfl : k = ρ 11 := by omega
        exact l2 w hv _ (ρ 11).toNat 0 0 (Nat.lt_succ_self _) (by omega) (by omega) (fun q q0 q1 => by rw [bit_z ⟨q0, by omega⟩]; exact ⟨fun z => absurd z (by decide), fun z => by omega⟩)
      · have kC := eC k (by omega) (by omega)
        have kP := (hw.2.2.1 k (by omega) (by omega)).2.2.1
        refine r_iload dX7_standInWay_15 rfl ?_
        refine r_iload dX7_standInWay_17 rfl ?_
        refine r_ishr dX7_standInWay_19 ?_
        refine r_iconst dX7_standInWay_20 ?_
        refine r_iand dX7_standInWay_21 ?_
        refine r_iconst dX7_standInWay_22 ?_
        refine q_icmp_ne (tgt := 95) dX7_standInWay_23 rfl (iand_rng _ _) (by omega) (fun c23 => ?_) (fun c23 => ?_)
        · refine r_iinc dX7_standInWay_95 rfl rfl ?_
          refine r_goto (tgt := 6) dX7_standInWay_98 rfl ?_
          refine ih (n - 1) (k + 1) _ _ (by omega) (by omega) (by omega) (fun t ht => ?_)
          first
          | (have cb : H k = true := by rw [← hH k (by omega) (by omega)]; exact bit_iff.2 c23
             rw [bit_or32 ht, bit_or32 ht, Bool.or_eq_true, Bool.or_eq_true, hv t ht]
             constructor
             · rintro ((⟨j, b1, b2⟩ | b) | b)
               · exact ⟨j, by omega, b2⟩
               · first
                 | exact ⟨k, by omega, cb, Or.inl ⟨c48.1, b⟩⟩
                 | (rw [bit_z ht] at b; cases b)
               · exact ⟨k, by omega, cb, Or.inr b⟩
             · rintro ⟨j, b1, b2, b3⟩
               by_cases z : j = k
               · rw [z] at b3
                 rcases b3 with ⟨b3, b4⟩ | b3
                 · first
                   | exact Or.inl (Or.inr b4)
                   | exact absurd (show 0 ≤ ρ (93 + k) ∧ ρ (93 + k) < ρ 5 by omega) c48
                 · exact Or.inr b3
               · exact Or.inl (Or.inl ⟨j, by omega, b2, b3⟩))
          | (have cb : ¬ H k = true := fun z => c23 (bit_iff.1 (by rw [hH k (by omega) (by omega)]; exact z))
             rw [hv t ht]
             constructor
             · rintro ⟨j, b1, b2⟩; exact ⟨j, by omega, b2⟩
             · rintro ⟨j, b1, b2, b3⟩
               by_cases z : j = k
               · rw [z] at b2; exact absurd b2 cb
               · exact ⟨j, by omega, b2, b3⟩)
        · have wb1 : (0 ≤ ρ (93 + k) ∧ ρ (93 + k) < ρ 5) → μ.1 (a + 7) (ρ (93 + k)) = wayF ρ (ρ (93 + k)) := fun z => (ks _ z.1 z.2).2.2.2
          have dk := hdg k (by omega) (by omega)
          have dk2 := dg_rng (ρ 11) e.1 k
          have tk := tg_dg (ρ := ρ) (g := e.1) (k := k) ⟨by omega, by omega⟩
          refine r_aload_n dX7_standInWay_26 rfl ?_
          refine r_iload_n dX7_standInWay_27 rfl ?_
          refine r_iload dX7_standInWay_28 rfl ?_
          refine r_cV2F1 dX7_standInWay_30 ml_X7_157 yl_X8_spotIn ⟨rfl, rfl⟩ (by assumption) ⟨_, rfl⟩ rfl rfl rfl rfl (c_spotIn hT hW hr32 (by omega) (by omega) hd he ⟨by omega, by omega⟩) ?_
          refine r_istore dX7_standInWay_33 rfl ?_
          refine r_iload dX7_standInWay_35 rfl ?_
          refine r_aload_n dX7_standInWay_37 rfl ?_
          refine r_aload_n dX7_standInWay_38 rfl ?_
          refine r_getR dX7_standInWay_39 fl_X7_55 rfl (by assumption) (by assumption) ?_
          refine r_iload dX7_standInWay_42 rfl ?_
          refine r_iald dX7_standInWay_44 (by assumption) rfl (by omega) ?_
          rw [kC.2.2.1]
          refine r_cV1F1 dX7_standInWay_45 ml_X7_90 yl_X1_hasSpot ⟨rfl, rfl⟩ (by assumption) ⟨_, rfl⟩ rfl rfl rfl rfl (c_hasSpot hF hn0 (by omega)) ?_
          refine r_if_eqB (tgt := 66) dX7_standInWay_48 rfl (fun c48 => ?_) (fun c48 => ?_)
          · have c48 := of_decide_eq_false c48
            refine r_iconst dX7_standInWay_66 ?_
            refine r_ior dX7_standInWay_67 ?_
            refine r_istore dX7_standInWay_68 rfl ?_
            refine r_iload dX7_standInWay_70 rfl ?_
            refine r_aload_n dX7_standInWay_72 rfl ?_
            refine r_iload dX7_standInWay_73 rfl ?_
            refine r_cV1F1 dX7_standInWay_75 ml_X7_90 yl_X1_hasSpot ⟨rfl, rfl⟩ (by assumption) ⟨_, rfl⟩ rfl rfl rfl rfl (c_hasSpot hF hn0 (by omega)) ?_
            refine r_if_eqB (tgt := 91) dX7_standInWay_78 rfl (fun c78 => ?_) (fun c78 => ?_)
            · exact absurd (of_decide_eq_false c78) (by have := hsp k (by omega) (by omega); omega)
            · have c78 := of_decide_eq_true c78
              refine r_aload_n dX7_standInWay_81 rfl ?_
              refine r_getR dX7_standInWay_82 fl_X7_167 rfl (by assumption) (by assumption) ?_
              refine r_iload dX7_standInWay_85 rfl ?_
              refine r_iald dX7_standInWay_87 (by assumption) rfl (by omega) ?_
              rw [(ks _ c78.1 c78.2).2.2.2, ← tk]
              refine r_goto (tgt := 92) dX7_standInWay_88 rfl ?_
              refine r_ior dX7_standInWay_92 ?_
              refine r_istore dX7_standInWay_93 rfl ?_
              refine r_iinc dX7_standInWay_95 rfl rfl ?_
              refine r_goto (tgt := 6) dX7_standInWay_98 rfl ?_
              refine ih (n - 1) (k + 1) _ _ (by omega) (by omega) (by omega) (fun t ht => ?_)
              first
              | (have cb : H k = true := by rw [← hH k (by omega) (by omega)]; exact bit_iff.2 c23
                 rw [bit_or32 ht, bit_or32 ht, Bool.or_eq_true, Bool.or_eq_true, hv t ht]
                 constructor
                 · rintro ((⟨j, b1, b2⟩ | b) | b)
                   · exact ⟨j, by omega, b2⟩
                   · first
                     | exact ⟨k, by omega, cb, Or.inl ⟨c48.1, b⟩⟩
                     | (rw [bit_z ht] at b; cases b)
                   · exact ⟨k, by omega, cb, Or.inr b⟩
                 · rintro ⟨j, b1, b2, b3⟩
                   by_cases z : j = k
                   · rw [z] at b3
                     rcases b3 with ⟨b3, b4⟩ | b3
                     · first
                       | exact Or.inl (Or.inr b4)
                       | exact absurd (show 0 ≤ ρ (93 + k) ∧ ρ (93 + k) < ρ 5 by omega) c48
                     · exact Or.inr b3
                   · exact Or.inl (Or.inl ⟨j, by omega, b2, b3⟩))
              | (have cb : ¬ H k = true := fun z => c23 (bit_iff.1 (by rw [hH k (by omega) (by omega)]; exact z))
                 rw [hv t ht]
                 constructor
                 · rintro ⟨j, b1, b2⟩; exact ⟨j, by omega, b2⟩
                 · rintro ⟨j, b1, b2, b3⟩
                   by_cases z : j = k
                   · rw [z] at b2; exact absurd b2 cb
                   · exact ⟨j, by omega, b2, b3⟩)
          · have c48 := of_decide_eq_true c48
            refine r_aload_n dX7_standInWay_51 rfl ?_
            refine r_getR dX7_standInWay_52 fl_X7_167 rfl (by assumption) (by assumption) ?_
            refine r_aload_n dX7_standInWay_55 rfl ?_
            refine r_getR dX7_standInWay_56 fl_X7_55 rfl (by assumption) (by assumption) ?_
            refine r_iload dX7_standInWay_59 rfl ?_
            refine r_iald dX7_standInWay_61 (by assumption) rfl (by omega) ?_
            rw [kC.2.2.1]
            refine r_iald dX7_standInWay_62 (by assumption) rfl (by omega) ?_
            rw [wb1 c48]
            refine r_goto (tgt := 67) dX7_standInWay_63 rfl ?_
            refine r_ior dX7_standInWay_67 ?_
            refine r_istore dX7_standInWay_68 rfl ?_
            refine r_iload dX7_standInWay_70 rfl ?_
            refine r_aload_n dX7_standInWay_72 rfl ?_
            refine r_iload dX7_standInWay_73 rfl ?_
            refine r_cV1F1 dX7_standInWay_75 ml_X7_90 yl_X1_hasSpot ⟨rfl, rfl⟩ (by assumption) ⟨_, rfl⟩ rfl rfl rfl rfl (c_hasSpot hF hn0 (by omega)) ?_
            refine r_if_eqB (tgt := 91) dX7_standInWay_78 rfl (fun c78 => ?_) (fun c78 => ?_)
            · exact absurd (of_decide_eq_false c78) (by have := hsp k (by omega) (by omega); omega)
            · have c78 := of_decide_eq_true c78
              refine r_aload_n dX7_standInWay_81 rfl ?_
              refine r_getR dX7_standInWay_82 fl_X7_167 rfl (by assumption) (by assumption) ?_
              refine r_iload dX7_standInWay_85 rfl ?_
              refine r_iald dX7_standInWay_87 (by assumption) rfl (by omega) ?_
              rw [(ks _ c78.1 c78.2).2.2.2, ← tk]
              refine r_goto (tgt := 92) dX7_standInWay_88 rfl ?_
              refine r_ior dX7_standInWay_92 ?_
              refine r_istore dX7_standInWay_93 rfl ?_
              refine r_iinc dX7_standInWay_95 rfl rfl ?_
              refine r_goto (tgt := 6) dX7_standInWay_98 rfl ?_
              refine ih (n - 1) (k + 1) _ _ (by omega) (by omega) (by omega) (fun t ht => ?_)
              first
              | (have cb : H k = true := by rw [← hH k (by omega) (by omega)]; exact bit_iff.2 c23
                 rw [bit_or32 ht, bit_or32 ht, Bool.or_eq_true, Bool.or_eq_true, hv t ht]
                 constructor
                 · rintro ((⟨j, b1, b2⟩ | b) | b)
                   · exact ⟨j, by omega, b2⟩
                   · first
                     | exact ⟨k, by omega, cb, Or.inl ⟨c48.1, b⟩⟩
                     | (rw [bit_z ht] at b; cases b)
                   · exact ⟨k, by omega, cb, Or.inr b⟩
                 · rintro ⟨j, b1, b2, b3⟩
                   by_cases z : j = k
                   · rw [z] at b3
                     rcases b3 with ⟨b3, b4⟩ | b3
                     · first
                       | exact Or.inl (Or.inr b4)
                       | exact absurd (show 0 ≤ ρ (93 + k) ∧ ρ (93 + k) < ρ 5 by omega) c48
                     · exact Or.inr b3
                   · exact Or.inl (Or.inl ⟨j, by omega, b2, b3⟩))
              | (have cb : ¬ H k = true := fun z => c23 (bit_iff.1 (by rw [hH k (by omega) (by omega)]; exact z))
                 rw [hv t ht]
                 constructor
                 · rintro ⟨j, b1, b2⟩; exact ⟨j, by omega, b2⟩
                 · rintro ⟨j, b1, b2, b3⟩
                   by_cases z : j = k
                   · rw [z] at b2; exact absurd b2 cb
                   · exact ⟨j, by omega, b2, b3⟩)
  refine AMet.of (by decide) rfl (by decide) rfl ?_
  refine r_iconst dX7_standInWay_0 ?_
  refine r_istore dX7_standInWay_1 rfl ?_
  refine r_iconst dX7_standInWay_3 ?_
  refine r_istore dX7_standInWay_4 rfl ?_
  exact l1 _ (ρ 11).toNat 0 0 _ (Nat.lt_succ_self _) (by omega) (by omega) (fun t ht => by rw [bit_z ht]; exact ⟨fun z => absurd z (by decide), fun ⟨j, z, _⟩ => by omega⟩)
set_option maxRecDepth 100000 in
set_option maxHeartbeats 4000000 in
theorem c_timesThroughDoors {μ : Mem} {a c : Nat} {ρ : Row} (hF : RelF SH μ a ρ) (hC : RelC SH μ c ρ) (hw : WF ρ) (hT : IsTab μ.2.2) {L : List Ent} (hW : RW μ (ρ 11) L) (hd : ∀ (i : Nat) (e : Ent), L[i]? = some e → ∀ j, 0 ≤ j → j < ρ 11 → 1 ≤ dg (ρ 11) e.1 j) {r : Int} {e : Ent} (he : 0 ≤ r ∧ L[r.toNat]? = some e) (hsp : ∀ k, 0 ≤ k → k < ρ 11 → dg (ρ 11) e.1 k - 1 < ρ 5)  : FMet yX7_timesThroughDoors gX7_timesThroughDoors SH [vR a, vR c, vR 172, vI r] μ (some (vI (hdN ρ e.1))) μ := by
  have hn0 := hw.1.1
  have hn := hw.1.1
  unfold WFn at hn
  have hS : 0 ≤ ρ 5 ∧ ρ 5 ≤ 6 := by omega
  obtain ⟨hIF, kf0, kh, kf4, ks, kf9, kj⟩ := id hF
  obtain ⟨u0, u1, u2, u3, u5, u6, u7, u8, u10, u11, y1, y2, y3, y4, y5, y6, y7, y8, y9⟩ := id hIF
  obtain ⟨hIC, e0, e5, e51, e52, eC⟩ := id hC
  obtain ⟨h0, h1, h2, h3, h4, h6, s1, s2, s3, s4, s5⟩ := id hIC
  have x172 : SH[172]? = some (7, 15) := rfl
  have hrl : r.toNat < L.length := (List.getElem?_eq_some_iff.1 he.2).1
  have hr32 : -2147483648 ≤ r ∧ r < 2147483648 := by have := hW.2.1; omega
  have hdg : ∀ k, 0 ≤ k → k < ρ 11 → 1 ≤ dg (ρ 11) e.1 k := hd _ _ he.2
  have t3 : ∀ (h : Int), (∀ k, 0 ≤ k → k < ρ 11 → bit h k = hsI ρ e.1 (ρ 11).toNat k) → ∀ (f n : Nat) (k : Int) (v : Int), n < f → 0 ≤ k → k + n = ρ 11 → v + sumF (fun k => if hsI ρ e.1 (ρ 11).toNat k = true then (if ρ (93 + k) = -1 then (1 : Int) else 2) else 0) n k = hdN ρ e.1 → AW gX7_timesThroughDoors SH μ 0 0 85 [some (vR a), some (vR c), some (vR 172), some (vI r), some (vI h), some (vI v), some (vI k)] [] (fun r2 sh2 μ2 => r2 = some (vI (hdN ρ e.1)) ∧ sh2 = SH ∧ μ2 = μ) := by
    intro h hH f
    induction f with
    | zero => intro n; intros; omega
    | succ f ih =>
      intro n k v hf hk hn2 hv
      refine r_iload dX7_timesThroughDoors_85 rfl ?_
      refine r_aload_n dX7_timesThroughDoors_87 rfl ?_
      refine r_getI dX7_timesThroughDoors_88 fl_X7_52 rfl (by assumption) ?_
      rw [e0]
      refine q_icmp_ge (tgt := 132) dX7_timesThroughDoors_91 rfl (by omega) (by omega) (fun c91 => ?_) (fun c91 => ?_)
      · refine r_iload dX7_timesThroughDoors_132 rfl ?_
        refine r_ireturn dX7_timesThroughDoors_134 rfl rfl rfl ?_
        obtain rfl : n = 0 := by omega
        rw [sumF] at hv
        exact ⟨rI (by omega), rfl, rfl⟩
      · have kC := eC k (by omega) (by omega)
        have kP := (hw.2.2.1 k (by omega) (by omega)).2.2.1
        obtain ⟨m, rfl⟩ : ∃ q, n = q + 1 := ⟨n - 1, by omega⟩
        rw [sumF] at hv
        refine r_iload dX7_timesThroughDoors_94 rfl ?_
        refine r_iload dX7_timesThroughDoors_96 rfl ?_
        refine r_ishr dX7_timesThroughDoors_98 ?_
        refine r_iconst dX7_timesThroughDoors_99 ?_
        refine r_iand dX7_timesThroughDoors_100 ?_
        refine r_iconst dX7_timesThroughDoors_101 ?_
        refine q_icmp_ne (tgt := 126) dX7_timesThroughDoors_102 rfl (iand_rng _ _) (by omega) (fun c102 => ?_) (fun c102 => ?_)
        · refine r_iinc dX7_timesThroughDoors_126 rfl rfl ?_
          refine r_goto (tgt := 85) dX7_timesThroughDoors_129 rfl ?_
          refine ih m (k + 1) _ (by omega) (by omega) (by omega) ?_
          first
          | (have cb : hsI ρ e.1 (ρ 11).toNat k = true := by rw [← hH k (by omega) (by omega)]; exact bit_iff.2 c102
             rw [if_pos cb] at hv
             first
             | (rw [if_pos (by omega)] at hv; omega)
             | (rw [if_neg (by omega)] at hv; omega))
          | (have cb : ¬ hsI ρ e.1 (ρ 11).toNat k = true := fun z => c102 (bit_iff.1 (by rw [hH k (by omega) (by omega)]; exact z))
             rw [if_neg cb] at hv
             omega)
        · refine r_iload dX7_timesThroughDoors_105 rfl ?_
          refine r_aload_n dX7_timesThroughDoors_107 rfl ?_
          refine r_getR dX7_timesThroughDoors_108 fl_X7_55 rfl (by assumption) (by assumption) ?_
          refine r_iload dX7_timesThroughDoors_111 rfl ?_
          refine r_iald dX7_timesThroughDoors_113 (by assumption) rfl (by omega) ?_
          rw [kC.2.2.1]
          refine r_iconst dX7_timesThroughDoors_114 ?_
          refine q_icmp_ne (tgt := 122) dX7_timesThroughDoors_115 rfl (by omega) (by omega) (fun c115 => ?_) (fun c115 => ?_)
          · refine r_iconst dX7_timesThroughDoors_122 ?_
            refine r_iadd dX7_timesThroughDoors_123 ?_
            refine r_istore dX7_timesThroughDoors_124 rfl ?_
            refine r_iinc dX7_timesThroughDoors_126 rfl rfl ?_
            refine r_goto (tgt := 85) dX7_timesThroughDoors_129 rfl ?_
            refine ih m (k + 1) _ (by omega) (by omega) (by omega) ?_
            first
            | (have cb : hsI ρ e.1 (ρ 11).toNat k = true := by rw [← hH k (by omega) (by omega)]; exact bit_iff.2 c102
               rw [if_pos cb] at hv
               first
               | (rw [if_pos (by omega)] at hv; omega)
               | (rw [if_neg (by omega)] at hv; omega))
            | (have cb : ¬ hsI ρ e.1 (ρ 11).toNat k = true := fun z => c102 (bit_iff.1 (by rw [hH k (by omega) (by omega)]; exact z))
               rw [if_neg cb] at hv
               omega)
          · refine r_iconst dX7_timesThroughDoors_118 ?_
            refine r_goto (tgt := 123) dX7_timesThroughDoors_119 rfl ?_
            refine r_iadd dX7_timesThroughDoors_123 ?_
            refine r_istore dX7_timesThroughDoors_124 rfl ?_
            refine r_iinc dX7_timesThroughDoors_126 rfl rfl ?_
            refine r_goto (tgt := 85) dX7_timesThroughDoors_129 rfl ?_
            refine ih m (k + 1) _ (by omega) (by omega) (by omega) ?_
            first
            | (have cb : hsI ρ e.1 (ρ 11).toNat k = true := by rw [← hH k (by omega) (by omega)]; exact bit_iff.2 c102
               rw [if_pos cb] at hv
               first
               | (rw [if_pos (by omega)] at hv; omega)
               | (rw [if_neg (by omega)] at hv; omega))
            | (have cb : ¬ hsI ρ e.1 (ρ 11).toNat k = true := fun z => c102 (bit_iff.1 (by rw [hH k (by omega) (by omega)]; exact z))
               rw [if_neg cb] at hv
               omega)
  have t2 : ∀ (f n : Nat) (k : Int) (h : Int) (o6 : Option AV), n < f → 0 ≤ k → k + n = ρ 11 → (∀ q, 0 ≤ q → q < ρ 11 → bit h q = hsI ρ e.1 k.toNat q) → AW gX7_timesThroughDoors SH μ 0 0 50 [some (vR a), some (vR c), some (vR 172), some (vI r), some (vI h), some (vI k), o6] [] (fun r2 sh2 μ2 => r2 = some (vI (hdN ρ e.1)) ∧ sh2 = SH ∧ μ2 = μ) := by
    intro f
    induction f with
    | zero => intro n; intros; omega
    | succ f ih =>
      intro n k h o6 hf hk hn2 hH
      refine r_iload dX7_timesThroughDoors_50 rfl ?_
      refine r_aload_n dX7_timesThroughDoors_52 rfl ?_
      refine r_getI dX7_timesThroughDoors_53 fl_X7_52 rfl (by assumption) ?_
      rw [e0]
      refine q_icmp_ge (tgt := 79) dX7_timesThroughDoors_56 rfl (by omega) (by omega) (fun c56 => ?_) (fun c56 => ?_)
      · refine r_iconst dX7_timesThroughDoors_79 ?_
        refine r_istore dX7_timesThroughDoors_80 rfl ?_
        refine r_iconst dX7_timesThroughDoors_82 ?_
        refine r_istore dX7_timesThroughDoors_83 rfl ?_
        obtain rfl : k = ρ 11 := by omega
        exact t3 h hH _ (ρ 11).toNat 0 0 (Nat.lt_succ_self _) (by omega) (by omega) (by rw [Int.zero_add]; rfl)
      · refine r_iload dX7_timesThroughDoors_59 rfl ?_
        refine r_aload_n dX7_timesThroughDoors_61 rfl ?_
        refine r_aload_n dX7_timesThroughDoors_62 rfl ?_
        refine r_aload_n dX7_timesThroughDoors_63 rfl ?_
        refine r_iload_n dX7_timesThroughDoors_64 rfl ?_
        refine r_iload dX7_timesThroughDoors_65 rfl ?_
        refine r_cS5I dX7_timesThroughDoors_67 ml_X7_163 yl_X7_standInWay ⟨rfl, rfl⟩ rfl rfl rfl rfl (c_standInWay (h := h) hF hC hw hT hW hd he hsp hH) ?_
        rintro x μ2 ⟨rfl, hx⟩
        refine r_ior dX7_timesThroughDoors_70 ?_
        refine r_istore dX7_timesThroughDoors_71 rfl ?_
        refine r_iinc dX7_timesThroughDoors_73 rfl rfl ?_
        refine r_goto (tgt := 50) dX7_timesThroughDoors_76 rfl ?_
        refine ih (n - 1) (k + 1) _ _ (by omega) (by omega) (by omega) (fun q q0 q1 => ?_)
        rw [bit_or32 ⟨q0, by omega⟩, hH q q0 q1, hx q q0 q1, show (k + 1).toNat = k.toNat + 1 by omega]
        rfl
  have t1 : ∀ (f n : Nat) (k : Int) (h : Int) (o6 : Option AV), n < f → 0 ≤ k → k + n = ρ 11 → (∀ q, 0 ≤ q → q < ρ 11 → (bit h q = true ↔ q < k ∧ hs0 ρ e.1 q = true)) → AW gX7_timesThroughDoors SH μ 0 0 6 [some (vR a), some (vR c), some (vR 172), some (vI r), some (vI h), some (vI k), o6] [] (fun r2 sh2 μ2 => r2 = some (vI (hdN ρ e.1)) ∧ sh2 = SH ∧ μ2 = μ) := by
    intro f
    induction f with
    | zero => intro n; intros; omega
    | succ f ih =>
      intro n k h o6 hf hk hn2 hH
      refine r_iload dX7_timesThroughDoors_6 rfl ?_
      refine r_aload_n dX7_timesThroughDoors_8 rfl ?_
      refine r_getI dX7_timesThroughDoors_9 fl_X7_52 rfl (by assumption) ?_
      rw [e0]
      refine q_icmp_ge (tgt := 47) dX7_timesThroughDoors_12 rfl (by omega) (by omega) (fun c12 => ?_) (fun c12 => ?_)
      · refine r_iconst dX7_timesThroughDoors_47 ?_
        refine r_istore dX7_timesThroughDoors_48 rfl ?_
        obtain rfl : k = ρ 11 := by omega
        refine t2 _ (ρ 11).toNat 0 h _ (Nat.lt_succ_self _) (by omega) (by omega) (fun q q0 q1 => ?_)
        rw [Bool.eq_iff_iff, hH q q0 q1]
        exact ⟨fun z => z.2, fun z => ⟨q1, z⟩⟩
      · have kC := eC k (by omega) (by omega)
        have kP := (hw.2.2.1 k (by omega) (by omega)).2.2.1
        have tk := tg_dg (ρ := ρ) (g := e.1) (k := k) ⟨by omega, by omega⟩
        have dk2 := dg_rng (ρ 11) e.1 k
        refine r_aload_n dX7_timesThroughDoors_15 rfl ?_
        refine r_getR dX7_timesThroughDoors_16 fl_X7_55 rfl (by assumption) (by assumption) ?_
        refine r_iload dX7_timesThroughDoors_19 rfl ?_
        refine r_iald dX7_timesThroughDoors_21 (by assumption) rfl (by omega) ?_
        rw [kC.2.2.1]
        refine r_aload_n dX7_timesThroughDoors_22 rfl ?_
        refine r_iload_n dX7_timesThroughDoors_23 rfl ?_
        refine r_iload dX7_timesThroughDoors_24 rfl ?_
        refine r_cV2F1 dX7_timesThroughDoors_26 ml_X7_157 yl_X8_spotIn ⟨rfl, rfl⟩ (by assumption) ⟨_, rfl⟩ rfl rfl rfl rfl (c_spotIn hT hW hr32 (by omega) (by omega) hd he ⟨by omega, by omega⟩) ?_
        refine q_icmp_eq (tgt := 41) dX7_timesThroughDoors_29 rfl (by omega) (by omega) (fun c29 => ?_) (fun c29 => ?_)
        · refine r_iinc dX7_timesThroughDoors_41 rfl rfl ?_
          refine r_goto (tgt := 6) dX7_timesThroughDoors_44 rfl ?_
          refine ih (n - 1) (k + 1) _ _ (by omega) (by omega) (by omega) (fun q q0 q1 => ?_)
          have hs : hs0 ρ e.1 k = true ↔ ρ (93 + k) ≠ dg (ρ 11) e.1 k - 1 := by unfold hs0; rw [decide_eq_true_eq, tk]
          first
          | (rw [bit_set ⟨q0, by omega⟩ ⟨by omega, by omega⟩, Bool.or_eq_true, hH q q0 q1, decide_eq_true_eq]
             constructor
             · rintro (⟨b1, b2⟩ | b)
               · exact ⟨by omega, b2⟩
               · rw [b]; exact ⟨by omega, hs.2 c29⟩
             · rintro ⟨b1, b2⟩
               by_cases z : q = k
               · exact Or.inr z
               · exact Or.inl ⟨by omega, b2⟩)
          | (rw [hH q q0 q1]
             constructor
             · rintro ⟨b1, b2⟩; exact ⟨by omega, b2⟩
             · rintro ⟨b1, b2⟩
               by_cases z : q = k
               · rw [z] at b2; exact absurd c29 (hs.1 b2)
               · exact ⟨by omega, b2⟩)
        · refine r_iload dX7_timesThroughDoors_32 rfl ?_
          refine r_iconst dX7_timesThroughDoors_34 ?_
          refine r_iload dX7_timesThroughDoors_35 rfl ?_
          refine r_ishl dX7_timesThroughDoors_37 ?_
          refine r_ior dX7_timesThroughDoors_38 ?_
          refine r_istore dX7_timesThroughDoors_39 rfl ?_
          refine r_iinc dX7_timesThroughDoors_41 rfl rfl ?_
          refine r_goto (tgt := 6) dX7_timesThroughDoors_44 rfl ?_
          refine ih (n - 1) (k + 1) _ _ (by omega) (by omega) (by omega) (fun q q0 q1 => ?_)
          have hs : hs0 ρ e.1 k = true ↔ ρ (93 + k) ≠ dg (ρ 11) e.1 k - 1 := by unfold hs0; rw [decide_eq_true_eq, tk]
          first
          | (rw [bit_set ⟨q0, by omega⟩ ⟨by omega, by omega⟩, Bool.or_eq_true, hH q q0 q1, decide_eq_true_eq]
             constructor
             · rintro (⟨b1, b2⟩ | b)
               · exact ⟨by omega, b2⟩
               · rw [b]; exact ⟨by omega, hs.2 c29⟩
             · rintro ⟨b1, b2⟩
               by_cases z : q = k
               · exact Or.inr z
               · exact Or.inl ⟨by omega, b2⟩)
          | (rw [hH q q0 q1]
             constructor
             · rintro ⟨b1, b2⟩; exact ⟨by omega, b2⟩
             · rintro ⟨b1, b2⟩
               by_cases z : q = k
               · rw [z] at b2; exact absurd c29 (hs.1 b2)
               · exact ⟨by omega, b2⟩)
  refine AMet.of (by decide) rfl (by decide) rfl ?_
  refine r_iconst dX7_timesThroughDoors_0 ?_
  refine r_istore dX7_timesThroughDoors_1 rfl ?_
  refine r_iconst dX7_timesThroughDoors_3 ?_
  refine r_istore dX7_timesThroughDoors_4 rfl ?_
  exact t1 _ (ρ 11).toNat 0 0 _ (Nat.lt_succ_self _) (by omega) (by omega) (fun q q0 q1 => by rw [bit_z ⟨q0, by omega⟩]; exact ⟨fun z => absurd z (by decide), fun z => by omega⟩)
theorem TL_spot {ρ : Row} (hw : WF ρ) {i : Int} (hi : isG ρ i) {e : Ent} (hg : gAt ρ i / 200 = e.1) : ∀ k, 0 ≤ k → k < ρ 11 → dg (ρ 11) e.1 k - 1 < ρ 5 := by
  have hn := hw.1.1
  unfold WFn at hn
  have hs := gAt_spec (ρ := ρ) (by omega) hi
  rw [hg] at hs
  have h11 := lay_11 ρ e.1
  have q := (whole_iff (ρ := layR ρ e.1) (by rw [h11]; omega)).1 hs.2.2.2.1
  rw [h11, lay_ne (j := 5) (by omega)] at q
  intro k k0 k1
  have := (q k k0 k1).1
  rw [lay_at ⟨k0, k1⟩] at this
  omega
theorem x_handlings {μ : Mem} {G : Gh} {p pd c cd : Nat} (hX : InX μ G p pd c cd) (hTO : TabOK μ p c (gRow G)) {i : Int} (hi : -2147483648 ≤ i ∧ i < 2147483648)  : IMet yX11_handlings gX11_handlings SH [vR 0, vI i] μ (fun x μ2 => x = handF (gRow G) i ∧ XT μ μ2 G p pd c cd) := by
  obtain ⟨hL, hPos, ⟨hP, hC, hw, h99⟩, hH, ⟨hi0, hi1⟩, hT, hFk, hTm⟩ := id hX
  obtain ⟨hp0, hc0, r2, r3, r4, r5⟩ := id hPos
  have rr9 := hL.r0_9
  have x0 : SH[0]? = some (10, 11) := rfl
  have x172 : SH[172]? = some (7, 15) := rfl
  have hn := hw.1.1
  unfold WFn at hn
  have hc5 : c = 50 ∨ c = 56 := by omega
  have hp4 : p = 4 ∨ p = 27 := by omega
  refine AMet.of (by decide) rfl (by decide) rfl ?_
  refine r_aload_n dX11_handlings_0 rfl ?_
  refine r_cV0O dX11_handlings_1 ml_X11_244 yl_X11_freshTable ⟨rfl, rfl⟩ (by assumption) ⟨_, rfl⟩ rfl rfl rfl rfl (x_freshTable hX hTO) ?_
  rintro μ3 hq
  have rr93 : μ3.2.2 0 9 = some 172 := by rw [hq.2.1 _ _ (by omega)]; exact rr9
  have r23 : μ3.2.2 0 2 = some p := by rw [hq.2.1 _ _ (by omega)]; exact r2
  have r43 : μ3.2.2 0 4 = some c := by rw [hq.2.1 _ _ (by omega)]; exact r4
  have hX3 := hX.tab hq
  have hP3 := hX3.2.2.1.1
  have hC3 := hX3.2.2.1.2.1
  have hIC3 := hC3.1
  have hx5 := hIC3.1
  have hxp := hP3.1.1
  have hT3 := hX3.1.tab
  have hM := hq.2.2.2.2
  have hW3 := hM.2.2.2
  have hXT := hX.xt hq
  refine r_iload_n dX11_handlings_4 rfl ?_
  refine r_cV1F1 dX11_handlings_5 ml_X11_251 yl_X8_rowOf ⟨rfl, rfl⟩ (by assumption) ⟨_, rfl⟩ rfl rfl rfl rfl (c_rowOf hT3 hW3 hi) ?_
  have hIP3 := hP3.1
  obtain ⟨w0, w5, w6, w7, w8, -⟩ := id hIP3
  rcases tab_at hw i with ⟨hr0, hng⟩ | ⟨r, e, hr0, he, hgi, hg1, hg2, hm, hr7⟩
  · refine r_istore_n dX11_handlings_8 rfl ?_
    refine r_iload_n dX11_handlings_9 rfl ?_
    refine r_iconst dX11_handlings_10 ?_
    refine q_icmp_ne (tgt := 18) dX11_handlings_11 rfl (by omega) (by omega) (fun c11 => ?_) (fun c11 => ?_)
    · exact absurd hr0 c11
    · refine r_iconst dX11_handlings_14 ?_
      refine r_goto (tgt := 37) dX11_handlings_15 rfl ?_
      refine r_ireturn dX11_handlings_37 rfl rfl rfl ?_
      refine ⟨rfl, _, rfl, ?_, hXT⟩
      unfold handF
      rw [if_neg hng]
  · rw [hr0]
    refine r_istore_n dX11_handlings_8 rfl ?_
    refine r_iload_n dX11_handlings_9 rfl ?_
    refine r_iconst dX11_handlings_10 ?_
    refine q_icmp_ne (tgt := 18) dX11_handlings_11 rfl (by omega) (by omega) (fun c11 => ?_) (fun c11 => ?_)
    · refine r_aload_n dX11_handlings_18 rfl ?_
      refine r_getR dX11_handlings_19 fl_X11_19 rfl (by assumption) (by assumption) ?_
      refine r_getR dX11_handlings_22 fl_X11_97 rfl (by assumption) (by assumption) ?_
      refine r_aload_n dX11_handlings_25 rfl ?_
      refine r_getR dX11_handlings_26 fl_X11_29 rfl (by assumption) (by assumption) ?_
      refine r_aload_n dX11_handlings_29 rfl ?_
      refine r_getR dX11_handlings_30 fl_X11_56 rfl (by assumption) (by assumption) ?_
      refine r_iload_n dX11_handlings_33 rfl ?_
      refine r_cS4F1 dX11_handlings_34 ml_X11_262 yl_X7_timesThroughDoors ⟨rfl, rfl⟩ rfl rfl rfl rfl (c_timesThroughDoors hP3.2.2.2.2.2.2.2.1 hC3 hw hT3 hW3 (fun i e he => (TL_mem hw (List.mem_of_getElem? he)).2.2) (r := (r : Int)) (e := e) ⟨by omega, he⟩ (TL_spot hw hgi hg1)) ?_
      refine r_ireturn dX11_handlings_37 rfl rfl rfl ?_
      refine ⟨rfl, _, rfl, ?_, hXT⟩
      unfold handF
      rw [if_pos hgi, hg1]
    · exact absurd c11 (by omega)

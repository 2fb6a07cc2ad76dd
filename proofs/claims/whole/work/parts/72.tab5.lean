/-! 72.tab5: the class's table when it is asked for (wip/whole/src/72_tab5.py) -/
def ZR (μ : Mem) : Prop := (∀ s, 0 ≤ s → s < 6 → μ.1 179 s = 0) ∧ (∀ h, 0 ≤ h → h < 3 → μ.1 180 h = 0) ∧ (∀ q, 0 ≤ q → q < 10 → μ.1 181 q = 0)
def TabM (μ : Mem) (p c : Nat) (ρ : Row) : Prop := μ.1 172 0 = 1 ∧ μ.2.2 172 5 = some p ∧ μ.2.2 172 6 = some c ∧ RW μ (ρ 11) (TL ρ)
def TabOK (μ : Mem) (p c : Nat) (ρ : Row) : Prop := ZR μ ∧ (μ.1 172 0 = 0 ∨ TabM μ p c ρ)
def MkQ (μ μ2 : Mem) (p c : Nat) (ρ : Row) : Prop := Kp (fun a => ¬ (172 ≤ a ∧ a < 182)) μ μ2 ∧ (∀ a j, ¬ (a = 172 ∧ (j = 5 ∨ j = 6)) → μ2.2.2 a j = μ.2.2 a j) ∧ μ2.2.1 = μ.2.1 ∧ ZR μ2 ∧ TabM μ2 p c ρ
theorem ZR.ar {μ : Mem} (h : ZR μ) (ρ : Row) : AR μ ρ 0 := ⟨fun j j0 j1 => by omega, h.1, h.2.1, h.2.2⟩
theorem AR.zr {μ : Mem} {ρ : Row} (h : AR μ ρ 0) : ZR μ := ⟨h.2.1, h.2.2.1, h.2.2.2⟩
theorem WF.limB {ρ : Row} (h : WF ρ) : LimB ρ := by
  have q0 := (h.2.1 0 (by omega) (by omega)).1
  have q1 := (h.2.1 1 (by omega) (by omega)).1
  simp only [Int.add_zero, show (49 : Int) + 1 = 50 from rfl] at q0 q1
  unfold LimB lim0 lim1
  constructor
  · split
    · have := q0 (by omega); omega
    · omega
  · split
    · have := q1 (by omega); omega
    · omega
theorem bw_of {μ : Mem} {p c : Nat} {ρ : Row} (hT : IsTab μ.2.2) (t5 : μ.2.2 172 5 = some p) (t6 : μ.2.2 172 6 = some c) (hP : RelP SH μ p ρ) (hC : RelC SH μ c ρ) (hw : WF ρ) (hp : p = 4 ∨ p = 27) (hc : c = 50 ∨ c = 56) : BW μ p c ρ :=
  ⟨⟨hT, t5, t6⟩, ⟨hP, ⟨hC.1, hC.2.1, hC.2.2.1, fun k k0 k1 => ⟨(hC.2.2.2.2.2 k k0 k1).1, (hC.2.2.2.2.2 k k0 k1).2.1⟩⟩⟩, ⟨hw.1, hw.pw, hw.armB, hw.limB⟩, hp, hc⟩
def OMet (y : MethodName) (g : Gm) (sh : Sh) (vs : List AV) (μ : Mem) (v : AV) (Q : Mem → Prop) : Prop := AMet y g sh vs μ (fun r2 sh2 μ2 => r2 = some v ∧ sh2 = sh ∧ Q μ2)
theorem r_cV0O {g g2 : Gm} {sh : Sh} {μ : Mem} {cs ss pc : Nat} {ls : Ls} {st : List AV} {P : Option AV → Sh → Mem → Prop} {y : MethodName} {idx a ci N : Nat} {v : AV} {Q : Mem → Prop} (hd : decode (gC g) pc = .ok (.invokevirtual idx, 3)) (hk : Cond.methodLink (gO g) idx y ∈ GW ∧ Cond.instanceMethod y ∈ GW ∧ Cond.selects y.cls y y ∈ GW) (hy : YL y g2 0) (h0 : gM g2 = 0 ∧ gS g2 = 0) (ha : sh[a]? = some (ci, N)) (hcl : ∃ T, vwCl[ci]? = some (y.cls, T, N)) (hr : Nat.ble (gD g2 + 1) (gD g) = true) (hcs : Nat.ble (catSum st) 8 = true) (hc1 : Nat.ble cs (gM g) = true) (hs1 : Nat.ble ss (gS g) = true)
    (hm : OMet y g2 sh [vR a] μ v Q) (kk : ∀ μ', Q μ' → AW g sh μ' cs ss (pc + 3) ls (v :: st) P) : AW g sh μ cs ss pc ls (vR a :: st) P := by
  exact r_callV (vs := []) hd hk hy hm rfl ha hcl hr hcs (le0 h0.1 hc1) (le0 h0.2 hs1) (fun r sh2 μ2 h => by obtain ⟨rfl, rfl, hq⟩ := h; exact up0 h0.1 h0.2 (kk _ hq))
theorem c_makeFor {μ : Mem} {p c : Nat} {ρ : Row} (hL : Lay μ.2.2) (hP : RelP SH μ p ρ) (hC : RelC SH μ c ρ) (hw : WF ρ) (hp : p = 4 ∨ p = 27) (hc : c = 50 ∨ c = 56) (hT : TabOK μ p c ρ) : VMet yX8_makeFor gX8_makeFor SH [vR 172, vR p, vR c] μ (fun μ2 => MkQ μ μ2 p c ρ) := by
  have hn0 := hw.1.1
  unfold WFn at hn0
  have hTL := TL_exp hw
  have hGL := GL_len (ρ := ρ) (by omega)
  have l28 : ∀ μ1 : Mem, BW μ1 p c ρ → ZR μ1 → μ1.1 172 0 = 1 → μ1.1 172 1 = 0 → Kp (fun a => ¬ (172 ≤ a ∧ a < 182)) μ μ1 → (∀ a j, ¬ (a = 172 ∧ (j = 5 ∨ j = 6)) → μ1.2.2 a j = μ.2.2 a j) → μ1.2.1 = μ.2.1 → AW gX8_makeFor SH μ1 0 0 28 [some (vR 172), some (vR p), some (vR c)] [] (fun r2 sh2 μ2 => r2 = none ∧ sh2 = SH ∧ MkQ μ μ2 p c ρ) := by
    intro μ1 hB hZ q0 q1 hk1 hR1 hL1
    have hRW : RW (setI (setI μ1 172 7 (aLF ρ)) 172 8 (aMF ρ)) (ρ 11) [] := ⟨by rw [sI_nj (by omega), sI_nj (by omega)]; exact q1, Nat.zero_le _, Nat.zero_le _, fun i e he => by simp at he⟩
    obtain ⟨⟨hT, t5, t6⟩, ⟨hP, ⟨hIC, e0, e5, eC⟩⟩, ⟨hWP, hPW, hAB, hLB⟩, hpp, hcc⟩ := id hB
    obtain ⟨t2, t3, t4, t9, t10, t11, t12, t13, t14⟩ := id hT
    obtain ⟨h0, h1, h2, h3, h4, h6, s1, s2, s3, s4, s5⟩ := id hIC
    obtain ⟨hIP, p0, p1, p2, p3, p4, pb, hF, hV⟩ := id hP
    obtain ⟨i0, i5, i6, i7, i8, j1, j2, hIF0, hIV0⟩ := id hIP
    obtain ⟨hIF, kf0, kh, kf4, ks, kf9, kj⟩ := id hF
    obtain ⟨u0, u1, u2, u3, u5, u6, u7, u8, u10, u11, y1, y2, y3, y4, y5, y6, y7, y8, y9⟩ := id hIF
    obtain ⟨hIV, v0, vt, v5, v8, vi⟩ := id hV
    obtain ⟨w0, w1, w2, w3, w4, w6, w7, w9, w10, w11, b1, b2, b3, b4, b5, b6, b7, b8, b9⟩ := id hIV
    have hn := hWP.1
    unfold WFn at hn
    have x172 : SH[172]? = some (7, 15) := rfl
    have x173 : SH[173]? = some (20, 720) := rfl
    have x174 : SH[174]? = some (20, 720) := rfl
    have x175 : SH[175]? = some (20, 720) := rfl
    have x176 : SH[176]? = some (20, 5) := rfl
    have x177 : SH[177]? = some (20, 5) := rfl
    have x178 : SH[178]? = some (20, 5) := rfl
    have x179 : SH[179]? = some (20, 6) := rfl
    have x180 : SH[180]? = some (20, 3) := rfl
    have x181 : SH[181]? = some (20, 10) := rfl
    have hbi := bins_of hB
    have hlb := hLB
    unfold LimB at hlb
    refine r_aload_n dX8_makeFor_28 rfl ?_
    refine r_iconst dX8_makeFor_29 ?_
    refine r_aload_n dX8_makeFor_30 rfl ?_
    refine r_getR dX8_makeFor_31 fl_X8_51 rfl (by assumption) (by assumption) ?_
    refine r_getI dX8_makeFor_34 fl_X8_55 rfl (by assumption) ?_
    rw [e5]
    refine r_aload_n dX8_makeFor_37 rfl ?_
    refine r_getR dX8_makeFor_38 fl_X8_47 rfl (by assumption) (by assumption) ?_
    refine r_getR dX8_makeFor_41 fl_X8_60 rfl (by assumption) (by assumption) ?_
    refine r_iconst dX8_makeFor_44 ?_
    refine r_iald dX8_makeFor_45 (by assumption) rfl (by omega) ?_
    rw [hbi.2.2]
    refine r_isub dX8_makeFor_46 ?_
    refine r_cS2F1 dX8_makeFor_47 ml_X8_65 yl_J9_max_7cf53 ⟨rfl, rfl⟩ rfl rfl rfl rfl (j_max (by omega) (by omega)) ?_
    rw [show max 0 (ρ 12 - lim1 ρ) = aLF ρ from rfl]
    refine r_putI dX8_makeFor_50 fl_X8_71 (by assumption) ?_
    refine r_aload_n dX8_makeFor_53 rfl ?_
    refine r_aload_n dX8_makeFor_54 rfl ?_
    refine r_getR dX8_makeFor_55 fl_X8_51 rfl (by assumption) (by assumption) ?_
    refine r_getI dX8_makeFor_58 fl_X8_55 rfl (by assumption) ?_
    rw [sI_ne (by omega), e5]
    refine r_aload_n dX8_makeFor_61 rfl ?_
    refine r_getR dX8_makeFor_62 fl_X8_47 rfl (by assumption) (by assumption) ?_
    refine r_getR dX8_makeFor_65 fl_X8_60 rfl (by assumption) (by assumption) ?_
    refine r_iconst dX8_makeFor_68 ?_
    refine r_iald dX8_makeFor_69 (by assumption) rfl (by omega) ?_
    rw [sI_ne (by omega), hbi.2.1]
    refine r_cS2F1 dX8_makeFor_70 ml_X8_74 yl_J9_min_7cf53 ⟨rfl, rfl⟩ rfl rfl rfl rfl (j_min (by omega) (by omega)) ?_
    rw [show min (ρ 12) (lim0 ρ) = aMF ρ from rfl]
    have haL : 0 ≤ aLF ρ ∧ aLF ρ ≤ 200 := by unfold aLF; omega
    have haM : 0 ≤ aMF ρ ∧ aMF ρ ≤ 200 := by unfold aMF; omega
    refine r_putI dX8_makeFor_73 fl_X8_77 (by assumption) ?_
    refine r_aload_n dX8_makeFor_76 rfl ?_
    refine r_getI dX8_makeFor_77 fl_X8_71 rfl (by assumption) ?_
    rw [sI_nj (by omega), sI_at]
    refine r_aload_n dX8_makeFor_80 rfl ?_
    refine r_getI dX8_makeFor_81 fl_X8_77 rfl (by assumption) ?_
    rw [sI_at]
    refine q_icmp_gt (tgt := 107) dX8_makeFor_84 rfl (by omega) (by omega) (fun c84 => ?_) (fun c84 => ?_)
    · refine r_return dX8_makeFor_107 rfl rfl rfl ?_
      have hTLe : TL ρ = [] := if_pos (by omega)
      refine ⟨rfl, rfl, (hk1.sI (by (try dsimp only); omega)).sI (by (try dsimp only); omega), hR1, hL1, ⟨fun s s0 s1 => ?_, fun s s0 s1 => ?_, fun s s0 s1 => ?_⟩, ?_, t5, t6, by rw [hTLe]; exact hRW⟩
      · rw [sI_ne (by omega), sI_ne (by omega)]; exact hZ.1 s s0 s1
      · rw [sI_ne (by omega), sI_ne (by omega)]; exact hZ.2.1 s s0 s1
      · rw [sI_ne (by omega), sI_ne (by omega)]; exact hZ.2.2 s s0 s1
      · rw [sI_nj (by omega), sI_nj (by omega)]; exact q0
    · refine r_aload_n dX8_makeFor_87 rfl ?_
      refine r_getR dX8_makeFor_88 fl_X8_51 rfl (by assumption) (by assumption) ?_
      refine r_getI dX8_makeFor_91 fl_X8_80 rfl (by assumption) ?_
      rw [sI_ne (by omega), sI_ne (by omega), e0]
      refine r_aload_n dX8_makeFor_94 rfl ?_
      refine r_getR dX8_makeFor_95 fl_X8_47 rfl (by assumption) (by assumption) ?_
      refine r_getR dX8_makeFor_98 fl_X8_83 rfl (by assumption) (by assumption) ?_
      refine r_getI dX8_makeFor_101 fl_X8_87 rfl (by assumption) ?_
      rw [sI_ne (by omega), sI_ne (by omega), kf4]
      refine q_icmp_le (tgt := 108) dX8_makeFor_104 rfl (by omega) (by omega) (fun c104 => ?_) (fun c104 => ?_)
      · refine r_aload_n dX8_makeFor_108 rfl ?_
        have hB7 : BW (setI (setI μ1 172 7 (aLF ρ)) 172 8 (aMF ρ)) p c ρ := hB.mono (((Kp.rf _ μ1).sI (by (try dsimp only); omega)).sI (by (try dsimp only); omega)) rfl
        refine r_cV0N dX8_makeFor_109 ml_X8_92 yl_X8_reckonMoments ⟨rfl, rfl⟩ (by assumption) ⟨_, rfl⟩ rfl rfl rfl rfl (c_reckonMoments hB7) ?_
        rintro μ3 ⟨b1, b2⟩
        have hB3 : BW μ3 p c ρ := hB7.mono (b1.1.mono (fun q hq => by (try dsimp only at *); omega)) (by rw [b1.2])
        have g1 : μ3.1 172 = (setI (setI μ1 172 7 (aLF ρ)) 172 8 (aMF ρ)).1 172 := (b1.1 172 (by (try dsimp only); omega)).1
        have hTLe : TL ρ = layE (ρ 11).toNat 0 ρ := if_neg (by omega)
        have hQ3 : TQ μ3 ρ [] := ⟨by rw [g1, sI_nj (by omega), sI_nj (by omega)]; exact q0, by rw [g1, sI_nj (by omega), sI_at], by rw [g1, sI_at], b2, hRW.keep (by rw [g1]) (fun i i0 i1 => absurd i1 (Nat.not_lt_zero _))⟩
        have hA3 : AR μ3 ρ 0 := by
          have z := hZ
          have k9 : ∀ a : Nat, 178 ≤ a → a < 182 → μ3.1 a = μ1.1 a := fun a a0 a1 => ((b1.1 a (by (try dsimp only); omega)).1).trans (funext fun j => by rw [sI_ne (by omega), sI_ne (by omega)])
          exact ZR.ar ⟨fun s s0 s1 => by rw [k9 179 (by omega) (by omega)]; exact z.1 s s0 s1, fun s s0 s1 => by rw [k9 180 (by omega) (by omega)]; exact z.2.1 s s0 s1, fun s s0 s1 => by rw [k9 181 (by omega) (by omega)]; exact z.2.2 s s0 s1⟩ ρ
        refine r_aload_n dX8_makeFor_112 rfl ?_
        refine r_iconst dX8_makeFor_113 ?_
        refine r_cS2N dX8_makeFor_114 ml_X8_95 (yl_X8_layFrom _) ⟨rfl, rfl⟩ (Nat.ble_eq_true_of_le (show (ρ 11).toNat + 5 + 1 ≤ 11 by omega)) rfl rfl rfl (c_layFrom (ρ 11).toNat 0 ρ _ [] hB3 hA3 (fun j j0 j1 => by omega) hQ3 (by omega) (by omega) ⟨by rw [← hTLe]; simp; omega, by rw [← hTLe, List.nil_append, hTL.1]; exact hGL⟩) ?_
        rintro μ4 ⟨d1, d2, d3, d4⟩
        have hTo : TabM μ4 p c ρ := ⟨d4.1, by rw [d2, b1.2]; exact t5, by rw [d2, b1.2]; exact t6, by rw [hTLe]; exact d4.2.2.2.2⟩
        refine r_return dX8_makeFor_117 rfl rfl rfl ?_
        refine ⟨rfl, rfl, ?_, ?_, ?_, d3.zr, hTo⟩
        · exact ((((hk1.sI (by (try dsimp only); omega)).sI (by (try dsimp only); omega)).tr (b1.1.mono (fun q hq => by (try dsimp only at *); omega))).tr d1)
        · intro a j haj
          rw [d2, b1.2]
          exact hR1 a j haj
        · rw [d2, b1.2]
          exact hL1
      · refine r_return dX8_makeFor_107 rfl rfl rfl ?_
        have hTLe : TL ρ = [] := if_pos (by omega)
        refine ⟨rfl, rfl, (hk1.sI (by (try dsimp only); omega)).sI (by (try dsimp only); omega), hR1, hL1, ⟨fun s s0 s1 => ?_, fun s s0 s1 => ?_, fun s s0 s1 => ?_⟩, ?_, t5, t6, by rw [hTLe]; exact hRW⟩
        · rw [sI_ne (by omega), sI_ne (by omega)]; exact hZ.1 s s0 s1
        · rw [sI_ne (by omega), sI_ne (by omega)]; exact hZ.2.1 s s0 s1
        · rw [sI_ne (by omega), sI_ne (by omega)]; exact hZ.2.2 s s0 s1
        · rw [sI_nj (by omega), sI_nj (by omega)]; exact q0
  have x172 : SH[172]? = some (7, 15) := rfl
  have hTab := hL.tab
  rcases hT.2 with hm | hm
  · have hm0 := hm
    refine AMet.of (by decide) rfl (by decide) rfl ?_
    refine r_aload_n dX8_makeFor_0 rfl ?_
    refine r_getI dX8_makeFor_1 fl_X8_39 rfl (by assumption) ?_
    rw [hm0]
    refine q_if_eq (tgt := 8) dX8_makeFor_4 rfl (by decide) (fun c4 => ?_) (fun c4 => ?_)
    · refine r_aload_n dX8_makeFor_8 rfl ?_
      refine r_iconst dX8_makeFor_9 ?_
      refine r_putZ dX8_makeFor_10 fl_X8_39 (by assumption) (by first | exact Or.inl rfl | exact Or.inr rfl | exact b2i_01 _ | omega) ?_
      refine r_aload_n dX8_makeFor_13 rfl ?_
      refine r_iconst dX8_makeFor_14 ?_
      refine r_putI dX8_makeFor_15 fl_X8_43 (by assumption) ?_
      refine r_aload_n dX8_makeFor_18 rfl ?_
      refine r_aload_n dX8_makeFor_19 rfl ?_
      refine r_putR dX8_makeFor_20 fl_X8_47 rfl (by assumption) ?_
      refine r_aload_n dX8_makeFor_23 rfl ?_
      refine r_aload_n dX8_makeFor_24 rfl ?_
      refine r_putR dX8_makeFor_25 fl_X8_51 rfl (by assumption) ?_
      refine l28 _ (bw_of hTab rfl rfl (hP.mono ?_) (hC.mono ?_) hw hp hc) ⟨fun s s0 s1 => hT.1.1 s s0 s1, fun s s0 s1 => hT.1.2.1 s s0 s1, fun s s0 s1 => hT.1.2.2 s s0 s1⟩ ?_ ?_ ?_ ?_ rfl
      · exact ((((Kp.rf _ μ).sI (by (try dsimp only); omega)).sI (by (try dsimp only); omega)).sR (by (try dsimp only); omega)).sR (by (try dsimp only); omega)
      · exact ((((Kp.rf _ μ).sI (by (try dsimp only); omega)).sI (by (try dsimp only); omega)).sR (by (try dsimp only); omega)).sR (by (try dsimp only); omega)
      · show (setI (setI μ 172 0 1) 172 1 0).1 172 0 = 1
        rw [sI_nj (by omega), sI_at]
      · show (setI (setI μ 172 0 1) 172 1 0).1 172 1 = 0
        rw [sI_at]
      · exact ((((Kp.rf _ μ).sI (by (try dsimp only); omega)).sI (by (try dsimp only); omega)).sR (by (try dsimp only); omega)).sR (by (try dsimp only); omega)
      · intro a j haj
        show (if a = 172 ∧ j = 6 then some c else if a = 172 ∧ j = 5 then some p else μ.2.2 a j) = _
        rw [if_neg (by omega), if_neg (by omega)]
    · exact absurd rfl c4
  · have hm0 := hm.1
    refine AMet.of (by decide) rfl (by decide) rfl ?_
    refine r_aload_n dX8_makeFor_0 rfl ?_
    refine r_getI dX8_makeFor_1 fl_X8_39 rfl (by assumption) ?_
    rw [hm0]
    refine q_if_eq (tgt := 8) dX8_makeFor_4 rfl (by decide) (fun c4 => ?_) (fun c4 => ?_)
    · exact absurd c4 (by decide)
    · refine r_return dX8_makeFor_7 rfl rfl rfl ?_
      exact ⟨rfl, rfl, Kp.rf _ _, fun _ _ _ => rfl, rfl, hT.1, hm⟩

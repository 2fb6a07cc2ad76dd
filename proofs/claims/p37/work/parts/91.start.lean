/-! 91.start: taken from whole (wip/p37/port.py) -/
/-! 91.start: the class, the reference, and how both begin (wip/whole/src/91_start.py) -/
def rfX11 : Rf := (((((((((([] ++ (shR 1 rfX6 ++ [(0, 0, 1)])) ++ (shR 4 rfX5 ++ [(0, 2, 4)])) ++ (shR 27 rfX5 ++ [(0, 3, 27)])) ++ (shR 50 rfX0 ++ [(0, 4, 50)])) ++ (shR 56 rfX0 ++ [(0, 5, 56)])) ++ (shR 62 rfX2 ++ [(0, 6, 62)])) ++ (shR 112 rfX3 ++ [(0, 7, 112)])) ++ (shR 142 rfX3 ++ [(0, 8, 142)])) ++ (shR 172 rfX8 ++ [(0, 9, 172)])) ++ (shR 182 rfX4 ++ [(0, 10, 182)]))
def zsX11 : List Nat := (((((((((([0] ++ shZ 1 zsX6) ++ shZ 4 []) ++ shZ 27 []) ++ shZ 50 [0, 1, 2, 3, 4, 5]) ++ shZ 56 [0, 1, 2, 3, 4, 5]) ++ shZ 62 zsX2) ++ shZ 112 zsX3) ++ shZ 142 zsX3) ++ shZ 172 [0, 1, 2, 3, 4, 5, 6, 7, 8, 9]) ++ shZ 182 [0, 1, 2, 3, 4, 5])
set_option maxRecDepth 100000 in
set_option maxHeartbeats 4000000 in
theorem i_X11 {sh : Sh} {μ : Mem} {a : Nat} (hlen : sh.length = a + 1) (hc0 : sh[a]? = some (10, 11)) (hz0 : ∀ j, μ.1 a j = 0)  : AMet yX11_init gX11_init sh [vR a] μ (fun r sh2 μ2 => r = none ∧ sh2 = sh ++ lstX11 ∧ NS μ a rfX11 zsX11 μ2 ∧ RelP sh2 μ2 (a + 4) bareR) := by
  have hK0 := NS.start hz0
  refine AMet.of (by decide) rfl (fun _ => rfl) rfl ?_
  refine r_aload_n dX11_init_0 rfl ?_
  refine r_objInit dX11_init_1 ml_X11_1 rfl rfl ?_
  refine r_aload_n dX11_init_4 rfl ?_
  refine r_new dX11_init_5 nl_X11_7 rfl rfl ?_
  rw [hlen]
  refine r_dup dX11_init_8 rfl ?_
  refine r_callN (vs := []) dX11_init_9 ml_X11_9 mi_X11_9 yl_X6_init rfl (i_X6 (a := a + 1) (by rw [List.length_append, hlen]; rfl) (apL hlen) (bornZ _ _)) rfl rfl rfl rfl rfl ?_
  rintro r1 t1 u1 ⟨rfl, rfl, hN1⟩
  try simp only [Option.toList_none, List.nil_append]
  refine r_putF dX11_init_12 fl_X11_10 rfl (ap (ap hc0)) rfl ⟨_, rfl⟩ ?_
  have hK1 := hK0.sub 1 0 0 (by decide) (by decide +kernel) (by decide +kernel) (L := a + 1) (B := a + 0) rfl rfl hN1
  generalize setR u1 a 0 (some (a + 1)) = m1 at hK1 ⊢
  generalize hs1 : (sh ++ [(6, 4)]) ++ lstX6 = s1
  have hl1 : s1.length = a + 4 := by rw [← hs1, List.length_append, List.length_append, hlen]; rfl
  have hc1 : s1[a]? = some (10, 11) := by rw [← hs1]; exact ap (ap hc0)
  refine r_aload_n dX11_init_15 rfl ?_
  refine r_new dX11_init_16 nl_X11_16 rfl rfl ?_
  rw [hl1]
  refine r_dup dX11_init_19 rfl ?_
  refine r_callI (vs := []) dX11_init_20 ml_X11_18 yl_X5_init rfl (i_X5 (a := a + 4) (by rw [List.length_append, hl1]; rfl) (apL hl1) (bornZ _ _)) rfl rfl rfl rfl rfl ?_
  rintro r2 t2 u2 ⟨rfl, rfl, hN2, hRP⟩
  try simp only [Option.toList_none, List.nil_append]
  refine r_putR dX11_init_23 fl_X11_19 rfl (ap (ap hc1)) ?_
  have hK2 := hK1.sub 4 0 2 (by decide) (by decide +kernel) (by decide +kernel) (L := a + 4) (B := a + 0) rfl rfl hN2
  have hX2 : RelP ((s1 ++ [(5, 9)]) ++ lstX5) (setR u2 a 2 (some (a + 4))) (a + 4) bareR := hRP.mono ((Kp.rf _ _).sR (by (try dsimp only); omega))
  generalize setR u2 a 2 (some (a + 4)) = m2 at hK2 ⊢ hX2
  generalize hs2 : (s1 ++ [(5, 9)]) ++ lstX5 = s2 at hX2 ⊢
  have hl2 : s2.length = a + 27 := by rw [← hs2, List.length_append, List.length_append, hl1]; rfl
  have hc2 : s2[a]? = some (10, 11) := by rw [← hs2]; exact ap (ap hc1)
  refine r_aload_n dX11_init_26 rfl ?_
  refine r_new dX11_init_27 nl_X11_16 rfl rfl ?_
  rw [hl2]
  refine r_dup dX11_init_30 rfl ?_
  refine r_callI (vs := []) dX11_init_31 ml_X11_18 yl_X5_init rfl (i_X5 (a := a + 27) (by rw [List.length_append, hl2]; rfl) (apL hl2) (bornZ _ _)) rfl rfl rfl rfl rfl ?_
  rintro r3 t3 u3 ⟨rfl, rfl, hN3, -⟩
  try simp only [Option.toList_none, List.nil_append]
  refine r_putR dX11_init_34 fl_X11_23 rfl (ap (ap hc2)) ?_
  have hK3 := hK2.sub 27 0 3 (by decide) (by decide +kernel) (by decide +kernel) (L := a + 27) (B := a + 0) rfl rfl hN3
  have hX3 : Kp (fun q => a + 4 ≤ q ∧ q < a + 27) m2 (setR u3 a 3 (some (a + 27))) := (((Kp.rf _ _).bn (by (try dsimp only); omega)).tr (hN3.1.mono (fun q hq => by (try dsimp only at *); omega))).sR (by (try dsimp only); omega)
  generalize setR u3 a 3 (some (a + 27)) = m3 at hK3 ⊢ hX3
  generalize hs3 : (s2 ++ [(5, 9)]) ++ lstX5 = s3
  have hl3 : s3.length = a + 50 := by rw [← hs3, List.length_append, List.length_append, hl2]; rfl
  have hc3 : s3[a]? = some (10, 11) := by rw [← hs3]; exact ap (ap hc2)
  refine r_aload_n dX11_init_37 rfl ?_
  refine r_new dX11_init_38 nl_X11_26 rfl rfl ?_
  rw [hl3]
  refine r_dup dX11_init_41 rfl ?_
  refine r_callN (vs := []) dX11_init_42 ml_X11_28 mi_X11_28 yl_X0_init rfl (i_X0 (a := a + 50) (by rw [List.length_append, hl3]; rfl) (apL hl3) (bornZ _ _)) rfl rfl rfl rfl rfl ?_
  rintro r4 t4 u4 ⟨rfl, rfl, hN4⟩
  try simp only [Option.toList_none, List.nil_append]
  refine r_putR dX11_init_45 fl_X11_29 rfl (ap (ap hc3)) ?_
  have hK4 := hK3.sub 50 0 4 (by decide) (by decide +kernel) (by decide +kernel) (L := a + 50) (B := a + 0) rfl rfl hN4
  have hX4 : Kp (fun q => a + 4 ≤ q ∧ q < a + 27) m3 (setR u4 a 4 (some (a + 50))) := (((Kp.rf _ _).bn (by (try dsimp only); omega)).tr (hN4.1.mono (fun q hq => by (try dsimp only at *); omega))).sR (by (try dsimp only); omega)
  generalize setR u4 a 4 (some (a + 50)) = m4 at hK4 ⊢ hX4
  generalize hs4 : (s3 ++ [(0, 7)]) ++ cshX0 = s4
  have hl4 : s4.length = a + 56 := by rw [← hs4, List.length_append, List.length_append, hl3]; rfl
  have hc4 : s4[a]? = some (10, 11) := by rw [← hs4]; exact ap (ap hc3)
  refine r_aload_n dX11_init_48 rfl ?_
  refine r_new dX11_init_49 nl_X11_26 rfl rfl ?_
  rw [hl4]
  refine r_dup dX11_init_52 rfl ?_
  refine r_callN (vs := []) dX11_init_53 ml_X11_28 mi_X11_28 yl_X0_init rfl (i_X0 (a := a + 56) (by rw [List.length_append, hl4]; rfl) (apL hl4) (bornZ _ _)) rfl rfl rfl rfl rfl ?_
  rintro r5 t5 u5 ⟨rfl, rfl, hN5⟩
  try simp only [Option.toList_none, List.nil_append]
  refine r_putR dX11_init_56 fl_X11_33 rfl (ap (ap hc4)) ?_
  have hK5 := hK4.sub 56 0 5 (by decide) (by decide +kernel) (by decide +kernel) (L := a + 56) (B := a + 0) rfl rfl hN5
  have hX5 : Kp (fun q => a + 4 ≤ q ∧ q < a + 27) m4 (setR u5 a 5 (some (a + 56))) := (((Kp.rf _ _).bn (by (try dsimp only); omega)).tr (hN5.1.mono (fun q hq => by (try dsimp only at *); omega))).sR (by (try dsimp only); omega)
  generalize setR u5 a 5 (some (a + 56)) = m5 at hK5 ⊢ hX5
  generalize hs5 : (s4 ++ [(0, 7)]) ++ cshX0 = s5
  have hl5 : s5.length = a + 62 := by rw [← hs5, List.length_append, List.length_append, hl4]; rfl
  have hc5 : s5[a]? = some (10, 11) := by rw [← hs5]; exact ap (ap hc4)
  refine r_aload_n dX11_init_59 rfl ?_
  refine r_new dX11_init_60 nl_X11_36 rfl rfl ?_
  rw [hl5]
  refine r_dup dX11_init_63 rfl ?_
  refine r_callI (vs := []) dX11_init_64 ml_X11_38 yl_X2_init rfl (i_X2 (a := a + 62) (by rw [List.length_append, hl5]; rfl) (apL hl5) (bornZ _ _)) rfl rfl rfl rfl rfl ?_
  rintro r6 t6 u6 ⟨rfl, rfl, hN6⟩
  try simp only [Option.toList_none, List.nil_append]
  refine r_putF dX11_init_67 fl_X11_39 rfl (ap (ap hc5)) rfl ⟨_, rfl⟩ ?_
  have hK6 := hK5.sub 62 0 6 (by decide) (by decide +kernel) (by decide +kernel) (L := a + 62) (B := a + 0) rfl rfl hN6
  have hX6 : Kp (fun q => a + 4 ≤ q ∧ q < a + 27) m5 (setR u6 a 6 (some (a + 62))) := (((Kp.rf _ _).bn (by (try dsimp only); omega)).tr (hN6.1.mono (fun q hq => by (try dsimp only at *); omega))).sR (by (try dsimp only); omega)
  generalize setR u6 a 6 (some (a + 62)) = m6 at hK6 ⊢ hX6
  generalize hs6 : (s5 ++ [(2, 3)]) ++ lstX2 = s6
  have hl6 : s6.length = a + 112 := by rw [← hs6, List.length_append, List.length_append, hl5]; rfl
  have hc6 : s6[a]? = some (10, 11) := by rw [← hs6]; exact ap (ap hc5)
  refine r_aload_n dX11_init_70 rfl ?_
  refine r_new dX11_init_71 nl_X11_43 rfl rfl ?_
  rw [hl6]
  refine r_dup dX11_init_74 rfl ?_
  refine r_callN (vs := []) dX11_init_75 ml_X11_45 mi_X11_45 yl_X3_init rfl (i_X3 (a := a + 112) (by rw [List.length_append, hl6]; rfl) (apL hl6) (bornZ _ _)) rfl rfl rfl rfl rfl ?_
  rintro r7 t7 u7 ⟨rfl, rfl, hN7⟩
  try simp only [Option.toList_none, List.nil_append]
  refine r_putF dX11_init_78 fl_X11_46 rfl (ap (ap hc6)) rfl ⟨_, rfl⟩ ?_
  have hK7 := hK6.sub 112 0 7 (by decide) (by decide +kernel) (by decide +kernel) (L := a + 112) (B := a + 0) rfl rfl hN7
  have hX7 : Kp (fun q => a + 4 ≤ q ∧ q < a + 27) m6 (setR u7 a 7 (some (a + 112))) := (((Kp.rf _ _).bn (by (try dsimp only); omega)).tr (hN7.1.mono (fun q hq => by (try dsimp only at *); omega))).sR (by (try dsimp only); omega)
  generalize setR u7 a 7 (some (a + 112)) = m7 at hK7 ⊢ hX7
  generalize hs7 : (s6 ++ [(3, 3)]) ++ lstX3 = s7
  have hl7 : s7.length = a + 142 := by rw [← hs7, List.length_append, List.length_append, hl6]; rfl
  have hc7 : s7[a]? = some (10, 11) := by rw [← hs7]; exact ap (ap hc6)
  refine r_aload_n dX11_init_81 rfl ?_
  refine r_new dX11_init_82 nl_X11_43 rfl rfl ?_
  rw [hl7]
  refine r_dup dX11_init_85 rfl ?_
  refine r_callN (vs := []) dX11_init_86 ml_X11_45 mi_X11_45 yl_X3_init rfl (i_X3 (a := a + 142) (by rw [List.length_append, hl7]; rfl) (apL hl7) (bornZ _ _)) rfl rfl rfl rfl rfl ?_
  rintro r8 t8 u8 ⟨rfl, rfl, hN8⟩
  try simp only [Option.toList_none, List.nil_append]
  refine r_putF dX11_init_89 fl_X11_50 rfl (ap (ap hc7)) rfl ⟨_, rfl⟩ ?_
  have hK8 := hK7.sub 142 0 8 (by decide) (by decide +kernel) (by decide +kernel) (L := a + 142) (B := a + 0) rfl rfl hN8
  have hX8 : Kp (fun q => a + 4 ≤ q ∧ q < a + 27) m7 (setR u8 a 8 (some (a + 142))) := (((Kp.rf _ _).bn (by (try dsimp only); omega)).tr (hN8.1.mono (fun q hq => by (try dsimp only at *); omega))).sR (by (try dsimp only); omega)
  generalize setR u8 a 8 (some (a + 142)) = m8 at hK8 ⊢ hX8
  generalize hs8 : (s7 ++ [(3, 3)]) ++ lstX3 = s8
  have hl8 : s8.length = a + 172 := by rw [← hs8, List.length_append, List.length_append, hl7]; rfl
  have hc8 : s8[a]? = some (10, 11) := by rw [← hs8]; exact ap (ap hc7)
  refine r_aload_n dX11_init_92 rfl ?_
  refine r_new dX11_init_93 nl_X11_53 rfl rfl ?_
  rw [hl8]
  refine r_dup dX11_init_96 rfl ?_
  refine r_callN (vs := []) dX11_init_97 ml_X11_55 mi_X11_55 yl_X8_init rfl (i_X8 (a := a + 172) (by rw [List.length_append, hl8]; rfl) (apL hl8) (bornZ _ _)) rfl rfl rfl rfl rfl ?_
  rintro r9 t9 u9 ⟨rfl, rfl, hN9⟩
  try simp only [Option.toList_none, List.nil_append]
  refine r_putF dX11_init_100 fl_X11_56 rfl (ap (ap hc8)) rfl ⟨_, rfl⟩ ?_
  have hK9 := hK8.sub 172 0 9 (by decide) (by decide +kernel) (by decide +kernel) (L := a + 172) (B := a + 0) rfl rfl hN9
  have hX9 : Kp (fun q => a + 4 ≤ q ∧ q < a + 27) m8 (setR u9 a 9 (some (a + 172))) := (((Kp.rf _ _).bn (by (try dsimp only); omega)).tr (hN9.1.mono (fun q hq => by (try dsimp only at *); omega))).sR (by (try dsimp only); omega)
  generalize setR u9 a 9 (some (a + 172)) = m9 at hK9 ⊢ hX9
  generalize hs9 : (s8 ++ [(7, 15)]) ++ cshX8 = s9
  have hl9 : s9.length = a + 182 := by rw [← hs9, List.length_append, List.length_append, hl8]; rfl
  have hc9 : s9[a]? = some (10, 11) := by rw [← hs9]; exact ap (ap hc8)
  refine r_aload_n dX11_init_103 rfl ?_
  refine r_new dX11_init_104 nl_X11_60 rfl rfl ?_
  rw [hl9]
  refine r_dup dX11_init_107 rfl ?_
  refine r_callN (vs := []) dX11_init_108 ml_X11_62 mi_X11_62 yl_X4_init rfl (i_X4 (a := a + 182) (by rw [List.length_append, hl9]; rfl) (apL hl9) (bornZ _ _)) rfl rfl rfl rfl rfl ?_
  rintro r10 t10 u10 ⟨rfl, rfl, hN10⟩
  try simp only [Option.toList_none, List.nil_append]
  refine r_putF dX11_init_111 fl_X11_63 rfl (ap (ap hc9)) rfl ⟨_, rfl⟩ ?_
  have hK10 := hK9.sub 182 0 10 (by decide) (by decide +kernel) (by decide +kernel) (L := a + 182) (B := a + 0) rfl rfl hN10
  have hX10 : Kp (fun q => a + 4 ≤ q ∧ q < a + 27) m9 (setR u10 a 10 (some (a + 182))) := (((Kp.rf _ _).bn (by (try dsimp only); omega)).tr (hN10.1.mono (fun q hq => by (try dsimp only at *); omega))).sR (by (try dsimp only); omega)
  generalize setR u10 a 10 (some (a + 182)) = m10 at hK10 ⊢ hX10
  generalize hs10 : (s9 ++ [(4, 10)]) ++ cshX4 = s10
  have hl10 : s10.length = a + 188 := by rw [← hs10, List.length_append, List.length_append, hl9]; rfl
  have hc10 : s10[a]? = some (10, 11) := by rw [← hs10]; exact ap (ap hc9)
  refine r_return dX11_init_114 rfl rfl rfl ?_
  have hsx : s10 = sh ++ lstX11 := by rw [← hs10, ← hs9, ← hs8, ← hs7, ← hs6, ← hs5, ← hs4, ← hs3, ← hs2, ← hs1]; simp [lstX11, cshX0, cshX1, cshX4, cshX8, cshX9, cshX10, lstX6, lstX5, lstX2, lstX3]
  refine ⟨rfl, hsx, hK10, ?_⟩
  have e2 : s10 = s2 ++ (s10.drop (a + 27)) := by
    have : s2 = s10.take (a + 27) := by
      rw [← hs10, ← hs9, ← hs8, ← hs7, ← hs6, ← hs5, ← hs4, ← hs3]
      simp only [List.append_assoc]
      rw [List.take_append_of_le_length (by rw [hl2]; exact Nat.le_refl _), List.take_of_length_le (by rw [hl2]; exact Nat.le_refl _)]
    rw [this, List.take_append_drop]
  refine (hX2.mono (((((((hX3.tr hX4).tr hX5).tr hX6).tr hX7).tr hX8).tr hX9).tr hX10)).subS (fun i x h => ?_)
  rw [e2]
  exact ap h
theorem NS.ref {μ0 μ : Mem} {a : Nat} {rf : Rf} {zs : List Nat} (h : NS μ0 a rf zs μ) (q : Nat × Int × Nat) (hq : q ∈ rf) : μ.2.2 (a + q.1) q.2.1 = some (a + q.2.2) := h.2.1 q hq
def G0 : Gh := (bareR, [], none, none, fun _ => 0, 0, 0, [])
theorem bare_z {j : Int} (h : 4 ≤ j ∨ j < 0) : bareR j = 0 := by unfold bareR; rw [if_neg (by omega), if_neg (by omega), if_neg (by omega), if_neg (by omega)]
theorem bare_wf : WF bareR ∧ W99 bareR := by
  have e : ∀ j, 4 ≤ j → bareR j = 0 := fun j hj => bare_z (Or.inl hj)
  have h0 : bareR 0 = 100 := rfl
  have h1 : bareR 1 = 50 := rfl
  have h2 : bareR 2 = 40 := rfl
  have h3 : bareR 3 = 60 := rfl
  have z : ∀ i : Int, 4 ≤ i → ∀ k, 0 ≤ k → k < bareR i → False := fun i hi k k0 k1 => by rw [e i hi] at k1; omega
  refine ⟨⟨⟨?_, fun s a b => (z 5 (by omega) s a b).elim, fun s a b => (z 4 (by omega) s a b).elim, fun s a b => (z 6 (by omega) s a b).elim, fun s a b => (z 8 (by omega) s a b).elim, fun s a b => (z 9 (by omega) s a b).elim, ?_⟩, fun b b0 b1 => ⟨fun h => (z 7 (by omega) b b0 h).elim, fun _ => e _ (by omega)⟩, fun s a b => (z 11 (by omega) s a b).elim, fun i j a b c => (z 11 (by omega) j (by omega) c).elim⟩, fun s a b => (z 11 (by omega) s a b).elim⟩
  · unfold WFn
    rw [h0, h1, h2, h3, e 4 (by omega), e 5 (by omega), e 6 (by omega), e 7 (by omega), e 8 (by omega), e 9 (by omega), e 10 (by omega), e 11 (by omega), e 12 (by omega)]
    omega
  · rw [e 9 (by omega), e 10 (by omega)]; rfl

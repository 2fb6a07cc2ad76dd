/-! 91.start: the class, the reference, and how both begin (wip/whole/src/91_start.py) -/
def rfX11 : Rf := (((((((((([] ++ (shR 1 rfX6 ++ [(0, 0, 1)])) ++ (shR 4 rfX5 ++ [(0, 2, 4)])) ++ (shR 27 rfX5 ++ [(0, 3, 27)])) ++ (shR 50 rfX0 ++ [(0, 4, 50)])) ++ (shR 56 rfX0 ++ [(0, 5, 56)])) ++ (shR 62 rfX2 ++ [(0, 6, 62)])) ++ (shR 112 rfX3 ++ [(0, 7, 112)])) ++ (shR 142 rfX3 ++ [(0, 8, 142)])) ++ (shR 172 rfX8 ++ [(0, 9, 172)])) ++ (shR 182 rfX4 ++ [(0, 10, 182)]))
def zsX11 : List Nat := (((((((((([0] ++ shZ 1 zsX6) ++ shZ 4 []) ++ shZ 27 []) ++ shZ 50 [0, 1, 2, 3, 4, 5]) ++ shZ 56 [0, 1, 2, 3, 4, 5]) ++ shZ 62 zsX2) ++ shZ 112 zsX3) ++ shZ 142 zsX3) ++ shZ 172 [0, 1, 2, 3, 4, 5, 6, 7, 8, 9]) ++ shZ 182 [0, 1, 2, 3, 4, 5])
set_option maxRecDepth 100000 in
set_option maxHeartbeats 4000000 in
theorem i_X11 {sh : Sh} {μ : Mem} {a : Nat} (hlen : sh.length = a + 1) (hc0 : sh[a]? = some (10, 11)) (hz0 : ∀ j, μ.1 a j = 0)  : AMet yX11_init gX11_init sh [vR a] μ (fun r sh2 μ2 => r = none ∧ sh2 = sh ++ lstX11 ∧ NS μ a rfX11 zsX11 μ2 ∧ RelP sh2 μ2 (a + 4) bareR) := by
  have hK0 := NS.start hz0
  refine AMet.of (by decide) rfl (fun _ => rfl) rfl ?_
  refine r_aload_n dX11_init_0 rfl ?_
  refine r_objInit dX11_init_1 ml_X11_1 rfl rfl ?_
  refine r_aload_n dX11_init_4 rfl ?_
  refine r_new dX11_init_5 nl_X11_7 rfl rfl ?_
  rw [hlen]
  refine r_dup dX11_init_8 rfl ?_
  refine r_callN (vs := []) dX11_init_9 ml_X11_9 mi_X11_9 yl_X6_init rfl (i_X6 (a := a + 1) (by rw [List.length_append, hlen]; rfl) (apL hlen) (bornZ _ _)) rfl rfl rfl rfl rfl ?_
  rintro r1 t1 u1 ⟨rfl, rfl, hN1⟩
  try simp only [Option.toList_none, List.nil_append]
  refine r_putF dX11_init_12 fl_X11_10 rfl (ap (ap hc0)) rfl ⟨_, rfl⟩ ?_
  have hK1 := hK0.sub 1 0 0 (by decide) (by decide +kernel) (by decide +kernel) (L := a + 1) (B := a + 0) rfl rfl hN1
  generalize setR u1 a 0 (some (a + 1)) = m1 at hK1 ⊢
  generalize hs1 : (sh ++ [(6, 4)]) ++ lstX6 = s1
  have hl1 : s1.length = a + 4 := by rw [← hs1, List.length_append, List.length_append, hlen]; rfl
  have hc1 : s1[a]? = some (10, 11) := by rw [← hs1]; exact ap (ap hc0)
  refine r_aload_n dX11_init_15 rfl ?_
  refine r_new dX11_init_16 nl_X11_16 rfl rfl ?_
  rw [hl1]
  refine r_dup dX11_init_19 rfl ?_
  refine r_callI (vs := []) dX11_init_20 ml_X11_18 yl_X5_init rfl (i_X5 (a := a + 4) (by rw [List.length_append, hl1]; rfl) (apL hl1) (bornZ _ _)) rfl rfl rfl rfl rfl ?_
  rintro r2 t2 u2 ⟨rfl, rfl, hN2, hRP⟩
  try simp only [Option.toList_none, List.nil_append]
  refine r_putR dX11_init_23 fl_X11_19 rfl (ap (ap hc1)) ?_
  have hK2 := hK1.sub 4 0 2 (by decide) (by decide +kernel) (by decide +kernel) (L := a + 4) (B := a + 0) rfl rfl hN2
  have hX2 : RelP ((s1 ++ [(5, 9)]) ++ lstX5) (setR u2 a 2 (some (a + 4))) (a + 4) bareR := hRP.mono ((Kp.rf _ _).sR (by (try dsimp only); omega))
  generalize setR u2 a 2 (some (a + 4)) = m2 at hK2 ⊢ hX2
  generalize hs2 : (s1 ++ [(5, 9)]) ++ lstX5 = s2 at hX2 ⊢
  have hl2 : s2.length = a + 27 := by rw [← hs2, List.length_append, List.length_append, hl1]; rfl
  have hc2 : s2[a]? = some (10, 11) := by rw [← hs2]; exact ap (ap hc1)
  refine r_aload_n dX11_init_26 rfl ?_
  refine r_new dX11_init_27 nl_X11_16 rfl rfl ?_
  rw [hl2]
  refine r_dup dX11_init_30 rfl ?_
  refine r_callI (vs := []) dX11_init_31 ml_X11_18 yl_X5_init rfl (i_X5 (a := a + 27) (by rw [List.length_append, hl2]; rfl) (apL hl2) (bornZ _ _)) rfl rfl rfl rfl rfl ?_
  rintro r3 t3 u3 ⟨rfl, rfl, hN3, -⟩
  try simp only [Option.toList_none, List.nil_append]
  refine r_putR dX11_init_34 fl_X11_23 rfl (ap (ap hc2)) ?_
  have hK3 := hK2.sub 27 0 3 (by decide) (by decide +kernel) (by decide +kernel) (L := a + 27) (B := a + 0) rfl rfl hN3
  have hX3 : Kp (fun q => a + 4 ≤ q ∧ q < a + 27) m2 (setR u3 a 3 (some (a + 27))) := (((Kp.rf _ _).bn (by (try dsimp only); omega)).tr (hN3.1.mono (fun q hq => by (try dsimp only at *); omega))).sR (by (try dsimp only); omega)
  generalize setR u3 a 3 (some (a + 27)) = m3 at hK3 ⊢ hX3
  generalize hs3 : (s2 ++ [(5, 9)]) ++ lstX5 = s3
  have hl3 : s3.length = a + 50 := by rw [← hs3, List.length_append, List.length_append, hl2]; rfl
  have hc3 : s3[a]? = some (10, 11) := by rw [← hs3]; exact ap (ap hc2)
  refine r_aload_n dX11_init_37 rfl ?_
  refine r_new dX11_init_38 nl_X11_26 rfl rfl ?_
  rw [hl3]
  refine r_dup dX11_init_41 rfl ?_
  refine r_callN (vs := []) dX11_init_42 ml_X11_28 mi_X11_28 yl_X0_init rfl (i_X0 (a := a + 50) (by rw [List.length_append, hl3]; rfl) (apL hl3) (bornZ _ _)) rfl rfl rfl rfl rfl ?_
  rintro r4 t4 u4 ⟨rfl, rfl, hN4⟩
  try simp only [Option.toList_none, List.nil_append]
  refine r_putR dX11_init_45 fl_X11_29 rfl (ap (ap hc3)) ?_
  have hK4 := hK3.sub 50 0 4 (by decide) (by decide +kernel) (by decide +kernel) (L := a + 50) (B := a + 0) rfl rfl hN4
  have hX4 : Kp (fun q => a + 4 ≤ q ∧ q < a + 27) m3 (setR u4 a 4 (some (a + 50))) := (((Kp.rf _ _).bn (by (try dsimp only); omega)).tr (hN4.1.mono (fun q hq => by (try dsimp only at *); omega))).sR (by (try dsimp only); omega)
  generalize setR u4 a 4 (some (a + 50)) = m4 at hK4 ⊢ hX4
  generalize hs4 : (s3 ++ [(0, 7)]) ++ cshX0 = s4
  have hl4 : s4.length = a + 56 := by rw [← hs4, List.length_append, List.length_append, hl3]; rfl
  have hc4 : s4[a]? = some (10, 11) := by rw [← hs4]; exact ap (ap hc3)
  refine r_aload_n dX11_init_48 rfl ?_
  refine r_new dX11_init_49 nl_X11_26 rfl rfl ?_
  rw [hl4]
  refine r_dup dX11_init_52 rfl ?_
  refine r_callN (vs := []) dX11_init_53 ml_X11_28 mi_X11_28 yl_X0_init rfl (i_X0 (a := a + 56) (by rw [List.length_append, hl4]; rfl) (apL hl4) (bornZ _ _)) rfl rfl rfl rfl rfl ?_
  rintro r5 t5 u5 ⟨rfl, rfl, hN5⟩
  try simp only [Option.toList_none, List.nil_append]
  refine r_putR dX11_init_56 fl_X11_33 rfl (ap (ap hc4)) ?_
  have hK5 := hK4.sub 56 0 5 (by decide) (by decide +kernel) (by decide +kernel) (L := a + 56) (B := a + 0) rfl rfl hN5
  have hX5 : Kp (fun q => a + 4 ≤ q ∧ q < a + 27) m4 (setR u5 a 5 (some (a + 56))) := (((Kp.rf _ _).bn (by (try dsimp only); omega)).tr (hN5.1.mono (fun q hq => by (try dsimp only at *); omega))).sR (by (try dsimp only); omega)
  generalize setR u5 a 5 (some (a + 56)) = m5 at hK5 ⊢ hX5
  generalize hs5 : (s4 ++ [(0, 7)]) ++ cshX0 = s5
  have hl5 : s5.length = a + 62 := by rw [← hs5, List.length_append, List.length_append, hl4]; rfl
  have hc5 : s5[a]? = some (10, 11) := by rw [← hs5]; exact ap (ap hc4)
  refine r_aload_n dX11_init_59 rfl ?_
  refine r_new dX11_init_60 nl_X11_36 rfl rfl ?_
  rw [hl5]
  refine r_dup dX11_init_63 rfl ?_
  refine r_callI (vs := []) dX11_init_64 ml_X11_38 yl_X2_init rfl (i_X2 (a := a + 62) (by rw [List.length_append, hl5]; rfl) (apL hl5) (bornZ _ _)) rfl rfl rfl rfl rfl ?_
  rintro r6 t6 u6 ⟨rfl, rfl, hN6⟩
  try simp only [Option.toList_none, List.nil_append]
  refine r_putF dX11_init_67 fl_X11_39 rfl (ap (ap hc5)) rfl ⟨_, rfl⟩ ?_
  have hK6 := hK5.sub 62 0 6 (by decide) (by decide +kernel) (by decide +kernel) (L := a + 62) (B := a + 0) rfl rfl hN6
  have hX6 : Kp (fun q => a + 4 ≤ q ∧ q < a + 27) m5 (setR u6 a 6 (some (a + 62))) := (((Kp.rf _ _).bn (by (try dsimp only); omega)).tr (hN6.1.mono (fun q hq => by (try dsimp only at *); omega))).sR (by (try dsimp only); omega)
  generalize setR u6 a 6 (some (a + 62)) = m6 at hK6 ⊢ hX6
  generalize hs6 : (s5 ++ [(2, 3)]) ++ lstX2 = s6
  have hl6 : s6.length = a + 112 := by rw [← hs6, List.length_append, List.length_append, hl5]; rfl
  have hc6 : s6[a]? = some (10, 11) := by rw [← hs6]; exact ap (ap hc5)
  refine r_aload_n dX11_init_70 rfl ?_
  refine r_new dX11_init_71 nl_X11_43 rfl rfl ?_
  rw [hl6]
  refine r_dup dX11_init_74 rfl ?_
  refine r_callN (vs := []) dX11_init_75 ml_X11_45 mi_X11_45 yl_X3_init rfl (i_X3 (a := a + 112) (by rw [List.length_append, hl6]; rfl) (apL hl6) (bornZ _ _)) rfl rfl rfl rfl rfl ?_
  rintro r7 t7 u7 ⟨rfl, rfl, hN7⟩
  try simp only [Option.toList_none, List.nil_append]
  refine r_putF dX11_init_78 fl_X11_46 rfl (ap (ap hc6)) rfl ⟨_, rfl⟩ ?_
  have hK7 := hK6.sub 112 0 7 (by decide) (by decide +kernel) (by decide +kernel) (L := a + 112) (B := a + 0) rfl rfl hN7
  have hX7 : Kp (fun q => a + 4 ≤ q ∧ q < a + 27) m6 (setR u7 a 7 (some (a + 112))) := (((Kp.rf _ _).bn (by (try dsimp only); omega)).tr (hN7.1.mono (fun q hq => by (try dsimp only at *); omega))).sR (by (try dsimp only); omega)
  generalize setR u7 a 7 (some (a + 112)) = m7 at hK7 ⊢ hX7
  generalize hs7 : (s6 ++ [(3, 3)]) ++ lstX3 = s7
  have hl7 : s7.length = a + 142 := by rw [← hs7, List.length_append, List.length_append, hl6]; rfl
  have hc7 : s7[a]? = some (10, 11) := by rw [← hs7]; exact ap (ap hc6)
  refine r_aload_n dX11_init_81 rfl ?_
  refine r_new dX11_init_82 nl_X11_43 rfl rfl ?_
  rw [hl7]
  refine r_dup dX11_init_85 rfl ?_
  refine r_callN (vs := []) dX11_init_86 ml_X11_45 mi_X11_45 yl_X3_init rfl (i_X3 (a := a + 142) (by rw [List.length_append, hl7]; rfl) (apL hl7) (bornZ _ _)) rfl rfl rfl rfl rfl ?_
  rintro r8 t8 u8 ⟨rfl, rfl, hN8⟩
  try simp only [Option.toList_none, List.nil_append]
  refine r_putF dX11_init_89 fl_X11_50 rfl (ap (ap hc7)) rfl ⟨_, rfl⟩ ?_
  have hK8 := hK7.sub 142 0 8 (by decide) (by decide +kernel) (by decide +kernel) (L := a + 142) (B := a + 0) rfl rfl hN8
  have hX8 : Kp (fun q => a + 4 ≤ q ∧ q < a + 27) m7 (setR u8 a 8 (some (a + 142))) := (((Kp.rf _ _).bn (by (try dsimp only); omega)).tr (hN8.1.mono (fun q hq => by (try dsimp only at *); omega))).sR (by (try dsimp only); omega)
  generalize setR u8 a 8 (some (a + 142)) = m8 at hK8 ⊢ hX8
  generalize hs8 : (s7 ++ [(3, 3)]) ++ lstX3 = s8
  have hl8 : s8.length = a + 172 := by rw [← hs8, List.length_append, List.length_append, hl7]; rfl
  have hc8 : s8[a]? = some (10, 11) := by rw [← hs8]; exact ap (ap hc7)
  refine r_aload_n dX11_init_92 rfl ?_
  refine r_new dX11_init_93 nl_X11_53 rfl rfl ?_
  rw [hl8]
  refine r_dup dX11_init_96 rfl ?_
  refine r_callN (vs := []) dX11_init_97 ml_X11_55 mi_X11_55 yl_X8_init rfl (i_X8 (a := a + 172) (by rw [List.length_append, hl8]; rfl) (apL hl8) (bornZ _ _)) rfl rfl rfl rfl rfl ?_
  rintro r9 t9 u9 ⟨rfl, rfl, hN9⟩
  try simp only [Option.toList_none, List.nil_append]
  refine r_putF dX11_init_100 fl_X11_56 rfl (ap (ap hc8)) rfl ⟨_, rfl⟩ ?_
  have hK9 := hK8.sub 172 0 9 (by decide) (by decide +kernel) (by decide +kernel) (L := a + 172) (B := a + 0) rfl rfl hN9
  have hX9 : Kp (fun q => a + 4 ≤ q ∧ q < a + 27) m8 (setR u9 a 9 (some (a + 172))) := (((Kp.rf _ _).bn (by (try dsimp only); omega)).tr (hN9.1.mono (fun q hq => by (try dsimp only at *); omega))).sR (by (try dsimp only); omega)
  generalize setR u9 a 9 (some (a + 172)) = m9 at hK9 ⊢ hX9
  generalize hs9 : (s8 ++ [(7, 15)]) ++ cshX8 = s9
  have hl9 : s9.length = a + 182 := by rw [← hs9, List.length_append, List.length_append, hl8]; rfl
  have hc9 : s9[a]? = some (10, 11) := by rw [← hs9]; exact ap (ap hc8)
  refine r_aload_n dX11_init_103 rfl ?_
  refine r_new dX11_init_104 nl_X11_60 rfl rfl ?_
  rw [hl9]
  refine r_dup dX11_init_107 rfl ?_
  refine r_callN (vs := []) dX11_init_108 ml_X11_62 mi_X11_62 yl_X4_init rfl (i_X4 (a := a + 182) (by rw [List.length_append, hl9]; rfl) (apL hl9) (bornZ _ _)) rfl rfl rfl rfl rfl ?_
  rintro r10 t10 u10 ⟨rfl, rfl, hN10⟩
  try simp only [Option.toList_none, List.nil_append]
  refine r_putF dX11_init_111 fl_X11_63 rfl (ap (ap hc9)) rfl ⟨_, rfl⟩ ?_
  have hK10 := hK9.sub 182 0 10 (by decide) (by decide +kernel) (by decide +kernel) (L := a + 182) (B := a + 0) rfl rfl hN10
  have hX10 : Kp (fun q => a + 4 ≤ q ∧ q < a + 27) m9 (setR u10 a 10 (some (a + 182))) := (((Kp.rf _ _).bn (by (try dsimp only); omega)).tr (hN10.1.mono (fun q hq => by (try dsimp only at *); omega))).sR (by (try dsimp only); omega)
  generalize setR u10 a 10 (some (a + 182)) = m10 at hK10 ⊢ hX10
  generalize hs10 : (s9 ++ [(4, 10)]) ++ cshX4 = s10
  have hl10 : s10.length = a + 188 := by rw [← hs10, List.length_append, List.length_append, hl9]; rfl
  have hc10 : s10[a]? = some (10, 11) := by rw [← hs10]; exact ap (ap hc9)
  refine r_return dX11_init_114 rfl rfl rfl ?_
  have hsx : s10 = sh ++ lstX11 := by rw [← hs10, ← hs9, ← hs8, ← hs7, ← hs6, ← hs5, ← hs4, ← hs3, ← hs2, ← hs1]; simp [lstX11, cshX0, cshX1, cshX4, cshX8, cshX9, cshX10, lstX6, lstX5, lstX2, lstX3]
  refine ⟨rfl, hsx, hK10, ?_⟩
  have e2 : s10 = s2 ++ (s10.drop (a + 27)) := by
    have : s2 = s10.take (a + 27) := by
      rw [← hs10, ← hs9, ← hs8, ← hs7, ← hs6, ← hs5, ← hs4, ← hs3]
      simp only [List.append_assoc]
      rw [List.take_append_of_le_length (by rw [hl2]; exact Nat.le_refl _), List.take_of_length_le (by rw [hl2]; exact Nat.le_refl _)]
    rw [this, List.take_append_drop]
  refine (hX2.mono (((((((hX3.tr hX4).tr hX5).tr hX6).tr hX7).tr hX8).tr hX9).tr hX10)).subS (fun i x h => ?_)
  rw [e2]
  exact ap h
def rfX12 : Rf := (((((((((((((([] ++ [(0, 0, 1)]) ++ [(0, 1, 2)]) ++ [(0, 2, 3)]) ++ [(0, 3, 4)]) ++ [(0, 4, 5)]) ++ [(0, 6, 6)]) ++ [(0, 16, 7)]) ++ [(0, 17, 8)]) ++ [(0, 24, 9)]) ++ [(0, 25, 10)]) ++ [(0, 27, 11)]) ++ [(0, 28, 12)]) ++ [(0, 30, 13)]) ++ [(0, 32, 14)])
def zsX12 : List Nat := [0, 2, 3, 4, 5, 6, 7, 8, 9, 10, 11, 12, 13, 14]
set_option maxRecDepth 100000 in
set_option maxHeartbeats 4000000 in
theorem i_X12 {sh : Sh} {μ : Mem} {a : Nat} (hlen : sh.length = a + 1) (hc0 : sh[a]? = some (11, 34)) (hz0 : ∀ j, μ.1 a j = 0)  : AMet yX12_init gX12_init sh [vR a] μ (fun r sh2 μ2 => r = none ∧ sh2 = sh ++ lstX12 ∧ NS μ a rfX12 zsX12 μ2 ∧ μ2.1 (a + 1) = bareR) := by
  have hK0 := NS.start hz0
  refine AMet.of (by decide) rfl (fun _ => rfl) rfl ?_
  refine r_aload_n dX12_init_0 rfl ?_
  refine r_objInit dX12_init_1 ml_X12_1 rfl rfl ?_
  refine r_aload_n dX12_init_4 rfl ?_
  refine r_sipush dX12_init_5 (by decide) ?_
  refine r_newaI dX12_init_8 ac_I rfl rfl rfl rfl ?_
  rw [hlen]
  refine r_putF dX12_init_10 fl_X12_7 rfl (ap hc0) rfl ⟨_, rfl⟩ ?_
  have hK1 := hK0.arr 1 0 (by decide) (by decide +kernel) (by decide +kernel) (L := a + 1) rfl
  generalize setR (born μ (a + 1)) a 0 (some (a + 1)) = m1 at hK1 ⊢
  generalize hs1 : sh ++ [(20, 143)] = s1
  have hl1 : s1.length = a + 2 := by rw [← hs1, List.length_append, hlen]; rfl
  have hc1 : s1[a]? = some (11, 34) := by rw [← hs1]; exact ap hc0
  refine r_aload_n dX12_init_13 rfl ?_
  refine r_sipush dX12_init_14 (by decide) ?_
  refine r_newaI dX12_init_17 ac_I rfl rfl rfl rfl ?_
  rw [hl1]
  refine r_putF dX12_init_19 fl_X12_13 rfl (ap hc1) rfl ⟨_, rfl⟩ ?_
  have hK2 := hK1.arr 2 1 (by decide) (by decide +kernel) (by decide +kernel) (L := a + 2) rfl
  generalize setR (born m1 (a + 2)) a 1 (some (a + 2)) = m2 at hK2 ⊢
  generalize hs2 : s1 ++ [(20, 143)] = s2
  have hl2 : s2.length = a + 3 := by rw [← hs2, List.length_append, hl1]; rfl
  have hc2 : s2[a]? = some (11, 34) := by rw [← hs2]; exact ap hc1
  refine r_aload_n dX12_init_22 rfl ?_
  refine r_sipush dX12_init_23 (by decide) ?_
  refine r_newaI dX12_init_26 ac_I rfl rfl rfl rfl ?_
  rw [hl2]
  refine r_putF dX12_init_28 fl_X12_16 rfl (ap hc2) rfl ⟨_, rfl⟩ ?_
  have hK3 := hK2.arr 3 2 (by decide) (by decide +kernel) (by decide +kernel) (L := a + 3) rfl
  generalize setR (born m2 (a + 3)) a 2 (some (a + 3)) = m3 at hK3 ⊢
  generalize hs3 : s2 ++ [(20, 286)] = s3
  have hl3 : s3.length = a + 4 := by rw [← hs3, List.length_append, hl2]; rfl
  have hc3 : s3[a]? = some (11, 34) := by rw [← hs3]; exact ap hc2
  refine r_aload_n dX12_init_31 rfl ?_
  refine r_sipush dX12_init_32 (by decide) ?_
  refine r_newaI dX12_init_35 ac_I rfl rfl rfl rfl ?_
  rw [hl3]
  refine r_putF dX12_init_37 fl_X12_19 rfl (ap hc3) rfl ⟨_, rfl⟩ ?_
  have hK4 := hK3.arr 4 3 (by decide) (by decide +kernel) (by decide +kernel) (L := a + 4) rfl
  generalize setR (born m3 (a + 4)) a 3 (some (a + 4)) = m4 at hK4 ⊢
  generalize hs4 : s3 ++ [(20, 1144)] = s4
  have hl4 : s4.length = a + 5 := by rw [← hs4, List.length_append, hl3]; rfl
  have hc4 : s4[a]? = some (11, 34) := by rw [← hs4]; exact ap hc3
  refine r_aload_n dX12_init_40 rfl ?_
  refine r_iconst dX12_init_41 ?_
  refine r_newaZ dX12_init_42 ac_Z rfl rfl rfl rfl ?_
  rw [hl4]
  refine r_putF dX12_init_44 fl_X12_22 rfl (ap hc4) rfl ⟨_, rfl⟩ ?_
  have hK5 := hK4.arr 5 4 (by decide) (by decide +kernel) (by decide +kernel) (L := a + 5) rfl
  generalize setR (born m4 (a + 5)) a 4 (some (a + 5)) = m5 at hK5 ⊢
  generalize hs5 : s4 ++ [(23, 2)] = s5
  have hl5 : s5.length = a + 6 := by rw [← hs5, List.length_append, hl4]; rfl
  have hc5 : s5[a]? = some (11, 34) := by rw [← hs5]; exact ap hc4
  refine r_aload_n dX12_init_47 rfl ?_
  refine r_sipush dX12_init_48 (by decide) ?_
  refine r_newaB dX12_init_51 ac_B rfl rfl rfl rfl ?_
  rw [hl5]
  refine r_putF dX12_init_53 fl_X12_26 rfl (ap hc5) rfl ⟨_, rfl⟩ ?_
  have hK6 := hK5.arr 6 6 (by decide) (by decide +kernel) (by decide +kernel) (L := a + 6) rfl
  generalize setR (born m5 (a + 6)) a 6 (some (a + 6)) = m6 at hK6 ⊢
  generalize hs6 : s5 ++ [(22, 540)] = s6
  have hl6 : s6.length = a + 7 := by rw [← hs6, List.length_append, hl5]; rfl
  have hc6 : s6[a]? = some (11, 34) := by rw [← hs6]; exact ap hc5
  refine r_aload_n dX12_init_56 rfl ?_
  refine r_bipush dX12_init_57 (by decide) ?_
  refine r_newaB dX12_init_59 ac_B rfl rfl rfl rfl ?_
  rw [hl6]
  refine r_putF dX12_init_61 fl_X12_30 rfl (ap hc6) rfl ⟨_, rfl⟩ ?_
  have hK7 := hK6.arr 7 16 (by decide) (by decide +kernel) (by decide +kernel) (L := a + 7) rfl
  generalize setR (born m6 (a + 7)) a 16 (some (a + 7)) = m7 at hK7 ⊢
  generalize hs7 : s6 ++ [(22, 8)] = s7
  have hl7 : s7.length = a + 8 := by rw [← hs7, List.length_append, hl6]; rfl
  have hc7 : s7[a]? = some (11, 34) := by rw [← hs7]; exact ap hc6
  refine r_aload_n dX12_init_64 rfl ?_
  refine r_bipush dX12_init_65 (by decide) ?_
  refine r_newaB dX12_init_67 ac_B rfl rfl rfl rfl ?_
  rw [hl7]
  refine r_putF dX12_init_69 fl_X12_33 rfl (ap hc7) rfl ⟨_, rfl⟩ ?_
  have hK8 := hK7.arr 8 17 (by decide) (by decide +kernel) (by decide +kernel) (L := a + 8) rfl
  generalize setR (born m7 (a + 8)) a 17 (some (a + 8)) = m8 at hK8 ⊢
  generalize hs8 : s7 ++ [(22, 48)] = s8
  have hl8 : s8.length = a + 9 := by rw [← hs8, List.length_append, hl7]; rfl
  have hc8 : s8[a]? = some (11, 34) := by rw [← hs8]; exact ap hc7
  refine r_aload_n dX12_init_72 rfl ?_
  refine r_bipush dX12_init_73 (by decide) ?_
  refine r_newaI dX12_init_75 ac_I rfl rfl rfl rfl ?_
  rw [hl8]
  refine r_putF dX12_init_77 fl_X12_36 rfl (ap hc8) rfl ⟨_, rfl⟩ ?_
  have hK9 := hK8.arr 9 24 (by decide) (by decide +kernel) (by decide +kernel) (L := a + 9) rfl
  generalize setR (born m8 (a + 9)) a 24 (some (a + 9)) = m9 at hK9 ⊢
  generalize hs9 : s8 ++ [(20, 7)] = s9
  have hl9 : s9.length = a + 10 := by rw [← hs9, List.length_append, hl8]; rfl
  have hc9 : s9[a]? = some (11, 34) := by rw [← hs9]; exact ap hc8
  refine r_aload_n dX12_init_80 rfl ?_
  refine r_ldc (x := 72000) dX12_init_81 kl_X12_39 rfl ?_
  refine r_newaI dX12_init_83 ac_I rfl rfl rfl rfl ?_
  rw [hl9]
  refine r_putF dX12_init_85 fl_X12_40 rfl (ap hc9) rfl ⟨_, rfl⟩ ?_
  have hK10 := hK9.arr 10 25 (by decide) (by decide +kernel) (by decide +kernel) (L := a + 10) rfl
  generalize setR (born m9 (a + 10)) a 25 (some (a + 10)) = m10 at hK10 ⊢
  generalize hs10 : s9 ++ [(20, 72000)] = s10
  have hl10 : s10.length = a + 11 := by rw [← hs10, List.length_append, hl9]; rfl
  have hc10 : s10[a]? = some (11, 34) := by rw [← hs10]; exact ap hc9
  refine r_aload_n dX12_init_88 rfl ?_
  refine r_sipush dX12_init_89 (by decide) ?_
  refine r_newaI dX12_init_92 ac_I rfl rfl rfl rfl ?_
  rw [hl10]
  refine r_putF dX12_init_94 fl_X12_43 rfl (ap hc10) rfl ⟨_, rfl⟩ ?_
  have hK11 := hK10.arr 11 27 (by decide) (by decide +kernel) (by decide +kernel) (L := a + 11) rfl
  generalize setR (born m10 (a + 11)) a 27 (some (a + 11)) = m11 at hK11 ⊢
  generalize hs11 : s10 ++ [(20, 16807)] = s11
  have hl11 : s11.length = a + 12 := by rw [← hs11, List.length_append, hl10]; rfl
  have hc11 : s11[a]? = some (11, 34) := by rw [← hs11]; exact ap hc10
  refine r_aload_n dX12_init_97 rfl ?_
  refine r_sipush dX12_init_98 (by decide) ?_
  refine r_newaI dX12_init_101 ac_I rfl rfl rfl rfl ?_
  rw [hl11]
  refine r_putF dX12_init_103 fl_X12_46 rfl (ap hc11) rfl ⟨_, rfl⟩ ?_
  have hK12 := hK11.arr 12 28 (by decide) (by decide +kernel) (by decide +kernel) (L := a + 12) rfl
  generalize setR (born m11 (a + 12)) a 28 (some (a + 12)) = m12 at hK12 ⊢
  generalize hs12 : s11 ++ [(20, 4200)] = s12
  have hl12 : s12.length = a + 13 := by rw [← hs12, List.length_append, hl11]; rfl
  have hc12 : s12[a]? = some (11, 34) := by rw [← hs12]; exact ap hc11
  refine r_aload_n dX12_init_106 rfl ?_
  refine r_bipush dX12_init_107 (by decide) ?_
  refine r_newaI dX12_init_109 ac_I rfl rfl rfl rfl ?_
  rw [hl12]
  refine r_putF dX12_init_111 fl_X12_49 rfl (ap hc12) rfl ⟨_, rfl⟩ ?_
  have hK13 := hK12.arr 13 30 (by decide) (by decide +kernel) (by decide +kernel) (L := a + 13) rfl
  generalize setR (born m12 (a + 13)) a 30 (some (a + 13)) = m13 at hK13 ⊢
  generalize hs13 : s12 ++ [(20, 20)] = s13
  have hl13 : s13.length = a + 14 := by rw [← hs13, List.length_append, hl12]; rfl
  have hc13 : s13[a]? = some (11, 34) := by rw [← hs13]; exact ap hc12
  refine r_aload_n dX12_init_114 rfl ?_
  refine r_bipush dX12_init_115 (by decide) ?_
  refine r_newaI dX12_init_117 ac_I rfl rfl rfl rfl ?_
  rw [hl13]
  refine r_putF dX12_init_119 fl_X12_52 rfl (ap hc13) rfl ⟨_, rfl⟩ ?_
  have hK14 := hK13.arr 14 32 (by decide) (by decide +kernel) (by decide +kernel) (L := a + 14) rfl
  generalize setR (born m13 (a + 14)) a 32 (some (a + 14)) = m14 at hK14 ⊢
  generalize hs14 : s13 ++ [(20, 20)] = s14
  have hl14 : s14.length = a + 15 := by rw [← hs14, List.length_append, hl13]; rfl
  have hc14 : s14[a]? = some (11, 34) := by rw [← hs14]; exact ap hc13
  have hsx : s14 = sh ++ lstX12 := by rw [← hs14, ← hs13, ← hs12, ← hs11, ← hs10, ← hs9, ← hs8, ← hs7, ← hs6, ← hs5, ← hs4, ← hs3, ← hs2, ← hs1]; simp [lstX12, cshX0, cshX1, cshX4, cshX8, cshX9, cshX10, lstX6, lstX5, lstX2, lstX3]
  have hs1x : s14[a + 1]? = some (20, 143) := by
    have h : (s14)[a + 1 + 0]? = lstX12[0]? := by rw [hsx, apR hlen]
    exact h
  have href : m14.2.2 a 0 = some (a + 1) := hK14.2.1 (0, 0, 1) (by decide +kernel)
  have hz1 : ∀ j, m14.1 (a + 1) j = 0 := hK14.2.2 1 (by decide +kernel)
  refine r_aload_n dX12_init_122 rfl ?_
  refine r_getR dX12_init_123 fl_X12_7 rfl (by first | exact hc14 | assumption) (by assumption) ?_
  refine r_cS1F0 dX12_init_126 ml_X12_55 yl_X12_bare ⟨rfl, rfl⟩ rfl rfl rfl rfl (m_bare hs1x) ?_
  refine r_return dX12_init_129 rfl rfl rfl ?_
  refine ⟨rfl, hsx, ⟨hK14.1.tr ?_, hK14.2.1, fun q hq j => ?_⟩, ?_⟩
  · unfold bareM
    exact ((((Kp.rf _ _).sF (by (try dsimp only); omega)).sI (by (try dsimp only); omega)).sI (by (try dsimp only); omega)).sI (by (try dsimp only); omega) |>.sI (by (try dsimp only); omega)
  · have hq2 : q ≠ 1 := fun e => by rw [e] at hq; revert hq; decide
    have e : (bareM m14 (a + 1)).1 (a + q) = m14.1 (a + q) := by
      unfold bareM
      rw [setI_ne (by omega), setI_ne (by omega), setI_ne (by omega), setI_ne (by omega), fill_ne (by omega)]
    rw [e]
    exact hK14.2.2 q ((show ∀ q ∈ zsX12, q ∈ (((((((((((((([0] ++ [1]) ++ [2]) ++ [3]) ++ [4]) ++ [5]) ++ [6]) ++ [7]) ++ [8]) ++ [9]) ++ [10]) ++ [11]) ++ [12]) ++ [13]) ++ [14]) by decide +kernel) q hq) j
  · funext j
    by_cases hj : 0 ≤ j ∧ j < 143
    · exact bareM_at hj
    · have e : (bareM m14 (a + 1)).1 (a + 1) j = m14.1 (a + 1) j := by
        unfold bareM
        rw [sI_nj (by omega), sI_nj (by omega), sI_nj (by omega), sI_nj (by omega)]
        exact if_neg (fun e => hj e.2)
      rw [e, hz1]
      unfold bareR
      rw [if_neg (by omega), if_neg (by omega), if_neg (by omega), if_neg (by omega)]
theorem NS.ref {μ0 μ : Mem} {a : Nat} {rf : Rf} {zs : List Nat} (h : NS μ0 a rf zs μ) (q : Nat × Int × Nat) (hq : q ∈ rf) : μ.2.2 (a + q.1) q.2.1 = some (a + q.2.2) := h.2.1 q hq
def G0 : Gh := (bareR, [], none, none, fun _ => 0, 0, 0, [])
def LwS (μ : Mem) (G : Gh) (p pd c cd : Nat) : Prop := InX μ G p pd c cd ∧ TabOK μ p c (gRow G) ∧ InM SH 188 μ G
theorem bare_z {j : Int} (h : 4 ≤ j ∨ j < 0) : bareR j = 0 := by unfold bareR; rw [if_neg (by omega), if_neg (by omega), if_neg (by omega), if_neg (by omega)]
theorem bare_wf : WF bareR ∧ W99 bareR := by
  have e : ∀ j, 4 ≤ j → bareR j = 0 := fun j hj => bare_z (Or.inl hj)
  have h0 : bareR 0 = 100 := rfl
  have h1 : bareR 1 = 50 := rfl
  have h2 : bareR 2 = 40 := rfl
  have h3 : bareR 3 = 60 := rfl
  have z : ∀ i : Int, 4 ≤ i → ∀ k, 0 ≤ k → k < bareR i → False := fun i hi k k0 k1 => by rw [e i hi] at k1; omega
  refine ⟨⟨⟨?_, fun s a b => (z 5 (by omega) s a b).elim, fun s a b => (z 4 (by omega) s a b).elim, fun s a b => (z 6 (by omega) s a b).elim, fun s a b => (z 8 (by omega) s a b).elim, fun s a b => (z 9 (by omega) s a b).elim, ?_⟩, fun b b0 b1 => ⟨fun h => (z 7 (by omega) b b0 h).elim, fun _ => e _ (by omega)⟩, fun s a b => (z 11 (by omega) s a b).elim, fun i j a b c => (z 11 (by omega) j (by omega) c).elim⟩, fun s a b => (z 11 (by omega) s a b).elim⟩
  · unfold WFn
    rw [h0, h1, h2, h3, e 4 (by omega), e 5 (by omega), e 6 (by omega), e 7 (by omega), e 8 (by omega), e 9 (by omega), e 10 (by omega), e 11 (by omega), e 12 (by omega)]
    omega
  · rw [e 9 (by omega), e 10 (by omega)]; rfl
theorem ref_all : ∀ q ∈ refL, q ∈ rfX11 ++ shR 188 rfX12 := by decide +kernel
theorem ref_lt : ∀ q ∈ rfX11, q.1 < 188 := by decide +kernel
theorem SH_eq : ([(10, 11)] ++ lstX11) ++ [(11, 34)] ++ lstX12 = SH := by decide +kernel
/-- both begin alike -/
theorem start_LS {μ0 μ1 μ2 : Mem} (h1 : NS μ0 0 rfX11 zsX11 μ1) (hP : RelP ([(10, 11)] ++ lstX11) μ1 4 bareR) (h2 : NS (born μ1 188) 188 rfX12 zsX12 μ2) (hr : μ2.1 189 = bareR) : LwS μ2 G0 4 27 50 56 := by
  have hk : Kp (fun q => q < 188) μ1 μ2 := ((Kp.rf _ μ1).bn (by (try dsimp only); omega)).tr h2.1
  have rf1 : ∀ q ∈ rfX11, μ2.2.2 q.1 q.2.1 = some q.2.2 := fun q hq => by
    rw [(hk q.1 (ref_lt q hq)).2.2]
    have := h1.2.1 q hq
    rw [Nat.zero_add, Nat.zero_add] at this
    exact this
  have hL : Lay μ2.2.2 := fun q hq => by
    rcases List.mem_append.1 (ref_all q hq) with h | h
    · exact rf1 q h
    · obtain ⟨r, hr2, rfl⟩ := List.mem_map.1 h
      exact h2.2.1 r hr2
  have z1 : ∀ q : Nat, q ∈ zsX11 → q < 188 → ∀ j, μ2.1 q j = 0 := fun q hq hl j => by
    rw [(hk q hl).1]
    have := h1.2.2 q hq j
    rw [Nat.zero_add] at this
    exact this
  have z2 : ∀ q : Nat, q ∈ zsX12 → ∀ j, μ2.1 (188 + q) j = 0 := fun q hq j => h2.2.2 q hq j
  have e : ∀ j, 4 ≤ j → bareR j = 0 := fun j hj => bare_z (Or.inl hj)
  have hPS : RelP SH μ2 4 bareR := (hP.mono (hk.mono (fun q hq => by (try dsimp only at *); omega))).subS (fun i x h => by
    rw [← SH_eq]
    exact ap (ap h))
  have c50 := z1 50 (by decide +kernel) (by omega)
  have c55 := z1 55 (by decide +kernel) (by omega)
  refine ⟨⟨hL, ⟨Or.inl ⟨rfl, rfl⟩, Or.inl ⟨rfl, rfl⟩, rf1 (0, 2, 4) (by decide +kernel), rf1 (0, 3, 27) (by decide +kernel), rf1 (0, 4, 50) (by decide +kernel), rf1 (0, 5, 56) (by decide +kernel)⟩, ⟨hPS, ⟨hL.c50, ?_, ?_, ?_, ?_, fun k k0 k1 => ?_⟩, bare_wf.1, bare_wf.2⟩, ⟨Nat.zero_le _, z1 62 (by decide +kernel) (by omega) 2, ?_, fun t u h => by cases h⟩, ⟨z1 112 (by decide +kernel) (by omega) 0, z1 142 (by decide +kernel) (by omega) 0⟩, ⟨z1 2 (by decide +kernel) (by omega) 1, by decide, fun i i0 i1 => absurd i1 (by simp [G0]; omega)⟩, ⟨z1 0 (by decide +kernel) (by omega) 1, by decide, by decide⟩, ⟨z1 182 (by decide +kernel) (by omega) 1, Nat.zero_le _, fun i x h => by cases h⟩⟩, ⟨⟨fun s _ _ => z1 179 (by decide +kernel) (by omega) s, fun s _ _ => z1 180 (by decide +kernel) (by omega) s, fun s _ _ => z1 181 (by decide +kernel) (by omega) s⟩, Or.inl (z1 172 (by decide +kernel) (by omega) 0)⟩, hL.m188, ⟨hr, fun j hj => bare_z (by omega)⟩, ⟨Nat.zero_le _, z2 0 (by decide) 5, fun t u h => by cases h⟩, ⟨?_, ?_⟩, ⟨z2 0 (by decide) 7, by decide, fun i i0 i1 => absurd i1 (by simp [G0]; omega)⟩, z2 0 (by decide) 14, ⟨z2 0 (by decide) 33, Nat.zero_le _, fun i x h => by cases h⟩⟩
  · show μ2.1 50 0 = bareR 11
    rw [c50, e 11 (by omega)]
  · show μ2.1 50 5 = bareR 12
    rw [c50, e 12 (by omega)]
  · show μ2.1 (50 + 5) 0 = bareR 51
    rw [c55, e 51 (by omega)]
  · show μ2.1 (50 + 5) 1 = bareR 52
    rw [c55, e 52 (by omega)]
  · exfalso
    have k1 : k < bareR 11 := k1
    rw [e 11 (by omega)] at k1
    omega
  · rw [z1 62 (by decide +kernel) (by omega) 1]; decide
  · show nz (μ2.1 (188 + 5) 0) = 0
    rw [z2 5 (by decide) 0]; rfl
  · show nz (μ2.1 (188 + 5) 1) = 0
    rw [z2 5 (by decide) 1]; rfl

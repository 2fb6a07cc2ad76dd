/-! 90.init2: taken from whole (wip/p37/port.py) -/
/-! 90.init2: objects with objects in them are made (wip/whole/src/90_init2.py) -/
def lstX6 : Sh := [(8, 7), (20, 540)]
def lstX5 : Sh := [(20, 2), (20, 2), (1, 12), (21, 3), (20, 3), (23, 3), (20, 6), (20, 6), (20, 6), (20, 6), (20, 6), (20, 6), (9, 12), (21, 3), (20, 3), (20, 3), (20, 3), (20, 12), (20, 12), (20, 13), (20, 13), (20, 13)]
def lstX2 : Sh := [(24, 8), (0, 7), (21, 5), (20, 5), (20, 5), (20, 5), (20, 2), (0, 7), (21, 5), (20, 5), (20, 5), (20, 5), (20, 2), (0, 7), (21, 5), (20, 5), (20, 5), (20, 5), (20, 2), (0, 7), (21, 5), (20, 5), (20, 5), (20, 5), (20, 2), (0, 7), (21, 5), (20, 5), (20, 5), (20, 5), (20, 2), (0, 7), (21, 5), (20, 5), (20, 5), (20, 5), (20, 2), (0, 7), (21, 5), (20, 5), (20, 5), (20, 5), (20, 2), (0, 7), (21, 5), (20, 5), (20, 5), (20, 5), (20, 2)]
def lstX3 : Sh := [(5, 9), (20, 2), (20, 2), (1, 12), (21, 3), (20, 3), (23, 3), (20, 6), (20, 6), (20, 6), (20, 6), (20, 6), (20, 6), (9, 12), (21, 3), (20, 3), (20, 3), (20, 3), (20, 12), (20, 12), (20, 13), (20, 13), (20, 13), (0, 7), (21, 5), (20, 5), (20, 5), (20, 5), (20, 2)]
def lstX11 : Sh := [(6, 4), (8, 7), (20, 540), (5, 9), (20, 2), (20, 2), (1, 12), (21, 3), (20, 3), (23, 3), (20, 6), (20, 6), (20, 6), (20, 6), (20, 6), (20, 6), (9, 12), (21, 3), (20, 3), (20, 3), (20, 3), (20, 12), (20, 12), (20, 13), (20, 13), (20, 13), (5, 9), (20, 2), (20, 2), (1, 12), (21, 3), (20, 3), (23, 3), (20, 6), (20, 6), (20, 6), (20, 6), (20, 6), (20, 6), (9, 12), (21, 3), (20, 3), (20, 3), (20, 3), (20, 12), (20, 12), (20, 13), (20, 13), (20, 13), (0, 7), (21, 5), (20, 5), (20, 5), (20, 5), (20, 2), (0, 7), (21, 5), (20, 5), (20, 5), (20, 5), (20, 2), (2, 3), (24, 8), (0, 7), (21, 5), (20, 5), (20, 5), (20, 5), (20, 2), (0, 7), (21, 5), (20, 5), (20, 5), (20, 5), (20, 2), (0, 7), (21, 5), (20, 5), (20, 5), (20, 5), (20, 2), (0, 7), (21, 5), (20, 5), (20, 5), (20, 5), (20, 2), (0, 7), (21, 5), (20, 5), (20, 5), (20, 5), (20, 2), (0, 7), (21, 5), (20, 5), (20, 5), (20, 5), (20, 2), (0, 7), (21, 5), (20, 5), (20, 5), (20, 5), (20, 2), (0, 7), (21, 5), (20, 5), (20, 5), (20, 5), (20, 2), (3, 3), (5, 9), (20, 2), (20, 2), (1, 12), (21, 3), (20, 3), (23, 3), (20, 6), (20, 6), (20, 6), (20, 6), (20, 6), (20, 6), (9, 12), (21, 3), (20, 3), (20, 3), (20, 3), (20, 12), (20, 12), (20, 13), (20, 13), (20, 13), (0, 7), (21, 5), (20, 5), (20, 5), (20, 5), (20, 2), (3, 3), (5, 9), (20, 2), (20, 2), (1, 12), (21, 3), (20, 3), (23, 3), (20, 6), (20, 6), (20, 6), (20, 6), (20, 6), (20, 6), (9, 12), (21, 3), (20, 3), (20, 3), (20, 3), (20, 12), (20, 12), (20, 13), (20, 13), (20, 13), (0, 7), (21, 5), (20, 5), (20, 5), (20, 5), (20, 2), (7, 15), (20, 720), (20, 720), (20, 720), (20, 5), (20, 5), (20, 5), (20, 6), (20, 3), (20, 10), (4, 10), (20, 10), (20, 10), (20, 5), (20, 6), (20, 720)]
theorem RelP.subS {sh sh' : Sh} {μ : Mem} {p : Nat} {ρ : Row} (h : RelP sh μ p ρ) (hs : ∀ (i : Nat) (x : Nat × Nat), sh[i]? = some x → sh'[i]? = some x) : RelP sh' μ p ρ := by
  obtain ⟨⟨i0, i5, i6, i7, i8, j1, j2, ⟨u0, u1, u2, u3, u5, u6, u7, u8, u10, u11, y1, y2, y3, y4, y5, y6, y7, y8, y9⟩, ⟨w0, w1, w2, w3, w4, w6, w7, w9, w10, w11, b1, b2, b3, b4, b5, b6, b7, b8, b9⟩⟩, p0, p1, p2, p3, p4, pb, ⟨-, hF⟩, ⟨-, hV⟩⟩ := h
  have f : IsFloor sh' μ.2.2 (p + 3) := ⟨hs _ _ u0, u1, u2, u3, u5, u6, u7, u8, u10, u11, hs _ _ y1, hs _ _ y2, hs _ _ y3, hs _ _ y4, hs _ _ y5, hs _ _ y6, hs _ _ y7, hs _ _ y8, hs _ _ y9⟩
  have v : IsVoyage sh' μ.2.2 (p + 13) := ⟨hs _ _ w0, w1, w2, w3, w4, w6, w7, w9, w10, w11, hs _ _ b1, hs _ _ b2, hs _ _ b3, hs _ _ b4, hs _ _ b5, hs _ _ b6, hs _ _ b7, hs _ _ b8, hs _ _ b9⟩
  exact ⟨⟨hs _ _ i0, i5, i6, i7, i8, hs _ _ j1, hs _ _ j2, f, v⟩, p0, p1, p2, p3, p4, pb, ⟨f, hF⟩, ⟨v, hV⟩⟩
theorem NS.int {μ0 μ μ2 : Mem} {a : Nat} {rf : Rf} {zs : List Nat} (h : NS μ0 a rf zs μ) (hR : μ2.2.2 = μ.2.2) (hk : Kp (fun q => q < a) μ μ2) : NS μ0 a rf [] μ2 := ⟨h.1.tr hk, fun q hq => by rw [hR]; exact h.2.1 q hq, fun q hq => absurd hq (by simp)⟩
def rfX6 : Rf := ([] ++ (shR 1 rfX9 ++ [(0, 0, 1)]))
def zsX6 : List Nat := ([0] ++ shZ 1 [0, 1])
theorem i_X6 {sh : Sh} {μ : Mem} {a : Nat} (hlen : sh.length = a + 1) (hc0 : sh[a]? = some (6, 4)) (hz0 : ∀ j, μ.1 a j = 0)  : AMet yX6_init gX6_init sh [vR a] μ (CQ μ a sh lstX6 rfX6 zsX6) := by
  have hK0 := NS.start hz0
  refine AMet.of (by decide) rfl (fun _ => rfl) rfl ?_
  refine r_aload_n dX6_init_0 rfl ?_
  refine r_objInit dX6_init_1 ml_X6_3 rfl rfl ?_
  refine r_aload_n dX6_init_4 rfl ?_
  refine r_new dX6_init_5 nl_X6_9 rfl rfl ?_
  rw [hlen]
  refine r_dup dX6_init_8 rfl ?_
  refine r_callN (vs := []) dX6_init_9 ml_X6_11 mi_X6_11 yl_X9_init rfl (i_X9 (a := a + 1) (by rw [List.length_append, hlen]; rfl) (apL hlen) (bornZ _ _)) rfl rfl rfl rfl rfl ?_
  rintro r1 t1 u1 ⟨rfl, rfl, hN1⟩
  try simp only [Option.toList_none, List.nil_append]
  refine r_putF dX6_init_12 fl_X6_12 rfl (ap (ap hc0)) rfl ⟨_, rfl⟩ ?_
  have hK1 := hK0.sub 1 0 0 (by decide) (by decide +kernel) (by decide +kernel) (L := a + 1) (B := a + 0) rfl rfl hN1
  generalize setR u1 a 0 (some (a + 1)) = m1 at hK1 ⊢
  generalize hs1 : (sh ++ [(8, 7)]) ++ cshX9 = s1
  have hl1 : s1.length = a + 3 := by rw [← hs1, List.length_append, List.length_append, hlen]; rfl
  have hc1 : s1[a]? = some (6, 4) := by rw [← hs1]; exact ap (ap hc0)
  refine r_return dX6_init_15 rfl rfl rfl ?_
  exact ⟨rfl, by rw [← hs1]; simp [lstX6, cshX0, cshX1, cshX4, cshX8, cshX9, cshX10, lstX6, lstX5, lstX2, lstX3], hK1⟩
def rfX5 : Rf := (((([] ++ [(0, 5, 1)]) ++ [(0, 6, 2)]) ++ (shR 3 rfX1 ++ [(0, 7, 3)])) ++ (shR 13 rfX10 ++ [(0, 8, 13)]))
set_option maxRecDepth 100000 in
set_option maxHeartbeats 4000000 in
theorem i_X5 {sh : Sh} {μ : Mem} {a : Nat} (hlen : sh.length = a + 1) (hc0 : sh[a]? = some (5, 9)) (hz0 : ∀ j, μ.1 a j = 0)  : AMet yX5_init gX5_init sh [vR a] μ (fun r sh2 μ2 => r = none ∧ sh2 = sh ++ lstX5 ∧ NS μ a rfX5 [] μ2 ∧ RelP sh2 μ2 a bareR) := by
  have hK0 := NS.start hz0
  refine AMet.of (by decide) rfl (fun _ => rfl) rfl ?_
  refine r_aload_n dX5_init_0 rfl ?_
  refine r_objInit dX5_init_1 ml_X5_3 rfl rfl ?_
  refine r_aload_n dX5_init_4 rfl ?_
  refine r_iconst dX5_init_5 ?_
  refine r_newaI dX5_init_6 ac_I rfl rfl rfl rfl ?_
  rw [hlen]
  refine r_putF dX5_init_8 fl_X5_9 rfl (ap hc0) rfl ⟨_, rfl⟩ ?_
  have hK1 := hK0.arr 1 5 (by decide) (by decide +kernel) (by decide +kernel) (L := a + 1) rfl
  generalize setR (born μ (a + 1)) a 5 (some (a + 1)) = m1 at hK1 ⊢
  generalize hs1 : sh ++ [(20, 2)] = s1
  have hl1 : s1.length = a + 2 := by rw [← hs1, List.length_append, hlen]; rfl
  have hc1 : s1[a]? = some (5, 9) := by rw [← hs1]; exact ap hc0
  refine r_aload_n dX5_init_11 rfl ?_
  refine r_iconst dX5_init_12 ?_
  refine r_newaI dX5_init_13 ac_I rfl rfl rfl rfl ?_
  rw [hl1]
  refine r_putF dX5_init_15 fl_X5_15 rfl (ap hc1) rfl ⟨_, rfl⟩ ?_
  have hK2 := hK1.arr 2 6 (by decide) (by decide +kernel) (by decide +kernel) (L := a + 2) rfl
  generalize setR (born m1 (a + 2)) a 6 (some (a + 2)) = m2 at hK2 ⊢
  generalize hs2 : s1 ++ [(20, 2)] = s2
  have hl2 : s2.length = a + 3 := by rw [← hs2, List.length_append, hl1]; rfl
  have hc2 : s2[a]? = some (5, 9) := by rw [← hs2]; exact ap hc1
  refine r_aload_n dX5_init_18 rfl ?_
  refine r_new dX5_init_19 nl_X5_18 rfl rfl ?_
  rw [hl2]
  refine r_dup dX5_init_22 rfl ?_
  refine r_callN (vs := []) dX5_init_23 ml_X5_20 mi_X5_20 yl_X1_init rfl (i_X1 (a := a + 3) (by rw [List.length_append, hl2]; rfl) (apL hl2) (bornZ _ _)) rfl rfl rfl rfl rfl ?_
  rintro r3 t3 u3 ⟨rfl, rfl, hN3⟩
  try simp only [Option.toList_none, List.nil_append]
  refine r_putF dX5_init_26 fl_X5_21 rfl (ap (ap hc2)) rfl ⟨_, rfl⟩ ?_
  have hK3 := hK2.sub 3 0 7 (by decide) (by decide +kernel) (by decide +kernel) (L := a + 3) (B := a + 0) rfl rfl hN3
  generalize setR u3 a 7 (some (a + 3)) = m3 at hK3 ⊢
  generalize hs3 : (s2 ++ [(1, 12)]) ++ cshX1 = s3
  have hl3 : s3.length = a + 13 := by rw [← hs3, List.length_append, List.length_append, hl2]; rfl
  have hc3 : s3[a]? = some (5, 9) := by rw [← hs3]; exact ap (ap hc2)
  refine r_aload_n dX5_init_29 rfl ?_
  refine r_new dX5_init_30 nl_X5_25 rfl rfl ?_
  rw [hl3]
  refine r_dup dX5_init_33 rfl ?_
  refine r_callN (vs := []) dX5_init_34 ml_X5_27 mi_X5_27 yl_X10_init rfl (i_X10 (a := a + 13) (by rw [List.length_append, hl3]; rfl) (apL hl3) (bornZ _ _)) rfl rfl rfl rfl rfl ?_
  rintro r4 t4 u4 ⟨rfl, rfl, hN4⟩
  try simp only [Option.toList_none, List.nil_append]
  refine r_putF dX5_init_37 fl_X5_28 rfl (ap (ap hc3)) rfl ⟨_, rfl⟩ ?_
  have hK4 := hK3.sub 13 0 8 (by decide) (by decide +kernel) (by decide +kernel) (L := a + 13) (B := a + 0) rfl rfl hN4
  generalize setR u4 a 8 (some (a + 13)) = m4 at hK4 ⊢
  generalize hs4 : (s3 ++ [(9, 12)]) ++ cshX10 = s4
  have hl4 : s4.length = a + 23 := by rw [← hs4, List.length_append, List.length_append, hl3]; rfl
  have hc4 : s4[a]? = some (5, 9) := by rw [← hs4]; exact ap (ap hc3)
  refine r_aload_n dX5_init_40 rfl ?_
  have hsx : s4 = sh ++ lstX5 := by rw [← hs4, ← hs3, ← hs2, ← hs1]; simp [lstX5, cshX0, cshX1, cshX4, cshX8, cshX9, cshX10, lstX6, lstX5, lstX2, lstX3]
  have hx : ∀ (i : Nat) (x : Nat × Nat), lstX5[i]? = some x → s4[a + 1 + i]? = some x := fun i x h => by rw [hsx, apR hlen]; exact h
  have hFl : IsFloor s4 m4.2.2 (a + 3) := ⟨hx 2 _ rfl, (hK4.2.1 (3, 1, 4) (by decide +kernel)), (hK4.2.1 (3, 2, 5) (by decide +kernel)), (hK4.2.1 (3, 3, 6) (by decide +kernel)), (hK4.2.1 (3, 5, 7) (by decide +kernel)), (hK4.2.1 (3, 6, 8) (by decide +kernel)), (hK4.2.1 (3, 7, 9) (by decide +kernel)), (hK4.2.1 (3, 8, 10) (by decide +kernel)), (hK4.2.1 (3, 10, 11) (by decide +kernel)), (hK4.2.1 (3, 11, 12) (by decide +kernel)), hx 3 _ rfl, hx 4 _ rfl, hx 5 _ rfl, hx 6 _ rfl, hx 7 _ rfl, hx 8 _ rfl, hx 9 _ rfl, hx 10 _ rfl, hx 11 _ rfl⟩
  have hVo : IsVoyage s4 m4.2.2 (a + 13) := ⟨hx 12 _ rfl, (hK4.2.1 (13, 1, 14) (by decide +kernel)), (hK4.2.1 (13, 2, 15) (by decide +kernel)), (hK4.2.1 (13, 3, 16) (by decide +kernel)), (hK4.2.1 (13, 4, 17) (by decide +kernel)), (hK4.2.1 (13, 6, 18) (by decide +kernel)), (hK4.2.1 (13, 7, 19) (by decide +kernel)), (hK4.2.1 (13, 9, 20) (by decide +kernel)), (hK4.2.1 (13, 10, 21) (by decide +kernel)), (hK4.2.1 (13, 11, 22) (by decide +kernel)), hx 13 _ rfl, hx 14 _ rfl, hx 15 _ rfl, hx 16 _ rfl, hx 17 _ rfl, hx 18 _ rfl, hx 19 _ rfl, hx 20 _ rfl, hx 21 _ rfl⟩
  have hPl : IsPlane s4 m4.2.2 a := ⟨hc4, (hK4.2.1 (0, 5, 1) (by decide +kernel)), (hK4.2.1 (0, 6, 2) (by decide +kernel)), (hK4.2.1 (0, 7, 3) (by decide +kernel)), (hK4.2.1 (0, 8, 13) (by decide +kernel)), hx 0 _ rfl, hx 1 _ rfl, hFl, hVo⟩
  have hf7 : m4.2.2 a 8 = some (a + 13) := (hK4.2.1 (0, 8, 13) (by decide +kernel))
  have hcl : ∀ q : Nat, ∀ j : Int, (clrP m4 a).1 q j = (clrP m4 a).1 q j := fun _ _ => rfl
  have hxv : s4[a + 13]? = some (9, 12) := hx 12 _ rfl
  have be : ∀ j, 4 ≤ j → bareR j = 0 := fun j hj => by unfold bareR; rw [if_neg (by omega), if_neg (by omega), if_neg (by omega), if_neg (by omega)]
  have c0 : (clrP m4 a).1 a 0 = 100 := by unfold clrP clrP0; simp (disch := omega) only [sI_at, sI_ne, sI_nj]
  have c1 : (clrP m4 a).1 a 1 = 50 := by unfold clrP clrP0; simp (disch := omega) only [sI_at, sI_ne, sI_nj]
  have c2 : (clrP m4 a).1 a 2 = 40 := by unfold clrP clrP0; simp (disch := omega) only [sI_at, sI_ne, sI_nj]
  have c3 : (clrP m4 a).1 a 3 = 60 := by unfold clrP clrP0; simp (disch := omega) only [sI_at, sI_ne, sI_nj]
  have c4 : (clrP m4 a).1 a 4 = 0 := by unfold clrP clrP0; simp (disch := omega) only [sI_at, sI_ne, sI_nj]
  have d0 : (clrP m4 a).1 (a + 3) 0 = 0 := by unfold clrP clrP0; simp (disch := omega) only [sI_at, sI_ne, sI_nj]
  have d4 : (clrP m4 a).1 (a + 3) 4 = 0 := by unfold clrP clrP0; simp (disch := omega) only [sI_at, sI_ne, sI_nj]
  have d9 : (clrP m4 a).1 (a + 3) 9 = 0 := by unfold clrP clrP0; simp (disch := omega) only [sI_at, sI_ne, sI_nj]
  have e0 : (clrP m4 a).1 (a + 13) 0 = 0 := by unfold clrP clrP0; simp (disch := omega) only [sI_at, sI_ne, sI_nj]
  have e5 : (clrP m4 a).1 (a + 13) 5 = 0 := by unfold clrP clrP0; simp (disch := omega) only [sI_at, sI_ne, sI_nj]
  have e8 : (clrP m4 a).1 (a + 13) 8 = 0 := by unfold clrP clrP0; simp (disch := omega) only [sI_at, sI_ne, sI_nj]
  have f10 : (clrP m4 a).1 (a + 1) 0 = 0 := by unfold clrP clrP0; simp (disch := omega) only [sI_at, sI_ne, sI_nj]
  have f11 : (clrP m4 a).1 (a + 1) 1 = 0 := by unfold clrP clrP0; simp (disch := omega) only [sI_at, sI_ne, sI_nj]
  have f20 : (clrP m4 a).1 (a + 2) 0 = 0 := by unfold clrP clrP0; simp (disch := omega) only [sI_at, sI_ne, sI_nj]
  have f21 : (clrP m4 a).1 (a + 2) 1 = 0 := by unfold clrP clrP0; simp (disch := omega) only [sI_at, sI_ne, sI_nj]
  have hclk : Kp (fun q => q < a) m4 (clrP m4 a) := by
    unfold clrP clrP0
    exact ((((((((((((((((Kp.rf _ _).sI (by (try dsimp only); omega)).sI (by (try dsimp only); omega)).sI (by (try dsimp only); omega)).sI (by (try dsimp only); omega)).sI (by (try dsimp only); omega)).sI (by (try dsimp only); omega)).sI (by (try dsimp only); omega)).sI (by (try dsimp only); omega)).sI (by (try dsimp only); omega)).sI (by (try dsimp only); omega)).sI (by (try dsimp only); omega)).sI (by (try dsimp only); omega)).sI (by (try dsimp only); omega)).sI (by (try dsimp only); omega)).sI (by (try dsimp only); omega))
  have hRV : RV s4 (clrP m4 a) (a + 13) bareR := ⟨hVo, by rw [be 8 (by omega)]; exact e0, fun t t0 t1 => by rw [be 8 (by omega)] at t1; omega, by rw [be 9 (by omega)]; exact e5, by rw [be 10 (by omega)]; exact e8, fun i i0 i1 => by rw [be 9 (by omega)] at i1; omega⟩
  have hWg : WFg bareR := ⟨fun i i0 i1 => by rw [be 9 (by omega)] at i1; omega, by rw [be 9 (by omega), be 10 (by omega)]; rfl⟩
  refine r_cV0F0 dX5_init_41 ml_X5_32 yl_X5_clear ⟨rfl, rfl⟩ (by first | exact hc4 | assumption) ⟨_, rfl⟩ rfl rfl rfl rfl (d_clearP hPl) ?_
  have hf8 : (clrP m4 a).2.2 a 8 = some (a + 13) := hf7
  refine r_aload_n dX5_init_44 rfl ?_
  refine r_getR dX5_init_45 fl_X5_28 rfl (by first | exact hc4 | assumption) (by assumption) ?_
  refine r_aload_n dX5_init_48 rfl ?_
  refine r_getI dX5_init_49 fl_X5_35 rfl (by first | exact hc4 | assumption) ?_
  refine r_aload_n dX5_init_52 rfl ?_
  refine r_getI dX5_init_53 fl_X5_39 rfl (by first | exact hc4 | assumption) ?_
  refine r_cV2N dX5_init_56 ml_X5_42 yl_X10_reckon ⟨rfl, rfl⟩ (by first | exact hc4 | assumption) ⟨_, rfl⟩ rfl rfl rfl rfl (d_reckon hRV (by rw [be 8 (by omega)]; omega) (by rw [be 9 (by omega)]; omega) hWg (by rw [c0]; rfl) (by rw [c1]; rfl)) ?_
  rintro μv ⟨hvr, hkv, h2v⟩
  refine r_return dX5_init_59 rfl rfl rfl ?_
  have kk : ∀ q : Nat, q ≠ a + 13 + 7 → q ≠ a + 13 + 8 → q ≠ a + 13 + 9 → μv.1 q = (clrP m4 a).1 q := fun q h1 h2 h3 => (hkv q ⟨h1, h2, h3⟩).1
  have hRR : μv.2.2 = m4.2.2 := by rw [h2v]; rfl
  refine ⟨rfl, hsx, hK4.int hRR (hclk.tr (hkv.mono (fun q hq => by (try dsimp only at *); omega))), ?_⟩
  refine ⟨by rw [hRR]; exact hPl, ?_, ?_, ?_, ?_, ?_, fun b b0 b1 => ⟨fun h => ?_, fun _ => ?_⟩, ⟨by rw [hRR]; exact hFl, ?_, fun h h0 h1 => ?_, ?_, fun h h0 h1 => ?_, ?_, fun h h0 h1 => ?_⟩, hvr⟩
  · rw [kk _ (by omega) (by omega) (by omega)]; exact c0
  · rw [kk _ (by omega) (by omega) (by omega)]; exact c1
  · rw [kk _ (by omega) (by omega) (by omega)]; exact c2
  · rw [kk _ (by omega) (by omega) (by omega)]; exact c3
  · rw [kk _ (by omega) (by omega) (by omega), be 7 (by omega)]; exact c4
  · rw [be 7 (by omega)] at h; omega
  · rw [kk (a + 1) (by omega) (by omega) (by omega), kk (a + 2) (by omega) (by omega) (by omega)]
    rcases (show b = 0 ∨ b = 1 by omega) with rfl | rfl
    · exact ⟨f10, f20⟩
    · exact ⟨f11, f21⟩
  · rw [kk _ (by omega) (by omega) (by omega), be 4 (by omega)]; exact d0
  · rw [be 4 (by omega)] at h1; omega
  · rw [kk _ (by omega) (by omega) (by omega), be 5 (by omega)]; exact d4
  · rw [be 5 (by omega)] at h1; omega
  · rw [kk _ (by omega) (by omega) (by omega), be 6 (by omega)]; exact d9
  · rw [be 6 (by omega)] at h1; omega
def rfX3 : Rf := (([] ++ (shR 1 rfX5 ++ [(0, 1, 1)])) ++ (shR 24 rfX0 ++ [(0, 2, 24)]))
def zsX3 : List Nat := (([0] ++ shZ 1 []) ++ shZ 24 [0, 1, 2, 3, 4, 5])
theorem i_X3 {sh : Sh} {μ : Mem} {a : Nat} (hlen : sh.length = a + 1) (hc0 : sh[a]? = some (3, 3)) (hz0 : ∀ j, μ.1 a j = 0)  : AMet yX3_init gX3_init sh [vR a] μ (CQ μ a sh lstX3 rfX3 zsX3) := by
  have hK0 := NS.start hz0
  refine AMet.of (by decide) rfl (fun _ => rfl) rfl ?_
  refine r_aload_n dX3_init_0 rfl ?_
  refine r_objInit dX3_init_1 ml_X3_1 rfl rfl ?_
  refine r_aload_n dX3_init_4 rfl ?_
  refine r_new dX3_init_5 nl_X3_7 rfl rfl ?_
  rw [hlen]
  refine r_dup dX3_init_8 rfl ?_
  refine r_callI (vs := []) dX3_init_9 ml_X3_9 yl_X5_init rfl (i_X5 (a := a + 1) (by rw [List.length_append, hlen]; rfl) (apL hlen) (bornZ _ _)) rfl rfl rfl rfl rfl ?_
  rintro r1 t1 u1 ⟨rfl, rfl, hN1, -⟩
  try simp only [Option.toList_none, List.nil_append]
  refine r_putF dX3_init_12 fl_X3_10 rfl (ap (ap hc0)) rfl ⟨_, rfl⟩ ?_
  have hK1 := hK0.sub 1 0 1 (by decide) (by decide +kernel) (by decide +kernel) (L := a + 1) (B := a + 0) rfl rfl hN1
  generalize setR u1 a 1 (some (a + 1)) = m1 at hK1 ⊢
  generalize hs1 : (sh ++ [(5, 9)]) ++ lstX5 = s1
  have hl1 : s1.length = a + 24 := by rw [← hs1, List.length_append, List.length_append, hlen]; rfl
  have hc1 : s1[a]? = some (3, 3) := by rw [← hs1]; exact ap (ap hc0)
  refine r_aload_n dX3_init_15 rfl ?_
  refine r_new dX3_init_16 nl_X3_16 rfl rfl ?_
  rw [hl1]
  refine r_dup dX3_init_19 rfl ?_
  refine r_callN (vs := []) dX3_init_20 ml_X3_18 mi_X3_18 yl_X0_init rfl (i_X0 (a := a + 24) (by rw [List.length_append, hl1]; rfl) (apL hl1) (bornZ _ _)) rfl rfl rfl rfl rfl ?_
  rintro r2 t2 u2 ⟨rfl, rfl, hN2⟩
  try simp only [Option.toList_none, List.nil_append]
  refine r_putF dX3_init_23 fl_X3_19 rfl (ap (ap hc1)) rfl ⟨_, rfl⟩ ?_
  have hK2 := hK1.sub 24 0 2 (by decide) (by decide +kernel) (by decide +kernel) (L := a + 24) (B := a + 0) rfl rfl hN2
  generalize setR u2 a 2 (some (a + 24)) = m2 at hK2 ⊢
  generalize hs2 : (s1 ++ [(0, 7)]) ++ cshX0 = s2
  have hl2 : s2.length = a + 30 := by rw [← hs2, List.length_append, List.length_append, hl1]; rfl
  have hc2 : s2[a]? = some (3, 3) := by rw [← hs2]; exact ap (ap hc1)
  refine r_return dX3_init_26 rfl rfl rfl ?_
  exact ⟨rfl, by rw [← hs2, ← hs1]; simp [lstX3, cshX0, cshX1, cshX4, cshX8, cshX9, cshX10, lstX6, lstX5, lstX2, lstX3], hK2⟩
def rfX2 : Rf := ((((((((([] ++ [(0, 0, 1)]) ++ (shR 2 rfX0 ++ [(1, 0, 2)])) ++ (shR 8 rfX0 ++ [(1, 1, 8)])) ++ (shR 14 rfX0 ++ [(1, 2, 14)])) ++ (shR 20 rfX0 ++ [(1, 3, 20)])) ++ (shR 26 rfX0 ++ [(1, 4, 26)])) ++ (shR 32 rfX0 ++ [(1, 5, 32)])) ++ (shR 38 rfX0 ++ [(1, 6, 38)])) ++ (shR 44 rfX0 ++ [(1, 7, 44)]))
def zsX2 : List Nat := ((((((((([0] ++ [1]) ++ shZ 2 [0, 1, 2, 3, 4, 5]) ++ shZ 8 [0, 1, 2, 3, 4, 5]) ++ shZ 14 [0, 1, 2, 3, 4, 5]) ++ shZ 20 [0, 1, 2, 3, 4, 5]) ++ shZ 26 [0, 1, 2, 3, 4, 5]) ++ shZ 32 [0, 1, 2, 3, 4, 5]) ++ shZ 38 [0, 1, 2, 3, 4, 5]) ++ shZ 44 [0, 1, 2, 3, 4, 5])
set_option maxRecDepth 100000 in
set_option maxHeartbeats 4000000 in
theorem i_X2 {sh : Sh} {μ : Mem} {a : Nat} (hlen : sh.length = a + 1) (hc0 : sh[a]? = some (2, 3)) (hz0 : ∀ j, μ.1 a j = 0)  : AMet yX2_init gX2_init sh [vR a] μ (CQ μ a sh lstX2 rfX2 zsX2) := by
  have hK0 := NS.start hz0
  refine AMet.of (by decide) rfl (fun _ => rfl) rfl ?_
  refine r_aload_n dX2_init_0 rfl ?_
  refine r_objInit dX2_init_1 ml_X2_3 rfl rfl ?_
  refine r_aload_n dX2_init_4 rfl ?_
  refine r_bipush dX2_init_5 (by decide) ?_
  refine r_newq dX2_init_7 ql_X2_9 rfl rfl rfl rfl ?_
  rw [hlen]
  refine r_putF dX2_init_10 fl_X2_11 rfl (ap hc0) rfl ⟨_, rfl⟩ ?_
  have hK1 := hK0.arr 1 0 (by decide) (by decide +kernel) (by decide +kernel) (L := a + 1) rfl
  generalize setR (born μ (a + 1)) a 0 (some (a + 1)) = m1 at hK1 ⊢
  generalize hs1 : sh ++ [(24, 8)] = s1
  have hl1 : s1.length = a + 2 := by rw [← hs1, List.length_append, hlen]; rfl
  have hc1 : s1[a]? = some (2, 3) := by rw [← hs1]; exact ap hc0
  have ha1 : s1[a + 1]? = some (24, 8) := by rw [← hs1]; exact apL hlen
  refine r_iconst dX2_init_13 ?_
  refine r_istore_n dX2_init_14 rfl ?_
  refine r_iload_n dX2_init_15 rfl ?_
  refine r_bipush dX2_init_16 (by decide) ?_
  refine q_icmp_ge (tgt := 40) dX2_init_18 rfl (by omega) (by omega) (fun c18 => ?_) (fun c18 => ?_)
  · exact absurd c18 (by omega)
  · refine r_aload_n dX2_init_21 rfl ?_
    refine r_getR dX2_init_22 fl_X2_11 rfl hc1 (hK1.2.1 (0, 0, 1) (by decide +kernel)) ?_
    refine r_iload_n dX2_init_25 rfl ?_
    refine r_new dX2_init_26 nl_X2_9 rfl rfl ?_
    rw [hl1]
    refine r_dup dX2_init_29 rfl ?_
    refine r_callN (vs := []) dX2_init_30 ml_X2_17 mi_X2_17 yl_X0_init rfl (i_X0 (a := a + 2) (by rw [List.length_append, hl1]; rfl) (apL hl1) (bornZ _ _)) rfl rfl rfl rfl rfl ?_
    rintro r2 t2 u2 ⟨rfl, rfl, hN2⟩
    try simp only [Option.toList_none, List.nil_append]
    refine r_aast dX2_init_33 (by first | exact ap (ap ha1) | exact ap (apL hl1)) rfl (by omega) (by first | exact ap (ap ha1) | exact ap (apL hl1)) ?_
    have hK2 := hK1.sub 2 1 0 (by decide) (by decide +kernel) (by decide +kernel) (L := a + 2) (B := a + 1) rfl rfl hN2
    generalize setR u2 (a + 1) 0 (some (a + 2)) = m2 at hK2 ⊢
    generalize hs2 : (s1 ++ [(0, 7)]) ++ cshX0 = s2
    have hl2 : s2.length = a + 8 := by rw [← hs2, List.length_append, List.length_append, hl1]; rfl
    have hc2 : s2[a]? = some (2, 3) := by rw [← hs2]; exact ap (ap hc1)
    have ha2 : s2[a + 1]? = some (24, 8) := by rw [← hs2]; exact ap (ap ha1)
    refine r_iinc dX2_init_34 rfl rfl ?_
    refine r_goto (tgt := 15) dX2_init_37 rfl ?_
    rw [show ((0 : Int) + 1) = 1 from rfl]
    refine r_iload_n dX2_init_15 rfl ?_
    refine r_bipush dX2_init_16 (by decide) ?_
    refine q_icmp_ge (tgt := 40) dX2_init_18 rfl (by omega) (by omega) (fun c18 => ?_) (fun c18 => ?_)
    · exact absurd c18 (by omega)
    · refine r_aload_n dX2_init_21 rfl ?_
      refine r_getR dX2_init_22 fl_X2_11 rfl hc2 (hK2.2.1 (0, 0, 1) (by decide +kernel)) ?_
      refine r_iload_n dX2_init_25 rfl ?_
      refine r_new dX2_init_26 nl_X2_9 rfl rfl ?_
      rw [hl2]
      refine r_dup dX2_init_29 rfl ?_
      refine r_callN (vs := []) dX2_init_30 ml_X2_17 mi_X2_17 yl_X0_init rfl (i_X0 (a := a + 8) (by rw [List.length_append, hl2]; rfl) (apL hl2) (bornZ _ _)) rfl rfl rfl rfl rfl ?_
      rintro r3 t3 u3 ⟨rfl, rfl, hN3⟩
      try simp only [Option.toList_none, List.nil_append]
      refine r_aast dX2_init_33 (by first | exact ap (ap ha2) | exact ap (apL hl2)) rfl (by omega) (by first | exact ap (ap ha2) | exact ap (apL hl2)) ?_
      have hK3 := hK2.sub 8 1 1 (by decide) (by decide +kernel) (by decide +kernel) (L := a + 8) (B := a + 1) rfl rfl hN3
      generalize setR u3 (a + 1) 1 (some (a + 8)) = m3 at hK3 ⊢
      generalize hs3 : (s2 ++ [(0, 7)]) ++ cshX0 = s3
      have hl3 : s3.length = a + 14 := by rw [← hs3, List.length_append, List.length_append, hl2]; rfl
      have hc3 : s3[a]? = some (2, 3) := by rw [← hs3]; exact ap (ap hc2)
      have ha3 : s3[a + 1]? = some (24, 8) := by rw [← hs3]; exact ap (ap ha2)
      refine r_iinc dX2_init_34 rfl rfl ?_
      refine r_goto (tgt := 15) dX2_init_37 rfl ?_
      rw [show ((1 : Int) + 1) = 2 from rfl]
      refine r_iload_n dX2_init_15 rfl ?_
      refine r_bipush dX2_init_16 (by decide) ?_
      refine q_icmp_ge (tgt := 40) dX2_init_18 rfl (by omega) (by omega) (fun c18 => ?_) (fun c18 => ?_)
      · exact absurd c18 (by omega)
      · refine r_aload_n dX2_init_21 rfl ?_
        refine r_getR dX2_init_22 fl_X2_11 rfl hc3 (hK3.2.1 (0, 0, 1) (by decide +kernel)) ?_
        refine r_iload_n dX2_init_25 rfl ?_
        refine r_new dX2_init_26 nl_X2_9 rfl rfl ?_
        rw [hl3]
        refine r_dup dX2_init_29 rfl ?_
        refine r_callN (vs := []) dX2_init_30 ml_X2_17 mi_X2_17 yl_X0_init rfl (i_X0 (a := a + 14) (by rw [List.length_append, hl3]; rfl) (apL hl3) (bornZ _ _)) rfl rfl rfl rfl rfl ?_
        rintro r4 t4 u4 ⟨rfl, rfl, hN4⟩
        try simp only [Option.toList_none, List.nil_append]
        refine r_aast dX2_init_33 (by first | exact ap (ap ha3) | exact ap (apL hl3)) rfl (by omega) (by first | exact ap (ap ha3) | exact ap (apL hl3)) ?_
        have hK4 := hK3.sub 14 1 2 (by decide) (by decide +kernel) (by decide +kernel) (L := a + 14) (B := a + 1) rfl rfl hN4
        generalize setR u4 (a + 1) 2 (some (a + 14)) = m4 at hK4 ⊢
        generalize hs4 : (s3 ++ [(0, 7)]) ++ cshX0 = s4
        have hl4 : s4.length = a + 20 := by rw [← hs4, List.length_append, List.length_append, hl3]; rfl
        have hc4 : s4[a]? = some (2, 3) := by rw [← hs4]; exact ap (ap hc3)
        have ha4 : s4[a + 1]? = some (24, 8) := by rw [← hs4]; exact ap (ap ha3)
        refine r_iinc dX2_init_34 rfl rfl ?_
        refine r_goto (tgt := 15) dX2_init_37 rfl ?_
        rw [show ((2 : Int) + 1) = 3 from rfl]
        refine r_iload_n dX2_init_15 rfl ?_
        refine r_bipush dX2_init_16 (by decide) ?_
        refine q_icmp_ge (tgt := 40) dX2_init_18 rfl (by omega) (by omega) (fun c18 => ?_) (fun c18 => ?_)
        · exact absurd c18 (by omega)
        · refine r_aload_n dX2_init_21 rfl ?_
          refine r_getR dX2_init_22 fl_X2_11 rfl hc4 (hK4.2.1 (0, 0, 1) (by decide +kernel)) ?_
          refine r_iload_n dX2_init_25 rfl ?_
          refine r_new dX2_init_26 nl_X2_9 rfl rfl ?_
          rw [hl4]
          refine r_dup dX2_init_29 rfl ?_
          refine r_callN (vs := []) dX2_init_30 ml_X2_17 mi_X2_17 yl_X0_init rfl (i_X0 (a := a + 20) (by rw [List.length_append, hl4]; rfl) (apL hl4) (bornZ _ _)) rfl rfl rfl rfl rfl ?_
          rintro r5 t5 u5 ⟨rfl, rfl, hN5⟩
          try simp only [Option.toList_none, List.nil_append]
          refine r_aast dX2_init_33 (by first | exact ap (ap ha4) | exact ap (apL hl4)) rfl (by omega) (by first | exact ap (ap ha4) | exact ap (apL hl4)) ?_
          have hK5 := hK4.sub 20 1 3 (by decide) (by decide +kernel) (by decide +kernel) (L := a + 20) (B := a + 1) rfl rfl hN5
          generalize setR u5 (a + 1) 3 (some (a + 20)) = m5 at hK5 ⊢
          generalize hs5 : (s4 ++ [(0, 7)]) ++ cshX0 = s5
          have hl5 : s5.length = a + 26 := by rw [← hs5, List.length_append, List.length_append, hl4]; rfl
          have hc5 : s5[a]? = some (2, 3) := by rw [← hs5]; exact ap (ap hc4)
          have ha5 : s5[a + 1]? = some (24, 8) := by rw [← hs5]; exact ap (ap ha4)
          refine r_iinc dX2_init_34 rfl rfl ?_
          refine r_goto (tgt := 15) dX2_init_37 rfl ?_
          rw [show ((3 : Int) + 1) = 4 from rfl]
          refine r_iload_n dX2_init_15 rfl ?_
          refine r_bipush dX2_init_16 (by decide) ?_
          refine q_icmp_ge (tgt := 40) dX2_init_18 rfl (by omega) (by omega) (fun c18 => ?_) (fun c18 => ?_)
          · exact absurd c18 (by omega)
          · refine r_aload_n dX2_init_21 rfl ?_
            refine r_getR dX2_init_22 fl_X2_11 rfl hc5 (hK5.2.1 (0, 0, 1) (by decide +kernel)) ?_
            refine r_iload_n dX2_init_25 rfl ?_
            refine r_new dX2_init_26 nl_X2_9 rfl rfl ?_
            rw [hl5]
            refine r_dup dX2_init_29 rfl ?_
            refine r_callN (vs := []) dX2_init_30 ml_X2_17 mi_X2_17 yl_X0_init rfl (i_X0 (a := a + 26) (by rw [List.length_append, hl5]; rfl) (apL hl5) (bornZ _ _)) rfl rfl rfl rfl rfl ?_
            rintro r6 t6 u6 ⟨rfl, rfl, hN6⟩
            try simp only [Option.toList_none, List.nil_append]
            refine r_aast dX2_init_33 (by first | exact ap (ap ha5) | exact ap (apL hl5)) rfl (by omega) (by first | exact ap (ap ha5) | exact ap (apL hl5)) ?_
            have hK6 := hK5.sub 26 1 4 (by decide) (by decide +kernel) (by decide +kernel) (L := a + 26) (B := a + 1) rfl rfl hN6
            generalize setR u6 (a + 1) 4 (some (a + 26)) = m6 at hK6 ⊢
            generalize hs6 : (s5 ++ [(0, 7)]) ++ cshX0 = s6
            have hl6 : s6.length = a + 32 := by rw [← hs6, List.length_append, List.length_append, hl5]; rfl
            have hc6 : s6[a]? = some (2, 3) := by rw [← hs6]; exact ap (ap hc5)
            have ha6 : s6[a + 1]? = some (24, 8) := by rw [← hs6]; exact ap (ap ha5)
            refine r_iinc dX2_init_34 rfl rfl ?_
            refine r_goto (tgt := 15) dX2_init_37 rfl ?_
            rw [show ((4 : Int) + 1) = 5 from rfl]
            refine r_iload_n dX2_init_15 rfl ?_
            refine r_bipush dX2_init_16 (by decide) ?_
            refine q_icmp_ge (tgt := 40) dX2_init_18 rfl (by omega) (by omega) (fun c18 => ?_) (fun c18 => ?_)
            · exact absurd c18 (by omega)
            · refine r_aload_n dX2_init_21 rfl ?_
              refine r_getR dX2_init_22 fl_X2_11 rfl hc6 (hK6.2.1 (0, 0, 1) (by decide +kernel)) ?_
              refine r_iload_n dX2_init_25 rfl ?_
              refine r_new dX2_init_26 nl_X2_9 rfl rfl ?_
              rw [hl6]
              refine r_dup dX2_init_29 rfl ?_
              refine r_callN (vs := []) dX2_init_30 ml_X2_17 mi_X2_17 yl_X0_init rfl (i_X0 (a := a + 32) (by rw [List.length_append, hl6]; rfl) (apL hl6) (bornZ _ _)) rfl rfl rfl rfl rfl ?_
              rintro r7 t7 u7 ⟨rfl, rfl, hN7⟩
              try simp only [Option.toList_none, List.nil_append]
              refine r_aast dX2_init_33 (by first | exact ap (ap ha6) | exact ap (apL hl6)) rfl (by omega) (by first | exact ap (ap ha6) | exact ap (apL hl6)) ?_
              have hK7 := hK6.sub 32 1 5 (by decide) (by decide +kernel) (by decide +kernel) (L := a + 32) (B := a + 1) rfl rfl hN7
              generalize setR u7 (a + 1) 5 (some (a + 32)) = m7 at hK7 ⊢
              generalize hs7 : (s6 ++ [(0, 7)]) ++ cshX0 = s7
              have hl7 : s7.length = a + 38 := by rw [← hs7, List.length_append, List.length_append, hl6]; rfl
              have hc7 : s7[a]? = some (2, 3) := by rw [← hs7]; exact ap (ap hc6)
              have ha7 : s7[a + 1]? = some (24, 8) := by rw [← hs7]; exact ap (ap ha6)
              refine r_iinc dX2_init_34 rfl rfl ?_
              refine r_goto (tgt := 15) dX2_init_37 rfl ?_
              rw [show ((5 : Int) + 1) = 6 from rfl]
              refine r_iload_n dX2_init_15 rfl ?_
              refine r_bipush dX2_init_16 (by decide) ?_
              refine q_icmp_ge (tgt := 40) dX2_init_18 rfl (by omega) (by omega) (fun c18 => ?_) (fun c18 => ?_)
              · exact absurd c18 (by omega)
              · refine r_aload_n dX2_init_21 rfl ?_
                refine r_getR dX2_init_22 fl_X2_11 rfl hc7 (hK7.2.1 (0, 0, 1) (by decide +kernel)) ?_
                refine r_iload_n dX2_init_25 rfl ?_
                refine r_new dX2_init_26 nl_X2_9 rfl rfl ?_
                rw [hl7]
                refine r_dup dX2_init_29 rfl ?_
                refine r_callN (vs := []) dX2_init_30 ml_X2_17 mi_X2_17 yl_X0_init rfl (i_X0 (a := a + 38) (by rw [List.length_append, hl7]; rfl) (apL hl7) (bornZ _ _)) rfl rfl rfl rfl rfl ?_
                rintro r8 t8 u8 ⟨rfl, rfl, hN8⟩
                try simp only [Option.toList_none, List.nil_append]
                refine r_aast dX2_init_33 (by first | exact ap (ap ha7) | exact ap (apL hl7)) rfl (by omega) (by first | exact ap (ap ha7) | exact ap (apL hl7)) ?_
                have hK8 := hK7.sub 38 1 6 (by decide) (by decide +kernel) (by decide +kernel) (L := a + 38) (B := a + 1) rfl rfl hN8
                generalize setR u8 (a + 1) 6 (some (a + 38)) = m8 at hK8 ⊢
                generalize hs8 : (s7 ++ [(0, 7)]) ++ cshX0 = s8
                have hl8 : s8.length = a + 44 := by rw [← hs8, List.length_append, List.length_append, hl7]; rfl
                have hc8 : s8[a]? = some (2, 3) := by rw [← hs8]; exact ap (ap hc7)
                have ha8 : s8[a + 1]? = some (24, 8) := by rw [← hs8]; exact ap (ap ha7)
                refine r_iinc dX2_init_34 rfl rfl ?_
                refine r_goto (tgt := 15) dX2_init_37 rfl ?_
                rw [show ((6 : Int) + 1) = 7 from rfl]
                refine r_iload_n dX2_init_15 rfl ?_
                refine r_bipush dX2_init_16 (by decide) ?_
                refine q_icmp_ge (tgt := 40) dX2_init_18 rfl (by omega) (by omega) (fun c18 => ?_) (fun c18 => ?_)
                · exact absurd c18 (by omega)
                · refine r_aload_n dX2_init_21 rfl ?_
                  refine r_getR dX2_init_22 fl_X2_11 rfl hc8 (hK8.2.1 (0, 0, 1) (by decide +kernel)) ?_
                  refine r_iload_n dX2_init_25 rfl ?_
                  refine r_new dX2_init_26 nl_X2_9 rfl rfl ?_
                  rw [hl8]
                  refine r_dup dX2_init_29 rfl ?_
                  refine r_callN (vs := []) dX2_init_30 ml_X2_17 mi_X2_17 yl_X0_init rfl (i_X0 (a := a + 44) (by rw [List.length_append, hl8]; rfl) (apL hl8) (bornZ _ _)) rfl rfl rfl rfl rfl ?_
                  rintro r9 t9 u9 ⟨rfl, rfl, hN9⟩
                  try simp only [Option.toList_none, List.nil_append]
                  refine r_aast dX2_init_33 (by first | exact ap (ap ha8) | exact ap (apL hl8)) rfl (by omega) (by first | exact ap (ap ha8) | exact ap (apL hl8)) ?_
                  have hK9 := hK8.sub 44 1 7 (by decide) (by decide +kernel) (by decide +kernel) (L := a + 44) (B := a + 1) rfl rfl hN9
                  generalize setR u9 (a + 1) 7 (some (a + 44)) = m9 at hK9 ⊢
                  generalize hs9 : (s8 ++ [(0, 7)]) ++ cshX0 = s9
                  have hl9 : s9.length = a + 50 := by rw [← hs9, List.length_append, List.length_append, hl8]; rfl
                  have hc9 : s9[a]? = some (2, 3) := by rw [← hs9]; exact ap (ap hc8)
                  have ha9 : s9[a + 1]? = some (24, 8) := by rw [← hs9]; exact ap (ap ha8)
                  refine r_iinc dX2_init_34 rfl rfl ?_
                  refine r_goto (tgt := 15) dX2_init_37 rfl ?_
                  rw [show ((7 : Int) + 1) = 8 from rfl]
                  refine r_iload_n dX2_init_15 rfl ?_
                  refine r_bipush dX2_init_16 (by decide) ?_
                  refine q_icmp_ge (tgt := 40) dX2_init_18 rfl (by omega) (by omega) (fun c18 => ?_) (fun c18 => ?_)
                  · refine r_return dX2_init_40 rfl rfl rfl ?_
                    exact ⟨rfl, by rw [← hs9, ← hs8, ← hs7, ← hs6, ← hs5, ← hs4, ← hs3, ← hs2, ← hs1]; simp [lstX2, cshX0, cshX1, cshX4, cshX8, cshX9, cshX10, lstX6, lstX5, lstX2, lstX3], hK9⟩
                  · exact absurd c18 (by omega)


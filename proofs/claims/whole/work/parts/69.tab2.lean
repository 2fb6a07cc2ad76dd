/-! 69.tab2: the class's table, laying one after the other (wip/whole/src/69_tab2.py) -/
def CW (μ : Mem) (c : Nat) (ρ : Row) : Prop := IsCargo SH μ.2.2 c ∧ μ.1 c 0 = ρ 11 ∧ μ.1 c 5 = ρ 12 ∧ ∀ k, 0 ≤ k → k < ρ 11 → μ.1 (c + 2) k = ρ (83 + k) ∧ μ.1 (c + 3) k = ρ (88 + k)
def LimB (ρ : Row) : Prop := (0 ≤ lim0 ρ ∧ lim0 ρ ≤ 99) ∧ (0 ≤ lim1 ρ ∧ lim1 ρ ≤ 99)
def BW (μ : Mem) (p c : Nat) (ρ : Row) : Prop := (IsTab μ.2.2 ∧ μ.2.2 172 5 = some p ∧ μ.2.2 172 6 = some c) ∧ (RelP SH μ p ρ ∧ CW μ c ρ) ∧ (WFP ρ ∧ PW ρ ∧ ArmB ρ ∧ LimB ρ) ∧ (p = 4 ∨ p = 27) ∧ (c = 50 ∨ c = 56)
theorem BW.mono {μ μ2 : Mem} {p c : Nat} {ρ : Row} (h : BW μ p c ρ) (hk : Kp (fun a => a < 172 ∧ ¬ (62 ≤ a ∧ a < 112)) μ μ2) (hR : μ2.2.2 = μ.2.2) : BW μ2 p c ρ := by
  obtain ⟨h1, ⟨hP, ⟨i1, i2, i3, i4⟩⟩, h3, hp, hc⟩ := h
  refine ⟨by rw [hR]; exact h1, ⟨hP.mono (hk.mono (fun q hq => by (try dsimp only at *); omega)), by rw [hR]; exact i1, by rw [(hk c (by (try dsimp only); omega)).1]; exact i2, by rw [(hk c (by (try dsimp only); omega)).1]; exact i3, fun k k0 k1 => ?_⟩, h3, hp, hc⟩
  rw [(hk (c + 2) (by (try dsimp only); omega)).1, (hk (c + 3) (by (try dsimp only); omega)).1]
  exact i4 k k0 k1
theorem BW.set {μ : Mem} {p c : Nat} {ρ : Row} (h : BW μ p c ρ) {k s : Int} (hk : 0 ≤ k) : BW μ p c (rset ρ (93 + k) s) := by
  obtain ⟨h1, ⟨hP, ⟨i1, i2, i3, i4⟩⟩, ⟨hWP, hPW, hAB, hLB⟩, hp, hc⟩ := h
  have hn := hWP.1
  unfold WFn at hn
  refine ⟨h1, ⟨hP.row hWP ((PlEq.rf ρ).set (by omega)), i1, by rw [rset_ne (by omega)]; exact i2, by rw [rset_ne (by omega)]; exact i3, fun j j0 j1 => ?_⟩, ⟨wfP_set hWP hk, hPW.set hk (by omega), hAB.set hk, ?_⟩, hp, hc⟩
  · rw [rset_ne (by omega)] at j1
    rw [rset_ne (by omega), rset_ne (by omega)]
    exact i4 j j0 j1
  · unfold LimB lim0 lim1 at *
    rw [rset_ne (j := 7) (by omega), rset_ne (j := 49) (by omega), rset_ne (j := 50) (by omega)]
    exact hLB
theorem base_rng {ρ : Row} (hP : WFP ρ) {i : Int} (hi : 0 ≤ i ∧ i ≤ ρ 9) : (-2000 ≤ baseW ρ i ∧ baseW ρ i ≤ 2000) ∧ (-200000 ≤ baseM ρ i ∧ baseM ρ i ≤ 200000) := by
  obtain ⟨hn, hs, hh, hj, ht, hg⟩ := hP
  have hn' := hn; unfold WFn at hn'
  have a1 := sumF_bound (f := fun k => if ρ (59 + k) < 0 then 0 else -ρ (71 + k)) (lo := -99) (hi := 0) i.toNat 0 (fun j h1 h2 => by
    try dsimp only
    have := hg.1 j (by omega) (by omega)
    split <;> omega) (by omega) (by omega)
  have a2 := sumF_bound (f := fun t => ρ (56 + t)) (lo := 0) (hi := 99) (ρ 8).toNat 0 (fun j h1 h2 => by
    have := ht j (by omega) (by omega)
    omega) (by omega) (by omega)
  have a3 := sumF_bound (f := fun k => if ρ (59 + k) < 0 then 0 else -ρ (71 + k) * ρ (53 + ρ (59 + k))) (lo := -9801) (hi := 0) i.toNat 0 (fun j h1 h2 => by
    try dsimp only
    have q := hg.1 j (by omega) (by omega)
    split
    · omega
    · have q2 := ht (ρ (59 + j)) (by omega) (by omega)
      have q3 := mul_rng (a := ρ (71 + j)) (b := ρ (53 + ρ (59 + j))) (A := 99) (B := 99) (by omega) (by omega)
      rw [Int.neg_mul]
      omega) (by omega) (by omega)
  have a4 := sumF_bound (f := fun t => ρ (56 + t) * ρ (53 + t)) (lo := 0) (hi := 9801) (ρ 8).toNat 0 (fun j h1 h2 => by
    have q := ht j (by omega) (by omega)
    have q3 := mul_rng (a := ρ (56 + j)) (b := ρ (53 + j)) (A := 99) (B := 99) (by omega) (by omega)
    try dsimp only
    omega) (by omega) (by omega)
  have a5 := mul_rng (a := ρ 0) (b := ρ 1) (A := 999) (B := 99) (by omega) (by omega)
  constructor
  · unfold baseW; omega
  · unfold baseM; omega
theorem wb_rng {ρ : Row} (hn : WFn ρ) (hp : PW ρ) (q : Int) : 0 ≤ wbF ρ q ∧ wbF ρ q ≤ 990 := by
  unfold WFn at hn
  have h := sumF_bound (f := fun k => if q < ρ (88 + k) then ρ (83 + k) else 0) (lo := 0) (hi := 198) (ρ 11).toNat 0 (fun j j0 j1 => by
    try dsimp only
    have a := hp j j0 (by omega)
    split <;> omega) (by omega) (by omega)
  unfold wbF
  omega
theorem ls_rng {ρ : Row} (hn : WFn ρ) (hp : PW ρ) {k : Int} (hk : 0 ≤ k ∧ k ≤ ρ 11) (s : Int) : 0 ≤ ls ρ k s ∧ ls ρ k s ≤ 990 := by
  unfold WFn at hn
  have h := sumF_bound (f := fun j => if ρ (93 + j) = s then ρ (83 + j) else 0) (lo := 0) (hi := 198) k.toNat 0 (fun j j0 j1 => by
    try dsimp only
    have a := hp j j0 (by omega)
    split <;> omega) (by omega) (by omega)
  unfold ls
  omega
theorem hl_rng {ρ : Row} (hn : WFn ρ) (hp : PW ρ) {k : Int} (hk : 0 ≤ k ∧ k ≤ ρ 11) (s : Int) : 0 ≤ hl ρ k s ∧ hl ρ k s ≤ 990 := by
  unfold WFn at hn
  have h := sumF_bound (f := fun j => if ρ (19 + ρ (93 + j)) = s then ρ (83 + j) else 0) (lo := 0) (hi := 198) k.toNat 0 (fun j j0 j1 => by
    try dsimp only
    have a := hp j j0 (by omega)
    split <;> omega) (by omega) (by omega)
  unfold hl
  omega
theorem lh_rng {ρ : Row} (hP : WFP ρ) (hp : PW ρ) (ha : ArmB ρ) {i : Int} (hi : 0 ≤ i ∧ i ≤ ρ 9) : (-2000 ≤ wiF ρ i ∧ wiF ρ i ≤ 4000) ∧ (-300000 ≤ miF ρ i ∧ miF ρ i ≤ 300000) ∧ (-1000000 ≤ loF ρ i ∧ loF ρ i ≤ 1000000) ∧ (-1000000 ≤ hiF ρ i ∧ hiF ρ i ≤ 1000000) := by
  have hn := hP.1
  have hn' := hn; unfold WFn at hn'
  have b := base_rng hP hi
  have w := wb_rng hn hp (stopsF ρ i)
  have a1 := (arm_rng ha.1).2
  have m := mul_rng (a := ρ 12) (b := a1F ρ) (A := 198) (B := 99) (by omega) a1
  have e1 : -2000 ≤ wiF ρ i ∧ wiF ρ i ≤ 4000 := by unfold wiF; omega
  have e2 : -300000 ≤ miF ρ i ∧ miF ρ i ≤ 300000 := by unfold miF; omega
  have m2 := mul_rng (a := wiF ρ i + 2000) (b := ρ 2) (A := 6000) (B := 99) (by omega) (by omega)
  have m3 := mul_rng (a := wiF ρ i + 2000) (b := ρ 3) (A := 6000) (B := 99) (by omega) (by omega)
  rw [Int.add_mul] at m2 m3
  refine ⟨e1, e2, ?_, ?_⟩
  · unfold loF; omega
  · unfold hiF; omega
theorem fmax_ge {P : Int → Prop} [DecidablePred P] {g : Int → Int} {lo hi : Int} {n : Nat} {k a : Int} (ha : lo ≤ a ∧ a ≤ hi) (h : ∀ i, k ≤ i → i < k + n → P i → g i ≤ hi) : lo ≤ fld (fun i a => if P i then max a (g i) else a) n k a ∧ fld (fun i a => if P i then max a (g i) else a) n k a ≤ hi := by
  refine ⟨?_, fmax_le n k a |>.2 ⟨ha.2, h⟩⟩
  have := (fmax_le (P := P) (g := g) (X := fld (fun i a => if P i then max a (g i) else a) n k a) n k a).1 (Int.le_refl _)
  omega
theorem fmin_ge {P : Int → Prop} [DecidablePred P] {g : Int → Int} {lo hi : Int} {n : Nat} {k a : Int} (ha : lo ≤ a ∧ a ≤ hi) (h : ∀ i, k ≤ i → i < k + n → P i → lo ≤ g i) : lo ≤ fld (fun i a => if P i then min a (g i) else a) n k a ∧ fld (fun i a => if P i then min a (g i) else a) n k a ≤ hi := by
  refine ⟨fmin_le n k a |>.2 ⟨ha.1, h⟩, ?_⟩
  have := (fmin_le (P := P) (g := g) (X := fld (fun i a => if P i then min a (g i) else a) n k a) n k a).1 (Int.le_refl _)
  omega
theorem mLe_rng {ρ : Row} (hP : WFP ρ) (hp : PW ρ) (ha : ArmB ρ) {n : Nat} (hn : (n : Int) ≤ ρ 9 + 1) (q : Int) : (-1000000000 ≤ mLe ρ n q ∧ mLe ρ n q ≤ 1000000) ∧ (-1000000 ≤ mMo ρ n q ∧ mMo ρ n q ≤ 1000000000) := by
  constructor
  · exact fmax_ge ⟨by omega, by omega⟩ fun i i0 i1 _ => (lh_rng hP hp ha (i := i) ⟨i0, by omega⟩).2.2.1.2
  · exact fmin_ge ⟨by omega, by omega⟩ fun i i0 i1 _ => (lh_rng hP hp ha (i := i) ⟨i0, by omega⟩).2.2.2.1
theorem kLe_rng {ρ : Row} (hP : WFP ρ) (hp : PW ρ) (ha : ArmB ρ) (hl : LyS ρ (ρ 11)) (n : Nat) : (-1000000000 ≤ kLe ρ n ∧ kLe ρ n ≤ 1100000) ∧ (-1100000 ≤ kMo ρ n ∧ kMo ρ n ≤ 1000000000) := by
  have hn := hP.1
  unfold WFn at hn
  constructor
  · refine fmax_ge ⟨by omega, by omega⟩ fun i i0 i1 _ => ?_
    have a := (mLe_rng hP hp ha (n := nSt ρ) (by unfold nSt; omega) (9 - i)).1
    have b := mk_rng hP.1 hP.2.1 hp hl (9 - i)
    omega
  · refine fmin_ge ⟨by omega, by omega⟩ fun i i0 i1 _ => ?_
    have a := (mLe_rng hP hp ha (n := nSt ρ) (by unfold nSt; omega) (9 - i)).2
    have b := mk_rng hP.1 hP.2.1 hp hl (9 - i)
    omega
theorem c_weightBehind {μ : Mem} {p c : Nat} {ρ : Row} (hB : BW μ p c ρ) {q : Int} (hq : -2147483648 ≤ q ∧ q < 2147483648)  : FMet yX8_weightBehind gX8_weightBehind SH [vR 172, vI q] μ (some (vI (wbF ρ q))) μ := by
  obtain ⟨⟨hT, t5, t6⟩, ⟨hP, ⟨hIC, e0, e5, eC⟩⟩, ⟨hWP, hPW, hAB, hLB⟩, hpp, hcc⟩ := id hB
  obtain ⟨t2, t3, t4, t9, t10, t11, t12, t13, t14⟩ := id hT
  obtain ⟨h0, h1, h2, h3, h4, h6, s1, s2, s3, s4, s5⟩ := id hIC
  obtain ⟨hIP, p0, p1, p2, p3, p4, pb, hF, hV⟩ := id hP
  obtain ⟨i0, i5, i6, i7, i8, j1, j2, hIF0, hIV0⟩ := id hIP
  obtain ⟨hIF, kf0, kh, kf4, ks, kf9, kj⟩ := id hF
  obtain ⟨u0, u1, u2, u3, u5, u6, u7, u8, u10, u11, y1, y2, y3, y4, y5, y6, y7, y8, y9⟩ := id hIF
  obtain ⟨hIV, v0, vt, v5, v8, vi⟩ := id hV
  obtain ⟨w0, w1, w2, w3, w4, w6, w7, w9, w10, w11, b1, b2, b3, b4, b5, b6, b7, b8, b9⟩ := id hIV
  have hn := hWP.1
  unfold WFn at hn
  have x172 : SH[172]? = some (7, 15) := rfl
  have x173 : SH[173]? = some (20, 720) := rfl
  have x174 : SH[174]? = some (20, 720) := rfl
  have x175 : SH[175]? = some (20, 720) := rfl
  have x176 : SH[176]? = some (20, 5) := rfl
  have x177 : SH[177]? = some (20, 5) := rfl
  have x178 : SH[178]? = some (20, 5) := rfl
  have x179 : SH[179]? = some (20, 6) := rfl
  have x180 : SH[180]? = some (20, 3) := rfl
  have x181 : SH[181]? = some (20, 10) := rfl
  have loop : ∀ (f n : Nat) (k : Int) (a : Int), n < f → 0 ≤ k → k + n = ρ 11 → AW gX8_weightBehind SH μ 0 0 4 [some (vR 172), some (vI q), some (vI a), some (vI k)] [] (fun r2 sh2 μ2 => r2 = some (vI (a + sumF (fun k => if q < ρ (88 + k) then ρ (83 + k) else 0) n k)) ∧ sh2 = SH ∧ μ2 = μ) := by
    intro f
    induction f with
    | zero => intro n; intros; omega
    | succ f ih =>
      intro n k a hf hk hn2
      refine r_iload_n dX8_weightBehind_4 rfl ?_
      refine r_aload_n dX8_weightBehind_5 rfl ?_
      refine r_getR dX8_weightBehind_6 fl_X8_51 rfl (by assumption) (by assumption) ?_
      refine r_getI dX8_weightBehind_9 fl_X8_80 rfl (by assumption) ?_
      refine q_icmp_ge (tgt := 50) dX8_weightBehind_12 rfl (by omega) (by omega) (fun c12 => ?_) (fun c12 => ?_)
      · refine r_iload_n dX8_weightBehind_50 rfl ?_
        refine r_ireturn dX8_weightBehind_51 rfl rfl rfl ?_
        obtain rfl : n = 0 := by omega
        exact ⟨rI (by rw [sumF]; omega), rfl, rfl⟩
      · have ek := eC k (by omega) (by omega)
        have pk := hPW k (by omega) (by omega)
        refine r_iload_n dX8_weightBehind_15 rfl ?_
        refine r_aload_n dX8_weightBehind_16 rfl ?_
        refine r_getR dX8_weightBehind_17 fl_X8_51 rfl (by assumption) (by assumption) ?_
        refine r_getR dX8_weightBehind_20 fl_X8_135 rfl (by assumption) (by assumption) ?_
        refine r_iload_n dX8_weightBehind_23 rfl ?_
        refine r_iald dX8_weightBehind_24 (by assumption) rfl (by omega) ?_
        refine r_iload_n dX8_weightBehind_25 rfl ?_
        rw [ek.2]
        refine q_icmp_le (tgt := 41) dX8_weightBehind_26 rfl (by omega) (by omega) (fun c26 => ?_) (fun c26 => ?_)
        · refine r_iconst dX8_weightBehind_41 ?_
          obtain ⟨n, rfl⟩ : ∃ q, n = q + 1 := ⟨n - 1, by omega⟩
          refine r_iadd dX8_weightBehind_42 ?_
          refine r_istore_n dX8_weightBehind_43 rfl ?_
          refine r_iinc dX8_weightBehind_44 rfl rfl ?_
          refine r_goto (tgt := 4) dX8_weightBehind_47 rfl ?_
          refine AW.mono (ih n (k + 1) _ (by omega) (by omega) (by omega)) ?_
          rintro r sh2 μ2 ⟨rfl, h⟩
          refine ⟨rI ?_, h⟩
          rw [sumF]
          first
          | (rw [if_pos (by omega)]; omega)
          | (rw [if_neg (by omega)]; omega)
        · refine r_aload_n dX8_weightBehind_29 rfl ?_
          refine r_getR dX8_weightBehind_30 fl_X8_51 rfl (by assumption) (by assumption) ?_
          refine r_getR dX8_weightBehind_33 fl_X8_138 rfl (by assumption) (by assumption) ?_
          refine r_iload_n dX8_weightBehind_36 rfl ?_
          refine r_iald dX8_weightBehind_37 (by assumption) rfl (by omega) ?_
          rw [ek.1]
          refine r_goto (tgt := 42) dX8_weightBehind_38 rfl ?_
          obtain ⟨n, rfl⟩ : ∃ q, n = q + 1 := ⟨n - 1, by omega⟩
          refine r_iadd dX8_weightBehind_42 ?_
          refine r_istore_n dX8_weightBehind_43 rfl ?_
          refine r_iinc dX8_weightBehind_44 rfl rfl ?_
          refine r_goto (tgt := 4) dX8_weightBehind_47 rfl ?_
          refine AW.mono (ih n (k + 1) _ (by omega) (by omega) (by omega)) ?_
          rintro r sh2 μ2 ⟨rfl, h⟩
          refine ⟨rI ?_, h⟩
          rw [sumF]
          first
          | (rw [if_pos (by omega)]; omega)
          | (rw [if_neg (by omega)]; omega)
  refine AMet.of (by decide) rfl (by decide) rfl ?_
  refine r_iconst dX8_weightBehind_0 ?_
  refine r_istore_n dX8_weightBehind_1 rfl ?_
  refine r_iconst dX8_weightBehind_2 ?_
  refine r_istore_n dX8_weightBehind_3 rfl ?_
  refine AW.mono (loop _ (ρ 11).toNat 0 0 (Nat.lt_succ_self _) (by omega) (by omega)) ?_
  rintro r sh2 μ2 ⟨rfl, h⟩
  exact ⟨rI (by unfold wbF; omega), h⟩
theorem c_packedPlaces {μ : Mem} {p c : Nat} {ρ : Row} (hB : BW μ p c ρ) (hl : LyS ρ (ρ 11)) (h8 : ∀ j, 0 ≤ j → j < ρ 11 → μ.1 178 j = ρ (93 + j)) : FMet yX8_packedPlaces gX8_packedPlaces SH [vR 172] μ (some (vI (packC (ρ 11) (codeR ρ)))) μ := by
  obtain ⟨⟨hT, t5, t6⟩, ⟨hP, ⟨hIC, e0, e5, eC⟩⟩, ⟨hWP, hPW, hAB, hLB⟩, hpp, hcc⟩ := id hB
  obtain ⟨t2, t3, t4, t9, t10, t11, t12, t13, t14⟩ := id hT
  obtain ⟨h0, h1, h2, h3, h4, h6, s1, s2, s3, s4, s5⟩ := id hIC
  obtain ⟨hIP, p0, p1, p2, p3, p4, pb, hF, hV⟩ := id hP
  obtain ⟨i0, i5, i6, i7, i8, j1, j2, hIF0, hIV0⟩ := id hIP
  obtain ⟨hIF, kf0, kh, kf4, ks, kf9, kj⟩ := id hF
  obtain ⟨u0, u1, u2, u3, u5, u6, u7, u8, u10, u11, y1, y2, y3, y4, y5, y6, y7, y8, y9⟩ := id hIF
  obtain ⟨hIV, v0, vt, v5, v8, vi⟩ := id hV
  obtain ⟨w0, w1, w2, w3, w4, w6, w7, w9, w10, w11, b1, b2, b3, b4, b5, b6, b7, b8, b9⟩ := id hIV
  have hn := hWP.1
  unfold WFn at hn
  have x172 : SH[172]? = some (7, 15) := rfl
  have x173 : SH[173]? = some (20, 720) := rfl
  have x174 : SH[174]? = some (20, 720) := rfl
  have x175 : SH[175]? = some (20, 720) := rfl
  have x176 : SH[176]? = some (20, 5) := rfl
  have x177 : SH[177]? = some (20, 5) := rfl
  have x178 : SH[178]? = some (20, 5) := rfl
  have x179 : SH[179]? = some (20, 6) := rfl
  have x180 : SH[180]? = some (20, 3) := rfl
  have x181 : SH[181]? = some (20, 10) := rfl
  have loop : ∀ (f n : Nat) (k : Int) (a : Int), n < f → 0 ≤ k → k + n = ρ 11 → AW gX8_packedPlaces SH μ 0 0 4 [some (vR 172), some (vI a), some (vI k)] [] (fun r2 sh2 μ2 => r2 = some (vI (fld (fun k a => ior a (ishl (ρ (93 + k)) (3 * k))) n k a)) ∧ sh2 = SH ∧ μ2 = μ) := by
    intro f
    induction f with
    | zero => intro n; intros; omega
    | succ f ih =>
      intro n k a hf hk hn2
      refine r_iload_n dX8_packedPlaces_4 rfl ?_
      refine r_aload_n dX8_packedPlaces_5 rfl ?_
      refine r_getR dX8_packedPlaces_6 fl_X8_51 rfl (by assumption) (by assumption) ?_
      refine r_getI dX8_packedPlaces_9 fl_X8_80 rfl (by assumption) ?_
      refine q_icmp_ge (tgt := 34) dX8_packedPlaces_12 rfl (by omega) (by omega) (fun c12 => ?_) (fun c12 => ?_)
      · refine r_iload_n dX8_packedPlaces_34 rfl ?_
        refine r_ireturn dX8_packedPlaces_35 rfl rfl rfl ?_
        obtain rfl : n = 0 := by omega
        exact ⟨rfl, rfl, rfl⟩
      · refine r_iload_n dX8_packedPlaces_15 rfl ?_
        refine r_aload_n dX8_packedPlaces_16 rfl ?_
        refine r_getR dX8_packedPlaces_17 fl_X8_27 rfl (by assumption) (by assumption) ?_
        refine r_iload_n dX8_packedPlaces_20 rfl ?_
        refine r_iald dX8_packedPlaces_21 (by assumption) rfl (by omega) ?_
        rw [h8 k (by omega) (by omega)]
        refine r_iconst dX8_packedPlaces_22 ?_
        refine r_iload_n dX8_packedPlaces_23 rfl ?_
        refine r_imul dX8_packedPlaces_24 ?_
        refine r_ishl dX8_packedPlaces_25 ?_
        refine r_ior dX8_packedPlaces_26 ?_
        refine r_istore_n dX8_packedPlaces_27 rfl ?_
        refine r_iinc dX8_packedPlaces_28 rfl rfl ?_
        refine r_goto (tgt := 4) dX8_packedPlaces_31 rfl ?_
        obtain ⟨n, rfl⟩ : ∃ q, n = q + 1 := ⟨n - 1, by omega⟩
        exact ih n (k + 1) _ (by omega) (by omega) (by omega)
  refine AMet.of (by decide) rfl (by decide) rfl ?_
  refine r_iconst dX8_packedPlaces_0 ?_
  refine r_istore_n dX8_packedPlaces_1 rfl ?_
  refine r_iconst dX8_packedPlaces_2 ?_
  refine r_istore_n dX8_packedPlaces_3 rfl ?_
  refine AW.mono (loop _ (ρ 11).toNat 0 0 (Nat.lt_succ_self _) (by omega) (by omega)) ?_
  rintro r sh2 μ2 ⟨rfl, h⟩
  refine ⟨rI ?_, h⟩
  unfold packC
  refine fld_congr _ _ _ fun j a j0 j1 => ?_
  rw [(codeR_spec (ρ := ρ) (fun k k0 k1 => by have := hl k k0 k1; omega)).2 j j0 (by omega), show ρ (93 + j) + 1 - 1 = ρ (93 + j) by omega]
def AR (μ : Mem) (σ : Row) (k : Int) : Prop := (∀ j, 0 ≤ j → j < k → μ.1 178 j = σ (93 + j)) ∧ (∀ s, 0 ≤ s → s < 6 → μ.1 179 s = ls σ k s) ∧ (∀ h, 0 ≤ h → h < 3 → μ.1 180 h = hl σ k h) ∧ (∀ q, 0 ≤ q → q < 10 → μ.1 181 q = msF σ k q)
theorem c_mayLie {μ : Mem} {p c : Nat} {ρ : Row} (hB : BW μ p c ρ) {k s : Int} (hA : AR μ ρ k) (hl : LyS ρ k) (hk : 0 ≤ k ∧ k < ρ 11) (hs : 0 ≤ s ∧ s < ρ 5) : FMet yX8_mayLie gX8_mayLie SH [vR 172, vI k, vI s] μ (some (vI (b2i (mayB ρ k s)))) μ := by
  obtain ⟨⟨hT, t5, t6⟩, ⟨hP, ⟨hIC, e0, e5, eC⟩⟩, ⟨hWP, hPW, hAB, hLB⟩, hpp, hcc⟩ := id hB
  obtain ⟨t2, t3, t4, t9, t10, t11, t12, t13, t14⟩ := id hT
  obtain ⟨h0, h1, h2, h3, h4, h6, s1, s2, s3, s4, s5⟩ := id hIC
  obtain ⟨hIP, p0, p1, p2, p3, p4, pb, hF, hV⟩ := id hP
  obtain ⟨i0, i5, i6, i7, i8, j1, j2, hIF0, hIV0⟩ := id hIP
  obtain ⟨hIF, kf0, kh, kf4, ks, kf9, kj⟩ := id hF
  obtain ⟨u0, u1, u2, u3, u5, u6, u7, u8, u10, u11, y1, y2, y3, y4, y5, y6, y7, y8, y9⟩ := id hIF
  obtain ⟨hIV, v0, vt, v5, v8, vi⟩ := id hV
  obtain ⟨w0, w1, w2, w3, w4, w6, w7, w9, w10, w11, b1, b2, b3, b4, b5, b6, b7, b8, b9⟩ := id hIV
  have hn := hWP.1
  unfold WFn at hn
  have x172 : SH[172]? = some (7, 15) := rfl
  have x173 : SH[173]? = some (20, 720) := rfl
  have x174 : SH[174]? = some (20, 720) := rfl
  have x175 : SH[175]? = some (20, 720) := rfl
  have x176 : SH[176]? = some (20, 5) := rfl
  have x177 : SH[177]? = some (20, 5) := rfl
  have x178 : SH[178]? = some (20, 5) := rfl
  have x179 : SH[179]? = some (20, 6) := rfl
  have x180 : SH[180]? = some (20, 3) := rfl
  have x181 : SH[181]? = some (20, 10) := rfl
  obtain ⟨a8, a9, a10, a11⟩ := id hA
  have ek := eC k hk.1 hk.2
  have pk := hPW k hk.1 hk.2
  have es := ks s hs.1 hs.2
  have ws := hWP.2.1 s hs.1 hs.2
  have wh := hWP.2.2.1 (ρ (19 + s)) ws.1.1 ws.1.2
  have eh := kh (ρ (19 + s)) ws.1.1 ws.1.2
  have lW : ∀ (f n : Nat) (j : Int) (o7 o8 : Option AV), n < f → 0 ≤ j → j + n = k → AW gX8_mayLie SH μ 0 0 163 [some (vR 172), some (vI k), some (vI s), some (vR (p + 3)), some (vI (ρ (83 + k))), some (vI (ρ (19 + s))), some (vI j), o7, o8] [] (fun r2 sh2 μ2 => r2 = some (vI (b2i (allF (fun j => !wyB ρ k s j) n j))) ∧ sh2 = SH ∧ μ2 = μ) := by
    intro f
    induction f with
    | zero => intro n; intros; omega
    | succ f ih =>
      intro n j o7 o8 hf hk0 hn2
      refine r_iload dX8_mayLie_163 rfl ?_
      refine r_iload_n dX8_mayLie_165 rfl ?_
      refine q_icmp_ge (tgt := 251) dX8_mayLie_166 rfl (by omega) (by omega) (fun c166 => ?_) (fun c166 => ?_)
      · refine r_iconst dX8_mayLie_251 ?_
        refine r_zreturn dX8_mayLie_252 (by first | exact Or.inl rfl | exact Or.inr rfl | exact b2i_01 _ | omega) rfl rfl rfl ?_
        obtain rfl : n = 0 := by omega
        exact ⟨rfl, rfl, rfl⟩
      · obtain ⟨q, rfl⟩ : ∃ q, n = q + 1 := ⟨n - 1, by omega⟩
        have ej := eC j (by omega) (by omega)
        have pj := hPW j (by omega) (by omega)
        have lj := hl j (by omega) (by omega)
        have aj := a8 j (by omega) (by omega)
        refine r_aload_n dX8_mayLie_169 rfl ?_
        refine r_getR dX8_mayLie_170 fl_X8_51 rfl (by assumption) (by assumption) ?_
        refine r_getR dX8_mayLie_173 fl_X8_135 rfl (by assumption) (by assumption) ?_
        refine r_iload dX8_mayLie_176 rfl ?_
        refine r_iald dX8_mayLie_178 (by assumption) rfl (by omega) ?_
        rw [ej.2]
        refine r_aload_n dX8_mayLie_179 rfl ?_
        refine r_getR dX8_mayLie_180 fl_X8_51 rfl (by assumption) (by assumption) ?_
        refine r_getR dX8_mayLie_183 fl_X8_135 rfl (by assumption) (by assumption) ?_
        refine r_iload_n dX8_mayLie_186 rfl ?_
        refine r_iald dX8_mayLie_187 (by assumption) rfl (by omega) ?_
        rw [ek.2]
        refine q_icmp_le (tgt := 206) dX8_mayLie_188 rfl (by omega) (by omega) (fun c188 => ?_) (fun c188 => ?_)
        · refine r_aload_n dX8_mayLie_206 rfl ?_
          refine r_getR dX8_mayLie_207 fl_X8_51 rfl (by assumption) (by assumption) ?_
          refine r_getR dX8_mayLie_210 fl_X8_135 rfl (by assumption) (by assumption) ?_
          refine r_iload dX8_mayLie_213 rfl ?_
          refine r_iald dX8_mayLie_215 (by assumption) rfl (by omega) ?_
          rw [ej.2]
          refine r_aload_n dX8_mayLie_216 rfl ?_
          refine r_getR dX8_mayLie_217 fl_X8_51 rfl (by assumption) (by assumption) ?_
          refine r_getR dX8_mayLie_220 fl_X8_135 rfl (by assumption) (by assumption) ?_
          refine r_iload_n dX8_mayLie_223 rfl ?_
          refine r_iald dX8_mayLie_224 (by assumption) rfl (by omega) ?_
          rw [ek.2]
          refine q_icmp_ge (tgt := 245) dX8_mayLie_225 rfl (by omega) (by omega) (fun c225 => ?_) (fun c225 => ?_)
          · refine r_iinc dX8_mayLie_245 rfl rfl ?_
            refine r_goto (tgt := 163) dX8_mayLie_248 rfl ?_
            refine AW.mono (ih q (j + 1) _ _ (by omega) (by omega) (by omega)) ?_
            rintro r sh2 μ2 ⟨rfl, h⟩
            refine ⟨rI ?_, h⟩
            rw [allF, if_pos]
            rw [Bool.not_eq_true']
            unfold wyB
            rw [Bool.or_eq_false_iff, Bool.and_eq_false_iff, Bool.and_eq_false_iff, decide_eq_false_iff_not, decide_eq_false_iff_not]
            first
            | exact ⟨Or.inl (by omega), Or.inl (by omega)⟩
            | exact ⟨Or.inr (Bool.eq_false_iff.2 fun g => d203 ⟨by omega, by omega, g⟩), Or.inl (by omega)⟩
            | exact ⟨Or.inl (by omega), Or.inr (Bool.eq_false_iff.2 fun g => d240 ⟨by omega, by omega, g⟩)⟩
            | exact ⟨Or.inr (Bool.eq_false_iff.2 fun g => d203 ⟨by omega, by omega, g⟩), Or.inr (Bool.eq_false_iff.2 fun g => d240 ⟨by omega, by omega, g⟩)⟩
          · refine r_aload_n dX8_mayLie_228 rfl ?_
            refine r_iload_n dX8_mayLie_229 rfl ?_
            refine r_aload_n dX8_mayLie_230 rfl ?_
            refine r_getR dX8_mayLie_231 fl_X8_27 rfl (by assumption) (by assumption) ?_
            refine r_iload dX8_mayLie_234 rfl ?_
            refine r_iald dX8_mayLie_236 (by assumption) rfl (by omega) ?_
            rw [aj]
            refine r_cV2F1 dX8_mayLie_237 ml_X8_170 yl_X1_isOnWay ⟨rfl, rfl⟩ (by assumption) ⟨_, rfl⟩ rfl rfl rfl rfl (c_isOnWay hF hWP.1 (by omega) (by omega)) ?_
            refine r_if_eqB (tgt := 245) dX8_mayLie_240 rfl (fun c240 => ?_) (fun c240 => ?_)
            · have d240 := of_decide_eq_false c240
              refine r_iinc dX8_mayLie_245 rfl rfl ?_
              refine r_goto (tgt := 163) dX8_mayLie_248 rfl ?_
              refine AW.mono (ih q (j + 1) _ _ (by omega) (by omega) (by omega)) ?_
              rintro r sh2 μ2 ⟨rfl, h⟩
              refine ⟨rI ?_, h⟩
              rw [allF, if_pos]
              rw [Bool.not_eq_true']
              unfold wyB
              rw [Bool.or_eq_false_iff, Bool.and_eq_false_iff, Bool.and_eq_false_iff, decide_eq_false_iff_not, decide_eq_false_iff_not]
              first
              | exact ⟨Or.inl (by omega), Or.inl (by omega)⟩
              | exact ⟨Or.inr (Bool.eq_false_iff.2 fun g => d203 ⟨by omega, by omega, g⟩), Or.inl (by omega)⟩
              | exact ⟨Or.inl (by omega), Or.inr (Bool.eq_false_iff.2 fun g => d240 ⟨by omega, by omega, g⟩)⟩
              | exact ⟨Or.inr (Bool.eq_false_iff.2 fun g => d203 ⟨by omega, by omega, g⟩), Or.inr (Bool.eq_false_iff.2 fun g => d240 ⟨by omega, by omega, g⟩)⟩
            · have d240 := of_decide_eq_true c240
              refine r_iconst dX8_mayLie_243 ?_
              refine r_zreturn dX8_mayLie_244 (by first | exact Or.inl rfl | exact Or.inr rfl | exact b2i_01 _ | omega) rfl rfl rfl ?_
              refine ⟨rI ?_, rfl, rfl⟩
              rw [allF, if_neg]
              · rfl
              · rw [Bool.not_eq_true', Bool.not_eq_false]
                unfold wyB
                rw [Bool.or_eq_true, Bool.and_eq_true, Bool.and_eq_true, decide_eq_true_eq, decide_eq_true_eq]
                first
                | exact Or.inl ⟨by omega, d203.2.2⟩
                | exact Or.inr ⟨by omega, d240.2.2⟩
        · refine r_aload_n dX8_mayLie_191 rfl ?_
          refine r_aload_n dX8_mayLie_192 rfl ?_
          refine r_getR dX8_mayLie_193 fl_X8_27 rfl (by assumption) (by assumption) ?_
          refine r_iload dX8_mayLie_196 rfl ?_
          refine r_iald dX8_mayLie_198 (by assumption) rfl (by omega) ?_
          rw [aj]
          refine r_iload_n dX8_mayLie_199 rfl ?_
          refine r_cV2F1 dX8_mayLie_200 ml_X8_170 yl_X1_isOnWay ⟨rfl, rfl⟩ (by assumption) ⟨_, rfl⟩ rfl rfl rfl rfl (c_isOnWay hF hWP.1 (by omega) (by omega)) ?_
          refine r_if_neB (tgt := 243) dX8_mayLie_203 rfl (fun c203 => ?_) (fun c203 => ?_)
          · have d203 := of_decide_eq_true c203
            refine r_iconst dX8_mayLie_243 ?_
            refine r_zreturn dX8_mayLie_244 (by first | exact Or.inl rfl | exact Or.inr rfl | exact b2i_01 _ | omega) rfl rfl rfl ?_
            refine ⟨rI ?_, rfl, rfl⟩
            rw [allF, if_neg]
            · rfl
            · rw [Bool.not_eq_true', Bool.not_eq_false]
              unfold wyB
              rw [Bool.or_eq_true, Bool.and_eq_true, Bool.and_eq_true, decide_eq_true_eq, decide_eq_true_eq]
              first
              | exact Or.inl ⟨by omega, d203.2.2⟩
              | exact Or.inr ⟨by omega, d240.2.2⟩
          · have d203 := of_decide_eq_false c203
            refine r_aload_n dX8_mayLie_206 rfl ?_
            refine r_getR dX8_mayLie_207 fl_X8_51 rfl (by assumption) (by assumption) ?_
            refine r_getR dX8_mayLie_210 fl_X8_135 rfl (by assumption) (by assumption) ?_
            refine r_iload dX8_mayLie_213 rfl ?_
            refine r_iald dX8_mayLie_215 (by assumption) rfl (by omega) ?_
            rw [ej.2]
            refine r_aload_n dX8_mayLie_216 rfl ?_
            refine r_getR dX8_mayLie_217 fl_X8_51 rfl (by assumption) (by assumption) ?_
            refine r_getR dX8_mayLie_220 fl_X8_135 rfl (by assumption) (by assumption) ?_
            refine r_iload_n dX8_mayLie_223 rfl ?_
            refine r_iald dX8_mayLie_224 (by assumption) rfl (by omega) ?_
            rw [ek.2]
            refine q_icmp_ge (tgt := 245) dX8_mayLie_225 rfl (by omega) (by omega) (fun c225 => ?_) (fun c225 => ?_)
            · refine r_iinc dX8_mayLie_245 rfl rfl ?_
              refine r_goto (tgt := 163) dX8_mayLie_248 rfl ?_
              refine AW.mono (ih q (j + 1) _ _ (by omega) (by omega) (by omega)) ?_
              rintro r sh2 μ2 ⟨rfl, h⟩
              refine ⟨rI ?_, h⟩
              rw [allF, if_pos]
              rw [Bool.not_eq_true']
              unfold wyB
              rw [Bool.or_eq_false_iff, Bool.and_eq_false_iff, Bool.and_eq_false_iff, decide_eq_false_iff_not, decide_eq_false_iff_not]
              first
              | exact ⟨Or.inl (by omega), Or.inl (by omega)⟩
              | exact ⟨Or.inr (Bool.eq_false_iff.2 fun g => d203 ⟨by omega, by omega, g⟩), Or.inl (by omega)⟩
              | exact ⟨Or.inl (by omega), Or.inr (Bool.eq_false_iff.2 fun g => d240 ⟨by omega, by omega, g⟩)⟩
              | exact ⟨Or.inr (Bool.eq_false_iff.2 fun g => d203 ⟨by omega, by omega, g⟩), Or.inr (Bool.eq_false_iff.2 fun g => d240 ⟨by omega, by omega, g⟩)⟩
            · refine r_aload_n dX8_mayLie_228 rfl ?_
              refine r_iload_n dX8_mayLie_229 rfl ?_
              refine r_aload_n dX8_mayLie_230 rfl ?_
              refine r_getR dX8_mayLie_231 fl_X8_27 rfl (by assumption) (by assumption) ?_
              refine r_iload dX8_mayLie_234 rfl ?_
              refine r_iald dX8_mayLie_236 (by assumption) rfl (by omega) ?_
              rw [aj]
              refine r_cV2F1 dX8_mayLie_237 ml_X8_170 yl_X1_isOnWay ⟨rfl, rfl⟩ (by assumption) ⟨_, rfl⟩ rfl rfl rfl rfl (c_isOnWay hF hWP.1 (by omega) (by omega)) ?_
              refine r_if_eqB (tgt := 245) dX8_mayLie_240 rfl (fun c240 => ?_) (fun c240 => ?_)
              · have d240 := of_decide_eq_false c240
                refine r_iinc dX8_mayLie_245 rfl rfl ?_
                refine r_goto (tgt := 163) dX8_mayLie_248 rfl ?_
                refine AW.mono (ih q (j + 1) _ _ (by omega) (by omega) (by omega)) ?_
                rintro r sh2 μ2 ⟨rfl, h⟩
                refine ⟨rI ?_, h⟩
                rw [allF, if_pos]
                rw [Bool.not_eq_true']
                unfold wyB
                rw [Bool.or_eq_false_iff, Bool.and_eq_false_iff, Bool.and_eq_false_iff, decide_eq_false_iff_not, decide_eq_false_iff_not]
                first
                | exact ⟨Or.inl (by omega), Or.inl (by omega)⟩
                | exact ⟨Or.inr (Bool.eq_false_iff.2 fun g => d203 ⟨by omega, by omega, g⟩), Or.inl (by omega)⟩
                | exact ⟨Or.inl (by omega), Or.inr (Bool.eq_false_iff.2 fun g => d240 ⟨by omega, by omega, g⟩)⟩
                | exact ⟨Or.inr (Bool.eq_false_iff.2 fun g => d203 ⟨by omega, by omega, g⟩), Or.inr (Bool.eq_false_iff.2 fun g => d240 ⟨by omega, by omega, g⟩)⟩
              · have d240 := of_decide_eq_true c240
                refine r_iconst dX8_mayLie_243 ?_
                refine r_zreturn dX8_mayLie_244 (by first | exact Or.inl rfl | exact Or.inr rfl | exact b2i_01 _ | omega) rfl rfl rfl ?_
                refine ⟨rI ?_, rfl, rfl⟩
                rw [allF, if_neg]
                · rfl
                · rw [Bool.not_eq_true', Bool.not_eq_false]
                  unfold wyB
                  rw [Bool.or_eq_true, Bool.and_eq_true, Bool.and_eq_true, decide_eq_true_eq, decide_eq_true_eq]
                  first
                  | exact Or.inl ⟨by omega, d203.2.2⟩
                  | exact Or.inr ⟨by omega, d240.2.2⟩
  have lJ : ∀ (f n : Nat) (j : Int) (o7 o8 : Option AV), n < f → 0 ≤ j → j + n = ρ 6 → AW gX8_mayLie SH μ 0 0 72 [some (vR 172), some (vI k), some (vI s), some (vR (p + 3)), some (vI (ρ (83 + k))), some (vI (ρ (19 + s))), some (vI j), o7, o8] [] (fun r2 sh2 μ2 => r2 = some (vI (b2i (allF (fun j => !joB ρ k s j) n j && allF (fun j => !wyB ρ k s j) k.toNat 0))) ∧ sh2 = SH ∧ μ2 = μ) := by
    intro f
    induction f with
    | zero => intro n; intros; omega
    | succ f ih =>
      intro n j o7 o8 hf hk0 hn2
      refine r_iload dX8_mayLie_72 rfl ?_
      refine r_aload_n dX8_mayLie_74 rfl ?_
      refine r_getI dX8_mayLie_75 fl_X8_161 rfl (by assumption) ?_
      refine q_icmp_ge (tgt := 160) dX8_mayLie_78 rfl (by omega) (by omega) (fun c78 => ?_) (fun c78 => ?_)
      · refine r_iconst dX8_mayLie_160 ?_
        refine r_istore dX8_mayLie_161 rfl ?_
        obtain rfl : n = 0 := by omega
        rw [show allF (fun j => !joB ρ k s j) 0 j = true from rfl, Bool.true_and]
        exact lW _ k.toNat 0 _ _ (Nat.lt_succ_self _) (by omega) (by omega)
      · obtain ⟨q, rfl⟩ : ∃ q, n = q + 1 := ⟨n - 1, by omega⟩
        have ej := kj j (by omega) (by omega)
        have pj := hWP.2.2.2.1 j (by omega) (by omega)
        have lT : ∀ t : Int, t = b2i (decide (s = ρ (37 + j) + 1 ∨ s = ρ (37 + j))) → AW gX8_mayLie SH μ 0 0 117 [some (vR 172), some (vI k), some (vI s), some (vR (p + 3)), some (vI (ρ (83 + k))), some (vI (ρ (19 + s))), some (vI j), some (vI (ρ (37 + j) + 1)), some (vI t)] [] (fun r2 sh2 μ2 => r2 = some (vI (b2i (allF (fun j => !joB ρ k s j) (q + 1) j && allF (fun j => !wyB ρ k s j) k.toNat 0))) ∧ sh2 = SH ∧ μ2 = μ) := by
          intro t ht
          by_cases tc : (s = ρ (37 + j) + 1 ∨ s = ρ (37 + j))
          · rw [decide_eq_true tc] at ht
            subst ht
            refine r_iload dX8_mayLie_117 rfl ?_
            refine q_if_eq (tgt := 154) dX8_mayLie_119 rfl (by decide) (fun c119 => ?_) (fun c119 => ?_)
            · exact absurd c119 (by decide)
            · refine r_aload_n dX8_mayLie_122 rfl ?_
              refine r_getR dX8_mayLie_123 fl_X8_30 rfl (by assumption) (by assumption) ?_
              refine r_iload dX8_mayLie_126 rfl ?_
              refine r_iald dX8_mayLie_128 (by assumption) rfl (by omega) ?_
              rw [a9 (ρ (37 + j) + 1) (by omega) (by omega)]
              refine r_aload_n dX8_mayLie_129 rfl ?_
              refine r_getR dX8_mayLie_130 fl_X8_30 rfl (by assumption) (by assumption) ?_
              refine r_iload dX8_mayLie_133 rfl ?_
              refine r_iconst dX8_mayLie_135 ?_
              refine r_isub dX8_mayLie_136 ?_
              refine r_iald dX8_mayLie_137 (by assumption) rfl (by omega) ?_
              rw [show ρ (37 + j) + 1 - 1 = ρ (37 + j) by omega, a9 (ρ (37 + j)) (by omega) (by omega)]
              have l1 := ls_rng hWP.1 hPW ⟨hk.1, by omega⟩ (ρ (37 + j) + 1)
              have l2 := ls_rng hWP.1 hPW ⟨hk.1, by omega⟩ (ρ (37 + j))
              refine r_iadd dX8_mayLie_138 ?_
              refine r_iload dX8_mayLie_139 rfl ?_
              refine r_iadd dX8_mayLie_141 ?_
              refine r_aload_n dX8_mayLie_142 rfl ?_
              refine r_getR dX8_mayLie_143 fl_X8_167 rfl (by assumption) (by assumption) ?_
              refine r_iload dX8_mayLie_146 rfl ?_
              refine r_iald dX8_mayLie_148 (by assumption) rfl (by omega) ?_
              rw [ej.2]
              refine q_icmp_le (tgt := 154) dX8_mayLie_149 rfl (by omega) (by omega) (fun c149 => ?_) (fun c149 => ?_)
              · refine r_iinc dX8_mayLie_154 rfl rfl ?_
                refine r_goto (tgt := 72) dX8_mayLie_157 rfl ?_
                refine AW.mono (ih q (j + 1) _ _ (by omega) (by omega) (by omega)) ?_
                rintro r sh2 μ2 ⟨rfl, h⟩
                refine ⟨rI ?_, h⟩
                rw [allF, if_pos]
                rw [Bool.not_eq_true']
                exact decide_eq_false (fun h => by omega)
              · refine r_iconst dX8_mayLie_152 ?_
                refine r_zreturn dX8_mayLie_153 (by first | exact Or.inl rfl | exact Or.inr rfl | exact b2i_01 _ | omega) rfl rfl rfl ?_
                refine ⟨rI ?_, rfl, rfl⟩
                rw [allF, if_neg]
                · rfl
                · rw [Bool.not_eq_true', Bool.not_eq_false]
                  exact decide_eq_true ⟨tc, by omega⟩
          · rw [decide_eq_false tc] at ht
            subst ht
            refine r_iload dX8_mayLie_117 rfl ?_
            refine q_if_eq (tgt := 154) dX8_mayLie_119 rfl (by decide) (fun c119 => ?_) (fun c119 => ?_)
            · refine r_iinc dX8_mayLie_154 rfl rfl ?_
              refine r_goto (tgt := 72) dX8_mayLie_157 rfl ?_
              refine AW.mono (ih q (j + 1) _ _ (by omega) (by omega) (by omega)) ?_
              rintro r sh2 μ2 ⟨rfl, h⟩
              refine ⟨rI ?_, h⟩
              rw [allF, if_pos]
              rw [Bool.not_eq_true']
              exact decide_eq_false (fun h => tc h.1)
            · exact absurd rfl c119
        refine r_aload_n dX8_mayLie_81 rfl ?_
        refine r_getR dX8_mayLie_82 fl_X8_164 rfl (by assumption) (by assumption) ?_
        refine r_iload dX8_mayLie_85 rfl ?_
        refine r_iald dX8_mayLie_87 (by assumption) rfl (by omega) ?_
        rw [ej.1]
        refine r_istore dX8_mayLie_88 rfl ?_
        refine r_iload dX8_mayLie_90 rfl ?_
        refine r_iconst dX8_mayLie_92 ?_
        refine q_icmp_lt (tgt := 114) dX8_mayLie_93 rfl (by omega) (by omega) (fun c93 => ?_) (fun c93 => ?_)
        · exact absurd c93 (by omega)
        · refine r_iload_n dX8_mayLie_96 rfl ?_
          refine r_iload dX8_mayLie_97 rfl ?_
          refine q_icmp_eq (tgt := 110) dX8_mayLie_99 rfl (by omega) (by omega) (fun c99 => ?_) (fun c99 => ?_)
          · refine r_iconst dX8_mayLie_110 ?_
            refine r_goto (tgt := 115) dX8_mayLie_111 rfl ?_
            refine r_istore dX8_mayLie_115 rfl ?_
            first
            | exact lT 1 (by rw [decide_eq_true (by omega)]; rfl)
            | exact lT 0 (by rw [decide_eq_false (by omega)]; rfl)
          · refine r_iload_n dX8_mayLie_102 rfl ?_
            refine r_iload dX8_mayLie_103 rfl ?_
            refine r_iconst dX8_mayLie_105 ?_
            refine r_isub dX8_mayLie_106 ?_
            refine q_icmp_ne (tgt := 114) dX8_mayLie_107 rfl (by omega) (by omega) (fun c107 => ?_) (fun c107 => ?_)
            · refine r_iconst dX8_mayLie_114 ?_
              refine r_istore dX8_mayLie_115 rfl ?_
              first
              | exact lT 1 (by rw [decide_eq_true (by omega)]; rfl)
              | exact lT 0 (by rw [decide_eq_false (by omega)]; rfl)
            · refine r_iconst dX8_mayLie_110 ?_
              refine r_goto (tgt := 115) dX8_mayLie_111 rfl ?_
              refine r_istore dX8_mayLie_115 rfl ?_
              first
              | exact lT 1 (by rw [decide_eq_true (by omega)]; rfl)
              | exact lT 0 (by rw [decide_eq_false (by omega)]; rfl)
  refine AMet.of (by decide) rfl (by decide) rfl ?_
  refine r_aload_n dX8_mayLie_0 rfl ?_
  refine r_getR dX8_mayLie_1 fl_X8_47 rfl (by assumption) (by assumption) ?_
  refine r_getR dX8_mayLie_4 fl_X8_83 rfl (by assumption) (by assumption) ?_
  refine r_astore_n dX8_mayLie_7 rfl ?_
  refine r_aload_n dX8_mayLie_8 rfl ?_
  refine r_getR dX8_mayLie_9 fl_X8_51 rfl (by assumption) (by assumption) ?_
  refine r_getR dX8_mayLie_12 fl_X8_138 rfl (by assumption) (by assumption) ?_
  refine r_iload_n dX8_mayLie_15 rfl ?_
  refine r_iald dX8_mayLie_16 (by assumption) rfl (by omega) ?_
  rw [ek.1]
  refine r_istore dX8_mayLie_17 rfl ?_
  refine r_aload_n dX8_mayLie_19 rfl ?_
  refine r_getR dX8_mayLie_20 fl_X8_152 rfl (by assumption) (by assumption) ?_
  refine r_iload_n dX8_mayLie_23 rfl ?_
  refine r_iald dX8_mayLie_24 (by assumption) rfl (by omega) ?_
  rw [es.1]
  refine r_istore dX8_mayLie_25 rfl ?_
  refine r_aload_n dX8_mayLie_27 rfl ?_
  refine r_getR dX8_mayLie_28 fl_X8_30 rfl (by assumption) (by assumption) ?_
  refine r_iload_n dX8_mayLie_31 rfl ?_
  refine r_iald dX8_mayLie_32 (by assumption) rfl (by omega) ?_
  rw [a9 s (by omega) (by omega)]
  have l0 := ls_rng hWP.1 hPW ⟨hk.1, by omega⟩ s
  refine q_if_ne (tgt := 67) dX8_mayLie_33 rfl (by omega) (fun c33 => ?_) (fun c33 => ?_)
  · refine r_iconst dX8_mayLie_67 ?_
    refine r_zreturn dX8_mayLie_68 (by first | exact Or.inl rfl | exact Or.inr rfl | exact b2i_01 _ | omega) rfl rfl rfl ?_
    refine ⟨rI ?_, rfl, rfl⟩
    unfold mayB
    rw [decide_eq_false (by omega), Bool.false_and]
    rfl
  · refine r_iload dX8_mayLie_36 rfl ?_
    refine r_aload_n dX8_mayLie_38 rfl ?_
    refine r_getR dX8_mayLie_39 fl_X8_155 rfl (by assumption) (by assumption) ?_
    refine r_iload_n dX8_mayLie_42 rfl ?_
    refine r_iald dX8_mayLie_43 (by assumption) rfl (by omega) ?_
    rw [es.2.2.1]
    refine q_icmp_gt (tgt := 67) dX8_mayLie_44 rfl (by omega) (by omega) (fun c44 => ?_) (fun c44 => ?_)
    · refine r_iconst dX8_mayLie_67 ?_
      refine r_zreturn dX8_mayLie_68 (by first | exact Or.inl rfl | exact Or.inr rfl | exact b2i_01 _ | omega) rfl rfl rfl ?_
      refine ⟨rI ?_, rfl, rfl⟩
      unfold mayB
      rw [decide_eq_false (by omega), Bool.false_and]
      rfl
    · refine r_aload_n dX8_mayLie_47 rfl ?_
      refine r_getR dX8_mayLie_48 fl_X8_33 rfl (by assumption) (by assumption) ?_
      refine r_iload dX8_mayLie_51 rfl ?_
      refine r_iald dX8_mayLie_53 (by assumption) rfl (by omega) ?_
      rw [a10 _ (by omega) (by omega)]
      have l1 := hl_rng hWP.1 hPW ⟨hk.1, by omega⟩ (ρ (19 + s))
      refine r_iload dX8_mayLie_54 rfl ?_
      refine r_iadd dX8_mayLie_56 ?_
      refine r_aload_n dX8_mayLie_57 rfl ?_
      refine r_getR dX8_mayLie_58 fl_X8_158 rfl (by assumption) (by assumption) ?_
      refine r_iload dX8_mayLie_61 rfl ?_
      refine r_iald dX8_mayLie_63 (by assumption) rfl (by omega) ?_
      rw [eh.1]
      refine q_icmp_le (tgt := 69) dX8_mayLie_64 rfl (by omega) (by omega) (fun c64 => ?_) (fun c64 => ?_)
      · refine r_iconst dX8_mayLie_69 ?_
        refine r_istore dX8_mayLie_70 rfl ?_
        refine AW.mono (lJ _ (ρ 6).toNat 0 _ _ (Nat.lt_succ_self _) (by omega) (by omega)) ?_
        rintro r sh2 μ2 ⟨rfl, h⟩
        refine ⟨rI ?_, h⟩
        unfold mayB
        rw [decide_eq_true (by omega), Bool.true_and]
      · refine r_iconst dX8_mayLie_67 ?_
        refine r_zreturn dX8_mayLie_68 (by first | exact Or.inl rfl | exact Or.inr rfl | exact b2i_01 _ | omega) rfl rfl rfl ?_
        refine ⟨rI ?_, rfl, rfl⟩
        unfold mayB
        rw [decide_eq_false (by omega), Bool.false_and]
        rfl
def lyM (μ : Mem) (k s h q w m : Int) : Mem := setI (setI (setI (setI μ 178 k s) 179 s (μ.1 179 s + w)) 180 h (μ.1 180 h + w)) 181 q (μ.1 181 q + w * m)
theorem c_lay {μ : Mem} {p c : Nat} {ρ : Row} (hB : BW μ p c ρ) {k s g : Int} (hk : 0 ≤ k ∧ k < ρ 11) (hs : 0 ≤ s ∧ s < ρ 5) : FMet yX8_lay gX8_lay SH [vR 172, vI k, vI s, vI g] μ none (lyM μ k s (ρ (19 + s)) (ρ (88 + k)) (g * ρ (83 + k)) (ρ (25 + s))) := by
  obtain ⟨⟨hT, t5, t6⟩, ⟨hP, ⟨hIC, e0, e5, eC⟩⟩, ⟨hWP, hPW, hAB, hLB⟩, hpp, hcc⟩ := id hB
  obtain ⟨t2, t3, t4, t9, t10, t11, t12, t13, t14⟩ := id hT
  obtain ⟨h0, h1, h2, h3, h4, h6, s1, s2, s3, s4, s5⟩ := id hIC
  obtain ⟨hIP, p0, p1, p2, p3, p4, pb, hF, hV⟩ := id hP
  obtain ⟨i0, i5, i6, i7, i8, j1, j2, hIF0, hIV0⟩ := id hIP
  obtain ⟨hIF, kf0, kh, kf4, ks, kf9, kj⟩ := id hF
  obtain ⟨u0, u1, u2, u3, u5, u6, u7, u8, u10, u11, y1, y2, y3, y4, y5, y6, y7, y8, y9⟩ := id hIF
  obtain ⟨hIV, v0, vt, v5, v8, vi⟩ := id hV
  obtain ⟨w0, w1, w2, w3, w4, w6, w7, w9, w10, w11, b1, b2, b3, b4, b5, b6, b7, b8, b9⟩ := id hIV
  have hn := hWP.1
  unfold WFn at hn
  have x172 : SH[172]? = some (7, 15) := rfl
  have x173 : SH[173]? = some (20, 720) := rfl
  have x174 : SH[174]? = some (20, 720) := rfl
  have x175 : SH[175]? = some (20, 720) := rfl
  have x176 : SH[176]? = some (20, 5) := rfl
  have x177 : SH[177]? = some (20, 5) := rfl
  have x178 : SH[178]? = some (20, 5) := rfl
  have x179 : SH[179]? = some (20, 6) := rfl
  have x180 : SH[180]? = some (20, 3) := rfl
  have x181 : SH[181]? = some (20, 10) := rfl
  have ek := eC k hk.1 hk.2
  have pk := hPW k hk.1 hk.2
  have es := ks s hs.1 hs.2
  have ws := hWP.2.1 s hs.1 hs.2
  refine AMet.of (by decide) rfl (by decide) rfl ?_
  refine r_iload_n dX8_lay_0 rfl ?_
  refine r_aload_n dX8_lay_1 rfl ?_
  refine r_getR dX8_lay_2 fl_X8_51 rfl (by assumption) (by assumption) ?_
  refine r_getR dX8_lay_5 fl_X8_138 rfl (by assumption) (by assumption) ?_
  refine r_iload_n dX8_lay_8 rfl ?_
  refine r_iald dX8_lay_9 (by assumption) rfl (by omega) ?_
  rw [ek.1]
  refine r_imul dX8_lay_10 ?_
  refine r_istore dX8_lay_11 rfl ?_
  refine r_aload_n dX8_lay_13 rfl ?_
  refine r_getR dX8_lay_14 fl_X8_27 rfl (by assumption) (by assumption) ?_
  refine r_iload_n dX8_lay_17 rfl ?_
  refine r_iload_n dX8_lay_18 rfl ?_
  refine r_iast dX8_lay_19 (by assumption) rfl (by omega) ?_
  refine r_aload_n dX8_lay_20 rfl ?_
  refine r_getR dX8_lay_21 fl_X8_30 rfl (by assumption) (by assumption) ?_
  refine r_iload_n dX8_lay_24 rfl ?_
  refine r_dup2 dX8_lay_25 rfl rfl ?_
  refine r_iald dX8_lay_26 (by assumption) rfl (by omega) ?_
  rw [sI_ne (by omega)]
  refine r_iload dX8_lay_27 rfl ?_
  refine r_iadd dX8_lay_29 ?_
  refine r_iast dX8_lay_30 (by assumption) rfl (by omega) ?_
  refine r_aload_n dX8_lay_31 rfl ?_
  refine r_getR dX8_lay_32 fl_X8_33 rfl (by assumption) (by assumption) ?_
  refine r_aload_n dX8_lay_35 rfl ?_
  refine r_getR dX8_lay_36 fl_X8_47 rfl (by assumption) (by assumption) ?_
  refine r_getR dX8_lay_39 fl_X8_83 rfl (by assumption) (by assumption) ?_
  refine r_getR dX8_lay_42 fl_X8_152 rfl (by assumption) (by assumption) ?_
  refine r_iload_n dX8_lay_45 rfl ?_
  refine r_iald dX8_lay_46 (by assumption) rfl (by omega) ?_
  rw [sI_ne (by omega), sI_ne (by omega), es.1]
  refine r_dup2 dX8_lay_47 rfl rfl ?_
  refine r_iald dX8_lay_48 (by assumption) rfl (by omega) ?_
  rw [sI_ne (by omega), sI_ne (by omega)]
  refine r_iload dX8_lay_49 rfl ?_
  refine r_iadd dX8_lay_51 ?_
  refine r_iast dX8_lay_52 (by assumption) rfl (by omega) ?_
  refine r_aload_n dX8_lay_53 rfl ?_
  refine r_getR dX8_lay_54 fl_X8_36 rfl (by assumption) (by assumption) ?_
  refine r_aload_n dX8_lay_57 rfl ?_
  refine r_getR dX8_lay_58 fl_X8_51 rfl (by assumption) (by assumption) ?_
  refine r_getR dX8_lay_61 fl_X8_135 rfl (by assumption) (by assumption) ?_
  refine r_iload_n dX8_lay_64 rfl ?_
  refine r_iald dX8_lay_65 (by assumption) rfl (by omega) ?_
  rw [sI_ne (by omega), sI_ne (by omega), sI_ne (by omega), ek.2]
  refine r_dup2 dX8_lay_66 rfl rfl ?_
  refine r_iald dX8_lay_67 (by assumption) rfl (by omega) ?_
  rw [sI_ne (by omega), sI_ne (by omega), sI_ne (by omega)]
  refine r_iload dX8_lay_68 rfl ?_
  refine r_aload_n dX8_lay_70 rfl ?_
  refine r_getR dX8_lay_71 fl_X8_47 rfl (by assumption) (by assumption) ?_
  refine r_getR dX8_lay_74 fl_X8_83 rfl (by assumption) (by assumption) ?_
  refine r_getR dX8_lay_77 fl_X8_173 rfl (by assumption) (by assumption) ?_
  refine r_iload_n dX8_lay_80 rfl ?_
  refine r_iald dX8_lay_81 (by assumption) rfl (by omega) ?_
  rw [sI_ne (by omega), sI_ne (by omega), sI_ne (by omega), es.2.1]
  refine r_imul dX8_lay_82 ?_
  refine r_iadd dX8_lay_83 ?_
  refine r_iast dX8_lay_84 (by assumption) rfl (by omega) ?_
  refine r_return dX8_lay_85 rfl rfl rfl ?_
  exact ⟨rfl, rfl, rfl⟩

/-! 38.draft: taken from whole (wip/p37/port.py) -/
variable {n_ : Sh}
/-! 38.draft: a plane that is being read (wip/whole/src/38_draft.py) -/
def RV (sh : Sh) (μ : Mem) (a : Nat) (ρ : Row) : Prop := IsVoyage sh μ.2.2 a ∧ μ.1 a 0 = ρ 8 ∧ (∀ t, 0 ≤ t → t < ρ 8 → μ.1 (a + 2) t = ρ (53 + t) ∧ μ.1 (a + 3) t = ρ (56 + t) ∧ μ.1 (a + 4) t = leftF ρ t) ∧ μ.1 a 5 = ρ 9 ∧ μ.1 a 8 = ρ 10 ∧
  ∀ i, 0 ≤ i → i < ρ 9 → μ.1 (a + 5) i = ρ (59 + i) ∧ μ.1 (a + 6) i = if ρ (59 + i) < 0 then 0 else ρ (71 + i)
def RD (n_ : Sh) (μ : Mem) (pd : Nat) (D : PD) : Prop := IsPlane (SH n_) μ.2.2 pd ∧ μ.1 pd 0 = D.1 0 ∧ μ.1 pd 1 = D.1 1 ∧ μ.1 pd 2 = D.1 2 ∧ μ.1 pd 3 = D.1 3 ∧ μ.1 pd 4 = D.1 7 ∧
  (∀ b, 0 ≤ b → b < 2 → (b < D.1 7 → μ.1 (pd + 1) b = D.1 (47 + b) ∧ μ.1 (pd + 2) b = D.1 (49 + b)) ∧ (D.1 7 ≤ b → μ.1 (pd + 1) b = 0 ∧ μ.1 (pd + 2) b = 0)) ∧ RelF (SH n_) μ (pd + 3) D.1 ∧ RV (SH n_) μ (pd + 13) D.1 ∧
  ((∀ h, 0 ≤ h → h < D.1 4 → μ.2.1 (pd + 4) h = D.2.1 h) ∧ (∀ t, 0 ≤ t → t < D.1 8 → μ.2.1 (pd + 14) t = D.2.1 (3 + t))) ∧ μ.1 1 1 = D.2.2.1 ∧ μ.1 1 2 = D.2.2.2
theorem RV.mono {sh : Sh} {μ μ2 : Mem} {a : Nat} {ρ : Row} (h : RV sh μ a ρ) (hk : Kp (fun q => a ≤ q ∧ q < a + 10) μ μ2) (hR : μ2.2.2 = μ.2.2) : RV sh μ2 a ρ := by
  obtain ⟨h1, h2, h3, h4, h5, h6⟩ := h
  have e := fun q (h : a ≤ q ∧ q < a + 10) => (hk q h).1
  refine ⟨by rw [hR]; exact h1, by rw [e a (by omega)]; exact h2, fun t t0 t1 => ?_, by rw [e a (by omega)]; exact h4, by rw [e a (by omega)]; exact h5, fun i i0 i1 => ?_⟩
  · rw [e (a + 2) (by omega), e (a + 3) (by omega), e (a + 4) (by omega)]; exact h3 t t0 t1
  · rw [e (a + 5) (by omega), e (a + 6) (by omega)]; exact h6 i i0 i1
theorem RV.cells {sh : Sh} {μ : Mem} {a : Nat} {ρ ρ' : Row} (h : RV sh μ a ρ) (h9 : 0 ≤ ρ 9 ∧ ρ 9 ≤ 12) (h8 : ρ 8 ≤ 3) (e : ∀ j, (8 ≤ j ∧ j ≤ 10) ∨ (53 ≤ j ∧ j ≤ 82) → ρ' j = ρ j) : RV sh μ a ρ' := by
  obtain ⟨h1, h2, h3, h4, h5, h6⟩ := h
  refine ⟨h1, by rw [e 8 (by omega)]; exact h2, fun t t0 t1 => ?_, by rw [e 9 (by omega)]; exact h4, by rw [e 10 (by omega)]; exact h5, fun i i0 i1 => ?_⟩
  · rw [e 8 (by omega)] at t1
    rw [e (53 + t) (by omega), e (56 + t) (by omega), leftF_congr (e _ (by omega)) (e 9 (by omega)) h9.1 fun i i0 i1 => ⟨e _ (by omega), e _ (by omega)⟩]
    exact h3 t t0 t1
  · rw [e 9 (by omega)] at i1
    rw [e (59 + i) (by omega), e (71 + i) (by omega)]
    exact h6 i i0 i1
theorem wayF_congr {ρ ρ' : Row} {s : Int} (h5 : ρ' 5 = ρ 5) (h0 : 0 ≤ ρ 5) (h : ∀ k, 0 ≤ k → k < ρ 5 → ρ' (19 + k) = ρ (19 + k) ∧ ρ' (16 + ρ (19 + k)) = ρ (16 + ρ (19 + k))) (hs : 0 ≤ s ∧ s < ρ 5) : wayF ρ' s = wayF ρ s := by
  unfold wayF
  rw [h5]
  refine fld_congr _ _ _ fun j a j0 j1 => ?_
  have q := h j j0 (by omega)
  have r := h s hs.1 hs.2
  try dsimp only
  rw [q.1, r.1, r.2]
theorem RelF.cells {sh : Sh} {μ : Mem} {a : Nat} {ρ ρ' : Row} (h : RelF sh μ a ρ) (h5 : (0 ≤ ρ 5 ∧ ρ 5 ≤ 6) ∧ ρ 4 ≤ 3 ∧ ρ 6 ≤ 5) (hs : WFs ρ) (e : ∀ j, (4 ≤ j ∧ j ≤ 6) ∨ (13 ≤ j ∧ j ≤ 46) → ρ' j = ρ j) : RelF sh μ a ρ' := by
  obtain ⟨h1, h2, h3, h4, h6, h7, h8⟩ := h
  refine ⟨h1, by rw [e 4 (by omega)]; exact h2, fun t t0 t1 => ?_, by rw [e 5 (by omega)]; exact h4, fun t t0 t1 => ?_, by rw [e 6 (by omega)]; exact h7, fun t t0 t1 => ?_⟩
  · rw [e 4 (by omega)] at t1
    rw [e (13 + t) (by omega), e (16 + t) (by omega)]
    exact h3 t t0 t1
  · rw [e 5 (by omega)] at t1
    rw [e (19 + t) (by omega), e (25 + t) (by omega), e (31 + t) (by omega), wayF_congr (e 5 (by omega)) h5.1.1 (fun k k0 k1 => ⟨e _ (by omega), e _ (by have := (hs k k0 k1).1; omega)⟩) ⟨t0, t1⟩]
    exact h6 t t0 t1
  · rw [e 6 (by omega)] at t1
    rw [e (37 + t) (by omega), e (42 + t) (by omega)]
    exact h8 t t0 t1
theorem RD.mono {μ μ2 : Mem} {pd : Nat} {D : PD} (h : RD n_ μ pd D) (hk : Kp (fun q => q = 1 ∨ (pd ≤ q ∧ q < pd + 23)) μ μ2) (hR : μ2.2.2 = μ.2.2) : RD n_ μ2 pd D := by
  obtain ⟨a1, a2, a3, a4, a5, a6, a7, a8, a9, ⟨a10, a11⟩, a12, a13⟩ := h
  have e := fun q (h : q = 1 ∨ (pd ≤ q ∧ q < pd + 23)) => hk q h
  refine ⟨by rw [hR]; exact a1, ?_, ?_, ?_, ?_, ?_, fun b b0 b1 => ?_, a8.mono (hk.mono fun q hq => by (try dsimp only at *); omega), a9.mono (hk.mono fun q hq => by (try dsimp only at *); omega) hR, ⟨fun h h0 h1 => ?_, fun t t0 t1 => ?_⟩, ?_, ?_⟩
  · rw [(e pd (by omega)).1]; exact a2
  · rw [(e pd (by omega)).1]; exact a3
  · rw [(e pd (by omega)).1]; exact a4
  · rw [(e pd (by omega)).1]; exact a5
  · rw [(e pd (by omega)).1]; exact a6
  · rw [(e (pd + 1) (by omega)).1, (e (pd + 2) (by omega)).1]; exact a7 b b0 b1
  · rw [(e (pd + 4) (by omega)).2.1]; exact a10 h h0 h1
  · rw [(e (pd + 14) (by omega)).2.1]; exact a11 t t0 t1
  · rw [(e 1 (by omega)).1]; exact a12
  · rw [(e 1 (by omega)).1]; exact a13
/-- the floor alone has changed -/
theorem RD.F {μ μ2 : Mem} {pd : Nat} {D D' : PD} (h : RD n_ μ pd D) (hD : DOK D) (hk : Kp (fun q => q = 1 ∨ pd ≤ q ∧ q < pd + 3 ∨ pd + 13 ≤ q ∧ q < pd + 23) μ μ2) (hR : μ2.2.2 = μ.2.2) (hF : RelF (SH n_) μ2 (pd + 3) D'.1) (hn : ∀ h, 0 ≤ h → h < D'.1 4 → μ2.2.1 (pd + 4) h = D'.2.1 h) (e : ∀ j, ((0 ≤ j ∧ j ≤ 3) ∨ (7 ≤ j ∧ j ≤ 10) ∨ (47 ≤ j ∧ j ≤ 82)) → D'.1 j = D.1 j) (en : ∀ k, 3 ≤ k → D'.2.1 k = D.2.1 k) (ef : D'.2.2 = D.2.2) : RD n_ μ2 pd D' := by
  obtain ⟨a1, a2, a3, a4, a5, a6, a7, a8, a9, ⟨a10, a11⟩, a12, a13⟩ := h
  have hc := hD.1
  unfold cntOK at hc
  have k := fun q (h : q = 1 ∨ pd ≤ q ∧ q < pd + 3 ∨ pd + 13 ≤ q ∧ q < pd + 23) => hk q h
  refine ⟨by rw [hR]; exact a1, ?_, ?_, ?_, ?_, ?_, fun b b0 b1 => ?_, hF, (a9.mono (hk.mono fun q hq => by (try dsimp only at *); omega) hR).cells (by omega) (by omega) fun j hj => e j (by omega), ⟨hn, fun t t0 t1 => ?_⟩, ?_, ?_⟩
  · rw [(k pd (by omega)).1, e 0 (by omega)]; exact a2
  · rw [(k pd (by omega)).1, e 1 (by omega)]; exact a3
  · rw [(k pd (by omega)).1, e 2 (by omega)]; exact a4
  · rw [(k pd (by omega)).1, e 3 (by omega)]; exact a5
  · rw [(k pd (by omega)).1, e 7 (by omega)]; exact a6
  · rw [(k (pd + 1) (by omega)).1, (k (pd + 2) (by omega)).1, e 7 (by omega), e (47 + b) (by omega), e (49 + b) (by omega)]; exact a7 b b0 b1
  · rw [e 8 (by omega)] at t1
    rw [(k (pd + 14) (by omega)).2.1, en _ (by omega)]; exact a11 t t0 t1
  · rw [(k 1 (by omega)).1, ef]; exact a12
  · rw [(k 1 (by omega)).1, ef]; exact a13
/-- the voyage alone has changed -/
theorem RD.V {μ μ2 : Mem} {pd : Nat} {D D' : PD} (h : RD n_ μ pd D) (hD : DOK D) (hk : Kp (fun q => q = 1 ∨ pd ≤ q ∧ q < pd + 13) μ μ2) (hR : μ2.2.2 = μ.2.2) (hV : RV (SH n_) μ2 (pd + 13) D'.1) (hn : ∀ t, 0 ≤ t → t < D'.1 8 → μ2.2.1 (pd + 14) t = D'.2.1 (3 + t)) (e : ∀ j, ((0 ≤ j ∧ j ≤ 7) ∨ (13 ≤ j ∧ j ≤ 52)) → D'.1 j = D.1 j) (en : ∀ k, k < 3 → D'.2.1 k = D.2.1 k) (ef : D'.2.2 = D.2.2) : RD n_ μ2 pd D' := by
  obtain ⟨a1, a2, a3, a4, a5, a6, a7, a8, a9, ⟨a10, a11⟩, a12, a13⟩ := h
  have hc := hD.1
  unfold cntOK at hc
  have k := fun q (h : q = 1 ∨ pd ≤ q ∧ q < pd + 13) => hk q h
  refine ⟨by rw [hR]; exact a1, ?_, ?_, ?_, ?_, ?_, fun b b0 b1 => ?_, (a8.mono (hk.mono fun q hq => by (try dsimp only at *); omega)).cells (by omega) hD.2.1 fun j hj => e j (by omega), hV, ⟨fun t t0 t1 => ?_, hn⟩, ?_, ?_⟩
  · rw [(k pd (by omega)).1, e 0 (by omega)]; exact a2
  · rw [(k pd (by omega)).1, e 1 (by omega)]; exact a3
  · rw [(k pd (by omega)).1, e 2 (by omega)]; exact a4
  · rw [(k pd (by omega)).1, e 3 (by omega)]; exact a5
  · rw [(k pd (by omega)).1, e 7 (by omega)]; exact a6
  · rw [(k (pd + 1) (by omega)).1, (k (pd + 2) (by omega)).1, e 7 (by omega), e (47 + b) (by omega), e (49 + b) (by omega)]; exact a7 b b0 b1
  · rw [e 4 (by omega)] at t1
    rw [(k (pd + 4) (by omega)).2.1, en _ (by omega)]; exact a10 t t0 t1
  · rw [(k 1 (by omega)).1, ef]; exact a12
  · rw [(k 1 (by omega)).1, ef]; exact a13
/-- neither floor nor voyage has changed -/
theorem RD.P {μ μ2 : Mem} {pd : Nat} {D D' : PD} (h : RD n_ μ pd D) (hD : DOK D) (hk : Kp (fun q => pd + 3 ≤ q ∧ q < pd + 23) μ μ2) (hR : μ2.2.2 = μ.2.2) (e : ∀ j, ((4 ≤ j ∧ j ≤ 6) ∨ (8 ≤ j ∧ j ≤ 10) ∨ (13 ≤ j ∧ j ≤ 46) ∨ (53 ≤ j ∧ j ≤ 82)) → D'.1 j = D.1 j) (en : D'.2.1 = D.2.1)
    (h0 : μ2.1 pd 0 = D'.1 0 ∧ μ2.1 pd 1 = D'.1 1 ∧ μ2.1 pd 2 = D'.1 2 ∧ μ2.1 pd 3 = D'.1 3 ∧ μ2.1 pd 4 = D'.1 7) (hb : ∀ b, 0 ≤ b → b < 2 → (b < D'.1 7 → μ2.1 (pd + 1) b = D'.1 (47 + b) ∧ μ2.1 (pd + 2) b = D'.1 (49 + b)) ∧ (D'.1 7 ≤ b → μ2.1 (pd + 1) b = 0 ∧ μ2.1 (pd + 2) b = 0)) (hf : μ2.1 1 1 = D'.2.2.1 ∧ μ2.1 1 2 = D'.2.2.2) : RD n_ μ2 pd D' := by
  obtain ⟨a1, a2, a3, a4, a5, a6, a7, a8, a9, ⟨a10, a11⟩, a12, a13⟩ := h
  have hc := hD.1
  unfold cntOK at hc
  have k := fun q (h : pd + 3 ≤ q ∧ q < pd + 23) => hk q h
  refine ⟨by rw [hR]; exact a1, h0.1, h0.2.1, h0.2.2.1, h0.2.2.2.1, h0.2.2.2.2, hb, (a8.mono (hk.mono fun q hq => by (try dsimp only at *); omega)).cells (by omega) hD.2.1 fun j hj => e j (by omega), (a9.mono (hk.mono fun q hq => by (try dsimp only at *); omega) hR).cells (by omega) (by omega) fun j hj => e j (by omega), ⟨fun t t0 t1 => ?_, fun t t0 t1 => ?_⟩, hf⟩
  · rw [e 4 (by omega)] at t1
    rw [(k (pd + 4) (by omega)).2.1, en]; exact a10 t t0 t1
  · rw [e 8 (by omega)] at t1
    rw [(k (pd + 14) (by omega)).2.1, en]; exact a11 t t0 t1
theorem d_hasHold {sh : Sh} {μ : Mem} {a : Nat} (hA : IsFloor sh μ.2.2 a) {s : Int} (hs : -2147483648 ≤ s ∧ s < 2147483648) (hz : 0 ≤ μ.1 a 0 ∧ μ.1 a 0 ≤ 3)  : FMet yX1_hasHold gX1_hasHold sh [vR a, vI s] μ (some (vI (b2i (decide (0 ≤ s ∧ s < μ.1 a 0))))) μ := by
  obtain ⟨g0, q1, q2, q3, q5, q6, q7, q8, q10, q11, z1, z2, z3, z4, z5, z6, z7, z8, z9⟩ := id hA
  refine AMet.of (by decide) rfl (by decide) rfl ?_
  refine r_iload_n dX1_hasHold_0 rfl ?_
  refine q_if_lt (tgt := 16) dX1_hasHold_1 rfl (by omega) (fun c1 => ?_) (fun c1 => ?_)
  · refine r_iconst dX1_hasHold_16 ?_
    refine r_zreturn dX1_hasHold_17 (by first | exact Or.inl rfl | exact Or.inr rfl | exact b2i_01 _ | omega) rfl rfl rfl ?_
    refine ⟨rI ?_, rfl, rfl⟩
    first | (rw [decide_eq_true (by omega)]; rfl) | (rw [decide_eq_false (by omega)]; rfl)
  · refine r_iload_n dX1_hasHold_4 rfl ?_
    refine r_aload_n dX1_hasHold_5 rfl ?_
    refine r_getI dX1_hasHold_6 fl_X1_41 rfl (by assumption) ?_
    refine q_icmp_ge (tgt := 16) dX1_hasHold_9 rfl (by omega) (by omega) (fun c9 => ?_) (fun c9 => ?_)
    · refine r_iconst dX1_hasHold_16 ?_
      refine r_zreturn dX1_hasHold_17 (by first | exact Or.inl rfl | exact Or.inr rfl | exact b2i_01 _ | omega) rfl rfl rfl ?_
      refine ⟨rI ?_, rfl, rfl⟩
      first | (rw [decide_eq_true (by omega)]; rfl) | (rw [decide_eq_false (by omega)]; rfl)
    · refine r_iconst dX1_hasHold_12 ?_
      refine r_goto (tgt := 17) dX1_hasHold_13 rfl ?_
      refine r_zreturn dX1_hasHold_17 (by first | exact Or.inl rfl | exact Or.inr rfl | exact b2i_01 _ | omega) rfl rfl rfl ?_
      refine ⟨rI ?_, rfl, rfl⟩
      first | (rw [decide_eq_true (by omega)]; rfl) | (rw [decide_eq_false (by omega)]; rfl)
theorem d_clearF {sh : Sh} {μ : Mem} {a : Nat} (hA : IsFloor sh μ.2.2 a)  : FMet yX1_clear gX1_clear sh [vR a] μ none (setI (setI (setI μ a 0 0) a 4 0) a 9 0) := by
  obtain ⟨g0, q1, q2, q3, q5, q6, q7, q8, q10, q11, z1, z2, z3, z4, z5, z6, z7, z8, z9⟩ := id hA
  refine AMet.of (by decide) rfl (by decide) rfl ?_
  refine r_aload_n dX1_clear_0 rfl ?_
  refine r_iconst dX1_clear_1 ?_
  refine r_putI dX1_clear_2 fl_X1_41 (by assumption) ?_
  refine r_aload_n dX1_clear_5 rfl ?_
  refine r_iconst dX1_clear_6 ?_
  refine r_putI dX1_clear_7 fl_X1_45 (by assumption) ?_
  refine r_aload_n dX1_clear_10 rfl ?_
  refine r_iconst dX1_clear_11 ?_
  refine r_putI dX1_clear_12 fl_X1_48 (by assumption) ?_
  refine r_return dX1_clear_15 rfl rfl rfl ?_
  exact ⟨rfl, rfl, rfl⟩
theorem d_isHoldCalled {sh : Sh} {μ : Mem} {a : Nat} (hA : IsFloor sh μ.2.2 a) {v : Int} (hz : 0 ≤ μ.1 a 0 ∧ μ.1 a 0 ≤ 3) (hv : 0 ≤ v ∧ v < 9223372036854775808) (hl : ∀ k, 0 ≤ k → k < μ.1 a 0 → 0 ≤ μ.2.1 (a + 1) k ∧ μ.2.1 (a + 1) k < 9223372036854775808)  : FMet yX1_isHoldCalled gX1_isHoldCalled sh [vR a, vL v] μ (some (vI (b2i (decide (0 ≤ fnd (fun h => decide (μ.2.1 (a + 1) h = v))  (μ.1 a 0).toNat 0))))) μ := by
  obtain ⟨g0, q1, q2, q3, q5, q6, q7, q8, q10, q11, z1, z2, z3, z4, z5, z6, z7, z8, z9⟩ := id hA
  have lB : ∀ (f n : Nat) (k : Int), n < f → 0 ≤ k → k + n = μ.1 a 0 → AW gX1_isHoldCalled sh μ 0 0 2 [some (vR a), some (vL v), none, some (vI k)] [] (fun r2 sh2 μ2 => r2 = some (vI (b2i (decide (0 ≤ (fnd (fun h => decide (μ.2.1 (a + 1) h = v)) n k))))) ∧ sh2 = sh ∧ μ2 = μ) := by
    intro f
    induction f with
    | zero => intro n; intros; omega
    | succ f ih =>
      intro n k hf hk hn2
      refine r_iload_n dX1_isHoldCalled_2 rfl ?_
      refine r_aload_n dX1_isHoldCalled_3 rfl ?_
      refine r_getI dX1_isHoldCalled_4 fl_X1_41 rfl (by assumption) ?_
      refine q_icmp_ge (tgt := 29) dX1_isHoldCalled_7 rfl (by omega) (by omega) (fun c7 => ?_) (fun c7 => ?_)
      · refine r_iconst dX1_isHoldCalled_29 ?_
        refine r_zreturn dX1_isHoldCalled_30 (by first | exact Or.inl rfl | exact Or.inr rfl | exact b2i_01 _ | omega) rfl rfl rfl ?_
        obtain rfl : n = 0 := by omega
        exact ⟨rfl, rfl, rfl⟩
      · obtain ⟨q, rfl⟩ : ∃ q, n = q + 1 := ⟨n - 1, by omega⟩
        have hlk := hl k (by omega) (by omega)
        refine r_aload_n dX1_isHoldCalled_10 rfl ?_
        refine r_getR dX1_isHoldCalled_11 fl_X1_9 rfl (by assumption) (by assumption) ?_
        refine r_iload_n dX1_isHoldCalled_14 rfl ?_
        refine r_lald dX1_isHoldCalled_15 (by assumption) rfl (by omega) ?_
        refine r_lload_n dX1_isHoldCalled_16 rfl ?_
        refine r_lcmp dX1_isHoldCalled_17 (by omega) (by omega) ?_
        refine q_if_ne (tgt := 23) dX1_isHoldCalled_18 rfl (by simp only [icmpL]; split <;> (try split) <;> omega) (fun c18 => ?_) (fun c18 => ?_)
        · have c18 : ¬ μ.2.1 (a + 1) k = v := by intro hh; rw [hh] at c18; simp [icmpL] at c18
          rw [fnd, if_neg (by rw [decide_eq_true_eq]; exact c18)]
          refine r_iinc dX1_isHoldCalled_23 rfl rfl ?_
          refine r_goto (tgt := 2) dX1_isHoldCalled_26 rfl ?_
          exact ih q (k + 1) (by omega) (by omega) (by omega)
        · have c18 : μ.2.1 (a + 1) k = v := by simp only [icmpL] at c18; split at c18 <;> (try split at c18) <;> omega
          rw [fnd, if_pos (decide_eq_true c18)]
          refine r_iconst dX1_isHoldCalled_21 ?_
          refine r_zreturn dX1_isHoldCalled_22 (by first | exact Or.inl rfl | exact Or.inr rfl | exact b2i_01 _ | omega) rfl rfl rfl ?_
          rw [decide_eq_true (by omega)]
          exact ⟨rfl, rfl, rfl⟩
  refine AMet.of (by decide) rfl (by decide) rfl ?_
  refine r_iconst dX1_isHoldCalled_0 ?_
  refine r_istore_n dX1_isHoldCalled_1 rfl ?_
  exact lB _ (μ.1 a 0).toNat 0 (Nat.lt_succ_self _) (by omega) (by omega)
def adH (μ : Mem) (a : Nat) (v l f : Int) : Mem := setI (setI (setI (setL μ (a + 1) (μ.1 a 0) v) (a + 2) (μ.1 a 0) l) (a + 3) (μ.1 a 0) f) a 0 (μ.1 a 0 + 1)
theorem d_addHold {sh : Sh} {μ : Mem} {a : Nat} (hA : IsFloor sh μ.2.2 a) {v l f : Int} (hz : 0 ≤ μ.1 a 0 ∧ μ.1 a 0 < 3) (hf : f = 0 ∨ f = 1)  : FMet yX1_addHold gX1_addHold sh [vR a, vL v, vI l, vI f] μ none (adH μ a v l f) := by
  obtain ⟨g0, q1, q2, q3, q5, q6, q7, q8, q10, q11, z1, z2, z3, z4, z5, z6, z7, z8, z9⟩ := id hA
  refine AMet.of (by decide) rfl (by decide) rfl ?_
  refine r_aload_n dX1_addHold_0 rfl ?_
  refine r_getI dX1_addHold_1 fl_X1_41 rfl (by assumption) ?_
  (try simp (disch := omega) only [sI_at, sI_ne, sI_nj, sI_L, sL_at, sL_ne, sL_nj, sL_I])
  refine r_iconst dX1_addHold_4 ?_
  refine q_icmp_lt (tgt := 9) dX1_addHold_5 rfl (by omega) (by omega) (fun c5 => ?_) (fun c5 => ?_)
  · refine r_aload_n dX1_addHold_9 rfl ?_
    refine r_getR dX1_addHold_10 fl_X1_9 rfl (by assumption) (by assumption) ?_
    refine r_aload_n dX1_addHold_13 rfl ?_
    refine r_getI dX1_addHold_14 fl_X1_41 rfl (by assumption) ?_
    (try simp (disch := omega) only [sI_at, sI_ne, sI_nj, sI_L, sL_at, sL_ne, sL_nj, sL_I])
    refine r_lload_n dX1_addHold_17 rfl ?_
    refine r_last dX1_addHold_18 (by assumption) rfl (by omega) ?_
    refine r_aload_n dX1_addHold_19 rfl ?_
    refine r_getR dX1_addHold_20 fl_X1_15 rfl (by assumption) (by assumption) ?_
    refine r_aload_n dX1_addHold_23 rfl ?_
    refine r_getI dX1_addHold_24 fl_X1_41 rfl (by assumption) ?_
    (try simp (disch := omega) only [sI_at, sI_ne, sI_nj, sI_L, sL_at, sL_ne, sL_nj, sL_I])
    refine r_iload_n dX1_addHold_27 rfl ?_
    refine r_iast dX1_addHold_28 (by assumption) rfl (by omega) ?_
    refine r_aload_n dX1_addHold_29 rfl ?_
    refine r_getR dX1_addHold_30 fl_X1_19 rfl (by assumption) (by assumption) ?_
    refine r_aload_n dX1_addHold_33 rfl ?_
    refine r_getI dX1_addHold_34 fl_X1_41 rfl (by assumption) ?_
    (try simp (disch := omega) only [sI_at, sI_ne, sI_nj, sI_L, sL_at, sL_ne, sL_nj, sL_I])
    refine r_iload dX1_addHold_37 rfl ?_
    refine r_zast dX1_addHold_39 (by assumption) rfl (by omega) (by first | exact Or.inl rfl | exact Or.inr rfl | exact b2i_01 _ | omega) ?_
    refine r_aload_n dX1_addHold_40 rfl ?_
    refine r_dup dX1_addHold_41 rfl ?_
    refine r_getI dX1_addHold_42 fl_X1_41 rfl (by assumption) ?_
    (try simp (disch := omega) only [sI_at, sI_ne, sI_nj, sI_L, sL_at, sL_ne, sL_nj, sL_I])
    refine r_iconst dX1_addHold_45 ?_
    refine r_iadd dX1_addHold_46 ?_
    refine r_putI dX1_addHold_47 fl_X1_41 (by assumption) ?_
    refine r_return dX1_addHold_50 rfl rfl rfl ?_
    refine ⟨rfl, rfl, ?_⟩
    unfold adH
    rfl
  · exact absurd c5 (by omega)


/-! 57.refplane5: a plane, in the reference (wip/whole/src/57_refplane5.py) -/
/-- what reading may change from the begin of a text on -/
def RTG (m : Nat) (μ μ2 : Mem) : Prop := μ2.2 = μ.2 ∧ (∀ a : Nat, a ≠ m → a ≠ m + 2 → a ≠ m + 7 → a ≠ m + 8 → μ2.1 a = μ.1 a) ∧ ∀ j : Int, j < 7 ∨ 20 < j → μ2.1 m j = μ.1 m j
theorem RTG.rf (m : Nat) (μ : Mem) : RTG m μ μ := ⟨rfl, fun _ _ _ _ _ => rfl, fun _ _ => rfl⟩
theorem RTG.tr {m : Nat} {a b c : Mem} (h1 : RTG m a b) (h2 : RTG m b c) : RTG m a c := ⟨h2.1.trans h1.1, fun q e f g i => (h2.2.1 q e f g i).trans (h1.2.1 q e f g i), fun j h => (h2.2.2 j h).trans (h1.2.2 j h)⟩
theorem RTG.rk {m : Nat} {a b c : Mem} (h1 : RTG m a b) (h2 : RK m b c) : RTG m a c := ⟨h2.1.trans h1.1, fun q e f g i => (h2.2.1 q e g).trans (h1.2.1 q e f g i), fun j h => (h2.2.2 j (by omega)).trans (h1.2.2 j h)⟩
theorem RTG.rtf {m : Nat} {a b c : Mem} (h1 : RTG m a b) (h2 : RTF m b c) : RTG m a c := ⟨h2.1.trans h1.1, fun q e f g i => (h2.2.1 q e f g i).trans (h1.2.1 q e f g i), fun j h => (h2.2.2 j (by omega)).trans (h1.2.2 j h)⟩
theorem RTG.sI {m : Nat} {μ μ2 : Mem} (h : RTG m μ μ2) {j x : Int} (hj : 7 ≤ j ∧ j ≤ 20) : RTG m μ (setI μ2 m j x) := ⟨h.1, fun a h1 h2 h3 h4 => (setI_ne h1).trans (h.2.1 a h1 h2 h3 h4), fun i hi => (if_neg (by omega)).trans (h.2.2 i hi)⟩
theorem RTG.bare {m : Nat} {μ μ2 : Mem} (h : RTG m μ μ2) : RTG m μ (bareM μ2 (m + 2)) := ⟨h.1, fun a h1 h2 h3 h4 => (bareM_ne h2).trans (h.2.1 a h1 h2 h3 h4), fun i hi => by rw [bareM_ne (by omega)]; exact h.2.2 i hi⟩
def PRg (m : Nat) (μ : Mem) (x : Int) (r : Sg × Row) (μ2 : Mem) : Prop := RTG m μ μ2 ∧ μ2.1 m 7 = 0 ∧ ((x = 1 ∧ sE r.1 = 0 ∧ Spr m μ2 r.2 ∧ μ2.1 m 14 = 0) ∨ (x = 0 ∧ sE r.1 ≠ 0 ∧ μ2.1 m 14 = sE r.1 ∧ μ2.1 m 15 = sP r.1))
theorem RTF.of {m : Nat} {μ a b : Mem} (h1 : RTG m μ a) (h7 : a.1 m 7 = 0) {x : Int} {r : Sg × Row} (h : PRef m a x r b) : PRg m μ x r b := ⟨h1.rtf h.1, (h.1.2.2 7 (by omega)).trans h7, h.2⟩
theorem m_readsPlane {sh : Sh} {μ : Mem} {m : Nat} {tp : Int → Int} {tl : Int} (hM : IsModel sh μ.2.2 m) (hT : TapM m μ tp tl)  : IMet yX12_readsPlane gX12_readsPlane sh [vR m] μ (fun x μ2 => PRg m μ x ((planeR (tp, tl)).1, (planeR (tp, tl)).2.1) μ2) := by
  obtain ⟨g0, f1, z1, f2, z2, f3, z3, f4, z4, f5, z5, f6, z6, f7, z7, f8, z8, f9, z9, f10, z10, f11, z11, f12, z12, f13, z13, f14, z14⟩ := id hM
  unfold planeR
  have ht2 := hT.2.1
  refine AMet.of (by decide) rfl (by decide) rfl ?_
  refine r_aload_n dX12_readsPlane_0 rfl ?_
  refine r_sipush dX12_readsPlane_1 (by decide) ?_
  refine r_cV1I dX12_readsPlane_4 ml_X12_162 yl_X12_begins ⟨rfl, rfl⟩ (by assumption) ⟨_, rfl⟩ rfl rfl rfl rfl (m_begins hM hT (n := 500) (by omega)) ?_
  rintro x0 μ1 hx
  have x01 : x0 = 0 ∨ x0 = 1 := hx.elim (fun h => Or.inr h.1) (fun h => Or.inl h.1)
  have hM1 : IsModel sh μ1.2.2 m := by
    have e : μ1.2 = μ.2 := hx.elim (fun h => h.2.2.1.1) (fun h => by rw [h.2.2]; rfl)
    rw [e]; exact hM
  clear g0 f1 f2 f3 f4 f5 f6 f7 f8 f9 f10 f11 f12 f13 f14
  obtain ⟨g0, f1, z1, f2, z2, f3, z3, f4, z4, f5, z5, f6, z6, f7, z7, f8, z8, f9, z9, f10, z10, f11, z11, f12, z12, f13, z13, f14, z14⟩ := id hM1
  have kB : RTG m μ (setI (setI (setI (setI μ m 8 tl) m 7 0) m 14 0) m 9 0) := ((((RTG.rf m μ).sI (by omega)).sI (by omega)).sI (by omega)).sI (by omega)
  refine q_if_ne (tgt := 12) dX12_readsPlane_7 rfl (by omega) (fun c7 => ?_) (fun c7 => ?_)
  · obtain ⟨-, h1, k1, A1⟩ := hx.resolve_right (fun h => by have := h.1; omega)
    refine r_aload_n dX12_readsPlane_12 rfl ?_
    refine r_getR dX12_readsPlane_13 fl_X12_13 rfl (by assumption) (by assumption) ?_
    refine r_cS1F0 dX12_readsPlane_16 ml_X12_55 yl_X12_bare ⟨rfl, rfl⟩ rfl rfl rfl rfl (m_bare (a := m + 2) (by assumption)) ?_
    refine r_aload_n dX12_readsPlane_19 rfl ?_
    refine r_iconst dX12_readsPlane_20 ?_
    refine r_putZ dX12_readsPlane_21 fl_X12_165 (by assumption) (by first | exact Or.inl rfl | exact Or.inr rfl | exact b2i_01 _ | omega) ?_
    refine r_aload_n dX12_readsPlane_24 rfl ?_
    refine r_iconst dX12_readsPlane_25 ?_
    refine r_putZ dX12_readsPlane_26 fl_X12_169 (by assumption) (by first | exact Or.inl rfl | exact Or.inr rfl | exact b2i_01 _ | omega) ?_
    have hs0 : beginC (tp, tl) 500 = (0, 0, 0, 0, 0) := if_neg (by (try dsimp only); omega)
    have ko : RTG m μ (setI (setI (bareM μ1 (m + 2)) m 18 0) m 19 0) := (((kB.rk k1).bare).sI (by omega)).sI (by omega)
    have e9 : ∀ j : Int, j ≤ 17 → (setI (setI (bareM μ1 (m + 2)) m 18 0) m 19 0).1 m j = μ1.1 m j := fun j hj => by
      rw [sI_nj (by omega), sI_nj (by omega), bareM_ne (by omega)]
    have e14 : μ1.1 m 14 = 0 := by
      rw [k1.2.2 14 (by omega)]
      simp (disch := omega) only [sI_at, sI_ne, sI_nj, sI_L]
    have e7 : μ1.1 m 7 = 0 := by
      rw [k1.2.2 7 (by omega)]
      simp (disch := omega) only [sI_at, sI_ne, sI_nj, sI_L]
    have hl := m_loopPlane (μ := setI (setI (bareM μ1 (m + 2)) m 18 0) m 19 0) hM1 501 500 none _ (beginC (tp, tl) 500) D0 (by omega) (by rw [hs0]; show tl - 0 ≤ ((500 : Nat) : Int); omega) (RTF.rf _ _) ⟨?_, ⟨beginC_ok ht2.1 (by omega), by rw [hs0]⟩, A1.of (fun j j0 j1 => e9 j (by omega)) ?_, fun j j0 j1 => ?_, fun k hk => ?_, (e9 14 (by omega)).trans e14⟩ ?_ ?_ D0_ok
    · refine AW.mono hl ?_
      rintro r sh2 μ2 ⟨h2, x, h3, h4⟩
      exact ⟨h2, x, h3, RTF.of ko ((e9 7 (by omega)).trans e7) h4⟩
    · refine hT.rt ?_ ?_
      · rw [e9 8 (by omega), k1.2.2 8 (by omega)]
        simp (disch := omega) only [sI_at, sI_ne, sI_nj, sI_L]
      · rw [ko.2.1 _ (by omega) (by omega) (by omega) (by omega)]
    · rw [setI_ne (by omega), setI_ne (by omega), bareM_ne (by omega)]
    · rw [sI_ne (by omega), sI_ne (by omega), bareM_at ⟨j0, j1⟩]
      rfl
    · exfalso
      have hc := D0_ok.1
      unfold usedN at hk
      rw [show D0.1 4 = 0 from rfl, show D0.1 8 = 0 from rfl] at hk
      omega
    · rw [sI_nj (by omega), sI_at]; rfl
    · rw [sI_at]; rfl
  · refine r_iconst dX12_readsPlane_10 ?_
    refine r_zreturn dX12_readsPlane_11 (by first | exact Or.inl rfl | exact Or.inr rfl | exact b2i_01 _ | omega) rfl rfl rfl ?_
    obtain ⟨-, h1, h2⟩ := hx.resolve_left (fun h => by have := h.1; omega)
    have hb : beginC (tp, tl) 500 = (0, 500, 0, 1, 500) := if_pos h1
    have hr : (loopP (tp, tl) 500 (beginC (tp, tl) 500) D0).1 = (0, 500, 0, 1, 500) := by
      rw [hb]
      exact loopP_no (show (1 : Int) ≠ 0 by decide) 500
    refine ⟨rfl, _, rfl, ?_, ?_, Or.inr ⟨rfl, ?_⟩⟩
    · rw [h2]
      exact (((((RTG.rf m μ).sI (by omega)).sI (by omega)).sI (by omega)).sI (by omega)).sI (by omega)
    · rw [h2]
      simp (disch := omega) only [sI_at, sI_ne, sI_nj, sI_L]
    · rw [hr, h2]
      refine ⟨show (1 : Int) ≠ 0 by decide, ?_, sI_at⟩
      simp (disch := omega) only [sI_at, sI_ne, sI_nj, sI_L]
theorem m_settles {sh : Sh} {μ : Mem} {m : Nat} (hM : IsModel sh μ.2.2 m)  : AMet yX12_settles gX12_settles sh [vR m] μ (fun r2 sh2 μ2 => r2 = none ∧ sh2 = sh ∧ μ2.2 = μ.2 ∧ (∀ q : Nat, q ≠ m → q ≠ m + 1 → q ≠ m + 2 → μ2.1 q = μ.1 q) ∧ (∀ j, j ≠ 5 → μ2.1 m j = μ.1 m j) ∧ μ2.1 m 5 = 0 ∧ (∀ j, 0 ≤ j → j < 143 → μ2.1 (m + 1) j = if 93 ≤ j ∧ j < 98 then -1 else if 51 ≤ j ∧ j < 53 then 0 else μ.1 (m + 2) j) ∧ ∀ j, ¬ (0 ≤ j ∧ j < 143) → μ2.1 (m + 1) j = μ.1 (m + 1) j) := by
  have l2 : ∀ (f n : Nat) (k : Int) (μ' : Mem), n < f → 0 ≤ k → k + n = 2 → (μ'.2 = μ.2 ∧ ∀ q : Nat, q ≠ m + 2 → μ'.1 q = μ.1 q) → (∀ j, μ'.1 (m + 2) j = if 93 ≤ j ∧ j < 98 then -1 else if 51 ≤ j ∧ j < 51 + k then 0 else μ.1 (m + 2) j) → AW gX12_settles sh μ' 0 0 25 [some (vR m), some (vI k)] [] (fun r2 sh2 μ2 => r2 = none ∧ sh2 = sh ∧ μ2.2 = μ.2 ∧ (∀ q : Nat, q ≠ m → q ≠ m + 1 → q ≠ m + 2 → μ2.1 q = μ.1 q) ∧ (∀ j, j ≠ 5 → μ2.1 m j = μ.1 m j) ∧ μ2.1 m 5 = 0 ∧ (∀ j, 0 ≤ j → j < 143 → μ2.1 (m + 1) j = if 93 ≤ j ∧ j < 98 then -1 else if 51 ≤ j ∧ j < 53 then 0 else μ.1 (m + 2) j) ∧ ∀ j, ¬ (0 ≤ j ∧ j < 143) → μ2.1 (m + 1) j = μ.1 (m + 1) j) := by
    intro f
    induction f with
    | zero => intro n; intros; omega
    | succ f ih =>
      intro n k μ' hf hk0 hn2 hk hw1
      have hM1 : IsModel sh μ'.2.2 m := by rw [hk.1]; exact hM
      obtain ⟨g0, f1, z1, f2, z2, f3, z3, f4, z4, f5, z5, f6, z6, f7, z7, f8, z8, f9, z9, f10, z10, f11, z11, f12, z12, f13, z13, f14, z14⟩ := id hM1
      refine r_iload_n dX12_settles_25 rfl ?_
      refine r_iconst dX12_settles_26 ?_
      refine q_icmp_ge (tgt := 46) dX12_settles_27 rfl (by omega) (by omega) (fun c27 => ?_) (fun c27 => ?_)
      · obtain rfl : k = 2 := by omega
        refine r_aload_n dX12_settles_46 rfl ?_
        refine r_getR dX12_settles_47 fl_X12_13 rfl (by assumption) (by assumption) ?_
        refine r_iconst dX12_settles_50 ?_
        refine r_aload_n dX12_settles_51 rfl ?_
        refine r_getR dX12_settles_52 fl_X12_7 rfl (by assumption) (by assumption) ?_
        refine r_iconst dX12_settles_55 ?_
        refine r_cS4F0 dX12_settles_56 ml_X12_187 yl_X12_copies ⟨rfl, rfl⟩ rfl rfl rfl rfl (m_copies (by assumption) (by assumption) rfl rfl (by omega) (by omega) (by omega)) ?_
        refine r_aload_n dX12_settles_59 rfl ?_
        refine r_iconst dX12_settles_60 ?_
        refine r_putI dX12_settles_61 fl_X12_191 (by assumption) ?_
        refine r_return dX12_settles_64 rfl rfl rfl ?_
        refine ⟨rfl, rfl, hk.1, fun q h1 h2 h3 => ?_, fun j hj => ?_, sI_at, fun j j0 j1 => ?_, fun j hj => ?_⟩
        · rw [setI_ne h1]
          exact (funext fun j => ifn h2).trans (hk.2 q h3)
        · rw [sI_nj hj]
          exact (ifn (by omega)).trans (congrFun (hk.2 m (by omega)) j)
        · rw [sI_ne (by omega)]
          unfold cpK
          dsimp only
          rw [if_pos (by omega), show (0 : Int) + (j - 0) = j by omega]
          exact hw1 j
        · rw [sI_ne (by omega)]
          unfold cpK
          dsimp only
          rw [if_neg (by omega)]
          exact congrFun (hk.2 (m + 1) (by omega)) j
      · refine r_aload_n dX12_settles_30 rfl ?_
        refine r_getR dX12_settles_31 fl_X12_13 rfl (by assumption) (by assumption) ?_
        refine r_bipush dX12_settles_34 (by decide) ?_
        refine r_iload_n dX12_settles_36 rfl ?_
        refine r_iadd dX12_settles_37 ?_
        refine r_iconst dX12_settles_38 ?_
        refine r_iast dX12_settles_39 (by assumption) rfl (by omega) ?_
        refine r_iinc dX12_settles_40 rfl rfl ?_
        refine r_goto (tgt := 25) dX12_settles_43 rfl ?_
        refine ih (n - 1) (k + 1) _ (by omega) (by omega) (by omega) ⟨hk.1, fun q hq => (setI_ne hq).trans (hk.2 q hq)⟩ (fun j => ?_)
        by_cases e : j = 51 + k
        · rw [e, sI_at]
          rw [if_neg (by omega), if_pos (by omega)]
        · rw [sI_nj e, hw1 j]
          (repeat' split) <;> first | rfl | omega
  have l1 : ∀ (f n : Nat) (k : Int) (μ' : Mem), n < f → 0 ≤ k → k + n = 5 → (μ'.2 = μ.2 ∧ ∀ q : Nat, q ≠ m + 2 → μ'.1 q = μ.1 q) → (∀ j, μ'.1 (m + 2) j = if 93 ≤ j ∧ j < 93 + k then -1 else μ.1 (m + 2) j) → AW gX12_settles sh μ' 0 0 2 [some (vR m), some (vI k)] [] (fun r2 sh2 μ2 => r2 = none ∧ sh2 = sh ∧ μ2.2 = μ.2 ∧ (∀ q : Nat, q ≠ m → q ≠ m + 1 → q ≠ m + 2 → μ2.1 q = μ.1 q) ∧ (∀ j, j ≠ 5 → μ2.1 m j = μ.1 m j) ∧ μ2.1 m 5 = 0 ∧ (∀ j, 0 ≤ j → j < 143 → μ2.1 (m + 1) j = if 93 ≤ j ∧ j < 98 then -1 else if 51 ≤ j ∧ j < 53 then 0 else μ.1 (m + 2) j) ∧ ∀ j, ¬ (0 ≤ j ∧ j < 143) → μ2.1 (m + 1) j = μ.1 (m + 1) j) := by
    intro f
    induction f with
    | zero => intro n; intros; omega
    | succ f ih =>
      intro n k μ' hf hk0 hn2 hk hw1
      have hM1 : IsModel sh μ'.2.2 m := by rw [hk.1]; exact hM
      obtain ⟨g0, f1, z1, f2, z2, f3, z3, f4, z4, f5, z5, f6, z6, f7, z7, f8, z8, f9, z9, f10, z10, f11, z11, f12, z12, f13, z13, f14, z14⟩ := id hM1
      refine r_iload_n dX12_settles_2 rfl ?_
      refine r_iconst dX12_settles_3 ?_
      refine q_icmp_ge (tgt := 23) dX12_settles_4 rfl (by omega) (by omega) (fun c4 => ?_) (fun c4 => ?_)
      · refine r_iconst dX12_settles_23 ?_
        refine r_istore_n dX12_settles_24 rfl ?_
        obtain rfl : k = 5 := by omega
        refine l2 _ 2 0 μ' (Nat.lt_succ_self _) (by omega) (by omega) hk (fun j => ?_)
        rw [hw1 j]
        (repeat' split) <;> first | rfl | omega
      · refine r_aload_n dX12_settles_7 rfl ?_
        refine r_getR dX12_settles_8 fl_X12_13 rfl (by assumption) (by assumption) ?_
        refine r_bipush dX12_settles_11 (by decide) ?_
        refine r_iload_n dX12_settles_13 rfl ?_
        refine r_iadd dX12_settles_14 ?_
        refine r_iconst dX12_settles_15 ?_
        refine r_iast dX12_settles_16 (by assumption) rfl (by omega) ?_
        refine r_iinc dX12_settles_17 rfl rfl ?_
        refine r_goto (tgt := 2) dX12_settles_20 rfl ?_
        refine ih (n - 1) (k + 1) _ (by omega) (by omega) (by omega) ⟨hk.1, fun q hq => (setI_ne hq).trans (hk.2 q hq)⟩ (fun j => ?_)
        by_cases e : j = 93 + k
        · rw [e, sI_at]
          rw [if_pos (by omega)]
        · rw [sI_nj e, hw1 j]
          (repeat' split) <;> first | rfl | omega
  refine AMet.of (by decide) rfl (by decide) rfl ?_
  refine r_iconst dX12_settles_0 ?_
  refine r_istore_n dX12_settles_1 rfl ?_
  refine l1 _ 5 0 μ (Nat.lt_succ_self _) (by omega) (by omega) ⟨rfl, fun _ _ => rfl⟩ (fun j => ?_)
  rw [if_neg (by omega)]
/-- settled: the reference between two calls again -/
theorem InM.settle {sh : Sh} {m : Nat} {μ μ2 : Mem} {G : Gh} (hI : InM sh m μ G) (hR : μ2.2 = μ.2) (hk : ∀ q : Nat, q ≠ m → q ≠ m + 1 → q ≠ m + 2 → q ≠ m + 7 → q ≠ m + 8 → μ2.1 q = μ.1 q) (h33 : μ2.1 m 33 = μ.1 m 33) (h7 : μ2.1 m 7 = 0) (h14 : μ2.1 m 14 = 0) (h5 : μ2.1 m 5 = 0) {ρ : Row} (hρ : μ2.1 (m + 1) = ρ) (hz : ∀ j, ¬ (0 ≤ j ∧ j < 143) → ρ j = 0) (hlow : ∀ q : Nat, q < m → μ2.1 q = μ.1 q) : MS sh m μ μ2 (setNew G ρ) := by
  obtain ⟨i0, ⟨i1, i2⟩, i3, ⟨i4, i5⟩, ⟨t1, t2, t3⟩, i7, i8⟩ := hI
  refine ⟨⟨by rw [hR]; exact i0, ⟨hρ, hz⟩, ⟨Nat.zero_le _, ?_, fun t u h => absurd h (by show ¬ ([] : List Row)[t]? = some u; simp)⟩, ⟨i4.mono (hk _ (by omega) (by omega) (by omega) (by omega) (by omega)) (hk _ (by omega) (by omega) (by omega) (by omega) (by omega)), i5.mono (hk _ (by omega) (by omega) (by omega) (by omega) (by omega)) (hk _ (by omega) (by omega) (by omega) (by omega) (by omega))⟩, ⟨h7, ⟨Int.le_refl _, by show (0 : Int) ≤ 540; omega⟩, fun i j0 j1 => absurd j1 (by show ¬ i < (0 : Int); omega)⟩, h14, i8.mono h33 (hk _ (by omega) (by omega) (by omega) (by omega) (by omega))⟩, fun q hq => ⟨hlow q hq, by rw [hR], by rw [hR]⟩, hR⟩
  rw [h5]; rfl
theorem InM.fault {sh : Sh} {m : Nat} {μ μ2 : Mem} {G : Gh} (hI : InM sh m μ G) (hG : RTG m μ μ2) {k : Int} (h7 : μ2.1 m 7 = 0) (h14 : μ2.1 m 14 = k) : MS sh m μ μ2 (setFl G k) := by
  obtain ⟨i0, ⟨i1, i2⟩, i3, ⟨i4, i5⟩, ⟨t1, t2, t3⟩, i7, i8⟩ := hI
  have hk := fun q (h1 : q ≠ m) (h2 : q ≠ m + 2) (h3 : q ≠ m + 7) (h4 : q ≠ m + 8) => hG.2.1 q h1 h2 h3 h4
  refine ⟨⟨by rw [hG.1]; exact i0, ⟨(hk _ (by omega) (by omega) (by omega) (by omega)).trans i1, i2⟩, i3.mono (hG.2.2 5 (by omega)) (hk _ (by omega) (by omega) (by omega) (by omega)), ⟨i4.mono (hk _ (by omega) (by omega) (by omega) (by omega)) (hk _ (by omega) (by omega) (by omega) (by omega)), i5.mono (hk _ (by omega) (by omega) (by omega) (by omega)) (hk _ (by omega) (by omega) (by omega) (by omega))⟩, ⟨h7, ⟨Int.le_refl _, by show (0 : Int) ≤ 540; omega⟩, fun i j0 j1 => absurd j1 (by show ¬ i < (0 : Int); omega)⟩, h14, i8.mono (hG.2.2 33 (by omega)) (hk _ (by omega) (by omega) (by omega) (by omega))⟩, fun q hq => ⟨hk q (by (try dsimp only at hq); omega) (by (try dsimp only at hq); omega) (by (try dsimp only at hq); omega) (by (try dsimp only at hq); omega), by rw [hG.1], by rw [hG.1]⟩, hG.1⟩
theorem m_plane {sh : Sh} {μ : Mem} {m : Nat} {G : Gh} (hI : InM sh m μ G)  : IMet yX12_plane gX12_plane sh [vR m] μ (fun x μ2 => x = (planeF G).1 ∧ MS sh m μ μ2 (planeF G).2) := by
  have hM := hI.1
  have hr := hI.2.1.1
  obtain ⟨g0, f1, z1, f2, z2, f3, z3, f4, z4, f5, z5, f6, z6, f7, z7, f8, z8, f9, z9, f10, z10, f11, z11, f12, z12, f13, z13, f14, z14⟩ := id hM
  refine AMet.of (by decide) rfl (by decide) rfl ?_
  refine r_aload_n dX12_plane_0 rfl ?_
  refine r_cV0I dX12_plane_1 ml_X12_181 yl_X12_readsPlane ⟨rfl, rfl⟩ (by assumption) ⟨_, rfl⟩ rfl rfl rfl rfl (m_readsPlane hM hI.2.2.2.2.1) ?_
  rintro x0 μ1 ⟨kG, h7, hx⟩
  have x01 : x0 = 0 ∨ x0 = 1 := hx.elim (fun h => Or.inr h.1) (fun h => Or.inl h.1)
  have hM1 : IsModel sh μ1.2.2 m := by rw [kG.1]; exact hM
  clear g0 f1 f2 f3 f4 f5 f6 f7 f8 f9 f10 f11 f12 f13 f14
  obtain ⟨g0, f1, z1, f2, z2, f3, z3, f4, z4, f5, z5, f6, z6, f7, z7, f8, z8, f9, z9, f10, z10, f11, z11, f12, z12, f13, z13, f14, z14⟩ := id hM1
  refine q_if_ne (tgt := 16) dX12_plane_4 rfl (by omega) (fun c4 => ?_) (fun c4 => ?_)
  · obtain ⟨-, hE0, hSp, h14⟩ := hx.resolve_right (fun h => by have := h.1; omega)
    have h1r0 : μ1.1 (m + 1) = μ.1 (m + 1) := kG.2.1 _ (by omega) (by omega) (by omega) (by omega)
    refine r_aload_n dX12_plane_16 rfl ?_
    refine r_getR dX12_plane_17 fl_X12_13 rfl (by assumption) (by assumption) ?_
    refine r_bipush dX12_plane_20 (by decide) ?_
    refine r_aload_n dX12_plane_22 rfl ?_
    refine r_getR dX12_plane_23 fl_X12_7 rfl (by assumption) (by assumption) ?_
    refine r_bipush dX12_plane_26 (by decide) ?_
    refine r_iald dX12_plane_28 (by assumption) rfl (by omega) ?_
    rw [h1r0]
    refine r_iast dX12_plane_29 (by assumption) rfl (by omega) ?_
    refine r_aload_n dX12_plane_30 rfl ?_
    refine r_getR dX12_plane_31 fl_X12_13 rfl (by assumption) (by assumption) ?_
    refine r_bipush dX12_plane_34 (by decide) ?_
    refine r_aload_n dX12_plane_36 rfl ?_
    refine r_getR dX12_plane_37 fl_X12_7 rfl (by assumption) (by assumption) ?_
    refine r_bipush dX12_plane_40 (by decide) ?_
    refine r_iald dX12_plane_42 (by assumption) rfl (by omega) ?_
    rw [setI_ne (show m + 1 ≠ m + 2 by omega), h1r0]
    refine r_iast dX12_plane_43 (by assumption) rfl (by omega) ?_
    refine r_bipush dX12_plane_44 (by decide) ?_
    refine r_istore_n dX12_plane_46 rfl ?_
    have lB : ∀ (f n : Nat) (k : Int) (μ' : Mem), n < f → 83 ≤ k → k + n = 143 → (μ'.2 = μ1.2 ∧ ∀ q : Nat, q ≠ m + 2 → μ'.1 q = μ1.1 q) → (∀ j, μ'.1 (m + 2) j = if j = 11 ∨ j = 12 ∨ (83 ≤ j ∧ j < k) then μ.1 (m + 1) j else μ1.1 (m + 2) j) → AW gX12_plane sh μ' 0 0 47 [some (vR m), some (vI k)] [] (fun r2 sh2 μ2 => sh2 = sh ∧ ∃ x, r2 = some (vI x) ∧ x = (planeF G).1 ∧ MS sh m μ μ2 (planeF G).2) := by
      intro f
      induction f with
      | zero => intro n; intros; omega
      | succ f ih =>
        intro n k μ' hf hk0 hn2 hk hw1
        have hM2 : IsModel sh μ'.2.2 m := by rw [hk.1]; exact hM1
        have h1r : μ'.1 (m + 1) = μ.1 (m + 1) := (hk.2 _ (by omega)).trans (kG.2.1 _ (by omega) (by omega) (by omega) (by omega))
        obtain ⟨g0, f1, z1, f2, z2, f3, z3, f4, z4, f5, z5, f6, z6, f7, z7, f8, z8, f9, z9, f10, z10, f11, z11, f12, z12, f13, z13, f14, z14⟩ := id hM2
        refine r_iload_n dX12_plane_47 rfl ?_
        refine r_sipush dX12_plane_48 (by decide) ?_
        refine q_icmp_ge (tgt := 72) dX12_plane_51 rfl (by omega) (by omega) (fun c51 => ?_) (fun c51 => ?_)
        · obtain rfl : k = 143 := by omega
          refine r_aload_n dX12_plane_72 rfl ?_
          refine r_cV0N dX12_plane_73 ml_X12_184 yl_X12_settles ⟨rfl, rfl⟩ (by assumption) ⟨_, rfl⟩ rfl rfl rfl rfl (m_settles hM2) ?_
          rintro μ3 ⟨s1, s2, s3, s4, s5, s6⟩
          have hM3 : IsModel sh μ3.2.2 m := by rw [s1]; exact hM2
          have hrow : μ3.1 (m + 1) = setlR (planeR (gTp G, gTl G)).2.1 (gRow G) := by
            funext j
            by_cases hj : 0 ≤ j ∧ j < 143
            · rw [s5 j hj.1 hj.2]
              by_cases c1 : 93 ≤ j ∧ j < 98
              · rw [if_pos c1, setl_l c1]
              · rw [if_neg c1]
                by_cases c2 : 51 ≤ j ∧ j < 53
                · rw [if_pos c2, setl_b (by omega)]
                · rw [if_neg c2, hw1 j]
                  by_cases c3 : j = 11 ∨ j = 12 ∨ (83 ≤ j ∧ j < 143)
                  · rw [if_pos c3, setl_c (by omega), hr]
                  · rw [if_neg c3, setl_p (by omega)]
                    exact hSp j hj.1 hj.2
            · rw [s6 j hj, h1r, hr, hI.2.1.2 j hj]
              by_cases c3 : 143 ≤ j
              · rw [setl_c (by omega)]; exact (hI.2.1.2 j hj).symm
              · rw [setl_p (by omega)]
                exact ((planeR_ok (T := (gTp G, gTl G)) hI.2.2.2.2.1.2.1).2.1.2.2.2.2.2.2.2.2.2.2.2 j (by omega)).symm
          clear g0 f1 f2 f3 f4 f5 f6 f7 f8 f9 f10 f11 f12 f13 f14
          obtain ⟨g0, f1, z1, f2, z2, f3, z3, f4, z4, f5, z5, f6, z6, f7, z7, f8, z8, f9, z9, f10, z10, f11, z11, f12, z12, f13, z13, f14, z14⟩ := id hM3
          refine r_aload_n dX12_plane_76 rfl ?_
          refine r_getR dX12_plane_77 fl_X12_7 rfl (by assumption) (by assumption) ?_
          refine r_iconst dX12_plane_80 ?_
          refine r_iald dX12_plane_81 (by assumption) rfl (by omega) ?_
          refine r_ireturn dX12_plane_82 rfl rfl rfl ?_
          have hk1 : ∀ q : Nat, q ≠ m → q ≠ m + 1 → q ≠ m + 2 → q ≠ m + 7 → q ≠ m + 8 → μ3.1 q = μ.1 q := fun q q0 q1 q2 q3 q4 => (s2 q q0 q1 q2).trans ((hk.2 q q2).trans (kG.2.1 q q0 q2 q3 q4))
          have hm : ∀ j, j ≠ 5 → μ3.1 m j = μ1.1 m j := fun j hj => (s3 j hj).trans (congrFun (hk.2 m (by omega)) j)
          have hN : planeF G = ((planeR (gTp G, gTl G)).2.1 5, setNew G (setlR (planeR (gTp G, gTl G)).2.1 (gRow G))) := by
            unfold planeF
            rw [if_neg (fun h => h hE0)]
          refine ⟨rfl, _, rfl, ?_, ?_⟩
          · rw [hN, hrow, setl_p (by omega)]
          · rw [hN]
            refine hI.settle (by rw [s1, hk.1]; exact kG.1) hk1 ((hm 33 (by omega)).trans (kG.2.2 33 (by omega))) ((hm 7 (by omega)).trans h7) ((hm 14 (by omega)).trans h14) s4 hrow (fun j hj => ?_) (fun q hq => hk1 q (by omega) (by omega) (by omega) (by omega) (by omega))
            rw [← hrow, s6 j hj, h1r, hr]
            exact hI.2.1.2 j hj
        · refine r_aload_n dX12_plane_54 rfl ?_
          refine r_getR dX12_plane_55 fl_X12_13 rfl (by assumption) (by assumption) ?_
          refine r_iload_n dX12_plane_58 rfl ?_
          refine r_aload_n dX12_plane_59 rfl ?_
          refine r_getR dX12_plane_60 fl_X12_7 rfl (by assumption) (by assumption) ?_
          refine r_iload_n dX12_plane_63 rfl ?_
          refine r_iald dX12_plane_64 (by assumption) rfl (by omega) ?_
          rw [h1r]
          refine r_iast dX12_plane_65 (by assumption) rfl (by omega) ?_
          refine r_iinc dX12_plane_66 rfl rfl ?_
          refine r_goto (tgt := 47) dX12_plane_69 rfl ?_
          refine ih (n - 1) (k + 1) _ (by omega) (by omega) (by omega) ⟨hk.1, fun q hq => (setI_ne hq).trans (hk.2 q hq)⟩ (fun j => ?_)
          by_cases e : j = k
          · rw [e, sI_at, if_pos (by omega)]
          · rw [sI_nj e, hw1 j]
            (repeat' split) <;> first | rfl | omega
    refine lB _ 60 83 _ (Nat.lt_succ_self _) (by omega) (by omega) ⟨rfl, fun q hq => (setI_ne hq).trans (setI_ne hq)⟩ (fun j => ?_)
    by_cases e : j = 12
    · rw [e, sI_at, if_pos (by omega)]
    · rw [sI_nj e]
      by_cases e2 : j = 11
      · rw [e2, sI_at, if_pos (by omega)]
      · rw [sI_nj e2, if_neg (by omega)]
  · obtain ⟨-, hE0, h14, h15⟩ := hx.resolve_left (fun h => by have := h.1; omega)
    refine r_sipush dX12_plane_7 (by decide) ?_
    refine r_aload_n dX12_plane_10 rfl ?_
    refine r_getI dX12_plane_11 fl_X12_80 rfl (by assumption) ?_
    rw [h15]
    refine r_isub dX12_plane_14 ?_
    refine r_ireturn dX12_plane_15 rfl rfl rfl ?_
    have hN : planeF G = (-1000 - sP (planeR (gTp G, gTl G)).1, setFl G (sE (planeR (gTp G, gTl G)).1)) := by
      unfold planeF
      rw [if_pos hE0]
    exact ⟨rfl, _, rfl, by rw [hN], by rw [hN]; exact hI.fault kG h7 h14⟩

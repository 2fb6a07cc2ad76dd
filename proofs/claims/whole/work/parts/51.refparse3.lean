/-! 51.refparse3: names are taken, a text begins, in the reference (wip/whole/src/51_refparse3.py) -/
def slotF (D : PD) (v : Int) (n : Nat) (k : Int) : Int := fnd (fun k => decide (usedN D.1 k ∧ D.2.1 k = v)) n k
theorem slot3 {D : PD} (hc : cntOK D.1) (v : Int) : slotF D v 3 3 = if tankF D v = -1 then -1 else 3 + tankF D v := by
  unfold cntOK at hc
  unfold slotF tankF
  rcases fnd_spec (p := fun t => decide (D.2.1 (3 + t) = v)) (D.1 8).toNat 0 with ⟨h1, h2⟩ | ⟨h1, h2, h3, h4⟩
  · rw [if_pos h1]
    refine fnd_none fun j j0 j1 => decide_eq_false fun h => ?_
    have := h2 (j - 3) (by omega) (by have := h.1; unfold usedN at this; omega)
    rw [show 3 + (j - 3) = j by omega] at this
    exact of_decide_eq_false this h.2
  · rw [if_neg (by omega)]
    generalize fnd _ (D.1 8).toNat 0 = r at h1 h2 h3 h4
    refine fnd_hit (by omega) (by omega) (fun j j0 j1 => decide_eq_false fun h => ?_) (decide_eq_true ⟨?_, of_decide_eq_true h3⟩)
    · have := h4 (j - 3) (by omega) (by omega)
      rw [show 3 + (j - 3) = j by omega] at this
      exact of_decide_eq_false this h.2
    · unfold usedN; omega
theorem slot0 {D : PD} (hc : cntOK D.1) (v : Int) : 0 ≤ slotF D v 6 0 ↔ 0 ≤ holdF D v ∨ 0 ≤ tankF D v := by
  unfold cntOK at hc
  unfold slotF holdF tankF
  constructor
  · intro h
    rcases fnd_spec (p := fun k => decide (usedN D.1 k ∧ D.2.1 k = v)) 6 0 with ⟨h1, -⟩ | ⟨h1, h2, h3, -⟩
    · omega
    · generalize fnd (fun k => decide (usedN D.1 k ∧ D.2.1 k = v)) 6 0 = r at h1 h2 h3
      have q := of_decide_eq_true h3
      rcases q.1 with hu | hu
      · left
        rcases fnd_spec (p := fun t => decide (D.2.1 t = v)) (D.1 4).toNat 0 with ⟨-, g⟩ | ⟨g, -⟩
        · exact absurd q.2 (of_decide_eq_false (g r h1 (by omega)))
        · exact g
      · right
        rcases fnd_spec (p := fun t => decide (D.2.1 (3 + t) = v)) (D.1 8).toNat 0 with ⟨-, g⟩ | ⟨g, -⟩
        · have := of_decide_eq_false (g (r - 3) (by omega) (by omega))
          rw [show 3 + (r - 3) = r by omega] at this
          exact absurd q.2 this
        · exact g
  · intro h
    rcases fnd_spec (p := fun k => decide (usedN D.1 k ∧ D.2.1 k = v)) 6 0 with ⟨-, g⟩ | ⟨g, -⟩
    · exfalso
      rcases h with h | h
      · rcases fnd_spec (p := fun t => decide (D.2.1 t = v)) (D.1 4).toNat 0 with ⟨h1, -⟩ | ⟨h1, h2, h3, -⟩
        · omega
        · exact of_decide_eq_false (g _ h1 (by omega)) ⟨Or.inl ⟨h1, by omega⟩, of_decide_eq_true h3⟩
      · rcases fnd_spec (p := fun t => decide (D.2.1 (3 + t) = v)) (D.1 8).toNat 0 with ⟨h1, -⟩ | ⟨h1, h2, h3, -⟩
        · omega
        · exact of_decide_eq_false (g (3 + fnd (fun t => decide (D.2.1 (3 + t) = v)) (D.1 8).toNat 0) (by omega) (by omega)) ⟨Or.inr ⟨by omega, by omega⟩, of_decide_eq_true h3⟩
    · exact g
theorem m_named0 {sh : Sh} {μ : Mem} {m : Nat} {T : Tq} {τ : Sg} {D : PD} (hM : IsModel sh μ.2.2 m) (hA : AT m μ T τ) (hw : WdOK T τ) (hk1 : sK τ = 1) (hN : NmsOK m μ D) (hS : Spr m μ D.1) (hc : cntOK D.1) {f0 : Int} (hf0 : 0 ≤ f0 ∧ f0 ≤ 6)  : FMet yX12_named0 gX12_named0 sh [vR m, vI f0] μ (some (vI (slotF D (pkN (fun i => T.1 (sF τ + i)) (sT τ - sF τ).toNat) (6 - f0).toNat f0))) μ := by
  obtain ⟨g0, f1, z1, f2, z2, f3, z3, f4, z4, f5, z5, f6, z6, f7, z7, f8, z8, f9, z9, f10, z10, f11, z11, f12, z12, f13, z13, f14, z14⟩ := id hM
  have lB : ∀ (f n : Nat) (k : Int), n < f → 0 ≤ k → k + n = 6 → AW gX12_named0 sh μ 0 0 2 [some (vR m), some (vI f0), some (vI k)] [] (fun r2 sh2 μ2 => r2 = some (vI (slotF D (pkN (fun i => T.1 (sF τ + i)) (sT τ - sF τ).toNat) n k)) ∧ sh2 = sh ∧ μ2 = μ) := by
    intro f
    induction f with
    | zero => intro n; intros; omega
    | succ f ih =>
      intro n k hf hk hn2
      refine r_iload_n dX12_named0_2 rfl ?_
      refine r_bipush dX12_named0_3 (by decide) ?_
      refine q_icmp_ge (tgt := 24) dX12_named0_5 rfl (by omega) (by omega) (fun c5 => ?_) (fun c5 => ?_)
      · refine r_iconst dX12_named0_24 ?_
        refine r_ireturn dX12_named0_25 rfl rfl rfl ?_
        obtain rfl : n = 0 := by omega
        exact ⟨rfl, rfl, rfl⟩
      · obtain ⟨q, rfl⟩ : ∃ q, n = q + 1 := ⟨n - 1, by omega⟩
        refine r_aload_n dX12_named0_8 rfl ?_
        refine r_iload_n dX12_named0_9 rfl ?_
        refine r_cV1F1 dX12_named0_10 ml_X12_124 yl_X12_isNamed ⟨rfl, rfl⟩ (by assumption) ⟨_, rfl⟩ rfl rfl rfl rfl (m_isNamed hM hA hw hk1 hN hS hc (k0 := k) (by omega)) ?_
        refine r_if_eqB (tgt := 18) dX12_named0_13 rfl (fun c13 => ?_) (fun c13 => ?_)
        · have c13 := of_decide_eq_false c13
          refine r_iinc dX12_named0_18 rfl rfl ?_
          refine r_goto (tgt := 2) dX12_named0_21 rfl ?_
          unfold slotF
          rw [fnd, if_neg (by rw [decide_eq_true_eq]; exact c13)]
          exact ih q (k + 1) (by omega) (by omega) (by omega)
        · have c13 := of_decide_eq_true c13
          refine r_iload_n dX12_named0_16 rfl ?_
          refine r_ireturn dX12_named0_17 rfl rfl rfl ?_
          unfold slotF
          rw [fnd, if_pos (decide_eq_true c13)]
          exact ⟨rfl, rfl, rfl⟩
  refine AMet.of (by decide) rfl (by decide) rfl ?_
  refine r_iload_n dX12_named0_0 rfl ?_
  refine r_istore_n dX12_named0_1 rfl ?_
  exact lB _ (6 - f0).toNat f0 (Nat.lt_succ_self _) (by omega) (by omega)
theorem tells_same {T : Tq} {τ : Sg} {i j : Nat} (h : sxB i = sxB j) : tellsF T τ i = tellsF T τ j := by
  unfold tellsF
  rw [h]
theorem quoted_known {T : Tq} {τ : Sg} : quoted T τ = true ↔ 0 ≤ knownF T τ := by
  have e : quoted T τ = (tellsF T τ 0 || tellsF T τ 1 || tellsF T τ 2 || tellsF T τ 11 || tellsF T τ 12 || tellsF T τ 3 || tellsF T τ 4 || tellsF T τ 5 || tellsF T τ 6 || tellsF T τ 7 || tellsF T τ 8 || tellsF T τ 9 || tellsF T τ 10) := by
    unfold quoted
    rw [tells_same (i := 13) (j := 0) (by decide), tells_same (i := 14) (j := 1) (by decide), tells_same (i := 15) (j := 2) (by decide), tells_same (i := 16) (j := 11) (by decide), tells_same (i := 17) (j := 12) (by decide), tells_same (i := 18) (j := 3) (by decide), tells_same (i := 19) (j := 4) (by decide), tells_same (i := 20) (j := 5) (by decide), tells_same (i := 21) (j := 6) (by decide), tells_same (i := 22) (j := 7) (by decide), tells_same (i := 23) (j := 8) (by decide), tells_same (i := 24) (j := 9) (by decide), tells_same (i := 25) (j := 10) (by decide)]
  rw [e]
  unfold knownF
  rcases fnd_spec (p := fun k => tellsF T τ k.toNat) 13 0 with ⟨h1, h2⟩ | ⟨h1, h2, h3, -⟩
  · rw [h1]
    have g := fun (k : Nat) (hk : k < 13) => h2 (k : Int) (by omega) (by omega)
    have g0 := g 0 (by omega); have g1 := g 1 (by omega); have g2 := g 2 (by omega); have g3 := g 3 (by omega); have g4 := g 4 (by omega); have g5 := g 5 (by omega); have g6 := g 6 (by omega); have g7 := g 7 (by omega); have g8 := g 8 (by omega); have g9 := g 9 (by omega); have g10 := g 10 (by omega); have g11 := g 11 (by omega); have g12 := g 12 (by omega)
    simp only [Int.toNat_natCast] at g0 g1 g2 g3 g4 g5 g6 g7 g8 g9 g10 g11 g12
    rw [g0, g1, g2, g3, g4, g5, g6, g7, g8, g9, g10, g11, g12]
    decide
  · generalize fnd (fun k => tellsF T τ k.toNat) 13 0 = r at *
    refine ⟨fun _ => h1, fun _ => ?_⟩
    have hr : r.toNat = 0 ∨ r.toNat = 1 ∨ r.toNat = 2 ∨ r.toNat = 3 ∨ r.toNat = 4 ∨ r.toNat = 5 ∨ r.toNat = 6 ∨ r.toNat = 7 ∨ r.toNat = 8 ∨ r.toNat = 9 ∨ r.toNat = 10 ∨ r.toNat = 11 ∨ r.toNat = 12 := by omega
    rcases hr with h | h | h | h | h | h | h | h | h | h | h | h | h <;> rw [h] at h3 <;> rw [h3] <;> simp only [Bool.true_or, Bool.or_true]
theorem known_tells {T : Tq} {τ : Sg} {k : Nat} (hk : k < 13) : knownF T τ = k ↔ tellsF T τ k = true ∧ ∀ j : Nat, j < k → tellsF T τ j = false := by
  unfold knownF
  constructor
  · intro h
    rcases fnd_spec (p := fun k => tellsF T τ k.toNat) 13 0 with ⟨h1, -⟩ | ⟨h1, h2, h3, h4⟩
    · omega
    · rw [h] at h3 h4
      refine ⟨by rw [Int.toNat_natCast] at h3; exact h3, fun j hj => ?_⟩
      have := h4 (j : Int) (by omega) (by omega)
      rw [Int.toNat_natCast] at this
      exact this
  · rintro ⟨h1, h2⟩
    refine fnd_hit (by omega) (by omega) (fun j j0 j1 => ?_) (by rw [Int.toNat_natCast]; exact h1)
    exact h2 j.toNat (by omega)
theorem m_takesName {sh : Sh} {μ : Mem} {m : Nat} {T : Tq} {σ : Sg} (hM : IsModel sh μ.2.2 m) (hT : RTap m μ T) (hs : SgOK T σ) (h0 : sE σ = 0) (hA : AT m μ T (nxt T σ)) {D : PD} (hN : NmsOK m μ D) (hS : Spr m μ D.1) (hc : cntOK D.1) {k0 : Int} (hk0 : 0 ≤ k0 ∧ k0 < 6)  : IMet yX12_takesName gX12_takesName sh [vR m, vI k0] μ (fun x μ2 => RT m μ μ2 ∧ μ2.1 (m + 2) = μ.1 (m + 2) ∧ ((sE (newN T σ D).2 = 0 ∧ x = 1 ∧ AT m μ2 T (nxt T (newN T σ D).2) ∧ μ2.1 m 14 = μ.1 m 14 ∧ NmOK (fun i => μ2.1 (m + 8) (8 * k0 + i)) (newN T σ D).1 ∧ ∀ j, (j < 8 * k0 ∨ 8 * k0 + 8 ≤ j) → μ2.1 (m + 8) j = μ.1 (m + 8) j) ∨ (sE (newN T σ D).2 ≠ 0 ∧ x = 0 ∧ μ2.1 m 14 = sE (newN T σ D).2 ∧ μ2.1 m 15 = sP (newN T σ D).2))) := by
  obtain ⟨g0, f1, z1, f2, z2, f3, z3, f4, z4, f5, z5, f6, z6, f7, z7, f8, z8, f9, z9, f10, z10, f11, z11, f12, z12, f13, z13, f14, z14⟩ := id hM
  obtain ⟨t1, t2, t3⟩ := id hT
  obtain ⟨hE, hK, hw, hs1⟩ := nxt_hand t2.2 hs h0
  have hs10 := hs1
  unfold SgOK at hs10
  obtain ⟨a10, a11, a9, a12, a13⟩ := id hA
  have hwq := wordC_eq T σ
  rw [if_neg (show ¬ sE (nxt T σ) ≠ 0 by omega)] at hwq
  have hnn : newN T σ D = ((wordC T σ).1, if 0 ≤ holdF D (wordC T σ).1 ∨ 0 ≤ tankF D (wordC T σ).1 then failC (wordC T σ).2 3 else (wordC T σ).2) := rfl
  have hqk := quoted_known (T := T) (τ := nxt T σ)
  generalize hτ : nxt T σ = τ at *
  have hkr := knownF_rng T τ
  have hv : sK τ = 1 → pkC T (sF τ) (sT τ) = (pkN (fun i => T.1 (sF τ + i)) (sT τ - sF τ).toNat) := fun h1 => by
    obtain ⟨w1, w2⟩ := hw h1
    rcases pkC_eq (T := T) (a := sF τ) (e := sT τ) (by omega) with ⟨g1, g2⟩ | ⟨g1, g2⟩
    · exact g2
    · exact absurd w2 g1
  have lB : ∀ (f n : Nat) (k : Int) (μ' : Mem), n < f → 0 ≤ k → k + n = 8 → (μ'.2 = μ.2 ∧ ∀ q : Nat, q ≠ m + 8 → μ'.1 q = μ.1 q) → (∀ j, (j < 8 * k0 ∨ 8 * k0 + k ≤ j) → μ'.1 (m + 8) j = μ.1 (m + 8) j) → (∀ i, 0 ≤ i → i < k → μ'.1 (m + 8) (8 * k0 + i) = if i < sT τ - sF τ then T.1 (sF τ + i) else 0) → (sK τ = 1 ∧ sE (newN T σ D).2 = 0 ∧ (newN T σ D).2 = τ ∧ (newN T σ D).1 = (pkN (fun i => T.1 (sF τ + i)) (sT τ - sF τ).toNat)) → AW gX12_takesName sh μ' 0 0 29 [some (vR m), some (vI k0), some (vI k)] [] (fun r2 sh2 μ2 => sh2 = sh ∧ ∃ x, r2 = some (vI x) ∧ RT m μ μ2 ∧ μ2.1 (m + 2) = μ.1 (m + 2) ∧ ((sE (newN T σ D).2 = 0 ∧ x = 1 ∧ AT m μ2 T (nxt T (newN T σ D).2) ∧ μ2.1 m 14 = μ.1 m 14 ∧ NmOK (fun i => μ2.1 (m + 8) (8 * k0 + i)) (newN T σ D).1 ∧ ∀ j, (j < 8 * k0 ∨ 8 * k0 + 8 ≤ j) → μ2.1 (m + 8) j = μ.1 (m + 8) j) ∨ (sE (newN T σ D).2 ≠ 0 ∧ x = 0 ∧ μ2.1 m 14 = sE (newN T σ D).2 ∧ μ2.1 m 15 = sP (newN T σ D).2))) := by
    intro f
    induction f with
    | zero => intro n; intros; omega
    | succ f ih =>
      intro n k μ' hf hk hn2 hkp hold hnew hq
      obtain ⟨hk1, hq0, hq2, hq1⟩ := id hq
      obtain ⟨w1, w2⟩ := hw hk1
      have l13 := a13 hk1
      have hM1 : IsModel sh μ'.2.2 m := by rw [hkp.1]; exact hM
      have l13' : μ'.1 m 13 = sT τ - sF τ := (congrFun (hkp.2 m (by omega)) 13).trans l13.1
      obtain ⟨g0, f1, z1, f2, z2, f3, z3, f4, z4, f5, z5, f6, z6, f7, z7, f8, z8, f9, z9, f10, z10, f11, z11, f12, z12, f13, z13, f14, z14⟩ := id hM1
      refine r_iload_n dX12_takesName_29 rfl ?_
      refine r_bipush dX12_takesName_30 (by decide) ?_
      refine q_icmp_ge (tgt := 70) dX12_takesName_32 rfl (by omega) (by omega) (fun c32 => ?_) (fun c32 => ?_)
      · refine r_aload_n dX12_takesName_70 rfl ?_
        refine r_cV0N dX12_takesName_71 ml_X12_121 yl_X12_next ⟨rfl, rfl⟩ (by assumption) ⟨_, rfl⟩ rfl rfl rfl rfl (m_nextT (μ := μ') hM1 (hT.mono (congrFun (hkp.2 m (by omega)) 8) (hkp.2 _ (by omega))) hs1 hE ((congrFun (hkp.2 m (by omega)) 9).trans (a9 (by omega)))) ?_
        rintro μ4 ⟨k4, A4⟩
        refine r_iconst dX12_takesName_74 ?_
        refine r_zreturn dX12_takesName_75 (by first | exact Or.inl rfl | exact Or.inr rfl | exact b2i_01 _ | omega) rfl rfl rfl ?_
        have hr : RT m μ μ4 := RT.rk ⟨hkp.1, fun a b c d e => hkp.2 a e, fun j hj => congrFun (hkp.2 m (by omega)) j⟩ k4
        refine ⟨rfl, _, rfl, hr, ?_, Or.inl ⟨hq0, rfl, by rw [hq2]; exact A4, (k4.2.2 14 (by omega)).trans (congrFun (hkp.2 m (by omega)) 14), ⟨(sT τ - sF τ).toNat, by omega, fun i i0 i1 => ?_, fun i i0 i1 => ?_, ?_⟩, fun j hj => ?_⟩⟩
        · rw [k4.2.1 _ (by omega) (by omega)]; exact hkp.2 _ (by omega)
        · rw [k4.2.1 _ (by omega) (by omega)]; dsimp only; rw [hnew i i0 (by omega), if_pos (by omega)]; exact w2 i i0 i1
        · rw [k4.2.1 _ (by omega) (by omega)]; dsimp only; rw [hnew i (by omega) (by omega), if_neg (by omega)]
        · rw [hq1]
          refine pkN_congr fun i i0 i1 => ?_
          rw [k4.2.1 _ (by omega) (by omega), hnew i i0 (by omega), if_pos (by omega)]
        · rw [k4.2.1 _ (by omega) (by omega)]; exact hold j (by omega)
      · obtain ⟨q, rfl⟩ : ∃ q, n = q + 1 := ⟨n - 1, by omega⟩
        refine r_aload_n dX12_takesName_35 rfl ?_
        refine r_getR dX12_takesName_36 fl_X12_33 rfl (by assumption) (by assumption) ?_
        refine r_bipush dX12_takesName_39 (by decide) ?_
        refine r_iload_n dX12_takesName_41 rfl ?_
        refine r_imul dX12_takesName_42 ?_
        refine r_iload_n dX12_takesName_43 rfl ?_
        refine r_iadd dX12_takesName_44 ?_
        refine r_iload_n dX12_takesName_45 rfl ?_
        refine r_aload_n dX12_takesName_46 rfl ?_
        refine r_getI dX12_takesName_47 fl_X12_107 rfl (by assumption) ?_
        (try rw [l13'])
        refine q_icmp_ge (tgt := 62) dX12_takesName_50 rfl (by omega) (by omega) (fun c50 => ?_) (fun c50 => ?_)
        · refine r_iconst dX12_takesName_62 ?_
          refine r_bast dX12_takesName_63 (by assumption) rfl (by omega) (by omega) ?_
          refine r_iinc dX12_takesName_64 rfl rfl ?_
          refine r_goto (tgt := 29) dX12_takesName_67 rfl ?_
          refine ih q (k + 1) _ (by omega) (by omega) (by omega) ⟨hkp.1, fun q hq => (setI_ne hq).trans (hkp.2 q hq)⟩ (fun j hj => ?_) (fun i i0 i1 => ?_) hq
          · rw [sI_nj (by omega)]; exact hold j (by omega)
          · by_cases e : i = k
            · subst e
              rw [sI_at]
              first
              | rw [if_pos (by omega)]
              | rw [if_neg (by omega)]
            · rw [sI_nj (by omega)]; exact hnew i i0 (by omega)
        · have hlk := l13.2 k (by omega) (by omega)
          have hwk := w2 k (by omega) (by omega)
          try dsimp only at hwk
          refine r_aload_n dX12_takesName_53 rfl ?_
          refine r_getR dX12_takesName_54 fl_X12_30 rfl (by assumption) (by assumption) ?_
          refine r_iload_n dX12_takesName_57 rfl ?_
          refine r_bald dX12_takesName_58 (by assumption) rfl (by omega) ?_
          rw [hkp.2 (m + 7) (by omega), hlk]
          refine r_goto (tgt := 63) dX12_takesName_59 rfl ?_
          refine r_bast dX12_takesName_63 (by assumption) rfl (by omega) (by omega) ?_
          refine r_iinc dX12_takesName_64 rfl rfl ?_
          refine r_goto (tgt := 29) dX12_takesName_67 rfl ?_
          refine ih q (k + 1) _ (by omega) (by omega) (by omega) ⟨hkp.1, fun q hq => (setI_ne hq).trans (hkp.2 q hq)⟩ (fun j hj => ?_) (fun i i0 i1 => ?_) hq
          · rw [sI_nj (by omega)]; exact hold j (by omega)
          · by_cases e : i = k
            · subst e
              rw [sI_at]
              first
              | rw [if_pos (by omega)]
              | rw [if_neg (by omega)]
            · rw [sI_nj (by omega)]; exact hnew i i0 (by omega)
  refine AMet.of (by decide) rfl (by decide) rfl ?_
  refine r_aload_n dX12_takesName_0 rfl ?_
  refine r_cV0F1 dX12_takesName_1 ml_X12_127 yl_X12_isName ⟨rfl, rfl⟩ (by assumption) ⟨_, rfl⟩ rfl rfl rfl rfl (m_isName hM hA hw hE hK) ?_
  refine r_if_neB (tgt := 13) dX12_takesName_4 rfl (fun c4 => ?_) (fun c4 => ?_)
  · have c4 := of_decide_eq_true c4
    refine r_aload_n dX12_takesName_13 rfl ?_
    refine r_iconst dX12_takesName_14 ?_
    refine r_cV1F1 dX12_takesName_15 ml_X12_131 yl_X12_named0 ⟨rfl, rfl⟩ (by assumption) ⟨_, rfl⟩ rfl rfl rfl rfl (m_named0 hM hA hw c4.1 hN hS hc (f0 := 0) (by omega)) ?_
    have hsr : -1 ≤ slotF D (pkN (fun i => T.1 (sF τ + i)) (sT τ - sF τ).toNat) 6 0 ∧ slotF D (pkN (fun i => T.1 (sF τ + i)) (sT τ - sF τ).toNat) 6 0 < 6 := by unfold slotF; rcases fnd_spec (p := fun k => decide (usedN D.1 k ∧ D.2.1 k = (pkN (fun i => T.1 (sF τ + i)) (sT τ - sF τ).toNat))) 6 0 with ⟨h1, -⟩ | ⟨h1, h2, -⟩ <;> omega
    rw [show ((6 : Int) - 0).toNat = 6 from rfl]
    refine q_if_lt (tgt := 27) dX12_takesName_18 rfl (by omega) (fun c18 => ?_) (fun c18 => ?_)
    · refine r_iconst dX12_takesName_27 ?_
      refine r_istore_n dX12_takesName_28 rfl ?_
      have hw1 : wordC T σ = (pkC T (sF τ) (sT τ), τ) := by
        rw [hwq, if_neg]
        rintro (h | h)
        · exact h c4.1
        · have := hqk.1 h; omega
      have hn1 : newN T σ D = ((pkN (fun i => T.1 (sF τ + i)) (sT τ - sF τ).toNat), τ) := by
        rw [hnn, hw1]
        dsimp only
        rw [hv c4.1, if_neg]
        rw [← slot0 hc]
        omega
      exact lB _ 8 0 μ (Nat.lt_succ_self _) (by omega) (by omega) ⟨rfl, fun _ _ => rfl⟩ (fun _ _ => rfl) (fun i i0 i1 => by omega) ⟨c4.1, by rw [hn1]; exact hE, by rw [hn1], by rw [hn1]⟩
    · refine r_aload_n dX12_takesName_21 rfl ?_
      refine r_iconst dX12_takesName_22 ?_
      refine r_cV1F1 dX12_takesName_23 ml_X12_116 yl_X12_badHere ⟨rfl, rfl⟩ (by assumption) ⟨_, rfl⟩ rfl rfl rfl rfl (m_badHere hM) ?_
      refine r_zreturn dX12_takesName_26 (by first | exact Or.inl rfl | exact Or.inr rfl | exact b2i_01 _ | omega) rfl rfl rfl ?_
      have hw1 : wordC T σ = (pkC T (sF τ) (sT τ), τ) := by
        rw [hwq, if_neg]
        rintro (h | h)
        · exact h c4.1
        · have := hqk.1 h; omega
      have hn1 : (newN T σ D).2 = failC τ 3 := by
        rw [hnn, hw1]
        dsimp only
        rw [hv c4.1, if_pos]
        rw [← slot0 hc]
        omega
      refine ⟨rfl, _, rfl, ((RT.rf _ _).sI (by omega)).sI (by omega), (setI_ne (by omega)).trans (setI_ne (by omega)), Or.inr ?_⟩
      rw [hn1, fail_0 hE]
      refine ⟨show (3 : Int) ≠ 0 by decide, rfl, ?_, ?_⟩
      · simp (disch := omega) only [sI_at, sI_ne, sI_nj, sI_L]
      · rw [sI_at]; exact a10
  · have c4 := of_decide_eq_false c4
    refine r_aload_n dX12_takesName_7 rfl ?_
    refine r_iconst dX12_takesName_8 ?_
    refine r_cV1F1 dX12_takesName_9 ml_X12_116 yl_X12_badHere ⟨rfl, rfl⟩ (by assumption) ⟨_, rfl⟩ rfl rfl rfl rfl (m_badHere hM) ?_
    refine r_zreturn dX12_takesName_12 (by first | exact Or.inl rfl | exact Or.inr rfl | exact b2i_01 _ | omega) rfl rfl rfl ?_
    have hw1 : wordC T σ = (pkC T (sF τ) (sT τ), failC τ 1) := by
      rw [hwq, if_pos]
      by_cases h1 : sK τ = 1
      · exact Or.inr (hqk.2 (by omega))
      · exact Or.inl h1
    have hn1 : (newN T σ D).2 = failC τ 1 := by
      rw [hnn, hw1]
      dsimp only
      split
      · exact fail_no (fail_yes (by decide)) 3
      · rfl
    refine ⟨rfl, _, rfl, ((RT.rf _ _).sI (by omega)).sI (by omega), (setI_ne (by omega)).trans (setI_ne (by omega)), Or.inr ?_⟩
    rw [hn1, fail_0 hE]
    refine ⟨show (1 : Int) ≠ 0 by decide, rfl, ?_, ?_⟩
    · simp (disch := omega) only [sI_at, sI_ne, sI_nj, sI_L]
    · rw [sI_at]; exact a10

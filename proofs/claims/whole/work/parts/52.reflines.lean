/-! 52.reflines: the reference reads lines (wip/whole/src/52_reflines.py) -/
theorem sx_uniq : ∀ i : Nat, i < 13 → ∀ j : Nat, j < 13 → (sxB i).length = (sxB j).length → (∀ k : Nat, k < 6 → k < (sxB i).length → (sxB i).getD k 0 = (sxB j).getD k 0) → i = j := by decide +kernel
theorem tells_uniq {T : Tq} {τ : Sg} {i j : Nat} (hi : i < 13) (hj : j < 13) (h1 : tellsF T τ i = true) (h2 : tellsF T τ j = true) : i = j := by
  unfold tellsF at h1 h2
  rw [Bool.and_eq_true, decide_eq_true_eq, allF_iff] at h1 h2
  obtain ⟨⟨-, -, a⟩, b⟩ := h1
  obtain ⟨⟨-, -, c⟩, d⟩ := h2
  refine sx_uniq i hi j hj (by omega) fun k k0 k1 => ?_
  have p := of_decide_eq_true (b k (by omega) (by omega))
  have q := of_decide_eq_true (d k (by omega) (by omega))
  rw [Int.toNat_natCast] at p q
  rw [← p, q]
theorem known_iff {T : Tq} {τ : Sg} {k : Nat} (hk : k < 13) : knownF T τ = k ↔ tellsF T τ k = true := by
  rw [known_tells hk]
  refine ⟨fun h => h.1, fun h => ⟨h, fun j hj => ?_⟩⟩
  cases e : tellsF T τ j
  · rfl
  · have := tells_uniq (by omega) hk e h
    omega
/-- the reference while it reads: the token that comes is at hand -/
def RS (m : Nat) (μ : Mem) (T : Tq) (σ : Sg) (D : PD) : Prop := RTap m μ T ∧ (SgOK T σ ∧ sE σ = 0) ∧ AT m μ T (nxt T σ) ∧ Spr m μ D.1 ∧ NmsOK m μ D ∧ μ.1 m 14 = 0
def LRes (m : Nat) (μ : Mem) (T : Tq) (x : Int) (r : Sg × PD) (μ2 : Mem) : Prop := RT m μ μ2 ∧ ((x = 1 ∧ RS m μ2 T r.1 r.2) ∨ (x = 0 ∧ sE r.1 ≠ 0 ∧ μ2.1 m 14 = sE r.1 ∧ μ2.1 m 15 = sP r.1))
theorem LRes.x01 {m : Nat} {μ : Mem} {T : Tq} {x : Int} {r : Sg × PD} {μ2 : Mem} (h : LRes m μ T x r μ2) : x = 0 ∨ x = 1 := h.2.elim (fun h => Or.inr h.1) (fun h => Or.inl h.1)
theorem LRes.y {m : Nat} {μ : Mem} {T : Tq} {x : Int} {r : Sg × PD} {μ2 : Mem} (h : LRes m μ T x r μ2) (hx : x ≠ 0) : RS m μ2 T r.1 r.2 := (h.2.resolve_right (fun g => hx g.1)).2
theorem LRes.n {m : Nat} {μ : Mem} {T : Tq} {x : Int} {r : Sg × PD} {μ2 : Mem} (h : LRes m μ T x r μ2) (hx : x = 0) : sE r.1 ≠ 0 ∧ μ2.1 m 14 = sE r.1 ∧ μ2.1 m 15 = sP r.1 := (h.2.resolve_left (fun g => by have := g.1; omega)).2
/-- behind a fault nothing more is said -/
theorem LRes.no {m : Nat} {μ μ1 : Mem} {T : Tq} {x : Int} {r r' : Sg × PD} (h : LRes m μ T x r μ1) (hx : x = 0) (e : r'.1 = r.1) : LRes m μ T 0 r' μ1 := ⟨h.1, Or.inr ⟨rfl, by rw [e]; exact h.n hx⟩⟩
theorem LRes.pre {m : Nat} {μ0 μ μ1 : Mem} {T : Tq} {x : Int} {r : Sg × PD} (k : RT m μ0 μ) (h : LRes m μ T x r μ1) : LRes m μ0 T x r μ1 := ⟨k.tr h.1, h.2⟩
theorem RS.set {m : Nat} {μ : Mem} {T : Tq} {σ : Sg} {D : PD} (h : RS m μ T σ D) {c v : Int} (hc : c ≠ 4 ∧ c ≠ 8) : RS m (setI μ (m + 2) c v) T σ (rset D.1 c v, D.2) := by
  obtain ⟨h1, h2, h3, h4, h5, h6⟩ := h
  refine ⟨h1.rt (RT.rf _ _).s2, h2, h3.of (fun j _ _ => sI_ne (by omega)) (setI_ne (by omega)), fun j j0 j1 => ?_, fun k hk => ?_, (sI_ne (by omega)).trans h6⟩
  · dsimp only
    by_cases e : j = c
    · rw [e, sI_at, rset_eq]
    · rw [sI_nj e, rset_ne e]; exact h4 j j0 j1
  · unfold usedN at hk
    dsimp only at hk
    rw [rset_ne (by omega), rset_ne (by omega)] at hk
    have := h5 k hk
    rw [setI_ne (by omega)]
    exact this
theorem RS.cnt {m : Nat} {μ : Mem} {T : Tq} {σ : Sg} {D : PD} (h : RS m μ T σ D) (hc : cntOK D.1) {c s : Int} (hc2 : c = 4 ∧ s = D.1 4 ∨ c = 8 ∧ s = 3 + D.1 8) (hn : NmOK (fun i => μ.1 (m + 8) (8 * s + i)) (D.2.1 s)) : RS m (setI μ (m + 2) c (D.1 c + 1)) T σ (rset D.1 c (D.1 c + 1), D.2) := by
  obtain ⟨h1, h2, h3, h4, h5, h6⟩ := h
  unfold cntOK at hc
  refine ⟨h1.rt (RT.rf _ _).s2, h2, h3.of (fun j _ _ => sI_ne (by omega)) (setI_ne (by omega)), fun j j0 j1 => ?_, fun k hk => ?_, (sI_ne (by omega)).trans h6⟩
  · dsimp only
    by_cases e : j = c
    · rw [e, sI_at, rset_eq]
    · rw [sI_nj e, rset_ne e]; exact h4 j j0 j1
  · rw [setI_ne (by omega)]
    by_cases e : k = s
    · rw [e]; exact hn
    · refine h5 k ?_
      unfold usedN at hk ⊢
      dsimp only at hk
      rcases hc2 with ⟨rfl, rfl⟩ | ⟨rfl, rfl⟩
      · rw [rset_eq, rset_ne (by omega)] at hk; omega
      · rw [rset_eq, rset_ne (by omega)] at hk; omega
theorem takesR_of {m : Nat} {μ μ2 : Mem} {T : Tq} {σ : Sg} {D : PD} (hS : RS m μ T σ D) {cell lo hi x : Int} (h48 : cell ≠ 4 ∧ cell ≠ 8) (h : RT m μ μ2 ∧ μ2.1 (m + 8) = μ.1 (m + 8) ∧ ((sE (numC T σ lo hi).2 = 0 ∧ x = 1 ∧ AT m μ2 T (nxt T (numC T σ lo hi).2) ∧ μ2.1 (m + 2) = rset (μ.1 (m + 2)) cell (numC T σ lo hi).1 ∧ μ2.1 m 14 = μ.1 m 14) ∨ (sE (numC T σ lo hi).2 ≠ 0 ∧ x = 0 ∧ μ2.1 m 14 = sE (numC T σ lo hi).2 ∧ μ2.1 m 15 = sP (numC T σ lo hi).2))) : LRes m μ T x ((numC T σ lo hi).2, rset D.1 cell (numC T σ lo hi).1, D.2) μ2 ∧ μ2.1 (m + 8) = μ.1 (m + 8) := by
  obtain ⟨hT, ⟨hs, h0⟩, hA, hSp, hN, h14⟩ := id hS
  obtain ⟨h1, h2, h3⟩ := h
  refine ⟨⟨h1, ?_⟩, h2⟩
  rcases h3 with ⟨a, rfl, b, c, z⟩ | ⟨a, rfl, b, c⟩
  · refine Or.inl ⟨rfl, hT.rt h1, ⟨(num_ok hT.2.1.2 hs lo hi).1, a⟩, b, fun j j0 j1 => ?_, fun k hk => ?_, z.trans h14⟩
    · dsimp only
      rw [c]
      by_cases e : j = cell
      · rw [e, rset_eq, rset_eq]
      · rw [rset_ne e, rset_ne e]; exact hSp j j0 j1
    · unfold usedN at hk
      dsimp only at hk
      rw [rset_ne (by omega), rset_ne (by omega)] at hk
      rw [h2]
      exact hN k hk
  · exact Or.inr ⟨rfl, a, b, c⟩
theorem takesNameR_of {m : Nat} {μ μ2 : Mem} {T : Tq} {σ : Sg} {D : PD} (hS : RS m μ T σ D) (hc : cntOK D.1) {k0 x : Int} (hk0 : 0 ≤ k0 ∧ k0 < 6) (hu : ¬ usedN D.1 k0) (h : RT m μ μ2 ∧ μ2.1 (m + 2) = μ.1 (m + 2) ∧ ((sE (newN T σ D).2 = 0 ∧ x = 1 ∧ AT m μ2 T (nxt T (newN T σ D).2) ∧ μ2.1 m 14 = μ.1 m 14 ∧ NmOK (fun i => μ2.1 (m + 8) (8 * k0 + i)) (newN T σ D).1 ∧ ∀ j, (j < 8 * k0 ∨ 8 * k0 + 8 ≤ j) → μ2.1 (m + 8) j = μ.1 (m + 8) j) ∨ (sE (newN T σ D).2 ≠ 0 ∧ x = 0 ∧ μ2.1 m 14 = sE (newN T σ D).2 ∧ μ2.1 m 15 = sP (newN T σ D).2))) : LRes m μ T x ((newN T σ D).2, D.1, nset D.2.1 k0 (newN T σ D).1, D.2.2) μ2 ∧ (x = 1 → NmOK (fun i => μ2.1 (m + 8) (8 * k0 + i)) (newN T σ D).1) := by
  obtain ⟨hT, ⟨hs, h0⟩, hA, hSp, hN, h14⟩ := id hS
  obtain ⟨h1, h2, h3⟩ := h
  refine ⟨⟨h1, ?_⟩, ?_⟩
  · rcases h3 with ⟨a, rfl, b, z, c, d⟩ | ⟨a, rfl, b, c⟩
    · refine Or.inl ⟨rfl, hT.rt h1, ⟨(newN_ok hT.2.1.2 hs D).1, a⟩, b, fun j j0 j1 => ?_, fun k hk => ?_, z.trans h14⟩
      · rw [h2]; exact hSp j j0 j1
      · have hne : k ≠ k0 := fun e => hu (by rw [← e]; exact hk)
        have q := hN k hk
        dsimp only
        unfold nset
        rw [if_neg hne]
        obtain ⟨n, n1, n2, n3, n4⟩ := q
        unfold usedN at hk
        unfold cntOK at hc
        have e : ∀ i : Int, 0 ≤ i → i < 8 → μ2.1 (m + 8) (8 * k + i) = μ.1 (m + 8) (8 * k + i) := fun i i0 i1 => d _ (by omega)
        exact ⟨n, n1, fun i i0 i1 => by dsimp only; rw [e i i0 (by omega)]; exact n2 i i0 i1, fun i i0 i1 => by dsimp only; rw [e i (by omega) i1]; exact n3 i i0 i1, by rw [n4]; exact pkN_congr fun i i0 i1 => (e i i0 (by omega)).symm⟩
    · exact Or.inr ⟨rfl, a, b, c⟩
  · intro hx
    rcases h3 with ⟨a, b⟩ | ⟨a, b, c⟩
    · exact b.2.2.2.1
    · omega
theorem m_spanLine {sh : Sh} {μ : Mem} {m : Nat} {T : Tq} {σ : Sg} {D : PD} (hM : IsModel sh μ.2.2 m) (hS : RS m μ T σ D) (hc : cntOK D.1) (hf : D.2.2.2 ≠ 1)  : IMet yX12_spanLine gX12_spanLine sh [vR m] μ (fun x μ2 => LRes m μ T x (spanL T σ D) μ2) := by
  have hM0 := hM
  have hS0 := hS
  obtain ⟨g0, f1, z1, f2, z2, f3, z3, f4, z4, f5, z5, f6, z6, f7, z7, f8, z8, f9, z9, f10, z10, f11, z11, f12, z12, f13, z13, f14, z14⟩ := id hM
  obtain ⟨hT, ⟨hs, h0⟩, hA, hSp, hN, h14⟩ := id hS
  obtain ⟨t1, t2, t3⟩ := id hT
  have hcn := hc
  unfold cntOK at hcn
  have e1 : spanS1 T σ D = numC T σ 0 99 := by unfold spanS1; rw [iff_neg hf]
  have e2 : spanS2 T σ D = numC T (numC T σ 0 99).2 ((numC T σ 0 99).1 + 1) 99 := by unfold spanS2; rw [e1]
  have hN : spanL T σ D = ((spanS2 T σ D).2, rset (rset D.1 2 (spanS1 T σ D).1) 3 (spanS2 T σ D).1, D.2.1, D.2.2.1, 1) := rfl
  have ok1 := num_ok t2.2 hs 0 99
  rw [hN, e2, e1]
  clear hN e1 e2
  refine AMet.of (by decide) rfl (by decide) rfl ?_
  refine r_aload_n dX12_spanLine_0 rfl ?_
  refine r_iconst dX12_spanLine_1 ?_
  refine r_iconst dX12_spanLine_2 ?_
  refine r_bipush dX12_spanLine_3 (by decide) ?_
  refine r_cV3I dX12_spanLine_5 ml_X12_135 yl_X12_takes ⟨rfl, rfl⟩ (by assumption) ⟨_, rfl⟩ rfl rfl rfl rfl (m_takes hM0 hS0.1 hS0.2.1.1 hS0.2.1.2 hS0.2.2.1 (cell := 2) (lo := 0) (hi := 99) (by omega) (by omega) (by omega)) ?_
  rintro x0 μ1 hraw
  obtain ⟨L0, N0⟩ := takesR_of hS0 (by omega) hraw
  clear hraw
  have x01 := L0.x01
  have hM1 : IsModel sh μ1.2.2 m := by rw [L0.1.1]; exact hM0
  clear g0 f1 f2 f3 f4 f5 f6 f7 f8 f9 f10 f11 f12 f13 f14
  obtain ⟨g0, f1, z1, f2, z2, f3, z3, f4, z4, f5, z5, f6, z6, f7, z7, f8, z8, f9, z9, f10, z10, f11, z11, f12, z12, f13, z13, f14, z14⟩ := id hM1
  clear z1 z3 z4 z5 z6 z9 z10 z11 z12 z13 z14
  refine q_if_eq (tgt := 33) dX12_spanLine_8 rfl (by omega) (fun c8 => ?_) (fun c8 => ?_)
  · refine r_iconst dX12_spanLine_33 ?_
    refine r_zreturn dX12_spanLine_34 (by first | exact Or.inl rfl | exact Or.inr rfl | exact b2i_01 _ | omega) rfl rfl rfl ?_
    refine ⟨rfl, _, rfl, ?_⟩
    first
    | exact ⟨L0.1.tr L1.1, Or.inl ⟨rfl, L1.y (by omega)⟩⟩
    | exact (L1.pre L0.1).no (by omega) rfl
    | exact L0.no (by omega) (by show (numC T (numC T σ 0 99).2 ((numC T σ 0 99).1 + 1) 99).2 = _; rw [num_no (L0.n (by omega)).1])
  · have hS1 := L0.y (by omega)
    have e2 := hS1.2.2.2.1 2 (by omega) (by omega)
    dsimp only at e2
    rw [rset_eq] at e2
    refine r_aload_n dX12_spanLine_11 rfl ?_
    refine r_iconst dX12_spanLine_12 ?_
    refine r_aload_n dX12_spanLine_13 rfl ?_
    refine r_getR dX12_spanLine_14 fl_X12_13 rfl (by assumption) (by assumption) ?_
    refine r_iconst dX12_spanLine_17 ?_
    refine r_iald dX12_spanLine_18 (by assumption) rfl (by omega) ?_
    rw [e2]
    refine r_iconst dX12_spanLine_19 ?_
    refine r_iadd dX12_spanLine_20 ?_
    refine r_bipush dX12_spanLine_21 (by decide) ?_
    refine r_cV3I dX12_spanLine_23 ml_X12_135 yl_X12_takes ⟨rfl, rfl⟩ (by assumption) ⟨_, rfl⟩ rfl rfl rfl rfl (m_takes hM1 hS1.1 hS1.2.1.1 hS1.2.1.2 hS1.2.2.1 (cell := 3) (lo := (numC T σ 0 99).1 + 1) (hi := 99) (by omega) (by omega) (by omega)) ?_
    rintro x1 μ2 hraw
    obtain ⟨L1, N1⟩ := takesR_of hS1 (by omega) hraw
    clear hraw
    have x11 := L1.x01
    have hM2 : IsModel sh μ2.2.2 m := by rw [L1.1.1]; exact hM1
    clear g0 f1 f2 f3 f4 f5 f6 f7 f8 f9 f10 f11 f12 f13 f14
    obtain ⟨g0, f1, z1, f2, z2, f3, z3, f4, z4, f5, z5, f6, z6, f7, z7, f8, z8, f9, z9, f10, z10, f11, z11, f12, z12, f13, z13, f14, z14⟩ := id hM2
    clear z1 z3 z4 z5 z6 z9 z10 z11 z12 z13 z14
    refine q_if_eq (tgt := 33) dX12_spanLine_26 rfl (by omega) (fun c26 => ?_) (fun c26 => ?_)
    · refine r_iconst dX12_spanLine_33 ?_
      refine r_zreturn dX12_spanLine_34 (by first | exact Or.inl rfl | exact Or.inr rfl | exact b2i_01 _ | omega) rfl rfl rfl ?_
      refine ⟨rfl, _, rfl, ?_⟩
      first
      | exact ⟨L0.1.tr L1.1, Or.inl ⟨rfl, L1.y (by omega)⟩⟩
      | exact (L1.pre L0.1).no (by omega) rfl
      | exact L0.no (by omega) (by show (numC T (numC T σ 0 99).2 ((numC T σ 0 99).1 + 1) 99).2 = _; rw [num_no (L0.n (by omega)).1])
    · refine r_iconst dX12_spanLine_29 ?_
      refine r_goto (tgt := 34) dX12_spanLine_30 rfl ?_
      refine r_zreturn dX12_spanLine_34 (by first | exact Or.inl rfl | exact Or.inr rfl | exact b2i_01 _ | omega) rfl rfl rfl ?_
      refine ⟨rfl, _, rfl, ?_⟩
      first
      | exact ⟨L0.1.tr L1.1, Or.inl ⟨rfl, L1.y (by omega)⟩⟩
      | exact (L1.pre L0.1).no (by omega) rfl
      | exact L0.no (by omega) (by show (numC T (numC T σ 0 99).2 ((numC T σ 0 99).1 + 1) 99).2 = _; rw [num_no (L0.n (by omega)).1])
theorem RS.next {m : Nat} {μ μ2 : Mem} {T : Tq} {σ : Sg} {D : PD} (h : RS m μ T σ D) (hk : RK m μ μ2) (hA : AT m μ2 T (nxt T (nxt T σ))) : RS m μ2 T (nxt T σ) D := by
  obtain ⟨h1, h2, h3, h4, h5, h6⟩ := h
  refine ⟨h1.rk hk, ⟨(nxt_ok h1.2.1.2 h2.1).1, by rw [nxt_E]; exact h2.2⟩, hA, fun j j0 j1 => ?_, fun k hk2 => ?_, (hk.2.2 14 (by omega)).trans h6⟩
  · rw [hk.2.1 _ (by omega) (by omega)]; exact h4 j j0 j1
  · rw [hk.2.1 _ (by omega) (by omega)]; exact h5 k hk2
theorem RS.row {m : Nat} {μ : Mem} {T : Tq} {σ : Sg} {D D' : PD} (h : RS m μ T σ D) (e1 : D'.1 = D.1) (e2 : D'.2.1 = D.2.1) : RS m μ T σ D' := by
  obtain ⟨h1, h2, h3, h4, h5, h6⟩ := h
  exact ⟨h1, h2, h3, by rw [e1]; exact h4, fun k hk => by rw [e1] at hk; rw [e2]; exact h5 k hk, h6⟩
theorem m_spotLine {sh : Sh} {μ : Mem} {m : Nat} {T : Tq} {σ : Sg} {D : PD} (hM : IsModel sh μ.2.2 m) (hS : RS m μ T σ D) (hc : cntOK D.1) (h5 : D.1 5 < 6) (h4 : D.1 4 ≠ 0)  : IMet yX12_spotLine gX12_spotLine sh [vR m] μ (fun x μ2 => LRes m μ T x (spotL T σ D) μ2) := by
  have hM00 := hM
  obtain ⟨g0, f1, z1, f2, z2, f3, z3, f4, z4, f5, z5, f6, z6, f7, z7, f8, z8, f9, z9, f10, z10, f11, z11, f12, z12, f13, z13, f14, z14⟩ := id hM
  obtain ⟨hT, ⟨hs, h0⟩, hA, hSp, hN, h14⟩ := id hS
  obtain ⟨t1, t2, t3⟩ := id hT
  have hcn := hc
  unfold cntOK at hcn
  have e4 := hSp 4 (by omega) (by omega)
  have e5 := hSp 5 (by omega) (by omega)
  have e1 : spotS1 T σ D = numC T σ 0 99 := by unfold spotS1; rw [iff_neg h4, iff_neg (by omega)]
  have e2 : spotS2 T σ D = numC T (numC T σ 0 99).2 1 99 := by unfold spotS2; rw [e1]
  have hN : spotL T σ D = ((spotS2 T σ D).2, if sE (spotS2 T σ D).2 = 0 then addSpot D (spotS1 T σ D).1 (spotS2 T σ D).1 else D) := rfl
  rw [hN, e2, e1]
  clear hN e1 e2
  have hS0 := hS.set (c := 19 + D.1 5) (v := D.1 4 - 1) (by omega)
  have hM0 : IsModel sh (setI μ (m + 2) (19 + D.1 5) (D.1 4 - 1)).2.2 m := hM
  have k0 : RT m μ (setI μ (m + 2) (19 + D.1 5) (D.1 4 - 1)) := (RT.rf _ _).s2
  refine AMet.of (by decide) rfl (by decide) rfl ?_
  refine r_aload_n dX12_spotLine_0 rfl ?_
  refine r_getR dX12_spotLine_1 fl_X12_13 rfl (by assumption) (by assumption) ?_
  refine r_iconst dX12_spotLine_4 ?_
  refine r_iald dX12_spotLine_5 (by assumption) rfl (by omega) ?_
  rw [e5]
  refine r_istore_n dX12_spotLine_6 rfl ?_
  refine r_aload_n dX12_spotLine_7 rfl ?_
  refine r_getR dX12_spotLine_8 fl_X12_13 rfl (by assumption) (by assumption) ?_
  refine r_bipush dX12_spotLine_11 (by decide) ?_
  refine r_iload_n dX12_spotLine_13 rfl ?_
  refine r_iadd dX12_spotLine_14 ?_
  refine r_aload_n dX12_spotLine_15 rfl ?_
  refine r_getR dX12_spotLine_16 fl_X12_13 rfl (by assumption) (by assumption) ?_
  refine r_iconst dX12_spotLine_19 ?_
  refine r_iald dX12_spotLine_20 (by assumption) rfl (by omega) ?_
  rw [e4]
  refine r_iconst dX12_spotLine_21 ?_
  refine r_isub dX12_spotLine_22 ?_
  refine r_iast dX12_spotLine_23 (by assumption) rfl (by omega) ?_
  refine r_aload_n dX12_spotLine_24 rfl ?_
  refine r_bipush dX12_spotLine_25 (by decide) ?_
  refine r_iload_n dX12_spotLine_27 rfl ?_
  refine r_iadd dX12_spotLine_28 ?_
  refine r_iconst dX12_spotLine_29 ?_
  refine r_bipush dX12_spotLine_30 (by decide) ?_
  refine r_cV3I dX12_spotLine_32 ml_X12_135 yl_X12_takes ⟨rfl, rfl⟩ (by assumption) ⟨_, rfl⟩ rfl rfl rfl rfl (m_takes hM0 hS0.1 hS0.2.1.1 hS0.2.1.2 hS0.2.2.1 (cell := 25 + D.1 5) (lo := 0) (hi := 99) (by omega) (by omega) (by omega)) ?_
  rintro x0 μ1 hraw
  obtain ⟨L0, N0⟩ := takesR_of hS0 (by omega) hraw
  clear hraw
  have x01 := L0.x01
  have hM1 : IsModel sh μ1.2.2 m := by rw [L0.1.1]; exact hM0
  clear g0 f1 f2 f3 f4 f5 f6 f7 f8 f9 f10 f11 f12 f13 f14
  obtain ⟨g0, f1, z1, f2, z2, f3, z3, f4, z4, f5, z5, f6, z6, f7, z7, f8, z8, f9, z9, f10, z10, f11, z11, f12, z12, f13, z13, f14, z14⟩ := id hM1
  clear z1 z3 z4 z5 z6 z9 z10 z11 z12 z13 z14
  refine q_if_eq (tgt := 52) dX12_spotLine_35 rfl (by omega) (fun c35 => ?_) (fun c35 => ?_)
  · refine r_iconst dX12_spotLine_52 ?_
    refine r_zreturn dX12_spotLine_53 (by first | exact Or.inl rfl | exact Or.inr rfl | exact b2i_01 _ | omega) rfl rfl rfl ?_
    refine ⟨rfl, _, rfl, ?_⟩
    first
    | exact (L1.pre (k0.tr L0.1)).no (by omega) rfl
    | exact (L0.pre k0).no (by omega) (by show (numC T (numC T σ 0 99).2 1 99).2 = _; rw [num_no (L0.n (by omega)).1])
  · have hS1 := L0.y (by omega)
    refine r_aload_n dX12_spotLine_38 rfl ?_
    refine r_bipush dX12_spotLine_39 (by decide) ?_
    refine r_iload_n dX12_spotLine_41 rfl ?_
    refine r_iadd dX12_spotLine_42 ?_
    refine r_iconst dX12_spotLine_43 ?_
    refine r_bipush dX12_spotLine_44 (by decide) ?_
    refine r_cV3I dX12_spotLine_46 ml_X12_135 yl_X12_takes ⟨rfl, rfl⟩ (by assumption) ⟨_, rfl⟩ rfl rfl rfl rfl (m_takes hM1 hS1.1 hS1.2.1.1 hS1.2.1.2 hS1.2.2.1 (cell := 31 + D.1 5) (lo := 1) (hi := 99) (by omega) (by omega) (by omega)) ?_
    rintro x1 μ2 hraw
    obtain ⟨L1, N1⟩ := takesR_of hS1 (by omega) hraw
    clear hraw
    have x11 := L1.x01
    have hM2 : IsModel sh μ2.2.2 m := by rw [L1.1.1]; exact hM1
    clear g0 f1 f2 f3 f4 f5 f6 f7 f8 f9 f10 f11 f12 f13 f14
    obtain ⟨g0, f1, z1, f2, z2, f3, z3, f4, z4, f5, z5, f6, z6, f7, z7, f8, z8, f9, z9, f10, z10, f11, z11, f12, z12, f13, z13, f14, z14⟩ := id hM2
    clear z1 z3 z4 z5 z6 z9 z10 z11 z12 z13 z14
    refine q_if_ne (tgt := 54) dX12_spotLine_49 rfl (by omega) (fun c49 => ?_) (fun c49 => ?_)
    · have hS2 := L1.y (by omega)
      have e5 := hS2.2.2.2.1 5 (by omega) (by omega)
      (try dsimp only at e5)
      simp (disch := omega) only [rset_eq, rset_ne] at e5
      refine r_aload_n dX12_spotLine_54 rfl ?_
      refine r_getR dX12_spotLine_55 fl_X12_13 rfl (by assumption) (by assumption) ?_
      refine r_iconst dX12_spotLine_58 ?_
      refine r_dup2 dX12_spotLine_59 rfl rfl ?_
      refine r_iald dX12_spotLine_60 (by assumption) rfl (by omega) ?_
      rw [e5]
      refine r_iconst dX12_spotLine_61 ?_
      refine r_iadd dX12_spotLine_62 ?_
      refine r_iast dX12_spotLine_63 (by assumption) rfl (by omega) ?_
      refine r_iconst dX12_spotLine_64 ?_
      refine r_zreturn dX12_spotLine_65 (by first | exact Or.inl rfl | exact Or.inr rfl | exact b2i_01 _ | omega) rfl rfl rfl ?_
      refine ⟨rfl, _, rfl, ((k0.tr L0.1).tr L1.1).s2, Or.inl ⟨rfl, ?_⟩⟩
      rw [if_pos hS2.2.1.2]
      refine (hS2.set (c := 5) (v := D.1 5 + 1) (by omega)).row ?_ rfl
      rfl
    · refine r_iconst dX12_spotLine_52 ?_
      refine r_zreturn dX12_spotLine_53 (by first | exact Or.inl rfl | exact Or.inr rfl | exact b2i_01 _ | omega) rfl rfl rfl ?_
      refine ⟨rfl, _, rfl, ?_⟩
      first
      | exact (L1.pre (k0.tr L0.1)).no (by omega) rfl
      | exact (L0.pre k0).no (by omega) (by show (numC T (numC T σ 0 99).2 1 99).2 = _; rw [num_no (L0.n (by omega)).1])
theorem m_jointLine {sh : Sh} {μ : Mem} {m : Nat} {T : Tq} {σ : Sg} {D : PD} (hM : IsModel sh μ.2.2 m) (hS : RS m μ T σ D) (hc : cntOK D.1) (hcj : canJ D.1 = true) (h6 : D.1 6 ≤ 4)  : IMet yX12_jointLine gX12_jointLine sh [vR m] μ (fun x μ2 => LRes m μ T x (jointL T σ D) μ2) := by
  have hM00 := hM
  obtain ⟨g0, f1, z1, f2, z2, f3, z3, f4, z4, f5, z5, f6, z6, f7, z7, f8, z8, f9, z9, f10, z10, f11, z11, f12, z12, f13, z13, f14, z14⟩ := id hM
  obtain ⟨hT, ⟨hs, h0⟩, hA, hSp, hN, h14⟩ := id hS
  obtain ⟨t1, t2, t3⟩ := id hT
  have hcn := hc
  unfold cntOK at hcn
  have e5 := hSp 5 (by omega) (by omega)
  have e6 := hSp 6 (by omega) (by omega)
  have e1 : jointS1 T σ D = numC T σ 1 999 := by unfold jointS1; rw [iff_neg (by rw [hcj]; decide)]
  have hN : jointL T σ D = ((jointS1 T σ D).2, if sE (jointS1 T σ D).2 = 0 then addJoint D (jointS1 T σ D).1 else D) := rfl
  rw [hN, e1]
  clear hN e1
  have hS0 := hS.set (c := 37 + D.1 6) (v := D.1 5 - 2) (by omega)
  have hM0 : IsModel sh (setI μ (m + 2) (37 + D.1 6) (D.1 5 - 2)).2.2 m := hM
  have k0 : RT m μ (setI μ (m + 2) (37 + D.1 6) (D.1 5 - 2)) := (RT.rf _ _).s2
  refine AMet.of (by decide) rfl (by decide) rfl ?_
  refine r_aload_n dX12_jointLine_0 rfl ?_
  refine r_getR dX12_jointLine_1 fl_X12_13 rfl (by assumption) (by assumption) ?_
  refine r_bipush dX12_jointLine_4 (by decide) ?_
  refine r_iald dX12_jointLine_6 (by assumption) rfl (by omega) ?_
  rw [e6]
  refine r_istore_n dX12_jointLine_7 rfl ?_
  refine r_aload_n dX12_jointLine_8 rfl ?_
  refine r_getR dX12_jointLine_9 fl_X12_13 rfl (by assumption) (by assumption) ?_
  refine r_bipush dX12_jointLine_12 (by decide) ?_
  refine r_iload_n dX12_jointLine_14 rfl ?_
  refine r_iadd dX12_jointLine_15 ?_
  refine r_aload_n dX12_jointLine_16 rfl ?_
  refine r_getR dX12_jointLine_17 fl_X12_13 rfl (by assumption) (by assumption) ?_
  refine r_iconst dX12_jointLine_20 ?_
  refine r_iald dX12_jointLine_21 (by assumption) rfl (by omega) ?_
  rw [e5]
  refine r_iconst dX12_jointLine_22 ?_
  refine r_isub dX12_jointLine_23 ?_
  refine r_iast dX12_jointLine_24 (by assumption) rfl (by omega) ?_
  refine r_aload_n dX12_jointLine_25 rfl ?_
  refine r_bipush dX12_jointLine_26 (by decide) ?_
  refine r_iload_n dX12_jointLine_28 rfl ?_
  refine r_iadd dX12_jointLine_29 ?_
  refine r_iconst dX12_jointLine_30 ?_
  refine r_sipush dX12_jointLine_31 (by decide) ?_
  refine r_cV3I dX12_jointLine_34 ml_X12_135 yl_X12_takes ⟨rfl, rfl⟩ (by assumption) ⟨_, rfl⟩ rfl rfl rfl rfl (m_takes hM0 hS0.1 hS0.2.1.1 hS0.2.1.2 hS0.2.2.1 (cell := 42 + D.1 6) (lo := 1) (hi := 999) (by omega) (by omega) (by omega)) ?_
  rintro x0 μ1 hraw
  obtain ⟨L0, N0⟩ := takesR_of hS0 (by omega) hraw
  clear hraw
  have x01 := L0.x01
  have hM1 : IsModel sh μ1.2.2 m := by rw [L0.1.1]; exact hM0
  clear g0 f1 f2 f3 f4 f5 f6 f7 f8 f9 f10 f11 f12 f13 f14
  obtain ⟨g0, f1, z1, f2, z2, f3, z3, f4, z4, f5, z5, f6, z6, f7, z7, f8, z8, f9, z9, f10, z10, f11, z11, f12, z12, f13, z13, f14, z14⟩ := id hM1
  clear z1 z3 z4 z5 z6 z9 z10 z11 z12 z13 z14
  refine q_if_ne (tgt := 42) dX12_jointLine_37 rfl (by omega) (fun c37 => ?_) (fun c37 => ?_)
  · have hS2 := L0.y (by omega)
    have e6 := hS2.2.2.2.1 6 (by omega) (by omega)
    (try dsimp only at e6)
    simp (disch := omega) only [rset_eq, rset_ne] at e6
    refine r_aload_n dX12_jointLine_42 rfl ?_
    refine r_getR dX12_jointLine_43 fl_X12_13 rfl (by assumption) (by assumption) ?_
    refine r_bipush dX12_jointLine_46 (by decide) ?_
    refine r_dup2 dX12_jointLine_48 rfl rfl ?_
    refine r_iald dX12_jointLine_49 (by assumption) rfl (by omega) ?_
    rw [e6]
    refine r_iconst dX12_jointLine_50 ?_
    refine r_iadd dX12_jointLine_51 ?_
    refine r_iast dX12_jointLine_52 (by assumption) rfl (by omega) ?_
    refine r_iconst dX12_jointLine_53 ?_
    refine r_zreturn dX12_jointLine_54 (by first | exact Or.inl rfl | exact Or.inr rfl | exact b2i_01 _ | omega) rfl rfl rfl ?_
    refine ⟨rfl, _, rfl, (k0.tr L0.1).s2, Or.inl ⟨rfl, ?_⟩⟩
    rw [if_pos hS2.2.1.2]
    refine (hS2.set (c := 6) (v := D.1 6 + 1) (by omega)).row ?_ rfl
    rfl
  · refine r_iconst dX12_jointLine_40 ?_
    refine r_zreturn dX12_jointLine_41 (by first | exact Or.inl rfl | exact Or.inr rfl | exact b2i_01 _ | omega) rfl rfl rfl ?_
    exact ⟨rfl, _, rfl, (L0.pre k0).no (by omega) rfl⟩
theorem m_binLine {sh : Sh} {μ : Mem} {m : Nat} {T : Tq} {σ : Sg} {D : PD} (hM : IsModel sh μ.2.2 m) (hS : RS m μ T σ D) (hc : cntOK D.1) (h7 : D.1 7 < 2)  : IMet yX12_binLine gX12_binLine sh [vR m] μ (fun x μ2 => LRes m μ T x (binL T σ D) μ2) := by
  have hM0 := hM
  have hS0 := hS
  obtain ⟨g0, f1, z1, f2, z2, f3, z3, f4, z4, f5, z5, f6, z6, f7, z7, f8, z8, f9, z9, f10, z10, f11, z11, f12, z12, f13, z13, f14, z14⟩ := id hM
  obtain ⟨hT, ⟨hs, h0⟩, hA, hSp, hN, h14⟩ := id hS
  obtain ⟨t1, t2, t3⟩ := id hT
  have hcn := hc
  unfold cntOK at hcn
  have e7 := hSp 7 (by omega) (by omega)
  have e1 : binS1 T σ D = numC T σ 0 99 := by unfold binS1; rw [iff_neg (by omega)]
  have e2 : binS2 T σ D = numC T (numC T σ 0 99).2 1 99 := by unfold binS2; rw [e1]
  have hN : binL T σ D = ((binS2 T σ D).2, if sE (binS2 T σ D).2 = 0 then addBin D (binS1 T σ D).1 (binS2 T σ D).1 else D) := rfl
  rw [hN, e2, e1]
  clear hN e1 e2
  refine AMet.of (by decide) rfl (by decide) rfl ?_
  refine r_aload_n dX12_binLine_0 rfl ?_
  refine r_getR dX12_binLine_1 fl_X12_13 rfl (by assumption) (by assumption) ?_
  refine r_bipush dX12_binLine_4 (by decide) ?_
  refine r_iald dX12_binLine_6 (by assumption) rfl (by omega) ?_
  rw [e7]
  refine r_istore_n dX12_binLine_7 rfl ?_
  refine r_aload_n dX12_binLine_8 rfl ?_
  refine r_bipush dX12_binLine_9 (by decide) ?_
  refine r_iload_n dX12_binLine_11 rfl ?_
  refine r_iadd dX12_binLine_12 ?_
  refine r_iconst dX12_binLine_13 ?_
  refine r_bipush dX12_binLine_14 (by decide) ?_
  refine r_cV3I dX12_binLine_16 ml_X12_135 yl_X12_takes ⟨rfl, rfl⟩ (by assumption) ⟨_, rfl⟩ rfl rfl rfl rfl (m_takes hM0 hS0.1 hS0.2.1.1 hS0.2.1.2 hS0.2.2.1 (cell := 47 + D.1 7) (lo := 0) (hi := 99) (by omega) (by omega) (by omega)) ?_
  rintro x0 μ1 hraw
  obtain ⟨L0, N0⟩ := takesR_of hS0 (by omega) hraw
  clear hraw
  have x01 := L0.x01
  have hM1 : IsModel sh μ1.2.2 m := by rw [L0.1.1]; exact hM0
  clear g0 f1 f2 f3 f4 f5 f6 f7 f8 f9 f10 f11 f12 f13 f14
  obtain ⟨g0, f1, z1, f2, z2, f3, z3, f4, z4, f5, z5, f6, z6, f7, z7, f8, z8, f9, z9, f10, z10, f11, z11, f12, z12, f13, z13, f14, z14⟩ := id hM1
  clear z1 z3 z4 z5 z6 z9 z10 z11 z12 z13 z14
  refine q_if_eq (tgt := 36) dX12_binLine_19 rfl (by omega) (fun c19 => ?_) (fun c19 => ?_)
  · refine r_iconst dX12_binLine_36 ?_
    refine r_zreturn dX12_binLine_37 (by first | exact Or.inl rfl | exact Or.inr rfl | exact b2i_01 _ | omega) rfl rfl rfl ?_
    refine ⟨rfl, _, rfl, ?_⟩
    first
    | exact (L1.pre L0.1).no (by omega) rfl
    | exact L0.no (by omega) (by show (numC T (numC T σ 0 99).2 1 99).2 = _; rw [num_no (L0.n (by omega)).1])
  · have hS1 := L0.y (by omega)
    refine r_aload_n dX12_binLine_22 rfl ?_
    refine r_bipush dX12_binLine_23 (by decide) ?_
    refine r_iload_n dX12_binLine_25 rfl ?_
    refine r_iadd dX12_binLine_26 ?_
    refine r_iconst dX12_binLine_27 ?_
    refine r_bipush dX12_binLine_28 (by decide) ?_
    refine r_cV3I dX12_binLine_30 ml_X12_135 yl_X12_takes ⟨rfl, rfl⟩ (by assumption) ⟨_, rfl⟩ rfl rfl rfl rfl (m_takes hM1 hS1.1 hS1.2.1.1 hS1.2.1.2 hS1.2.2.1 (cell := 49 + D.1 7) (lo := 1) (hi := 99) (by omega) (by omega) (by omega)) ?_
    rintro x1 μ2 hraw
    obtain ⟨L1, N1⟩ := takesR_of hS1 (by omega) hraw
    clear hraw
    have x11 := L1.x01
    have hM2 : IsModel sh μ2.2.2 m := by rw [L1.1.1]; exact hM1
    clear g0 f1 f2 f3 f4 f5 f6 f7 f8 f9 f10 f11 f12 f13 f14
    obtain ⟨g0, f1, z1, f2, z2, f3, z3, f4, z4, f5, z5, f6, z6, f7, z7, f8, z8, f9, z9, f10, z10, f11, z11, f12, z12, f13, z13, f14, z14⟩ := id hM2
    clear z1 z3 z4 z5 z6 z9 z10 z11 z12 z13 z14
    refine q_if_ne (tgt := 38) dX12_binLine_33 rfl (by omega) (fun c33 => ?_) (fun c33 => ?_)
    · have hS2 := L1.y (by omega)
      have e7 := hS2.2.2.2.1 7 (by omega) (by omega)
      (try dsimp only at e7)
      simp (disch := omega) only [rset_eq, rset_ne] at e7
      refine r_aload_n dX12_binLine_38 rfl ?_
      refine r_getR dX12_binLine_39 fl_X12_13 rfl (by assumption) (by assumption) ?_
      refine r_bipush dX12_binLine_42 (by decide) ?_
      refine r_dup2 dX12_binLine_44 rfl rfl ?_
      refine r_iald dX12_binLine_45 (by assumption) rfl (by omega) ?_
      rw [e7]
      refine r_iconst dX12_binLine_46 ?_
      refine r_iadd dX12_binLine_47 ?_
      refine r_iast dX12_binLine_48 (by assumption) rfl (by omega) ?_
      refine r_iconst dX12_binLine_49 ?_
      refine r_zreturn dX12_binLine_50 (by first | exact Or.inl rfl | exact Or.inr rfl | exact b2i_01 _ | omega) rfl rfl rfl ?_
      refine ⟨rfl, _, rfl, (L0.1.tr L1.1).s2, Or.inl ⟨rfl, ?_⟩⟩
      rw [if_pos hS2.2.1.2]
      refine (hS2.set (c := 7) (v := D.1 7 + 1) (by omega)).row ?_ rfl
      rfl
    · refine r_iconst dX12_binLine_36 ?_
      refine r_zreturn dX12_binLine_37 (by first | exact Or.inl rfl | exact Or.inr rfl | exact b2i_01 _ | omega) rfl rfl rfl ?_
      refine ⟨rfl, _, rfl, ?_⟩
      first
      | exact (L1.pre L0.1).no (by omega) rfl
      | exact L0.no (by omega) (by show (numC T (numC T σ 0 99).2 1 99).2 = _; rw [num_no (L0.n (by omega)).1])
theorem m_tankLine {sh : Sh} {μ : Mem} {m : Nat} {T : Tq} {σ : Sg} {D : PD} (hM : IsModel sh μ.2.2 m) (hS : RS m μ T σ D) (hc : cntOK D.1) (h8 : D.1 8 < 3)  : IMet yX12_tankLine gX12_tankLine sh [vR m] μ (fun x μ2 => LRes m μ T x (tankL T σ D) μ2) := by
  have hM0 := hM
  have hS0 := hS
  obtain ⟨g0, f1, z1, f2, z2, f3, z3, f4, z4, f5, z5, f6, z6, f7, z7, f8, z8, f9, z9, f10, z10, f11, z11, f12, z12, f13, z13, f14, z14⟩ := id hM
  obtain ⟨hT, ⟨hs, h0⟩, hA, hSp, hN, h14⟩ := id hS
  obtain ⟨t1, t2, t3⟩ := id hT
  have hcn := hc
  unfold cntOK at hcn
  have e8 := hSp 8 (by omega) (by omega)
  have e1 : tankS1 T σ D = newN T σ D := by unfold tankS1; rw [iff_neg (by omega)]
  have e2 : tankS2 T σ D = numC T (newN T σ D).2 0 99 := by unfold tankS2; rw [e1]
  have e3 : tankS3 T σ D = numC T (numC T (newN T σ D).2 0 99).2 1 99 := by unfold tankS3; rw [e2]
  have hN : tankL T σ D = ((tankS3 T σ D).2, if sE (tankS3 T σ D).2 = 0 then addTank D (tankS1 T σ D).1 (tankS2 T σ D).1 (tankS3 T σ D).1 else D) := rfl
  rw [hN, e3, e2, e1]
  clear hN e1 e2 e3
  refine AMet.of (by decide) rfl (by decide) rfl ?_
  refine r_aload_n dX12_tankLine_0 rfl ?_
  refine r_getR dX12_tankLine_1 fl_X12_13 rfl (by assumption) (by assumption) ?_
  refine r_bipush dX12_tankLine_4 (by decide) ?_
  refine r_iald dX12_tankLine_6 (by assumption) rfl (by omega) ?_
  rw [e8]
  refine r_istore_n dX12_tankLine_7 rfl ?_
  refine r_aload_n dX12_tankLine_8 rfl ?_
  refine r_iconst dX12_tankLine_9 ?_
  refine r_iload_n dX12_tankLine_10 rfl ?_
  refine r_iadd dX12_tankLine_11 ?_
  refine r_cV1I dX12_tankLine_12 ml_X12_138 yl_X12_takesName ⟨rfl, rfl⟩ (by assumption) ⟨_, rfl⟩ rfl rfl rfl rfl (m_takesName hM0 hS0.1 hS0.2.1.1 hS0.2.1.2 hS0.2.2.1 hS0.2.2.2.2.1 hS0.2.2.2.1 hc (k0 := 3 + D.1 8) (by omega)) ?_
  rintro x0 μ1 hraw
  obtain ⟨L0, N0⟩ := takesNameR_of hS0 hc (by omega) (by unfold usedN; omega) hraw
  clear hraw
  have x01 := L0.x01
  have hM1 : IsModel sh μ1.2.2 m := by rw [L0.1.1]; exact hM0
  clear g0 f1 f2 f3 f4 f5 f6 f7 f8 f9 f10 f11 f12 f13 f14
  obtain ⟨g0, f1, z1, f2, z2, f3, z3, f4, z4, f5, z5, f6, z6, f7, z7, f8, z8, f9, z9, f10, z10, f11, z11, f12, z12, f13, z13, f14, z14⟩ := id hM1
  clear z1 z3 z4 z5 z6 z9 z10 z11 z12 z13 z14
  refine q_if_eq (tgt := 46) dX12_tankLine_15 rfl (by omega) (fun c15 => ?_) (fun c15 => ?_)
  · refine r_iconst dX12_tankLine_46 ?_
    refine r_zreturn dX12_tankLine_47 (by first | exact Or.inl rfl | exact Or.inr rfl | exact b2i_01 _ | omega) rfl rfl rfl ?_
    refine ⟨rfl, _, rfl, ?_⟩
    first
    | exact (L2.pre (L0.1.tr L1.1)).no (by omega) rfl
    | exact (L1.pre L0.1).no (by omega) (by show (numC T (numC T (newN T σ D).2 0 99).2 1 99).2 = _; rw [num_no (L1.n (by omega)).1])
    | exact L0.no (by omega) (by show (numC T (numC T (newN T σ D).2 0 99).2 1 99).2 = _; rw [num_no (lo := 0) (L0.n (by omega)).1]; dsimp only; rw [num_no (L0.n (by omega)).1])
  · have hS1 := L0.y (by omega)
    have N0 := N0 (by omega)
    refine r_aload_n dX12_tankLine_18 rfl ?_
    refine r_bipush dX12_tankLine_19 (by decide) ?_
    refine r_iload_n dX12_tankLine_21 rfl ?_
    refine r_iadd dX12_tankLine_22 ?_
    refine r_iconst dX12_tankLine_23 ?_
    refine r_bipush dX12_tankLine_24 (by decide) ?_
    refine r_cV3I dX12_tankLine_26 ml_X12_135 yl_X12_takes ⟨rfl, rfl⟩ (by assumption) ⟨_, rfl⟩ rfl rfl rfl rfl (m_takes hM1 hS1.1 hS1.2.1.1 hS1.2.1.2 hS1.2.2.1 (cell := 53 + D.1 8) (lo := 0) (hi := 99) (by omega) (by omega) (by omega)) ?_
    rintro x1 μ2 hraw
    obtain ⟨L1, N1⟩ := takesR_of hS1 (by omega) hraw
    clear hraw
    have x11 := L1.x01
    have hM2 : IsModel sh μ2.2.2 m := by rw [L1.1.1]; exact hM1
    clear g0 f1 f2 f3 f4 f5 f6 f7 f8 f9 f10 f11 f12 f13 f14
    obtain ⟨g0, f1, z1, f2, z2, f3, z3, f4, z4, f5, z5, f6, z6, f7, z7, f8, z8, f9, z9, f10, z10, f11, z11, f12, z12, f13, z13, f14, z14⟩ := id hM2
    clear z1 z3 z4 z5 z6 z9 z10 z11 z12 z13 z14
    refine q_if_eq (tgt := 46) dX12_tankLine_29 rfl (by omega) (fun c29 => ?_) (fun c29 => ?_)
    · refine r_iconst dX12_tankLine_46 ?_
      refine r_zreturn dX12_tankLine_47 (by first | exact Or.inl rfl | exact Or.inr rfl | exact b2i_01 _ | omega) rfl rfl rfl ?_
      refine ⟨rfl, _, rfl, ?_⟩
      first
      | exact (L2.pre (L0.1.tr L1.1)).no (by omega) rfl
      | exact (L1.pre L0.1).no (by omega) (by show (numC T (numC T (newN T σ D).2 0 99).2 1 99).2 = _; rw [num_no (L1.n (by omega)).1])
      | exact L0.no (by omega) (by show (numC T (numC T (newN T σ D).2 0 99).2 1 99).2 = _; rw [num_no (lo := 0) (L0.n (by omega)).1]; dsimp only; rw [num_no (L0.n (by omega)).1])
    · have hS2 := L1.y (by omega)
      refine r_aload_n dX12_tankLine_32 rfl ?_
      refine r_bipush dX12_tankLine_33 (by decide) ?_
      refine r_iload_n dX12_tankLine_35 rfl ?_
      refine r_iadd dX12_tankLine_36 ?_
      refine r_iconst dX12_tankLine_37 ?_
      refine r_bipush dX12_tankLine_38 (by decide) ?_
      refine r_cV3I dX12_tankLine_40 ml_X12_135 yl_X12_takes ⟨rfl, rfl⟩ (by assumption) ⟨_, rfl⟩ rfl rfl rfl rfl (m_takes hM2 hS2.1 hS2.2.1.1 hS2.2.1.2 hS2.2.2.1 (cell := 56 + D.1 8) (lo := 1) (hi := 99) (by omega) (by omega) (by omega)) ?_
      rintro x2 μ3 hraw
      obtain ⟨L2, N2⟩ := takesR_of hS2 (by omega) hraw
      clear hraw
      have x21 := L2.x01
      have hM3 : IsModel sh μ3.2.2 m := by rw [L2.1.1]; exact hM2
      clear g0 f1 f2 f3 f4 f5 f6 f7 f8 f9 f10 f11 f12 f13 f14
      obtain ⟨g0, f1, z1, f2, z2, f3, z3, f4, z4, f5, z5, f6, z6, f7, z7, f8, z8, f9, z9, f10, z10, f11, z11, f12, z12, f13, z13, f14, z14⟩ := id hM3
      clear z1 z3 z4 z5 z6 z9 z10 z11 z12 z13 z14
      refine q_if_ne (tgt := 48) dX12_tankLine_43 rfl (by omega) (fun c43 => ?_) (fun c43 => ?_)
      · have hS3 := L2.y (by omega)
        have e8 := hS3.2.2.2.1 8 (by omega) (by omega)
        (try dsimp only at e8)
        simp (disch := omega) only [rset_eq, rset_ne] at e8
        refine r_aload_n dX12_tankLine_48 rfl ?_
        refine r_getR dX12_tankLine_49 fl_X12_13 rfl (by assumption) (by assumption) ?_
        refine r_bipush dX12_tankLine_52 (by decide) ?_
        refine r_dup2 dX12_tankLine_54 rfl rfl ?_
        refine r_iald dX12_tankLine_55 (by assumption) rfl (by omega) ?_
        rw [e8]
        refine r_iconst dX12_tankLine_56 ?_
        refine r_iadd dX12_tankLine_57 ?_
        refine r_iast dX12_tankLine_58 (by assumption) rfl (by omega) ?_
        refine r_iconst dX12_tankLine_59 ?_
        refine r_zreturn dX12_tankLine_60 (by first | exact Or.inl rfl | exact Or.inr rfl | exact b2i_01 _ | omega) rfl rfl rfl ?_
        refine ⟨rfl, _, rfl, ((L0.1.tr L1.1).tr L2.1).s2, Or.inl ⟨rfl, ?_⟩⟩
        rw [if_pos hS3.2.1.2]
        have hq := hS3.cnt (c := 8) (s := 3 + D.1 8) (by unfold cntOK; dsimp only; simp (disch := omega) only [rset_eq, rset_ne]; omega) (Or.inr ⟨rfl, by dsimp only; simp (disch := omega) only [rset_eq, rset_ne]⟩) (by
          dsimp only
          unfold nset
          rw [if_pos rfl, N2, N1]
          exact N0)
        dsimp only at hq
        simp (disch := omega) only [rset_ne] at hq
        exact hq.row rfl rfl
      · refine r_iconst dX12_tankLine_46 ?_
        refine r_zreturn dX12_tankLine_47 (by first | exact Or.inl rfl | exact Or.inr rfl | exact b2i_01 _ | omega) rfl rfl rfl ?_
        refine ⟨rfl, _, rfl, ?_⟩
        first
        | exact (L2.pre (L0.1.tr L1.1)).no (by omega) rfl
        | exact (L1.pre L0.1).no (by omega) (by show (numC T (numC T (newN T σ D).2 0 99).2 1 99).2 = _; rw [num_no (L1.n (by omega)).1])
        | exact L0.no (by omega) (by show (numC T (numC T (newN T σ D).2 0 99).2 1 99).2 = _; rw [num_no (lo := 0) (L0.n (by omega)).1]; dsimp only; rw [num_no (L0.n (by omega)).1])
theorem m_holdLine {sh : Sh} {μ : Mem} {m : Nat} {T : Tq} {σ : Sg} {D : PD} (hM : IsModel sh μ.2.2 m) (hS : RS m μ T σ D) (hc : cntOK D.1) (h4 : D.1 4 < 3)  : IMet yX12_holdLine gX12_holdLine sh [vR m] μ (fun x μ2 => LRes m μ T x (holdL T σ D) μ2) := by
  have hM0 := hM
  have hS0 := hS
  obtain ⟨g0, f1, z1, f2, z2, f3, z3, f4, z4, f5, z5, f6, z6, f7, z7, f8, z8, f9, z9, f10, z10, f11, z11, f12, z12, f13, z13, f14, z14⟩ := id hM
  obtain ⟨hT, ⟨hs, h0⟩, hA, hSp, hN, h14⟩ := id hS
  obtain ⟨t1, t2, t3⟩ := id hT
  have hcn := hc
  unfold cntOK at hcn
  have e4 := hSp 4 (by omega) (by omega)
  have e1 : holdS1 T σ D = newN T σ D := by unfold holdS1; rw [iff_neg (by omega)]
  have e2 : holdS2 T σ D = numC T (newN T σ D).2 1 999 := by unfold holdS2; rw [e1]
  have e3 : holdS3 T σ D = frontC T (numC T (newN T σ D).2 1 999).2 := by unfold holdS3; rw [e2]
  have hN : holdL T σ D = ((holdS3 T σ D).2, if sE (holdS3 T σ D).2 = 0 then addHold D (holdS1 T σ D).1 (holdS2 T σ D).1 (holdS3 T σ D).1 else D) := rfl
  rw [hN, e3, e2, e1]
  clear hN e1 e2 e3
  have hfr : ∀ τ : Sg, frontC T τ = (b2i (tellsF T (nxt T τ) 11), if tellsF T (nxt T τ) 11 = true ∨ tellsF T (nxt T τ) 12 = true then nxt T τ else failC (nxt T τ) 1) := fun _ => rfl
  have hfno : ∀ τ : Sg, sE τ ≠ 0 → (frontC T τ).2 = τ := fun τ h => by
    rw [hfr]
    dsimp only
    rw [nxt_no h]
    split
    · rfl
    · exact fail_no h 1
  refine AMet.of (by decide) rfl (by decide) rfl ?_
  refine r_aload_n dX12_holdLine_0 rfl ?_
  refine r_getR dX12_holdLine_1 fl_X12_13 rfl (by assumption) (by assumption) ?_
  refine r_iconst dX12_holdLine_4 ?_
  refine r_iald dX12_holdLine_5 (by assumption) rfl (by omega) ?_
  rw [e4]
  refine r_istore_n dX12_holdLine_6 rfl ?_
  refine r_aload_n dX12_holdLine_7 rfl ?_
  refine r_iload_n dX12_holdLine_8 rfl ?_
  refine r_cV1I dX12_holdLine_9 ml_X12_138 yl_X12_takesName ⟨rfl, rfl⟩ (by assumption) ⟨_, rfl⟩ rfl rfl rfl rfl (m_takesName hM0 hS0.1 hS0.2.1.1 hS0.2.1.2 hS0.2.2.1 hS0.2.2.2.2.1 hS0.2.2.2.1 hc (k0 := D.1 4) (by omega)) ?_
  rintro x0 μ1 hraw
  obtain ⟨L0, N0⟩ := takesNameR_of hS0 hc (by omega) (by unfold usedN; omega) hraw
  clear hraw
  have x01 := L0.x01
  have hM1 : IsModel sh μ1.2.2 m := by rw [L0.1.1]; exact hM0
  clear g0 f1 f2 f3 f4 f5 f6 f7 f8 f9 f10 f11 f12 f13 f14
  obtain ⟨g0, f1, z1, f2, z2, f3, z3, f4, z4, f5, z5, f6, z6, f7, z7, f8, z8, f9, z9, f10, z10, f11, z11, f12, z12, f13, z13, f14, z14⟩ := id hM1
  clear z1 z3 z4 z5 z6 z9 z10 z11 z12 z13 z14
  refine q_if_eq (tgt := 30) dX12_holdLine_12 rfl (by omega) (fun c12 => ?_) (fun c12 => ?_)
  · refine r_iconst dX12_holdLine_30 ?_
    refine r_zreturn dX12_holdLine_31 (by first | exact Or.inl rfl | exact Or.inr rfl | exact b2i_01 _ | omega) rfl rfl rfl ?_
    refine ⟨rfl, _, rfl, ?_⟩
    first
    | exact (L1.pre L0.1).no (by omega) (hfno _ (L1.n (by omega)).1)
    | exact L0.no (by omega) (by show (frontC T (numC T (newN T σ D).2 1 999).2).2 = _; rw [num_no (L0.n (by omega)).1]; exact hfno _ (L0.n (by omega)).1)
  · have hS1 : RS m μ1 T (newN T σ D).2 (D.1, nset D.2.1 (D.1 4) (newN T σ D).1, D.2.2) := L0.y (by omega)
    have N0 := N0 (by omega)
    refine r_aload_n dX12_holdLine_15 rfl ?_
    refine r_bipush dX12_holdLine_16 (by decide) ?_
    refine r_iload_n dX12_holdLine_18 rfl ?_
    refine r_iadd dX12_holdLine_19 ?_
    refine r_iconst dX12_holdLine_20 ?_
    refine r_sipush dX12_holdLine_21 (by decide) ?_
    refine r_cV3I dX12_holdLine_24 ml_X12_135 yl_X12_takes ⟨rfl, rfl⟩ (by assumption) ⟨_, rfl⟩ rfl rfl rfl rfl (m_takes hM1 hS1.1 hS1.2.1.1 hS1.2.1.2 hS1.2.2.1 (cell := 13 + D.1 4) (lo := 1) (hi := 999) (by omega) (by omega) (by omega)) ?_
    rintro x1 μ2 hraw
    obtain ⟨L1, N1⟩ := takesR_of hS1 (by omega) hraw
    clear hraw
    have x11 := L1.x01
    have hM2 : IsModel sh μ2.2.2 m := by rw [L1.1.1]; exact hM1
    clear g0 f1 f2 f3 f4 f5 f6 f7 f8 f9 f10 f11 f12 f13 f14
    obtain ⟨g0, f1, z1, f2, z2, f3, z3, f4, z4, f5, z5, f6, z6, f7, z7, f8, z8, f9, z9, f10, z10, f11, z11, f12, z12, f13, z13, f14, z14⟩ := id hM2
    clear z1 z3 z4 z5 z6 z9 z10 z11 z12 z13 z14
    refine q_if_ne (tgt := 32) dX12_holdLine_27 rfl (by omega) (fun c27 => ?_) (fun c27 => ?_)
    · have hS2 : RS m μ2 T (numC T (newN T σ D).2 1 999).2 (rset D.1 (13 + D.1 4) (numC T (newN T σ D).2 1 999).1, nset D.2.1 (D.1 4) (newN T σ D).1, D.2.2) := L1.y (by omega)
      obtain ⟨hE2, hK2, hw2, ok2⟩ := nxt_hand t2.2 hS2.2.1.1 hS2.2.1.2
      have kr := knownF_rng T (nxt T (numC T (newN T σ D).2 1 999).2)
      have k11 := known_iff (T := T) (τ := nxt T (numC T (newN T σ D).2 1 999).2) (k := 11) (by omega)
      have k12 := known_iff (T := T) (τ := nxt T (numC T (newN T σ D).2 1 999).2) (k := 12) (by omega)
      have e4 := hS2.2.2.2.1 4 (by omega) (by omega)
      (try dsimp only at e4)
      simp (disch := omega) only [rset_eq, rset_ne] at e4
      refine r_aload_n dX12_holdLine_32 rfl ?_
      refine r_cV0F1 dX12_holdLine_33 ml_X12_113 yl_X12_known ⟨rfl, rfl⟩ (by assumption) ⟨_, rfl⟩ rfl rfl rfl rfl (m_known hM2 hS2.2.2.1 hw2 hE2 hK2) ?_
      refine r_istore_n dX12_holdLine_36 rfl ?_
      refine r_iload_n dX12_holdLine_37 rfl ?_
      refine r_bipush dX12_holdLine_38 (by decide) ?_
      refine q_icmp_eq (tgt := 55) dX12_holdLine_40 rfl (by omega) (by omega) (fun c40 => ?_) (fun c40 => ?_)
      · refine r_aload_n dX12_holdLine_55 rfl ?_
        refine r_getR dX12_holdLine_56 fl_X12_13 rfl (by assumption) (by assumption) ?_
        refine r_bipush dX12_holdLine_59 (by decide) ?_
        refine r_iload_n dX12_holdLine_61 rfl ?_
        refine r_iadd dX12_holdLine_62 ?_
        refine r_iload_n dX12_holdLine_63 rfl ?_
        refine r_bipush dX12_holdLine_64 (by decide) ?_
        refine q_icmp_ne (tgt := 73) dX12_holdLine_66 rfl (by omega) (by omega) (fun c66 => ?_) (fun c66 => ?_)
        · have h92 : (setI (setI μ2 (m + 2) (16 + D.1 4) 0) (m + 2) 4 (D.1 4 + 1)).1 m 9 = sT (nxt T (numC T (newN T σ D).2 1 999).2) := by
            simp (disch := omega) only [sI_ne]
            refine hS2.2.2.1.2.2.1 (fun h4 => ?_)
            have hkn : tellsF T (nxt T (numC T (newN T σ D).2 1 999).2) 11 = true ∨ tellsF T (nxt T (numC T (newN T σ D).2 1 999).2) 12 = true := by
              rw [← k11, ← k12]; omega
            rcases hkn with h | h <;>
            · unfold tellsF at h
              rw [Bool.and_eq_true, decide_eq_true_eq] at h
              omega
          refine r_iconst dX12_holdLine_73 ?_
          refine r_iast dX12_holdLine_74 (by assumption) rfl (by omega) ?_
          refine r_aload_n dX12_holdLine_75 rfl ?_
          refine r_getR dX12_holdLine_76 fl_X12_13 rfl (by assumption) (by assumption) ?_
          refine r_iconst dX12_holdLine_79 ?_
          refine r_dup2 dX12_holdLine_80 rfl rfl ?_
          refine r_iald dX12_holdLine_81 (by assumption) rfl (by omega) ?_
          simp (disch := omega) only [sI_nj]
          rw [e4]
          refine r_iconst dX12_holdLine_82 ?_
          refine r_iadd dX12_holdLine_83 ?_
          refine r_iast dX12_holdLine_84 (by assumption) rfl (by omega) ?_
          refine r_aload_n dX12_holdLine_85 rfl ?_
          refine r_cV0N dX12_holdLine_86 ml_X12_121 yl_X12_next ⟨rfl, rfl⟩ (by assumption) ⟨_, rfl⟩ rfl rfl rfl rfl (m_nextT (μ := setI (setI μ2 (m + 2) (16 + D.1 4) 0) (m + 2) 4 (D.1 4 + 1)) hM2 ((hS2.set (c := 16 + D.1 4) (v := 0) (by omega)).1.rt (RT.rf _ _).s2) ok2 hE2 h92) ?_
          rintro μ4 ⟨k4, A4⟩
          refine r_iconst dX12_holdLine_89 ?_
          refine r_zreturn dX12_holdLine_90 (by first | exact Or.inl rfl | exact Or.inr rfl | exact b2i_01 _ | omega) rfl rfl rfl ?_
          first
          | (exfalso; omega)
          | (have hyes : frontC T (numC T (newN T σ D).2 1 999).2 = (1 - 0, nxt T (numC T (newN T σ D).2 1 999).2) := by
               rw [hfr, if_pos (show tellsF T (nxt T (numC T (newN T σ D).2 1 999).2) 11 = true ∨ tellsF T (nxt T (numC T (newN T σ D).2 1 999).2) 12 = true by rw [← k11, ← k12]; omega)]
               refine Prod.ext ?_ rfl
               dsimp only
               first
               | (rw [k11.1 (by omega)]; rfl)
               | (have hf : tellsF T (nxt T (numC T (newN T σ D).2 1 999).2) 11 = false := by
                    rw [← Bool.not_eq_true, ← k11]; omega
                  rw [hf]; rfl)
             refine ⟨rfl, _, rfl, (((L0.1.tr L1.1).s2).s2).rk k4, Or.inl ⟨rfl, ?_⟩⟩
             rw [hyes]
             dsimp only
             rw [if_pos hE2]
             have hS3 := hS2.set (c := 16 + D.1 4) (v := 0) (by omega)
             have hq := hS3.cnt (c := 4) (s := D.1 4) (by unfold cntOK; dsimp only; simp (disch := omega) only [rset_eq, rset_ne]; omega) (Or.inl ⟨rfl, by dsimp only; simp (disch := omega) only [rset_eq, rset_ne]⟩) (by
               dsimp only
               unfold nset
               rw [if_pos rfl, setI_ne (by omega), N1]
               exact N0)
             dsimp only at hq
             simp (disch := omega) only [rset_ne] at hq
             refine (hq.next k4 A4).row ?_ rfl
             unfold addHold
             rw [show (1 : Int) - (1 - 0) = 0 by omega])
        · have h92 : (setI (setI μ2 (m + 2) (16 + D.1 4) 1) (m + 2) 4 (D.1 4 + 1)).1 m 9 = sT (nxt T (numC T (newN T σ D).2 1 999).2) := by
            simp (disch := omega) only [sI_ne]
            refine hS2.2.2.1.2.2.1 (fun h4 => ?_)
            have hkn : tellsF T (nxt T (numC T (newN T σ D).2 1 999).2) 11 = true ∨ tellsF T (nxt T (numC T (newN T σ D).2 1 999).2) 12 = true := by
              rw [← k11, ← k12]; omega
            rcases hkn with h | h <;>
            · unfold tellsF at h
              rw [Bool.and_eq_true, decide_eq_true_eq] at h
              omega
          refine r_iconst dX12_holdLine_69 ?_
          refine r_goto (tgt := 74) dX12_holdLine_70 rfl ?_
          refine r_iast dX12_holdLine_74 (by assumption) rfl (by omega) ?_
          refine r_aload_n dX12_holdLine_75 rfl ?_
          refine r_getR dX12_holdLine_76 fl_X12_13 rfl (by assumption) (by assumption) ?_
          refine r_iconst dX12_holdLine_79 ?_
          refine r_dup2 dX12_holdLine_80 rfl rfl ?_
          refine r_iald dX12_holdLine_81 (by assumption) rfl (by omega) ?_
          simp (disch := omega) only [sI_nj]
          rw [e4]
          refine r_iconst dX12_holdLine_82 ?_
          refine r_iadd dX12_holdLine_83 ?_
          refine r_iast dX12_holdLine_84 (by assumption) rfl (by omega) ?_
          refine r_aload_n dX12_holdLine_85 rfl ?_
          refine r_cV0N dX12_holdLine_86 ml_X12_121 yl_X12_next ⟨rfl, rfl⟩ (by assumption) ⟨_, rfl⟩ rfl rfl rfl rfl (m_nextT (μ := setI (setI μ2 (m + 2) (16 + D.1 4) 1) (m + 2) 4 (D.1 4 + 1)) hM2 ((hS2.set (c := 16 + D.1 4) (v := 1) (by omega)).1.rt (RT.rf _ _).s2) ok2 hE2 h92) ?_
          rintro μ4 ⟨k4, A4⟩
          refine r_iconst dX12_holdLine_89 ?_
          refine r_zreturn dX12_holdLine_90 (by first | exact Or.inl rfl | exact Or.inr rfl | exact b2i_01 _ | omega) rfl rfl rfl ?_
          first
          | (exfalso; omega)
          | (have hyes : frontC T (numC T (newN T σ D).2 1 999).2 = (1 - 1, nxt T (numC T (newN T σ D).2 1 999).2) := by
               rw [hfr, if_pos (show tellsF T (nxt T (numC T (newN T σ D).2 1 999).2) 11 = true ∨ tellsF T (nxt T (numC T (newN T σ D).2 1 999).2) 12 = true by rw [← k11, ← k12]; omega)]
               refine Prod.ext ?_ rfl
               dsimp only
               first
               | (rw [k11.1 (by omega)]; rfl)
               | (have hf : tellsF T (nxt T (numC T (newN T σ D).2 1 999).2) 11 = false := by
                    rw [← Bool.not_eq_true, ← k11]; omega
                  rw [hf]; rfl)
             refine ⟨rfl, _, rfl, (((L0.1.tr L1.1).s2).s2).rk k4, Or.inl ⟨rfl, ?_⟩⟩
             rw [hyes]
             dsimp only
             rw [if_pos hE2]
             have hS3 := hS2.set (c := 16 + D.1 4) (v := 1) (by omega)
             have hq := hS3.cnt (c := 4) (s := D.1 4) (by unfold cntOK; dsimp only; simp (disch := omega) only [rset_eq, rset_ne]; omega) (Or.inl ⟨rfl, by dsimp only; simp (disch := omega) only [rset_eq, rset_ne]⟩) (by
               dsimp only
               unfold nset
               rw [if_pos rfl, setI_ne (by omega), N1]
               exact N0)
             dsimp only at hq
             simp (disch := omega) only [rset_ne] at hq
             refine (hq.next k4 A4).row ?_ rfl
             unfold addHold
             rw [show (1 : Int) - (1 - 1) = 1 by omega])
      · refine r_iload_n dX12_holdLine_43 rfl ?_
        refine r_bipush dX12_holdLine_44 (by decide) ?_
        refine q_icmp_eq (tgt := 55) dX12_holdLine_46 rfl (by omega) (by omega) (fun c46 => ?_) (fun c46 => ?_)
        · refine r_aload_n dX12_holdLine_55 rfl ?_
          refine r_getR dX12_holdLine_56 fl_X12_13 rfl (by assumption) (by assumption) ?_
          refine r_bipush dX12_holdLine_59 (by decide) ?_
          refine r_iload_n dX12_holdLine_61 rfl ?_
          refine r_iadd dX12_holdLine_62 ?_
          refine r_iload_n dX12_holdLine_63 rfl ?_
          refine r_bipush dX12_holdLine_64 (by decide) ?_
          refine q_icmp_ne (tgt := 73) dX12_holdLine_66 rfl (by omega) (by omega) (fun c66 => ?_) (fun c66 => ?_)
          · have h92 : (setI (setI μ2 (m + 2) (16 + D.1 4) 0) (m + 2) 4 (D.1 4 + 1)).1 m 9 = sT (nxt T (numC T (newN T σ D).2 1 999).2) := by
              simp (disch := omega) only [sI_ne]
              refine hS2.2.2.1.2.2.1 (fun h4 => ?_)
              have hkn : tellsF T (nxt T (numC T (newN T σ D).2 1 999).2) 11 = true ∨ tellsF T (nxt T (numC T (newN T σ D).2 1 999).2) 12 = true := by
                rw [← k11, ← k12]; omega
              rcases hkn with h | h <;>
              · unfold tellsF at h
                rw [Bool.and_eq_true, decide_eq_true_eq] at h
                omega
            refine r_iconst dX12_holdLine_73 ?_
            refine r_iast dX12_holdLine_74 (by assumption) rfl (by omega) ?_
            refine r_aload_n dX12_holdLine_75 rfl ?_
            refine r_getR dX12_holdLine_76 fl_X12_13 rfl (by assumption) (by assumption) ?_
            refine r_iconst dX12_holdLine_79 ?_
            refine r_dup2 dX12_holdLine_80 rfl rfl ?_
            refine r_iald dX12_holdLine_81 (by assumption) rfl (by omega) ?_
            simp (disch := omega) only [sI_nj]
            rw [e4]
            refine r_iconst dX12_holdLine_82 ?_
            refine r_iadd dX12_holdLine_83 ?_
            refine r_iast dX12_holdLine_84 (by assumption) rfl (by omega) ?_
            refine r_aload_n dX12_holdLine_85 rfl ?_
            refine r_cV0N dX12_holdLine_86 ml_X12_121 yl_X12_next ⟨rfl, rfl⟩ (by assumption) ⟨_, rfl⟩ rfl rfl rfl rfl (m_nextT (μ := setI (setI μ2 (m + 2) (16 + D.1 4) 0) (m + 2) 4 (D.1 4 + 1)) hM2 ((hS2.set (c := 16 + D.1 4) (v := 0) (by omega)).1.rt (RT.rf _ _).s2) ok2 hE2 h92) ?_
            rintro μ4 ⟨k4, A4⟩
            refine r_iconst dX12_holdLine_89 ?_
            refine r_zreturn dX12_holdLine_90 (by first | exact Or.inl rfl | exact Or.inr rfl | exact b2i_01 _ | omega) rfl rfl rfl ?_
            first
            | (exfalso; omega)
            | (have hyes : frontC T (numC T (newN T σ D).2 1 999).2 = (1 - 0, nxt T (numC T (newN T σ D).2 1 999).2) := by
                 rw [hfr, if_pos (show tellsF T (nxt T (numC T (newN T σ D).2 1 999).2) 11 = true ∨ tellsF T (nxt T (numC T (newN T σ D).2 1 999).2) 12 = true by rw [← k11, ← k12]; omega)]
                 refine Prod.ext ?_ rfl
                 dsimp only
                 first
                 | (rw [k11.1 (by omega)]; rfl)
                 | (have hf : tellsF T (nxt T (numC T (newN T σ D).2 1 999).2) 11 = false := by
                      rw [← Bool.not_eq_true, ← k11]; omega
                    rw [hf]; rfl)
               refine ⟨rfl, _, rfl, (((L0.1.tr L1.1).s2).s2).rk k4, Or.inl ⟨rfl, ?_⟩⟩
               rw [hyes]
               dsimp only
               rw [if_pos hE2]
               have hS3 := hS2.set (c := 16 + D.1 4) (v := 0) (by omega)
               have hq := hS3.cnt (c := 4) (s := D.1 4) (by unfold cntOK; dsimp only; simp (disch := omega) only [rset_eq, rset_ne]; omega) (Or.inl ⟨rfl, by dsimp only; simp (disch := omega) only [rset_eq, rset_ne]⟩) (by
                 dsimp only
                 unfold nset
                 rw [if_pos rfl, setI_ne (by omega), N1]
                 exact N0)
               dsimp only at hq
               simp (disch := omega) only [rset_ne] at hq
               refine (hq.next k4 A4).row ?_ rfl
               unfold addHold
               rw [show (1 : Int) - (1 - 0) = 0 by omega])
          · have h92 : (setI (setI μ2 (m + 2) (16 + D.1 4) 1) (m + 2) 4 (D.1 4 + 1)).1 m 9 = sT (nxt T (numC T (newN T σ D).2 1 999).2) := by
              simp (disch := omega) only [sI_ne]
              refine hS2.2.2.1.2.2.1 (fun h4 => ?_)
              have hkn : tellsF T (nxt T (numC T (newN T σ D).2 1 999).2) 11 = true ∨ tellsF T (nxt T (numC T (newN T σ D).2 1 999).2) 12 = true := by
                rw [← k11, ← k12]; omega
              rcases hkn with h | h <;>
              · unfold tellsF at h
                rw [Bool.and_eq_true, decide_eq_true_eq] at h
                omega
            refine r_iconst dX12_holdLine_69 ?_
            refine r_goto (tgt := 74) dX12_holdLine_70 rfl ?_
            refine r_iast dX12_holdLine_74 (by assumption) rfl (by omega) ?_
            refine r_aload_n dX12_holdLine_75 rfl ?_
            refine r_getR dX12_holdLine_76 fl_X12_13 rfl (by assumption) (by assumption) ?_
            refine r_iconst dX12_holdLine_79 ?_
            refine r_dup2 dX12_holdLine_80 rfl rfl ?_
            refine r_iald dX12_holdLine_81 (by assumption) rfl (by omega) ?_
            simp (disch := omega) only [sI_nj]
            rw [e4]
            refine r_iconst dX12_holdLine_82 ?_
            refine r_iadd dX12_holdLine_83 ?_
            refine r_iast dX12_holdLine_84 (by assumption) rfl (by omega) ?_
            refine r_aload_n dX12_holdLine_85 rfl ?_
            refine r_cV0N dX12_holdLine_86 ml_X12_121 yl_X12_next ⟨rfl, rfl⟩ (by assumption) ⟨_, rfl⟩ rfl rfl rfl rfl (m_nextT (μ := setI (setI μ2 (m + 2) (16 + D.1 4) 1) (m + 2) 4 (D.1 4 + 1)) hM2 ((hS2.set (c := 16 + D.1 4) (v := 1) (by omega)).1.rt (RT.rf _ _).s2) ok2 hE2 h92) ?_
            rintro μ4 ⟨k4, A4⟩
            refine r_iconst dX12_holdLine_89 ?_
            refine r_zreturn dX12_holdLine_90 (by first | exact Or.inl rfl | exact Or.inr rfl | exact b2i_01 _ | omega) rfl rfl rfl ?_
            first
            | (exfalso; omega)
            | (have hyes : frontC T (numC T (newN T σ D).2 1 999).2 = (1 - 1, nxt T (numC T (newN T σ D).2 1 999).2) := by
                 rw [hfr, if_pos (show tellsF T (nxt T (numC T (newN T σ D).2 1 999).2) 11 = true ∨ tellsF T (nxt T (numC T (newN T σ D).2 1 999).2) 12 = true by rw [← k11, ← k12]; omega)]
                 refine Prod.ext ?_ rfl
                 dsimp only
                 first
                 | (rw [k11.1 (by omega)]; rfl)
                 | (have hf : tellsF T (nxt T (numC T (newN T σ D).2 1 999).2) 11 = false := by
                      rw [← Bool.not_eq_true, ← k11]; omega
                    rw [hf]; rfl)
               refine ⟨rfl, _, rfl, (((L0.1.tr L1.1).s2).s2).rk k4, Or.inl ⟨rfl, ?_⟩⟩
               rw [hyes]
               dsimp only
               rw [if_pos hE2]
               have hS3 := hS2.set (c := 16 + D.1 4) (v := 1) (by omega)
               have hq := hS3.cnt (c := 4) (s := D.1 4) (by unfold cntOK; dsimp only; simp (disch := omega) only [rset_eq, rset_ne]; omega) (Or.inl ⟨rfl, by dsimp only; simp (disch := omega) only [rset_eq, rset_ne]⟩) (by
                 dsimp only
                 unfold nset
                 rw [if_pos rfl, setI_ne (by omega), N1]
                 exact N0)
               dsimp only at hq
               simp (disch := omega) only [rset_ne] at hq
               refine (hq.next k4 A4).row ?_ rfl
               unfold addHold
               rw [show (1 : Int) - (1 - 1) = 1 by omega])
        · refine r_aload_n dX12_holdLine_49 rfl ?_
          refine r_iconst dX12_holdLine_50 ?_
          refine r_cV1F1 dX12_holdLine_51 ml_X12_116 yl_X12_badHere ⟨rfl, rfl⟩ (by assumption) ⟨_, rfl⟩ rfl rfl rfl rfl (m_badHere hM2) ?_
          refine r_zreturn dX12_holdLine_54 (by first | exact Or.inl rfl | exact Or.inr rfl | exact b2i_01 _ | omega) rfl rfl rfl ?_
          have hno : (frontC T (numC T (newN T σ D).2 1 999).2).2 = failC (nxt T (numC T (newN T σ D).2 1 999).2) 1 := by
            rw [hfr]
            dsimp only
            rw [if_neg (show ¬ (tellsF T (nxt T (numC T (newN T σ D).2 1 999).2) 11 = true ∨ tellsF T (nxt T (numC T (newN T σ D).2 1 999).2) 12 = true) by rw [← k11, ← k12]; omega)]
          refine ⟨rfl, _, rfl, ((L0.1.tr L1.1).sI (by omega)).sI (by omega), Or.inr ?_⟩
          rw [hno, fail_0 hE2]
          refine ⟨rfl, show (1 : Int) ≠ 0 by decide, ?_, ?_⟩
          · simp (disch := omega) only [sI_at, sI_ne, sI_nj, sI_L]
          · rw [sI_at]; exact hS2.2.2.1.1
    · refine r_iconst dX12_holdLine_30 ?_
      refine r_zreturn dX12_holdLine_31 (by first | exact Or.inl rfl | exact Or.inr rfl | exact b2i_01 _ | omega) rfl rfl rfl ?_
      refine ⟨rfl, _, rfl, ?_⟩
      first
      | exact (L1.pre L0.1).no (by omega) (hfno _ (L1.n (by omega)).1)
      | exact L0.no (by omega) (by show (frontC T (numC T (newN T σ D).2 1 999).2).2 = _; rw [num_no (L0.n (by omega)).1]; exact hfno _ (L0.n (by omega)).1)

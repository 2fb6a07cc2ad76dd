/-! 55.refplane3: a plane's text, in the reference (wip/whole/src/55_refplane3.py) -/
def bareM (μ : Mem) (a : Nat) : Mem := setI (setI (setI (setI (fillI μ a 143 0) a 0 100) a 1 50) a 2 40) a 3 60
theorem bareM_at {μ : Mem} {a : Nat} {j : Int} (hj : 0 ≤ j ∧ j < 143) : (bareM μ a).1 a j = bareR j := by
  unfold bareM bareR
  by_cases h0 : j = 0
  · subst h0; simp (disch := omega) only [sI_at, sI_ne, sI_nj, sI_L]; rfl
  by_cases h1 : j = 1
  · subst h1; simp (disch := omega) only [sI_at, sI_ne, sI_nj, sI_L]; rfl
  by_cases h2 : j = 2
  · subst h2; simp (disch := omega) only [sI_at, sI_ne, sI_nj, sI_L]; rfl
  by_cases h3 : j = 3
  · subst h3; simp (disch := omega) only [sI_at, sI_ne, sI_nj, sI_L]; rfl
  rw [if_neg h0, if_neg h1, if_neg h2, if_neg h3]
  simp (disch := omega) only [sI_at, sI_ne, sI_nj, sI_L]
  exact if_pos ⟨rfl, by omega⟩
theorem bareM_out {μ : Mem} {a : Nat} {j : Int} (hj : ¬ (0 ≤ j ∧ j < 143)) : (bareM μ a).1 a j = μ.1 a j := by
  unfold bareM
  simp (disch := omega) only [sI_at, sI_ne, sI_nj, sI_L]
  exact if_neg (by omega)
theorem bareM_ne {μ : Mem} {a q : Nat} (h : q ≠ a) : (bareM μ a).1 q = μ.1 q := by
  unfold bareM
  rw [setI_ne h, setI_ne h, setI_ne h, setI_ne h]
  exact funext fun j => ifn h
def RTF (m : Nat) (μ μ2 : Mem) : Prop := μ2.2 = μ.2 ∧ (∀ a : Nat, a ≠ m → a ≠ m + 2 → a ≠ m + 7 → a ≠ m + 8 → μ2.1 a = μ.1 a) ∧ ∀ j : Int, j < 9 ∨ 20 < j → μ2.1 m j = μ.1 m j
theorem RTF.rf (m : Nat) (μ : Mem) : RTF m μ μ := ⟨rfl, fun _ _ _ _ _ => rfl, fun _ _ => rfl⟩
theorem RTF.tr {m : Nat} {a b c : Mem} (h1 : RTF m a b) (h2 : RTF m b c) : RTF m a c := ⟨h2.1.trans h1.1, fun q e f g i => (h2.2.1 q e f g i).trans (h1.2.1 q e f g i), fun j h => (h2.2.2 j h).trans (h1.2.2 j h)⟩
theorem RTF.rt {m : Nat} {a b c : Mem} (h1 : RTF m a b) (h2 : RT m b c) : RTF m a c := ⟨h2.1.trans h1.1, fun q e f g i => (h2.2.1 q e f g i).trans (h1.2.1 q e f g i), fun j h => (h2.2.2 j (by omega)).trans (h1.2.2 j h)⟩
theorem RTF.rk {m : Nat} {a b c : Mem} (h1 : RTF m a b) (h2 : RK m b c) : RTF m a c := h1.rt ((RT.rf m b).rk h2)
theorem RTF.sI {m : Nat} {μ μ2 : Mem} (h : RTF m μ μ2) {j x : Int} (hj : 9 ≤ j ∧ j ≤ 20) : RTF m μ (setI μ2 m j x) := ⟨h.1, fun a h1 h2 h3 h4 => (setI_ne h1).trans (h.2.1 a h1 h2 h3 h4), fun i hi => (if_neg (by omega)).trans (h.2.2 i hi)⟩
def PRef (m : Nat) (μ : Mem) (x : Int) (r : Sg × Row) (μ2 : Mem) : Prop := RTF m μ μ2 ∧ ((x = 1 ∧ sE r.1 = 0 ∧ Spr m μ2 r.2 ∧ μ2.1 m 14 = 0) ∨ (x = 0 ∧ sE r.1 ≠ 0 ∧ μ2.1 m 14 = sE r.1 ∧ μ2.1 m 15 = sP r.1))
/-- flags do not count for what is at hand -/
theorem RS.flag {m : Nat} {μ : Mem} {T : Tq} {σ : Sg} {D : PD} (h : RS m μ T σ D) {j x : Int} (hj : 16 ≤ j ∧ j ≤ 20) : RS m (setI μ m j x) T σ D := by
  obtain ⟨h1, h2, h3, h4, h5, h6⟩ := h
  exact ⟨h1.mono (sI_nj (by omega)) (setI_ne (by omega)), h2, h3.of (fun i _ _ => sI_nj (by omega)) (setI_ne (by omega)), fun i i0 i1 => (sI_ne (by omega)).trans (h4 i i0 i1), fun k hk => by rw [setI_ne (by omega)]; exact h5 k hk, (sI_nj (by omega)).trans h6⟩
theorem loopP_no {T : Tq} {σ : Sg} {D : PD} (h : sE σ ≠ 0) : ∀ n : Nat, (loopP T n σ D).1 = σ
  | 0 => rfl
  | n + 1 => by
    rw [loopP, nxt_no h, if_neg (fun e => h e.1)]
theorem nxt_end {T : Tq} {σ : Sg} (h0 : sE σ = 0) (h : T.2 ≤ sT σ) : sK (nxt T σ) = 0 := by
  unfold nxt
  rw [if_neg (by omega)]
  have q := (runE_spec (q := isSp T.1) (T.2 - sT σ).toNat (sT σ)).1
  unfold nx2
  rw [if_pos (by omega)]
theorem known_8 {T : Tq} {τ : Sg} (h : knownF T τ < 0 ∨ 8 < knownF T τ) (D : PD) : lineP T τ D = (failC τ 1, D) := by
  have no : ∀ j : Nat, j < 9 → ¬ tellsF T τ j = true := fun j hj ht => by
    have := (known_iff (k := j) (by omega)).2 ht
    omega
  unfold lineP
  rw [if_neg (no 0 (by omega)), if_neg (no 1 (by omega)), if_neg (no 2 (by omega)), if_neg (no 3 (by omega)), if_neg (no 4 (by omega)), if_neg (no 5 (by omega)), if_neg (no 6 (by omega)), if_neg (no 7 (by omega)), if_neg (no 8 (by omega))]
theorem known_w {T : Tq} {τ : Sg} (h : 0 ≤ knownF T τ ∧ knownF T τ ≤ 8) : tellsF T τ (knownF T τ).toNat = true := (known_iff (k := (knownF T τ).toNat) (by omega)).1 (by omega)
theorem known_n {T : Tq} {τ : Sg} {k : Nat} (hk : k < 13) (h : knownF T τ = k) : tellsF T τ k = true := (known_iff hk).1 h
/-- the line that may not be there: its fault is where its word is -/
theorem line_bad {T : Tq} {τ : Sg} {D : PD} (h0 : sE τ = 0) (hc : cntOK D.1) :
    (tellsF T τ 0 = true → D.2.2.1 = 1 → (lineP T τ D).1 = failC τ 3) ∧ (tellsF T τ 1 = true → D.2.2.2 = 1 → (lineP T τ D).1 = failC τ 3) ∧
    (∀ w : Nat, w ≤ 8 → tellsF T τ w = true → tooM D.1 w = true → (lineP T τ D).1 = failC τ 4) ∧
    (tellsF T τ 3 = true → D.1 4 = 0 → tooM D.1 3 = false → (lineP T τ D).1 = failC τ 5) ∧ (tellsF T τ 4 = true → canJ D.1 = false → (lineP T τ D).1 = failC τ 5) := by
  have y3 : sE (failC τ 3) ≠ 0 := fail_yes (by decide)
  have y4 : sE (failC τ 4) ≠ 0 := fail_yes (by decide)
  have y5 : sE (failC τ 5) ≠ 0 := fail_yes (by decide)
  have wno : ∀ σ : Sg, sE σ ≠ 0 → newN T σ D = (0, σ) := fun σ h => by
    unfold newN
    rw [word_no h]
    dsimp only
    split
    · rw [fail_no h]
    · rfl
  have fno : ∀ σ : Sg, sE σ ≠ 0 → (frontC T σ).2 = σ := fun σ h => by
    unfold frontC
    dsimp only
    rw [nxt_no h]
    split
    · rfl
    · exact fail_no h 1
  unfold cntOK at hc
  refine ⟨fun ht h => ?_, fun ht h => ?_, fun w hw ht h => ?_, fun ht h h2 => ?_, fun ht h => ?_⟩
  · rw [line_0 ht]
    unfold emptyL emptyS2 emptyS1
    dsimp only
    rw [iff_pos h, num_no (lo := 1) y3]
    dsimp only
    rw [num_no y3]
  · rw [line_1 ht]
    unfold spanL spanS2 spanS1
    dsimp only
    rw [iff_pos h, num_no (lo := 0) y3]
    dsimp only
    rw [num_no y3]
  · have h := of_decide_eq_true h
    have hw2 : w = 2 ∨ w = 3 ∨ w = 5 ∨ w = 6 ∨ w = 7 ∨ w = 8 := by omega
    rcases hw2 with rfl | rfl | rfl | rfl | rfl | rfl
    · rw [line_2 ht]
      unfold holdL holdS3 holdS2 holdS1
      dsimp only
      rw [iff_pos (show 3 ≤ D.1 4 by omega), wno _ y4]
      dsimp only
      rw [num_no y4]
      exact fno _ y4
    · rw [line_3 ht]
      unfold spotL spotS2 spotS1
      dsimp only
      rw [iff_pos (c := 6 ≤ D.1 5) (show 6 ≤ D.1 5 by omega), iff_no y4, num_no (lo := 0) y4]
      dsimp only
      rw [num_no y4]
    · rw [line_5 ht]
      unfold binL binS2 binS1
      dsimp only
      rw [iff_pos (show 2 ≤ D.1 7 by omega), num_no (lo := 0) y4]
      dsimp only
      rw [num_no y4]
    · rw [line_6 ht]
      unfold tankL tankS3 tankS2 tankS1
      dsimp only
      rw [iff_pos (show 3 ≤ D.1 8 by omega), wno _ y4]
      dsimp only
      rw [num_no (lo := 0) y4]
      dsimp only
      rw [num_no y4]
    · rw [line_7 ht]
      unfold burnL burnS2 burnS1
      dsimp only
      rw [iff_pos (c := 12 ≤ D.1 9) (show 12 ≤ D.1 9 by omega), word_no y4]
      dsimp only
      rw [iff_no y4, num_no y4]
    · rw [line_8 ht]
      unfold stopL
      rw [if_pos (by omega)]
  · have h2 := of_decide_eq_false h2
    rw [line_3 ht]
    unfold spotL spotS2 spotS1
    dsimp only
    rw [iff_pos h, iff_neg (show ¬ 6 ≤ D.1 5 by omega), num_no (lo := 0) y5]
    dsimp only
    rw [num_no y5]
  · rw [line_4 ht]
    unfold jointL jointS1
    dsimp only
    rw [iff_pos h, num_no y5]
/-- which flags a line sets -/
theorem line_flags {T : Tq} {τ : Sg} {D : PD} {w : Nat} (hw : w ≤ 8) (ht : tellsF T τ w = true) : (lineP T τ D).2.2.2.1 = (if w = 0 then 1 else D.2.2.1) ∧ (lineP T τ D).2.2.2.2 = (if w = 1 then 1 else D.2.2.2) := by
  have hw2 : w = 0 ∨ w = 1 ∨ w = 2 ∨ w = 3 ∨ w = 4 ∨ w = 5 ∨ w = 6 ∨ w = 7 ∨ w = 8 := by omega
  rcases hw2 with rfl | rfl | rfl | rfl | rfl | rfl | rfl | rfl | rfl
  · rw [line_0 ht]; exact ⟨rfl, rfl⟩
  · rw [line_1 ht]; exact ⟨rfl, rfl⟩
  · rw [line_2 ht]; unfold holdL; dsimp only; split <;> exact ⟨rfl, rfl⟩
  · rw [line_3 ht]; unfold spotL; dsimp only; split <;> exact ⟨rfl, rfl⟩
  · rw [line_4 ht]; unfold jointL; dsimp only; split <;> exact ⟨rfl, rfl⟩
  · rw [line_5 ht]; unfold binL; dsimp only; split <;> exact ⟨rfl, rfl⟩
  · rw [line_6 ht]; unfold tankL; dsimp only; split <;> exact ⟨rfl, rfl⟩
  · rw [line_7 ht]; unfold burnL; dsimp only; split <;> exact ⟨rfl, rfl⟩
  · rw [line_8 ht]; unfold stopL; split <;> exact ⟨rfl, rfl⟩
theorem m_bare {sh : Sh} {μ : Mem} {a : Nat} (ha : sh[a]? = some (20, 143))  : FMet yX12_bare gX12_bare sh [vR a] μ none (bareM μ a) := by
  have lB : ∀ (f n : Nat) (k : Int), n < f → 0 ≤ k → k + n = 143 → AW gX12_bare sh (fillI μ a k 0) 0 0 2 [some (vR a), some (vI k)] [] (fun r2 sh2 μ2 => r2 = none ∧ sh2 = sh ∧ μ2 = bareM μ a) := by
    intro f
    induction f with
    | zero => intro n; intros; omega
    | succ f ih =>
      intro n k hf hk hn2
      refine r_iload_n dX12_bare_2 rfl ?_
      refine r_sipush dX12_bare_3 (by decide) ?_
      refine q_icmp_ge (tgt := 19) dX12_bare_6 rfl (by omega) (by omega) (fun c6 => ?_) (fun c6 => ?_)
      · obtain rfl : k = 143 := by omega
        refine r_aload_n dX12_bare_19 rfl ?_
        refine r_iconst dX12_bare_20 ?_
        refine r_bipush dX12_bare_21 (by decide) ?_
        refine r_iast dX12_bare_23 (by assumption) rfl (by omega) ?_
        refine r_aload_n dX12_bare_24 rfl ?_
        refine r_iconst dX12_bare_25 ?_
        refine r_bipush dX12_bare_26 (by decide) ?_
        refine r_iast dX12_bare_28 (by assumption) rfl (by omega) ?_
        refine r_aload_n dX12_bare_29 rfl ?_
        refine r_iconst dX12_bare_30 ?_
        refine r_bipush dX12_bare_31 (by decide) ?_
        refine r_iast dX12_bare_33 (by assumption) rfl (by omega) ?_
        refine r_aload_n dX12_bare_34 rfl ?_
        refine r_iconst dX12_bare_35 ?_
        refine r_bipush dX12_bare_36 (by decide) ?_
        refine r_iast dX12_bare_38 (by assumption) rfl (by omega) ?_
        refine r_return dX12_bare_39 rfl rfl rfl ?_
        exact ⟨rfl, rfl, rfl⟩
      · refine r_aload_n dX12_bare_9 rfl ?_
        refine r_iload_n dX12_bare_10 rfl ?_
        refine r_iconst dX12_bare_11 ?_
        refine r_iast dX12_bare_12 (by assumption) rfl (by omega) ?_
        rw [fill_s μ a (by omega)]
        refine r_iinc dX12_bare_13 rfl rfl ?_
        refine r_goto (tgt := 2) dX12_bare_16 rfl ?_
        exact ih (n - 1) (k + 1) (by omega) (by omega) (by omega)
  refine AMet.of (by decide) rfl (by decide) rfl ?_
  refine r_iconst dX12_bare_0 ?_
  refine r_istore_n dX12_bare_1 rfl ?_
  have h := lB _ 143 0 (Nat.lt_succ_self _) (by omega) (by omega)
  rw [fill_0] at h
  exact h
theorem and255r : ∀ v : Nat, v < 256 → 0 ≤ iand ((v : Int) - 128) 255 ∧ iand ((v : Int) - 128) 255 ≤ 255 := by decide +kernel
theorem TapM.rt {m : Nat} {μ μ2 : Mem} {tp : Int → Int} {tl : Int} (h : TapM m μ tp tl) (h8 : μ2.1 m 8 = tl) (h6 : μ2.1 (m + 6) = μ.1 (m + 6)) : RTap m μ2 (tp, tl) := by
  obtain ⟨a, b, c⟩ := h
  refine ⟨h8, b, fun i i0 i1 => ?_⟩
  rw [h6]
  have q := c i i0 i1
  have r := and255r (μ.1 (m + 6) i + 128).toNat (by omega)
  rw [show (((μ.1 (m + 6) i + 128).toNat : Nat) : Int) - 128 = μ.1 (m + 6) i by omega, q.2] at r
  exact ⟨q.1, q.2, r⟩
theorem m_begins {sh : Sh} {μ : Mem} {m : Nat} {tp : Int → Int} {tl : Int} (hM : IsModel sh μ.2.2 m) (hT : TapM m μ tp tl) {n : Int} (hn : 0 ≤ n ∧ n ≤ 540)  : IMet yX12_begins gX12_begins sh [vR m, vI n] μ (fun x μ2 => (x = 1 ∧ tl ≤ n ∧ RK m (setI (setI (setI (setI μ m 8 tl) m 7 0) m 14 0) m 9 0) μ2 ∧ AT m μ2 (tp, tl) (nxt (tp, tl) (beginC (tp, tl) n))) ∨ (x = 0 ∧ n < tl ∧ μ2 = setI (setI (setI (setI (setI μ m 8 tl) m 7 0) m 14 0) m 14 1) m 15 n)) := by
  obtain ⟨g0, f1, z1, f2, z2, f3, z3, f4, z4, f5, z5, f6, z6, f7, z7, f8, z8, f9, z9, f10, z10, f11, z11, f12, z12, f13, z13, f14, z14⟩ := id hM
  obtain ⟨t7, t8, t9⟩ := id hT
  refine AMet.of (by decide) rfl (by decide) rfl ?_
  refine r_aload_n dX12_begins_0 rfl ?_
  refine r_aload_n dX12_begins_1 rfl ?_
  refine r_getI dX12_begins_2 fl_X12_59 rfl (by assumption) ?_
  (try rw [t7]); (try simp (disch := omega) only [sI_at, sI_ne, sI_nj, sI_L])
  refine r_putI dX12_begins_5 fl_X12_70 (by assumption) ?_
  refine r_aload_n dX12_begins_8 rfl ?_
  refine r_iconst dX12_begins_9 ?_
  refine r_putI dX12_begins_10 fl_X12_59 (by assumption) ?_
  refine r_aload_n dX12_begins_13 rfl ?_
  refine r_iconst dX12_begins_14 ?_
  refine r_putI dX12_begins_15 fl_X12_77 (by assumption) ?_
  refine r_aload_n dX12_begins_18 rfl ?_
  refine r_getI dX12_begins_19 fl_X12_70 rfl (by assumption) ?_
  (try rw [t7]); (try simp (disch := omega) only [sI_at, sI_ne, sI_nj, sI_L])
  refine r_iload_n dX12_begins_22 rfl ?_
  refine q_icmp_le (tgt := 33) dX12_begins_23 rfl (by omega) (by omega) (fun c23 => ?_) (fun c23 => ?_)
  · have hR : RTap m (setI (setI (setI (setI μ m 8 tl) m 7 0) m 14 0) m 9 0) (tp, tl) := hT.rt (by simp (disch := omega) only [sI_at, sI_ne, sI_nj, sI_L]) (by rw [setI_ne (by omega), setI_ne (by omega), setI_ne (by omega), setI_ne (by omega)])
    refine r_aload_n dX12_begins_33 rfl ?_
    refine r_iconst dX12_begins_34 ?_
    refine r_putI dX12_begins_35 fl_X12_67 (by assumption) ?_
    refine r_aload_n dX12_begins_38 rfl ?_
    refine r_cV0N dX12_begins_39 ml_X12_121 yl_X12_next ⟨rfl, rfl⟩ (by assumption) ⟨_, rfl⟩ rfl rfl rfl rfl (m_nextT (μ := setI (setI (setI (setI μ m 8 tl) m 7 0) m 14 0) m 9 0) (τ := (0, 0, 0, 0, 0)) hM hR (by unfold SgOK; simp only [mkT, mkF, mkK, mkE, mkP]; (try dsimp only); omega) rfl (by simp (disch := omega) only [sI_at, sI_ne, sI_nj, sI_L])) ?_
    rintro μ4 ⟨k4, A4⟩
    refine r_iconst dX12_begins_42 ?_
    refine r_zreturn dX12_begins_43 (by first | exact Or.inl rfl | exact Or.inr rfl | exact b2i_01 _ | omega) rfl rfl rfl ?_
    refine ⟨rfl, _, rfl, Or.inl ⟨rfl, by omega, k4, ?_⟩⟩
    rw [show beginC (tp, tl) n = (0, 0, 0, 0, 0) from if_neg (by (try dsimp only); omega)]
    exact A4
  · refine r_aload_n dX12_begins_26 rfl ?_
    refine r_iconst dX12_begins_27 ?_
    refine r_iload_n dX12_begins_28 rfl ?_
    refine r_cV2F1 dX12_begins_29 ml_X12_86 yl_X12_bad ⟨rfl, rfl⟩ (by assumption) ⟨_, rfl⟩ rfl rfl rfl rfl (m_bad (μ := (setI (setI (setI μ m 8 tl) m 7 0) m 14 0)) hM) ?_
    refine r_zreturn dX12_begins_32 (by first | exact Or.inl rfl | exact Or.inr rfl | exact b2i_01 _ | omega) rfl rfl rfl ?_
    refine ⟨rfl, _, rfl, Or.inr ⟨rfl, by omega, rfl⟩⟩

/-! 19.modelmut: the reference's calls that change its row (wip/whole/src/19_modelmut.py) -/
def cpK (μ : Mem) (s : Nat) (a : Int) (d : Nat) (b n : Int) : Mem := (fun q j => if q = d ∧ b ≤ j ∧ j < b + n then μ.1 s (a + (j - b)) else μ.1 q j, μ.2)
theorem cpK_0 (μ : Mem) (s : Nat) (a : Int) (d : Nat) (b : Int) : cpK μ s a d b 0 = μ := by
  refine Prod.ext (funext fun q => funext fun j => ?_) rfl
  simp only [cpK]
  rw [if_neg (by omega)]
theorem cpK_s {μ : Mem} {s d : Nat} {a b k : Int} (hs : s ≠ d) (hk : 0 ≤ k) : setI (cpK μ s a d b k) d (b + k) ((cpK μ s a d b k).1 s (a + k)) = cpK μ s a d b (k + 1) := by
  refine Prod.ext (funext fun q => funext fun j => ?_) rfl
  simp only [cpK, setI]
  rw [if_neg (fun e : s = d ∧ _ => hs e.1)]
  by_cases h1 : q = d
  · subst h1
    by_cases h2 : j = b + k
    · rw [if_pos ⟨rfl, h2⟩, if_pos (by omega), show a + (j - b) = a + k by omega]
    · rw [if_neg (fun e => h2 e.2)]
      by_cases h3 : b ≤ j ∧ j < b + k
      · rw [if_pos ⟨rfl, h3⟩, if_pos (by omega)]
      · rw [if_neg (fun e => h3 e.2), if_neg (by omega)]
  · rw [if_neg (fun e => h1 e.1), if_neg (fun e => h1 e.1), if_neg (fun e => h1 e.1)]
theorem Kp.cp {S : Nat → Prop} {μ μ2 : Mem} {s d : Nat} {a b n : Int} (h1 : Kp S μ μ2) (h : ¬ S d) : Kp S μ (cpK μ2 s a d b n) := h1.tr fun q hq => ⟨funext fun j => ifn (fun e => h (e ▸ hq)), rfl, rfl⟩
theorem cut_cp {μ : Mem} {s d : Nat} {a b : Int} : cut ((cpK μ s a d b 143).1 d) b = cut (μ.1 s) a := by
  funext j
  simp only [cut, cpK, true_and]
  by_cases h : 0 ≤ j ∧ j < 143
  · rw [if_pos h, if_pos h, if_pos (by omega), show a + (b + j - b) = a + j by omega]
  · rw [if_neg h, if_neg h]
theorem cut_cp_ne {μ : Mem} {s d : Nat} {a b b2 : Int} (h2 : b2 + 143 ≤ b ∨ b + 143 ≤ b2) : cut ((cpK μ s a d b 143).1 d) b2 = cut (μ.1 d) b2 := by
  funext j
  simp only [cut, cpK, true_and]
  by_cases h : 0 ≤ j ∧ j < 143
  · rw [if_pos h, if_pos h, if_neg (by omega)]
  · rw [if_neg h, if_neg h]
theorem cut_id {ρ : Row} (h : ∀ j, ¬ (0 ≤ j ∧ j < 143) → ρ j = 0) : cut ρ 0 = ρ := by
  funext j
  simp only [cut]
  by_cases h1 : 0 ≤ j ∧ j < 143
  · rw [if_pos h1, Int.zero_add]
  · rw [if_neg h1, h j h1]
/-- a copy into the row -/
theorem cp_row {μ : Mem} {s d : Nat} {a : Int} (h : ∀ j, ¬ (0 ≤ j ∧ j < 143) → μ.1 d j = 0) : (cpK μ s a d 0 143).1 d = cut (μ.1 s) a := by
  funext j
  simp only [cut, cpK, true_and]
  by_cases h1 : 0 ≤ j ∧ j < 143
  · rw [if_pos h1, if_pos (by omega), Int.sub_zero]
  · rw [if_neg h1, if_neg (by omega), h j h1]
theorem cut_z (f : Int → Int) (o : Int) : ∀ j, ¬ (0 ≤ j ∧ j < 143) → cut f o j = 0 := fun j h => if_neg h
def shK (μ : Mem) (d : Nat) (k : Int) : Mem := (fun q j => if q = d ∧ 0 ≤ j ∧ j < k then μ.1 d (j + 143) else μ.1 q j, μ.2)
theorem shK_0 (μ : Mem) (d : Nat) : shK μ d 0 = μ := by
  refine Prod.ext (funext fun q => funext fun j => ?_) rfl
  simp only [shK]
  rw [if_neg (by omega)]
theorem shK_s {μ : Mem} {d : Nat} {k : Int} (hk : 0 ≤ k) : setI (shK μ d k) d k ((shK μ d k).1 d (k + 143)) = shK μ d (k + 1) := by
  refine Prod.ext (funext fun q => funext fun j => ?_) rfl
  simp only [shK, setI, true_and]
  rw [if_neg (show ¬ (0 ≤ k + 143 ∧ k + 143 < k) by omega)]
  by_cases h1 : q = d
  · subst h1
    by_cases h2 : j = k
    · rw [if_pos ⟨rfl, h2⟩, if_pos (by omega), h2]
    · rw [if_neg (fun e => h2 e.2)]
      by_cases h3 : 0 ≤ j ∧ j < k
      · rw [if_pos ⟨rfl, h3⟩, if_pos (by omega)]
      · rw [if_neg (fun e => h3 e.2), if_neg (by omega)]
  · rw [if_neg (fun e => h1 e.1), if_neg (fun e => h1 e.1), if_neg (fun e => h1 e.1)]
abbrev keepG (G : Gh) : Gh := (gRow G, (gRow G :: gUnd G).take 8, G.2.2)
/-- a call of the reference: what holds then, and what it leaves as it was -/
def MS (sh : Sh) (m : Nat) (μ μ2 : Mem) (G : Gh) : Prop := InM sh m μ2 G ∧ Kp (fun a => a < m) μ μ2 ∧ μ2.2 = μ.2
theorem und_keep {m : Nat} {μ μ2 : Mem} {ρ : Row} {us : List Row} (h : UndM m μ us) (q : Int) (hq : (q = 0 ∧ us.length < 8) ∨ (q = 1 ∧ us.length = 8)) (h5 : μ2.1 m 5 = us.length + 1 - q)
    (h0 : cut (μ2.1 (m + 4)) (143 * (us.length - q)) = ρ) (h4 : ∀ t : Int, 0 ≤ t → t < us.length - q → cut (μ2.1 (m + 4)) (143 * t) = cut (μ.1 (m + 4)) (143 * (t + q))) : UndM m μ2 ((ρ :: us).take 8) := by
  obtain ⟨a, b, c⟩ := h
  have hl : (((ρ :: us).take 8).length : Int) = us.length + 1 - q := by
    rw [List.length_take, List.length_cons]; omega
  refine ⟨by omega, h5.trans hl.symm, fun t u hu => ?_⟩
  rw [hl]
  have ht : t < 8 := by
    have := (List.getElem?_eq_some_iff.mp hu).1
    rw [List.length_take] at this; omega
  rw [List.getElem?_take_of_lt ht] at hu
  cases t with
  | zero =>
    simp only [List.getElem?_cons_zero, Option.some.injEq] at hu
    rw [← hu, ← h0]
    congr 1
    omega
  | succ t =>
    rw [List.getElem?_cons_succ] at hu
    have h1 := c t u hu
    have h2 := (List.getElem?_eq_some_iff.mp hu).1
    rw [show (us.length : Int) + 1 - q - 1 - ((t + 1 : Nat) : Int) = us.length - q - 1 - t by omega, h4 _ (by omega) (by omega), ← h1]
    congr 1
    omega
theorem mget {a : Nat} {μ : Mem} {b : Nat} {i j x : Int} (h : a ≠ b) : (setI μ b i x).1 a j = μ.1 a j := by rw [setI_ne h]

theorem m_copies {sh : Sh} {μ : Mem} {s d n1 n2 : Nat} {a b : Int} (hs : sh[s]? = some (20, n1)) (hd : sh[d]? = some (20, n2)) (hn1 : Nat.ble n1 2147483647 = true) (hn2 : Nat.ble n2 2147483647 = true) (hne : s ≠ d) (ha : 0 ≤ a ∧ a + 143 ≤ n1) (hb : 0 ≤ b ∧ b + 143 ≤ n2) : FMet yX12_copies gX12_copies sh [vR s, vI a, vR d, vI b] μ none (cpK μ s a d b 143) := by
  have loop : ∀ (f n : Nat) (k : Int), n < f → 0 ≤ k → k + n = 143 → AW gX12_copies sh (cpK μ s a d b k) 0 0 3 [some (vR s), some (vI a), some (vR d), some (vI b), some (vI k)] [] (fun r2 sh2 μ2 => r2 = none ∧ sh2 = sh ∧ μ2 = cpK μ s a d b 143) := by
    intro f
    induction f with
    | zero => intro n; intros; omega
    | succ f ih =>
      intro n k hf hk hkn
      refine r_iload dX12_copies_3 rfl ?_
      refine r_sipush dX12_copies_5 (by decide) ?_
      refine q_icmp_ge (tgt := 29) dX12_copies_8 rfl (by omega) (by omega) (fun c8 => ?_) (fun c8 => ?_)
      · refine r_return dX12_copies_29 rfl rfl rfl ?_
        obtain rfl : k = 143 := by omega
        exact ⟨rfl, rfl, rfl⟩
      · refine r_aload_n dX12_copies_11 rfl ?_
        refine r_iload_n dX12_copies_12 rfl ?_
        refine r_iload dX12_copies_13 rfl ?_
        refine r_iadd dX12_copies_15 ?_
        refine r_aload_n dX12_copies_16 rfl ?_
        refine r_iload_n dX12_copies_17 rfl ?_
        refine r_iload dX12_copies_18 rfl ?_
        refine r_iadd dX12_copies_20 ?_
        refine r_iald dX12_copies_21 (by assumption) hn1 (by omega) ?_
        refine r_iast dX12_copies_22 (by assumption) hn2 (by omega) ?_
        refine r_iinc dX12_copies_23 rfl rfl ?_
        refine r_goto (tgt := 3) dX12_copies_26 rfl ?_
        rw [cpK_s hne (by omega)]
        exact ih (n - 1) (k + 1) (by omega) (by omega) (by omega)
  refine AMet.of (by decide) rfl (by decide) rfl ?_
  refine r_iconst dX12_copies_0 ?_
  refine r_istore dX12_copies_1 rfl ?_
  have hl := loop 144 143 0 (by omega) (by omega) (by omega)
  rw [cpK_0] at hl
  exact hl
theorem m_keeps {sh : Sh} {μ : Mem} {m : Nat} {G : Gh} (hI : InM sh m μ G)  : VMet yX12_keeps gX12_keeps sh [vR m] μ (fun μ2 => MS sh m μ μ2 (keepG G) ∧ Kp (fun a => a ≠ m ∧ a ≠ m + 4) μ μ2 ∧ ∀ i, i ≠ 5 → μ2.1 m i = μ.1 m i) := by
  have hM := hI.1
  obtain ⟨g0, f1, z1, f2, z2, f3, z3, f4, z4, f5, z5, f6, z6, f7, z7, f8, z8, f9, z9, f10, z10, f11, z11, f12, z12, f13, z13, f14, z14⟩ := id hM
  have u5 := hI.2.2.1.2.1
  have u8 := hI.2.2.1.1
  have hr := hI.2.1.1
  have loop : ∀ (f n : Nat) (k : Int), n < f → 0 ≤ k → k + n = 1001 → μ.1 m 5 = 8 → AW gX12_keeps sh (shK μ (m + 4) k) 0 0 11 [some (vR m), some (vI k)] [] (fun r2 sh2 μ2 => r2 = none ∧ sh2 = sh ∧ MS sh m μ μ2 (keepG G) ∧ Kp (fun a => a ≠ m ∧ a ≠ m + 4) μ μ2 ∧ ∀ i, i ≠ 5 → μ2.1 m i = μ.1 m i) := by
    intro f
    induction f with
    | zero => intro n; intros; omega
    | succ f ih =>
      intro n k hf hk hn2
      intro h8
      refine r_iload_n dX12_keeps_11 rfl ?_
      refine r_sipush dX12_keeps_12 (by decide) ?_
      refine q_icmp_ge (tgt := 40) dX12_keeps_15 rfl (by omega) (by omega) (fun c15 => ?_) (fun c15 => ?_)
      · obtain rfl : k = 1001 := by omega
        have e7 : (setI (shK μ (m + 4) 1001) m 5 ((shK μ (m + 4) 1001).1 m 5 - 1)).1 m 5 = 7 := by simp [setI, shK]; omega
        have e8 : (cpK (setI (shK μ (m + 4) 1001) m 5 ((shK μ (m + 4) 1001).1 m 5 - 1)) (m + 1) 0 (m + 4) (143 * 7) 143).1 m 5 = 7 := by simp [setI, shK, cpK]; omega
        refine r_aload_n dX12_keeps_40 rfl ?_
        refine r_dup dX12_keeps_41 rfl ?_
        refine r_getI dX12_keeps_42 fl_X12_191 rfl (by assumption) ?_
        refine r_iconst dX12_keeps_45 ?_
        refine r_isub dX12_keeps_46 ?_
        refine r_putI dX12_keeps_47 fl_X12_191 (by assumption) ?_
        refine r_aload_n dX12_keeps_50 rfl ?_
        refine r_getR dX12_keeps_51 fl_X12_7 rfl (by assumption) (by assumption) ?_
        refine r_iconst dX12_keeps_54 ?_
        refine r_aload_n dX12_keeps_55 rfl ?_
        refine r_getR dX12_keeps_56 fl_X12_19 rfl (by assumption) (by assumption) ?_
        refine r_sipush dX12_keeps_59 (by decide) ?_
        refine r_aload_n dX12_keeps_62 rfl ?_
        refine r_getI dX12_keeps_63 fl_X12_191 rfl (by assumption) ?_
        rw [e7]
        refine r_imul dX12_keeps_66 ?_
        refine r_cS4F0 dX12_keeps_67 ml_X12_187 yl_X12_copies ⟨rfl, rfl⟩ rfl rfl rfl rfl (m_copies (s := m + 1) (d := m + 4) z1 z4 rfl rfl (by omega) (by omega) (by omega)) ?_
        refine r_aload_n dX12_keeps_70 rfl ?_
        refine r_dup dX12_keeps_71 rfl ?_
        refine r_getI dX12_keeps_72 fl_X12_191 rfl (by assumption) ?_
        rw [e8]
        refine r_iconst dX12_keeps_75 ?_
        refine r_iadd dX12_keeps_76 ?_
        refine r_putI dX12_keeps_77 fl_X12_191 (by assumption) ?_
        refine r_return dX12_keeps_80 rfl rfl rfl ?_
        generalize hm3 : setI (cpK (setI (shK μ (m + 4) 1001) m 5 ((shK μ (m + 4) 1001).1 m 5 - 1)) (m + 1) 0 (m + 4) (143 * 7) 143) m 5 (7 + 1) = μ3
        have hm3 := hm3.symm
        have hM2 : IsModel sh μ3.2.2 m := by rw [hm3]; exact hM
        have hk4 : Kp (fun a => a ≠ m ∧ a ≠ m + 4) μ μ3 := by rw [hm3]; exact (((((Kp.rf _ μ).tr (fun q hq => ⟨funext fun j => ifn (fun e => hq.2 e), rfl, rfl⟩ : Kp (fun a => a ≠ m ∧ a ≠ m + 4) μ (shK μ (m + 4) 1001))).sI (by omega)).cp (by omega)).sI (by omega))
        have hk5 : ∀ i, i ≠ 5 → μ3.1 m i = μ.1 m i := by
          intro i hi
          rw [hm3]
          simp [cpK, shK, setI, hi]
        obtain ⟨i0, ⟨i1, i2⟩, i3, ⟨i4, i5⟩, i6, i7, i8⟩ := hI
        refine ⟨rfl, rfl, ⟨⟨hM2, ⟨(hk4 _ (by dsimp only; omega)).1.trans i1, i2⟩, und_keep i3 1 (Or.inr ⟨rfl, by omega⟩) (by rw [hm3]; simp [setI]; omega) (by rw [hm3, setI_ne (by omega), show ((gUnd G).length : Int) - 1 = 7 by omega, cut_cp, setI_ne (by omega), ← i1]; exact (congrArg (fun f => cut f 0) (by funext j; simp [shK])).trans (cut_id (by rw [i1]; exact i2))) (fun t t0 t1 => by
            rw [hm3, setI_ne (by omega), cut_cp_ne (by omega), setI_ne (by omega)]
            funext j
            simp only [cut, shK, true_and]
            by_cases hj : 0 ≤ j ∧ j < 143
            · rw [if_pos hj, if_pos hj, if_pos (by omega)]
              exact congrArg _ (by omega)
            · rw [if_neg hj, if_neg hj]), ⟨i4.mono (hk4 _ (by dsimp only; omega)).1 (hk4 _ (by dsimp only; omega)).1, i5.mono (hk4 _ (by dsimp only; omega)).1 (hk4 _ (by dsimp only; omega)).1⟩, i6.mono (hk5 7 (by decide)) (hk4 _ (by dsimp only; omega)).1, (hk5 14 (by decide)).trans i7, i8.mono (hk5 33 (by decide)) (hk4 _ (by dsimp only; omega)).1⟩, hk4.mono (fun q hq => by (try dsimp only at *); omega), by rw [hm3]; rfl⟩, hk4, hk5⟩
      · refine r_aload_n dX12_keeps_18 rfl ?_
        refine r_getR dX12_keeps_19 fl_X12_19 rfl (by assumption) (by assumption) ?_
        refine r_iload_n dX12_keeps_22 rfl ?_
        refine r_aload_n dX12_keeps_23 rfl ?_
        refine r_getR dX12_keeps_24 fl_X12_19 rfl (by assumption) (by assumption) ?_
        refine r_iload_n dX12_keeps_27 rfl ?_
        refine r_sipush dX12_keeps_28 (by decide) ?_
        refine r_iadd dX12_keeps_31 ?_
        refine r_iald dX12_keeps_32 (by assumption) rfl (by omega) ?_
        refine r_iast dX12_keeps_33 (by assumption) rfl (by omega) ?_
        refine r_iinc dX12_keeps_34 rfl rfl ?_
        refine r_goto (tgt := 11) dX12_keeps_37 rfl ?_
        rw [shK_s (by omega)]
        exact ih (n - 1) (k + 1) (by omega) (by omega) (by omega) h8
  refine AMet.of (by decide) rfl (by decide) rfl ?_
  refine r_aload_n dX12_keeps_0 rfl ?_
  refine r_getI dX12_keeps_1 fl_X12_191 rfl (by assumption) ?_
  refine r_bipush dX12_keeps_4 (by decide) ?_
  refine q_icmp_ne (tgt := 50) dX12_keeps_6 rfl (by omega) (by omega) (fun c6 => ?_) (fun c6 => ?_)
  · have e9 : (cpK μ (m + 1) 0 (m + 4) (143 * μ.1 m 5) 143).1 m 5 = μ.1 m 5 := by simp [cpK]
    refine r_aload_n dX12_keeps_50 rfl ?_
    refine r_getR dX12_keeps_51 fl_X12_7 rfl (by assumption) (by assumption) ?_
    refine r_iconst dX12_keeps_54 ?_
    refine r_aload_n dX12_keeps_55 rfl ?_
    refine r_getR dX12_keeps_56 fl_X12_19 rfl (by assumption) (by assumption) ?_
    refine r_sipush dX12_keeps_59 (by decide) ?_
    refine r_aload_n dX12_keeps_62 rfl ?_
    refine r_getI dX12_keeps_63 fl_X12_191 rfl (by assumption) ?_
    refine r_imul dX12_keeps_66 ?_
    refine r_cS4F0 dX12_keeps_67 ml_X12_187 yl_X12_copies ⟨rfl, rfl⟩ rfl rfl rfl rfl (m_copies (s := m + 1) (d := m + 4) z1 z4 rfl rfl (by omega) (by omega) (by omega)) ?_
    refine r_aload_n dX12_keeps_70 rfl ?_
    refine r_dup dX12_keeps_71 rfl ?_
    refine r_getI dX12_keeps_72 fl_X12_191 rfl (by assumption) ?_
    rw [e9]
    refine r_iconst dX12_keeps_75 ?_
    refine r_iadd dX12_keeps_76 ?_
    refine r_putI dX12_keeps_77 fl_X12_191 (by assumption) ?_
    refine r_return dX12_keeps_80 rfl rfl rfl ?_
    generalize hm3 : setI (cpK μ (m + 1) 0 (m + 4) (143 * μ.1 m 5) 143) m 5 (μ.1 m 5 + 1) = μ3
    have hm3 := hm3.symm
    have hM2 : IsModel sh μ3.2.2 m := by rw [hm3]; exact hM
    have hk4 : Kp (fun a => a ≠ m ∧ a ≠ m + 4) μ μ3 := by rw [hm3]; exact (((Kp.rf _ μ).cp (by omega)).sI (by omega))
    have hk5 : ∀ i, i ≠ 5 → μ3.1 m i = μ.1 m i := by
      intro i hi
      rw [hm3]
      simp [cpK, shK, setI, hi]
    obtain ⟨i0, ⟨i1, i2⟩, i3, ⟨i4, i5⟩, i6, i7, i8⟩ := hI
    refine ⟨rfl, rfl, ⟨⟨hM2, ⟨(hk4 _ (by dsimp only; omega)).1.trans i1, i2⟩, und_keep i3 0 (Or.inl ⟨rfl, by omega⟩) (by rw [hm3]; simp [setI]; omega) (by rw [hm3, setI_ne (by omega), show ((gUnd G).length : Int) - 0 = μ.1 m 5 by omega, cut_cp, ← i1]; exact cut_id (by rw [i1]; exact i2)) (fun t t0 t1 => by
        rw [hm3, setI_ne (by omega), cut_cp_ne (by omega), Int.add_zero]), ⟨i4.mono (hk4 _ (by dsimp only; omega)).1 (hk4 _ (by dsimp only; omega)).1, i5.mono (hk4 _ (by dsimp only; omega)).1 (hk4 _ (by dsimp only; omega)).1⟩, i6.mono (hk5 7 (by decide)) (hk4 _ (by dsimp only; omega)).1, (hk5 14 (by decide)).trans i7, i8.mono (hk5 33 (by decide)) (hk4 _ (by dsimp only; omega)).1⟩, hk4.mono (fun q hq => by (try dsimp only at *); omega), by rw [hm3]; rfl⟩, hk4, hk5⟩
  · refine r_iconst dX12_keeps_9 ?_
    refine r_istore_n dX12_keeps_10 rfl ?_
    have hl := loop 1002 1001 0 (by omega) (by omega) (by omega) (by omega)
    rw [shK_0] at hl
    exact hl

/-! 11.cargo: taken from whole (wip/p37/port.py) -/
variable {n_ : Sh}
/-! 11.cargo: views of the memory, folds of loops; contracts of Cargo (wip/whole/src/11_cargo.py) -/
/-- the first k from here on, in n steps, that p takes; none: -1 -/
def fnd (p : Int → Bool) : Nat → Int → Int
  | 0, _ => -1
  | n + 1, k => if p k then k else fnd p n (k + 1)
/-- n steps of f from k on -/
def fld {α : Type} (f : Int → α → α) : Nat → Int → α → α
  | 0, _, a => a
  | n + 1, k, a => fld f n (k + 1) (f k a)
theorem b2i_01 (b : Bool) : b2i b = 0 ∨ b2i b = 1 := by cases b <;> simp [b2i]
abbrev IX : Type := Nat → Int → Option Nat
def IsCargo (sh : Sh) (R : IX) (c : Nat) : Prop := sh[c]? = some (0, 7) ∧ R c 1 = some (c + 1) ∧ R c 2 = some (c + 2) ∧ R c 3 = some (c + 3) ∧ R c 4 = some (c + 4) ∧ R c 6 = some (c + 5) ∧
  sh[c + 1]? = some (21, 5) ∧ sh[c + 2]? = some (20, 5) ∧ sh[c + 3]? = some (20, 5) ∧ sh[c + 4]? = some (20, 5) ∧ sh[c + 5]? = some (20, 2)
/-- an array filled with v up to k -/
def fillI (μ : Mem) (a : Nat) (k v : Int) : Mem := (fun b j => if b = a ∧ 0 ≤ j ∧ j < k then v else μ.1 b j, μ.2)
theorem fill_0 (μ : Mem) (a : Nat) (v : Int) : fillI μ a 0 v = μ := by
  have : (fillI μ a 0 v).1 = μ.1 := by
    funext b j
    simp only [fillI]
    rw [if_neg (by omega)]
  exact Prod.ext this rfl
theorem fill_s (μ : Mem) (a : Nat) {k v : Int} (hk : 0 ≤ k) : setI (fillI μ a k v) a k v = fillI μ a (k + 1) v := by
  have : (setI (fillI μ a k v) a k v).1 = (fillI μ a (k + 1) v).1 := by
    funext b j
    simp only [fillI, setI]
    by_cases hb : b = a
    · subst hb
      by_cases h1 : j = k
      · subst h1; simp [hk]; omega
      · by_cases h2 : 0 ≤ j ∧ j < k
        · rw [if_neg (by simp [h1]), if_pos ⟨rfl, h2⟩, if_pos ⟨rfl, by omega, by omega⟩]
        · rw [if_neg (by simp [h1]), if_neg (by simp; omega), if_neg (by simp; omega)]
    · simp [hb]
  exact Prod.ext this rfl
def clrPl (μ : Mem) (c : Nat) : Mem := fillI (fillI μ (c + 4) 5 (-1)) (c + 5) 2 0
def clrC (μ : Mem) (c : Nat) : Mem := clrPl (setI (setI μ c 0 0) c 5 0) c
def cpCargo (μ : Mem) (c o : Nat) : Mem :=
  let m1 := cpI (cpI (cpI (cpL (setI μ c 0 (μ.1 o 0)) (c + 1) (o + 1) 5) (c + 2) (o + 2) 5) (c + 3) (o + 3) 5) (c + 4) (o + 4) 5
  cpI (setI m1 c 5 (m1.1 o 5)) (c + 5) (o + 5) 2
def wrC (μ : Mem) (c : Nat) (k nm w st sp : Int) : Mem := setI (setI (setI (setL μ (c + 1) k nm) (c + 2) k w) (c + 3) k st) (c + 4) k sp
theorem c_has {sh : Sh} {μ : Mem} {c : Nat} {k : Int} (hC : IsCargo sh μ.2.2 c) (hk : -2147483648 ≤ k ∧ k < 2147483648) (hz : 0 ≤ μ.1 c 0 ∧ μ.1 c 0 ≤ 5)  : FMet yX0_has gX0_has sh [vR c, vI k] μ (some (vI (b2i (decide (0 ≤ k ∧ k < μ.1 c 0))))) μ := by
  obtain ⟨h0, h1, h2, h3, h4, h6, s1, s2, s3, s4, s5⟩ := hC
  refine AMet.of (by decide) rfl (by decide) rfl ?_
  refine r_iload_n dX0_has_0 rfl ?_
  refine q_if_lt (tgt := 16) dX0_has_1 rfl (by omega) (fun c1 => ?_) (fun c1 => ?_)
  · refine r_iconst dX0_has_16 ?_
    refine r_zreturn dX0_has_17 (by first | exact Or.inl rfl | exact Or.inr rfl | exact b2i_01 _ | omega) rfl rfl rfl ?_
    refine ⟨?_, rfl, rfl⟩; congr 2; simp only [b2i, decide_eq_true_eq]; split <;> omega
  · refine r_iload_n dX0_has_4 rfl ?_
    refine r_aload_n dX0_has_5 rfl ?_
    refine r_getI dX0_has_6 fl_X0_28 rfl (by assumption) ?_
    refine q_icmp_ge (tgt := 16) dX0_has_9 rfl (by omega) (by omega) (fun c9 => ?_) (fun c9 => ?_)
    · refine r_iconst dX0_has_16 ?_
      refine r_zreturn dX0_has_17 (by first | exact Or.inl rfl | exact Or.inr rfl | exact b2i_01 _ | omega) rfl rfl rfl ?_
      refine ⟨?_, rfl, rfl⟩; congr 2; simp only [b2i, decide_eq_true_eq]; split <;> omega
    · refine r_iconst dX0_has_12 ?_
      refine r_goto (tgt := 17) dX0_has_13 rfl ?_
      refine r_zreturn dX0_has_17 (by first | exact Or.inl rfl | exact Or.inr rfl | exact b2i_01 _ | omega) rfl rfl rfl ?_
      refine ⟨?_, rfl, rfl⟩; congr 2; simp only [b2i, decide_eq_true_eq]; split <;> omega
theorem c_lyingOn {sh : Sh} {μ : Mem} {c : Nat} {s : Int} (hC : IsCargo sh μ.2.2 c) (hs : -2147483648 ≤ s ∧ s < 2147483648) (hz : 0 ≤ μ.1 c 0 ∧ μ.1 c 0 ≤ 5) (hl : ∀ k, 0 ≤ k → k < μ.1 c 0 → -1 ≤ μ.1 (c + 4) k ∧ μ.1 (c + 4) k < 100) : FMet yX0_lyingOn gX0_lyingOn sh [vR c, vI s] μ (some (vI (fnd (fun k => decide (s ≠ -1 ∧ μ.1 (c + 4) k = s)) (μ.1 c 0).toNat 0))) μ := by
  obtain ⟨h0, h1, h2, h3, h4, h6, s1, s2, s3, s4, s5⟩ := hC
  have loop : ∀ (f n : Nat) (k : Int), n < f → 0 ≤ k → k + n = μ.1 c 0 → AW gX0_lyingOn sh μ 0 0 2 [some (vR c), some (vI s), some (vI k)] [] (fun r2 sh2 μ2 => r2 = some (vI (fnd (fun k => decide (s ≠ -1 ∧ μ.1 (c + 4) k = s)) n k)) ∧ sh2 = sh ∧ μ2 = μ) := by
    intro f
    induction f with
    | zero => intro n; intros; omega
    | succ f ih =>
      intro n k hf hk hn
      refine r_iload_n dX0_lyingOn_2 rfl ?_
      refine r_aload_n dX0_lyingOn_3 rfl ?_
      refine r_getI dX0_lyingOn_4 fl_X0_28 rfl (by assumption) ?_
      refine q_icmp_ge (tgt := 33) dX0_lyingOn_7 rfl (by omega) (by omega) (fun c7 => ?_) (fun c7 => ?_)
      · refine r_iconst dX0_lyingOn_33 ?_
        refine r_ireturn dX0_lyingOn_34 rfl rfl rfl ?_
        obtain rfl | ⟨q, rfl⟩ : n = 0 ∨ ∃ q, n = q + 1 := by cases n <;> simp
        · first | exact ⟨rfl, rfl, rfl⟩ | omega
        · first | omega | (refine ⟨?_, rfl, rfl⟩; simp_all [fnd])
      · refine r_iload_n dX0_lyingOn_10 rfl ?_
        refine r_iconst dX0_lyingOn_11 ?_
        refine q_icmp_eq (tgt := 27) dX0_lyingOn_12 rfl (by omega) (by omega) (fun c12 => ?_) (fun c12 => ?_)
        · refine r_iinc dX0_lyingOn_27 rfl rfl ?_
          refine r_goto (tgt := 2) dX0_lyingOn_30 rfl ?_
          refine AW.mono (ih (n - 1) (k + 1) (by omega) (by omega) (by omega)) ?_
          obtain ⟨q, rfl⟩ : ∃ q, n = q + 1 := ⟨n - 1, by omega⟩
          rintro r sh2 μ2 ⟨rfl, h⟩
          refine ⟨?_, h⟩
          simp_all [fnd]
        · refine r_aload_n dX0_lyingOn_15 rfl ?_
          refine r_getR dX0_lyingOn_16 fl_X0_22 rfl (by assumption) (by assumption) ?_
          refine r_iload_n dX0_lyingOn_19 rfl ?_
          have hlk := hl k (by omega) (by omega)
          refine r_iald dX0_lyingOn_20 (by assumption) rfl (by omega) ?_
          refine r_iload_n dX0_lyingOn_21 rfl ?_
          refine q_icmp_ne (tgt := 27) dX0_lyingOn_22 rfl (by omega) (by omega) (fun c22 => ?_) (fun c22 => ?_)
          · refine r_iinc dX0_lyingOn_27 rfl rfl ?_
            refine r_goto (tgt := 2) dX0_lyingOn_30 rfl ?_
            refine AW.mono (ih (n - 1) (k + 1) (by omega) (by omega) (by omega)) ?_
            obtain ⟨q, rfl⟩ : ∃ q, n = q + 1 := ⟨n - 1, by omega⟩
            rintro r sh2 μ2 ⟨rfl, h⟩
            refine ⟨?_, h⟩
            simp_all [fnd]
          · refine r_iload_n dX0_lyingOn_25 rfl ?_
            refine r_ireturn dX0_lyingOn_26 rfl rfl rfl ?_
            obtain rfl | ⟨q, rfl⟩ : n = 0 ∨ ∃ q, n = q + 1 := by cases n <;> simp
            · first | exact ⟨rfl, rfl, rfl⟩ | omega
            · first | omega | (refine ⟨?_, rfl, rfl⟩; simp_all [fnd])
  refine AMet.of (by decide) rfl (by decide) rfl ?_
  refine r_iconst dX0_lyingOn_0 ?_
  refine r_istore_n dX0_lyingOn_1 rfl ?_
  exact loop _ _ 0 (Nat.lt_succ_self _) (by omega) (by omega)
theorem c_called {sh : Sh} {μ : Mem} {c : Nat} {s : Int} (hC : IsCargo sh μ.2.2 c) (hs : 0 ≤ s ∧ s < 9223372036854775808) (hz : 0 ≤ μ.1 c 0 ∧ μ.1 c 0 ≤ 5) (hl : ∀ k, 0 ≤ k → k < μ.1 c 0 → 0 ≤ μ.2.1 (c + 1) k ∧ μ.2.1 (c + 1) k < 9223372036854775808) : FMet yX0_called gX0_called sh [vR c, vL s] μ (some (vI (fnd (fun k => decide (s ≠ 0 ∧ μ.2.1 (c + 1) k = s)) (μ.1 c 0).toNat 0))) μ := by
  obtain ⟨h0, h1, h2, h3, h4, h6, s1, s2, s3, s4, s5⟩ := hC
  have loop : ∀ (f n : Nat) (k : Int), n < f → 0 ≤ k → k + n = μ.1 c 0 → AW gX0_called sh μ 0 0 2 [some (vR c), some (vL s), none, some (vI k)] [] (fun r2 sh2 μ2 => r2 = some (vI (fnd (fun k => decide (s ≠ 0 ∧ μ.2.1 (c + 1) k = s)) n k)) ∧ sh2 = sh ∧ μ2 = μ) := by
    intro f
    induction f with
    | zero => intro n; intros; omega
    | succ f ih =>
      intro n k hf hk hn
      refine r_iload_n dX0_called_2 rfl ?_
      refine r_aload_n dX0_called_3 rfl ?_
      refine r_getI dX0_called_4 fl_X0_28 rfl (by assumption) ?_
      refine q_icmp_ge (tgt := 35) dX0_called_7 rfl (by omega) (by omega) (fun c7 => ?_) (fun c7 => ?_)
      · refine r_iconst dX0_called_35 ?_
        refine r_ireturn dX0_called_36 rfl rfl rfl ?_
        obtain rfl | ⟨q, rfl⟩ : n = 0 ∨ ∃ q, n = q + 1 := by cases n <;> simp
        · first | exact ⟨rfl, rfl, rfl⟩ | omega
        · first | omega | (refine ⟨?_, rfl, rfl⟩; simp_all [fnd])
      · refine r_lload_n dX0_called_10 rfl ?_
        refine r_lconst (x := 0) dX0_called_11 rfl ?_
        refine r_lcmp dX0_called_12 (by omega) (by omega) ?_
        refine q_if_eq (tgt := 29) dX0_called_13 rfl (by simp only [icmpL]; split <;> (try split) <;> omega) (fun c13 => ?_) (fun c13 => ?_)
        · have c13 : s = 0 := by simp only [icmpL] at c13; split at c13 <;> (try split at c13) <;> omega
          refine r_iinc dX0_called_29 rfl rfl ?_
          refine r_goto (tgt := 2) dX0_called_32 rfl ?_
          refine AW.mono (ih (n - 1) (k + 1) (by omega) (by omega) (by omega)) ?_
          obtain ⟨q, rfl⟩ : ∃ q, n = q + 1 := ⟨n - 1, by omega⟩
          rintro r sh2 μ2 ⟨rfl, h⟩
          refine ⟨?_, h⟩
          simp_all [fnd]
        · have c13 : ¬ s = 0 := by intro hh; subst hh; exact c13 rfl
          refine r_aload_n dX0_called_16 rfl ?_
          refine r_getR dX0_called_17 fl_X0_9 rfl (by assumption) (by assumption) ?_
          refine r_iload_n dX0_called_20 rfl ?_
          refine r_lald dX0_called_21 (by assumption) rfl (by omega) ?_
          refine r_lload_n dX0_called_22 rfl ?_
          have hlk := hl k (by omega) (by omega)
          refine r_lcmp dX0_called_23 (by omega) (by omega) ?_
          refine q_if_ne (tgt := 29) dX0_called_24 rfl (by simp only [icmpL]; split <;> (try split) <;> omega) (fun c24 => ?_) (fun c24 => ?_)
          · have c24 : ¬ μ.2.1 (c + 1) k = s := by intro hh; rw [hh] at c24; simp [icmpL] at c24
            refine r_iinc dX0_called_29 rfl rfl ?_
            refine r_goto (tgt := 2) dX0_called_32 rfl ?_
            refine AW.mono (ih (n - 1) (k + 1) (by omega) (by omega) (by omega)) ?_
            obtain ⟨q, rfl⟩ : ∃ q, n = q + 1 := ⟨n - 1, by omega⟩
            rintro r sh2 μ2 ⟨rfl, h⟩
            refine ⟨?_, h⟩
            simp_all [fnd]
          · have c24 : μ.2.1 (c + 1) k = s := by simp only [icmpL] at c24; split at c24 <;> (try split at c24) <;> omega
            refine r_iload_n dX0_called_27 rfl ?_
            refine r_ireturn dX0_called_28 rfl rfl rfl ?_
            obtain rfl | ⟨q, rfl⟩ : n = 0 ∨ ∃ q, n = q + 1 := by cases n <;> simp
            · first | exact ⟨rfl, rfl, rfl⟩ | omega
            · first | omega | (refine ⟨?_, rfl, rfl⟩; simp_all [fnd])
  refine AMet.of (by decide) rfl (by decide) rfl ?_
  refine r_iconst dX0_called_0 ?_
  refine r_istore_n dX0_called_1 rfl ?_
  exact loop _ _ 0 (Nat.lt_succ_self _) (by omega) (by omega)
theorem c_weightOn {sh : Sh} {μ : Mem} {c : Nat} {s : Int} (hC : IsCargo sh μ.2.2 c) (hs : -2147483648 ≤ s ∧ s < 2147483648) (hz : 0 ≤ μ.1 c 0 ∧ μ.1 c 0 ≤ 5) (hl : ∀ k, 0 ≤ k → k < μ.1 c 0 → -1 ≤ μ.1 (c + 4) k ∧ μ.1 (c + 4) k < 100) {j : Int} (hj : fnd (fun k => decide (s ≠ -1 ∧ μ.1 (c + 4) k = s)) (μ.1 c 0).toNat 0 = j) (hj2 : -1 ≤ j ∧ j < μ.1 c 0) : FMet yX0_weightOn gX0_weightOn sh [vR c, vI s] μ (some (vI (if j < 0 then 0 else μ.1 (c + 2) j))) μ := by
  obtain ⟨h0, h1, h2, h3, h4, h6, s1, s2, s3, s4, s5⟩ := id hC
  refine AMet.of (by decide) rfl (by decide) rfl ?_
  refine r_aload_n dX0_weightOn_0 rfl ?_
  refine r_iload_n dX0_weightOn_1 rfl ?_
  refine r_cV1F1 dX0_weightOn_2 ml_X0_44 yl_X0_lyingOn ⟨rfl, rfl⟩ (by assumption) ⟨_, rfl⟩ rfl rfl rfl rfl (c_lyingOn hC hs hz hl) ?_
  rw [hj]
  refine r_istore_n dX0_weightOn_5 rfl ?_
  refine r_aload_n dX0_weightOn_6 rfl ?_
  refine r_iload_n dX0_weightOn_7 rfl ?_
  refine r_cV1F1 dX0_weightOn_8 ml_X0_48 yl_X0_has ⟨rfl, rfl⟩ (by assumption) ⟨_, rfl⟩ rfl rfl rfl rfl (c_has hC (by omega) hz) ?_
  refine r_if_eqB (tgt := 23) dX0_weightOn_11 rfl (fun c11 => ?_) (fun c11 => ?_)
  · have c11 := of_decide_eq_false c11
    refine r_iconst dX0_weightOn_23 ?_
    refine r_ireturn dX0_weightOn_24 rfl rfl rfl ?_
    refine ⟨?_, rfl, rfl⟩; congr 2; split <;> first | rfl | omega
  · have c11 := of_decide_eq_true c11
    refine r_aload_n dX0_weightOn_14 rfl ?_
    refine r_getR dX0_weightOn_15 fl_X0_15 rfl (by assumption) (by assumption) ?_
    refine r_iload_n dX0_weightOn_18 rfl ?_
    refine r_iald dX0_weightOn_19 (by assumption) rfl (by omega) ?_
    refine r_goto (tgt := 24) dX0_weightOn_20 rfl ?_
    refine r_ireturn dX0_weightOn_24 rfl rfl rfl ?_
    refine ⟨?_, rfl, rfl⟩; congr 2; split <;> first | rfl | omega
theorem c_outCount {sh : Sh} {μ : Mem} {c : Nat} (hC : IsCargo sh μ.2.2 c) (hz : 0 ≤ μ.1 c 0 ∧ μ.1 c 0 ≤ 5) (hl : ∀ k, 0 ≤ k → k < μ.1 c 0 → -1 ≤ μ.1 (c + 4) k ∧ μ.1 (c + 4) k < 100) : FMet yX0_outCount gX0_outCount sh [vR c] μ (some (vI (fld (fun k a => a + (if μ.1 (c + 4) k = -1 then 1 else 0)) (μ.1 c 0).toNat 0 0))) μ := by
  obtain ⟨h0, h1, h2, h3, h4, h6, s1, s2, s3, s4, s5⟩ := hC
  have loop : ∀ (f n : Nat) (k : Int) (a : Int), n < f → 0 ≤ k → k + n = μ.1 c 0 → AW gX0_outCount sh μ 0 0 4 [some (vR c), some (vI a), some (vI k)] [] (fun r2 sh2 μ2 => r2 = some (vI (fld (fun k a => a + (if μ.1 (c + 4) k = -1 then 1 else 0)) n k a)) ∧ sh2 = sh ∧ μ2 = μ) := by
    intro f
    induction f with
    | zero => intro n; intros; omega
    | succ f ih =>
      intro n k a hf hk hn
      refine r_iload_n dX0_outCount_4 rfl ?_
      refine r_aload_n dX0_outCount_5 rfl ?_
      refine r_getI dX0_outCount_6 fl_X0_28 rfl (by assumption) ?_
      refine q_icmp_ge (tgt := 36) dX0_outCount_9 rfl (by omega) (by omega) (fun c9 => ?_) (fun c9 => ?_)
      · refine r_iload_n dX0_outCount_36 rfl ?_
        refine r_ireturn dX0_outCount_37 rfl rfl rfl ?_
        obtain rfl : n = 0 := by omega
        exact ⟨rfl, rfl, rfl⟩
      · refine r_iload_n dX0_outCount_12 rfl ?_
        refine r_aload_n dX0_outCount_13 rfl ?_
        refine r_getR dX0_outCount_14 fl_X0_22 rfl (by assumption) (by assumption) ?_
        refine r_iload_n dX0_outCount_17 rfl ?_
        have hlk := hl k (by omega) (by omega)
        refine r_iald dX0_outCount_18 (by assumption) rfl (by omega) ?_
        refine r_iconst dX0_outCount_19 ?_
        refine q_icmp_ne (tgt := 27) dX0_outCount_20 rfl (by omega) (by omega) (fun c20 => ?_) (fun c20 => ?_)
        · refine r_iconst dX0_outCount_27 ?_
          refine r_iadd dX0_outCount_28 ?_
          refine r_istore_n dX0_outCount_29 rfl ?_
          refine r_iinc dX0_outCount_30 rfl rfl ?_
          refine r_goto (tgt := 4) dX0_outCount_33 rfl ?_
          obtain ⟨q, rfl⟩ : ∃ q, n = q + 1 := ⟨n - 1, by omega⟩
          refine AW.mono (ih q (k + 1) _ (by omega) (by omega) (by omega)) ?_
          rintro r sh2 μ2 ⟨rfl, h⟩
          refine ⟨?_, h⟩
          simp_all [fld]
        · refine r_iconst dX0_outCount_23 ?_
          refine r_goto (tgt := 28) dX0_outCount_24 rfl ?_
          refine r_iadd dX0_outCount_28 ?_
          refine r_istore_n dX0_outCount_29 rfl ?_
          refine r_iinc dX0_outCount_30 rfl rfl ?_
          refine r_goto (tgt := 4) dX0_outCount_33 rfl ?_
          obtain ⟨q, rfl⟩ : ∃ q, n = q + 1 := ⟨n - 1, by omega⟩
          refine AW.mono (ih q (k + 1) _ (by omega) (by omega) (by omega)) ?_
          rintro r sh2 μ2 ⟨rfl, h⟩
          refine ⟨?_, h⟩
          simp_all [fld]
  refine AMet.of (by decide) rfl (by decide) rfl ?_
  refine r_iconst dX0_outCount_0 ?_
  refine r_istore_n dX0_outCount_1 rfl ?_
  refine r_iconst dX0_outCount_2 ?_
  refine r_istore_n dX0_outCount_3 rfl ?_
  exact loop _ _ 0 0 (Nat.lt_succ_self _) (by omega) (by omega)
theorem c_inBins {sh : Sh} {μ : Mem} {c : Nat} (hC : IsCargo sh μ.2.2 c)  : FMet yX0_inBins gX0_inBins sh [vR c] μ (some (vI (μ.1 (c + 5) 0 + μ.1 (c + 5) 1))) μ := by
  obtain ⟨h0, h1, h2, h3, h4, h6, s1, s2, s3, s4, s5⟩ := hC
  have loop : ∀ (f n : Nat) (k : Int) (a : Int), n < f → 0 ≤ k → k + n = 2 → AW gX0_inBins sh μ 0 0 4 [some (vR c), some (vI a), some (vI k)] [] (fun r2 sh2 μ2 => r2 = some (vI (fld (fun k a => a + μ.1 (c + 5) k) n k a)) ∧ sh2 = sh ∧ μ2 = μ) := by
    intro f
    induction f with
    | zero => intro n; intros; omega
    | succ f ih =>
      intro n k a hf hk hn
      refine r_iload_n dX0_inBins_4 rfl ?_
      refine r_iconst dX0_inBins_5 ?_
      refine q_icmp_ge (tgt := 24) dX0_inBins_6 rfl (by omega) (by omega) (fun c6 => ?_) (fun c6 => ?_)
      · refine r_iload_n dX0_inBins_24 rfl ?_
        refine r_ireturn dX0_inBins_25 rfl rfl rfl ?_
        obtain rfl : n = 0 := by omega
        exact ⟨rfl, rfl, rfl⟩
      · refine r_iload_n dX0_inBins_9 rfl ?_
        refine r_aload_n dX0_inBins_10 rfl ?_
        refine r_getR dX0_inBins_11 fl_X0_25 rfl (by assumption) (by assumption) ?_
        refine r_iload_n dX0_inBins_14 rfl ?_
        refine r_iald dX0_inBins_15 (by assumption) rfl (by omega) ?_
        refine r_iadd dX0_inBins_16 ?_
        refine r_istore_n dX0_inBins_17 rfl ?_
        refine r_iinc dX0_inBins_18 rfl rfl ?_
        refine r_goto (tgt := 4) dX0_inBins_21 rfl ?_
        obtain ⟨q, rfl⟩ : ∃ q, n = q + 1 := ⟨n - 1, by omega⟩
        exact ih q (k + 1) _ (by omega) (by omega) (by omega)
  refine AMet.of (by decide) rfl (by decide) rfl ?_
  refine r_iconst dX0_inBins_0 ?_
  refine r_istore_n dX0_inBins_1 rfl ?_
  refine r_iconst dX0_inBins_2 ?_
  refine r_istore_n dX0_inBins_3 rfl ?_
  refine AW.mono (loop 3 2 0 0 (by omega) (by omega) (by omega)) ?_
  rintro r sh2 μ2 ⟨rfl, h⟩
  refine ⟨?_, h⟩
  simp [fld]
theorem c_clearPlaces {sh : Sh} {μ : Mem} {c : Nat} (hC : IsCargo sh μ.2.2 c)  : FMet yX0_clearPlaces gX0_clearPlaces sh [vR c] μ none (clrPl μ c) := by
  obtain ⟨h0, h1, h2, h3, h4, h6, s1, s2, s3, s4, s5⟩ := hC
  have loop2 : ∀ (f n : Nat) (k : Int), n < f → 0 ≤ k → k + n = 2 → AW gX0_clearPlaces sh (fillI (fillI μ (c + 4) 5 (-1)) (c + 5) k 0) 0 0 22 [some (vR c), some (vI k)] [] (fun r2 sh2 μ2 => r2 = none ∧ sh2 = sh ∧ μ2 = clrPl μ c) := by
    intro f
    induction f with
    | zero => intro n; intros; omega
    | succ f ih =>
      intro n k hf hk hn
      refine r_iload_n dX0_clearPlaces_22 rfl ?_
      refine r_iconst dX0_clearPlaces_23 ?_
      refine q_icmp_ge (tgt := 40) dX0_clearPlaces_24 rfl (by omega) (by omega) (fun c24 => ?_) (fun c24 => ?_)
      · refine r_return dX0_clearPlaces_40 rfl rfl rfl ?_
        obtain rfl : k = 2 := by omega
        exact ⟨rfl, rfl, rfl⟩
      · refine r_aload_n dX0_clearPlaces_27 rfl ?_
        refine r_getR dX0_clearPlaces_28 fl_X0_25 rfl (by assumption) (by assumption) ?_
        refine r_iload_n dX0_clearPlaces_31 rfl ?_
        refine r_iconst dX0_clearPlaces_32 ?_
        refine r_iast dX0_clearPlaces_33 (by assumption) rfl (by omega) ?_
        refine r_iinc dX0_clearPlaces_34 rfl rfl ?_
        refine r_goto (tgt := 22) dX0_clearPlaces_37 rfl ?_
        rw [fill_s _ _ (by omega)]
        exact ih (n - 1) (k + 1) (by omega) (by omega) (by omega)
  have loop : ∀ (f n : Nat) (k : Int), n < f → 0 ≤ k → k + n = 5 → AW gX0_clearPlaces sh (fillI μ (c + 4) k (-1)) 0 0 2 [some (vR c), some (vI k)] [] (fun r2 sh2 μ2 => r2 = none ∧ sh2 = sh ∧ μ2 = clrPl μ c) := by
    intro f
    induction f with
    | zero => intro n; intros; omega
    | succ f ih =>
      intro n k hf hk hn
      refine r_iload_n dX0_clearPlaces_2 rfl ?_
      refine r_iconst dX0_clearPlaces_3 ?_
      refine q_icmp_ge (tgt := 20) dX0_clearPlaces_4 rfl (by omega) (by omega) (fun c4 => ?_) (fun c4 => ?_)
      · refine r_iconst dX0_clearPlaces_20 ?_
        refine r_istore_n dX0_clearPlaces_21 rfl ?_
        obtain rfl : k = 5 := by omega
        have hl2 := loop2 3 2 0 (by omega) (by omega) (by omega)
        rw [fill_0] at hl2
        exact hl2
      · refine r_aload_n dX0_clearPlaces_7 rfl ?_
        refine r_getR dX0_clearPlaces_8 fl_X0_22 rfl (by assumption) (by assumption) ?_
        refine r_iload_n dX0_clearPlaces_11 rfl ?_
        refine r_iconst dX0_clearPlaces_12 ?_
        refine r_iast dX0_clearPlaces_13 (by assumption) rfl (by omega) ?_
        refine r_iinc dX0_clearPlaces_14 rfl rfl ?_
        refine r_goto (tgt := 2) dX0_clearPlaces_17 rfl ?_
        rw [fill_s _ _ (by omega)]
        exact ih (n - 1) (k + 1) (by omega) (by omega) (by omega)
  refine AMet.of (by decide) rfl (by decide) rfl ?_
  refine r_iconst dX0_clearPlaces_0 ?_
  refine r_istore_n dX0_clearPlaces_1 rfl ?_
  have hl1 := loop 6 5 0 (by omega) (by omega) (by omega)
  rw [fill_0] at hl1
  exact hl1
theorem c_clearC {sh : Sh} {μ : Mem} {c : Nat} (hC : IsCargo sh μ.2.2 c)  : FMet yX0_clear gX0_clear sh [vR c] μ none (clrC μ c) := by
  obtain ⟨h0, h1, h2, h3, h4, h6, s1, s2, s3, s4, s5⟩ := id hC
  refine AMet.of (by decide) rfl (by decide) rfl ?_
  refine r_aload_n dX0_clear_0 rfl ?_
  refine r_iconst dX0_clear_1 ?_
  refine r_putI dX0_clear_2 fl_X0_28 (by assumption) ?_
  refine r_aload_n dX0_clear_5 rfl ?_
  refine r_iconst dX0_clear_6 ?_
  refine r_putI dX0_clear_7 fl_X0_32 (by assumption) ?_
  refine r_aload_n dX0_clear_10 rfl ?_
  refine r_cV0F0 dX0_clear_11 ml_X0_35 yl_X0_clearPlaces ⟨rfl, rfl⟩ (by assumption) ⟨_, rfl⟩ rfl rfl rfl rfl (c_clearPlaces hC) ?_
  refine r_return dX0_clear_14 rfl rfl rfl ?_
  exact ⟨rfl, rfl, rfl⟩
theorem c_copyC {sh : Sh} {μ : Mem} {c o : Nat} (hC : IsCargo sh μ.2.2 c) (hO : IsCargo sh μ.2.2 o) : FMet yX0_copyFrom gX0_copyFrom sh [vR c, vR o] μ none (cpCargo μ c o) := by
  obtain ⟨h0, h1, h2, h3, h4, h6, s1, s2, s3, s4, s5⟩ := hC
  obtain ⟨k0, k1, k2, k3, k4, k6, t1, t2, t3, t4, t5⟩ := hO
  refine AMet.of (by decide) rfl (by decide) rfl ?_
  refine r_aload_n dX0_copyFrom_0 rfl ?_
  refine r_aload_n dX0_copyFrom_1 rfl ?_
  refine r_getI dX0_copyFrom_2 fl_X0_28 rfl (by assumption) ?_
  refine r_putI dX0_copyFrom_5 fl_X0_28 (by assumption) ?_
  refine r_aload_n dX0_copyFrom_8 rfl ?_
  refine r_getR dX0_copyFrom_9 fl_X0_9 rfl (by assumption) (by assumption) ?_
  refine r_iconst dX0_copyFrom_12 ?_
  refine r_aload_n dX0_copyFrom_13 rfl ?_
  refine r_getR dX0_copyFrom_14 fl_X0_9 rfl (by assumption) (by assumption) ?_
  refine r_iconst dX0_copyFrom_17 ?_
  refine r_iconst dX0_copyFrom_18 ?_
  refine r_copyL dX0_copyFrom_19 ml_X0_38 (by assumption) (by assumption) rfl rfl rfl rfl rfl rfl ?_
  refine r_aload_n dX0_copyFrom_22 rfl ?_
  refine r_getR dX0_copyFrom_23 fl_X0_15 rfl (by assumption) (by assumption) ?_
  refine r_iconst dX0_copyFrom_26 ?_
  refine r_aload_n dX0_copyFrom_27 rfl ?_
  refine r_getR dX0_copyFrom_28 fl_X0_15 rfl (by assumption) (by assumption) ?_
  refine r_iconst dX0_copyFrom_31 ?_
  refine r_iconst dX0_copyFrom_32 ?_
  refine r_copyI dX0_copyFrom_33 ml_X0_38 (by assumption) (by assumption) rfl rfl rfl rfl rfl rfl ?_
  refine r_aload_n dX0_copyFrom_36 rfl ?_
  refine r_getR dX0_copyFrom_37 fl_X0_19 rfl (by assumption) (by assumption) ?_
  refine r_iconst dX0_copyFrom_40 ?_
  refine r_aload_n dX0_copyFrom_41 rfl ?_
  refine r_getR dX0_copyFrom_42 fl_X0_19 rfl (by assumption) (by assumption) ?_
  refine r_iconst dX0_copyFrom_45 ?_
  refine r_iconst dX0_copyFrom_46 ?_
  refine r_copyI dX0_copyFrom_47 ml_X0_38 (by assumption) (by assumption) rfl rfl rfl rfl rfl rfl ?_
  refine r_aload_n dX0_copyFrom_50 rfl ?_
  refine r_getR dX0_copyFrom_51 fl_X0_22 rfl (by assumption) (by assumption) ?_
  refine r_iconst dX0_copyFrom_54 ?_
  refine r_aload_n dX0_copyFrom_55 rfl ?_
  refine r_getR dX0_copyFrom_56 fl_X0_22 rfl (by assumption) (by assumption) ?_
  refine r_iconst dX0_copyFrom_59 ?_
  refine r_iconst dX0_copyFrom_60 ?_
  refine r_copyI dX0_copyFrom_61 ml_X0_38 (by assumption) (by assumption) rfl rfl rfl rfl rfl rfl ?_
  refine r_aload_n dX0_copyFrom_64 rfl ?_
  refine r_aload_n dX0_copyFrom_65 rfl ?_
  refine r_getI dX0_copyFrom_66 fl_X0_32 rfl (by assumption) ?_
  refine r_putI dX0_copyFrom_69 fl_X0_32 (by assumption) ?_
  refine r_aload_n dX0_copyFrom_72 rfl ?_
  refine r_getR dX0_copyFrom_73 fl_X0_25 rfl (by assumption) (by assumption) ?_
  refine r_iconst dX0_copyFrom_76 ?_
  refine r_aload_n dX0_copyFrom_77 rfl ?_
  refine r_getR dX0_copyFrom_78 fl_X0_25 rfl (by assumption) (by assumption) ?_
  refine r_iconst dX0_copyFrom_81 ?_
  refine r_iconst dX0_copyFrom_82 ?_
  refine r_copyI dX0_copyFrom_83 ml_X0_38 (by assumption) (by assumption) rfl rfl rfl rfl rfl rfl ?_
  refine r_return dX0_copyFrom_86 rfl rfl rfl ?_
  exact ⟨rfl, rfl, rfl⟩
theorem c_write {sh : Sh} {μ : Mem} {c : Nat} {k nm w st sp : Int} (hC : IsCargo sh μ.2.2 c) (hk : 0 ≤ k ∧ k < 5) : FMet yX0_write gX0_write sh [vR c, vI k, vL nm, vI w, vI st, vI sp] μ none (wrC μ c k nm w st sp) := by
  obtain ⟨h0, h1, h2, h3, h4, h6, s1, s2, s3, s4, s5⟩ := hC
  refine AMet.of (by decide) rfl (by decide) rfl ?_
  refine r_aload_n dX0_write_0 rfl ?_
  refine r_getR dX0_write_1 fl_X0_9 rfl (by assumption) (by assumption) ?_
  refine r_iload_n dX0_write_4 rfl ?_
  refine r_lload_n dX0_write_5 rfl ?_
  refine r_last dX0_write_6 (by assumption) rfl (by omega) ?_
  refine r_aload_n dX0_write_7 rfl ?_
  refine r_getR dX0_write_8 fl_X0_15 rfl (by assumption) (by assumption) ?_
  refine r_iload_n dX0_write_11 rfl ?_
  refine r_iload dX0_write_12 rfl ?_
  refine r_iast dX0_write_14 (by assumption) rfl (by omega) ?_
  refine r_aload_n dX0_write_15 rfl ?_
  refine r_getR dX0_write_16 fl_X0_19 rfl (by assumption) (by assumption) ?_
  refine r_iload_n dX0_write_19 rfl ?_
  refine r_iload dX0_write_20 rfl ?_
  refine r_iast dX0_write_22 (by assumption) rfl (by omega) ?_
  refine r_aload_n dX0_write_23 rfl ?_
  refine r_getR dX0_write_24 fl_X0_22 rfl (by assumption) (by assumption) ?_
  refine r_iload_n dX0_write_27 rfl ?_
  refine r_iload dX0_write_28 rfl ?_
  refine r_iast dX0_write_30 (by assumption) rfl (by omega) ?_
  refine r_return dX0_write_31 rfl rfl rfl ?_
  exact ⟨rfl, rfl, rfl⟩
theorem c_add {sh : Sh} {μ : Mem} {c : Nat} {nm w st : Int} (hC : IsCargo sh μ.2.2 c) (hz : 0 ≤ μ.1 c 0 ∧ μ.1 c 0 ≤ 5)  : FMet yX0_add gX0_add sh [vR c, vL nm, vI w, vI st] μ none (if μ.1 c 0 < 5 then setI (wrC μ c (μ.1 c 0) nm w st (-1)) c 0 ((wrC μ c (μ.1 c 0) nm w st (-1)).1 c 0 + 1) else μ) := by
  obtain ⟨h0, h1, h2, h3, h4, h6, s1, s2, s3, s4, s5⟩ := id hC
  refine AMet.of (by decide) rfl (by decide) rfl ?_
  refine r_aload_n dX0_add_0 rfl ?_
  refine r_getI dX0_add_1 fl_X0_28 rfl (by assumption) ?_
  refine r_iconst dX0_add_4 ?_
  refine q_icmp_ge (tgt := 31) dX0_add_5 rfl (by omega) (by omega) (fun c5 => ?_) (fun c5 => ?_)
  · refine r_return dX0_add_31 rfl rfl rfl ?_
    refine ⟨rfl, rfl, ?_⟩
    split <;> first | rfl | omega
  · refine r_aload_n dX0_add_8 rfl ?_
    refine r_aload_n dX0_add_9 rfl ?_
    refine r_getI dX0_add_10 fl_X0_28 rfl (by assumption) ?_
    refine r_lload_n dX0_add_13 rfl ?_
    refine r_iload_n dX0_add_14 rfl ?_
    refine r_iload dX0_add_15 rfl ?_
    refine r_iconst dX0_add_17 ?_
    refine r_cV5F0 dX0_add_18 ml_X0_52 yl_X0_write ⟨rfl, rfl⟩ (by assumption) ⟨_, rfl⟩ rfl rfl rfl rfl (c_write hC (by omega)) ?_
    refine r_aload_n dX0_add_21 rfl ?_
    refine r_dup dX0_add_22 rfl ?_
    refine r_getI dX0_add_23 fl_X0_28 rfl (by assumption) ?_
    refine r_iconst dX0_add_26 ?_
    refine r_iadd dX0_add_27 ?_
    refine r_putI dX0_add_28 fl_X0_28 (by assumption) ?_
    refine r_return dX0_add_31 rfl rfl rfl ?_
    refine ⟨rfl, rfl, ?_⟩
    split <;> first | rfl | omega

/-! 11.cargo: views of the memory, folds of loops; contracts of Cargo (wip/whole/src/11_cargo.py) -/
/-- the first k from here on, in n steps, that p takes; none: -1 -/
def fnd (p : Int → Bool) : Nat → Int → Int
  | 0, _ => -1
  | n + 1, k => if p k then k else fnd p n (k + 1)
/-- n steps of f from k on -/
def fld {α : Type} (f : Int → α → α) : Nat → Int → α → α
  | 0, _, a => a
  | n + 1, k, a => fld f n (k + 1) (f k a)
theorem b2i_01 (b : Bool) : b2i b = 0 ∨ b2i b = 1 := by cases b <;> simp [b2i]
theorem b2i_t {b : Bool} (h : b = true) : b2i b = 1 := by rw [h]; rfl
theorem b2i_f {b : Bool} (h : b = false) : b2i b = 0 := by rw [h]; rfl
abbrev IX : Type := Nat → Int → Option Nat
def IsCargo (sh : Sh) (R : IX) (c : Nat) : Prop := sh[c]? = some (0, 7) ∧ R c 1 = some (c + 1) ∧ R c 2 = some (c + 2) ∧ R c 3 = some (c + 3) ∧ R c 4 = some (c + 4) ∧ R c 6 = some (c + 5) ∧
  sh[c + 1]? = some (21, 5) ∧ sh[c + 2]? = some (20, 5) ∧ sh[c + 3]? = some (20, 5) ∧ sh[c + 4]? = some (20, 5) ∧ sh[c + 5]? = some (20, 2)

theorem c_has {sh : Sh} {μ : Mem} {c : Nat} {k : Int} (hC : IsCargo sh μ.2.2 c) (hk : -2147483648 ≤ k ∧ k < 2147483648) (hz : 0 ≤ μ.1 c 0 ∧ μ.1 c 0 ≤ 5) : FMet yX0_has gX0_has sh [vR c, vI k] μ (some (vI (b2i (decide (0 ≤ k ∧ k < μ.1 c 0))))) μ := by
  obtain ⟨h0, h1, h2, h3, h4, h6, s1, s2, s3, s4, s5⟩ := hC
  refine AMet.of (by decide) rfl (by decide) rfl ?_
  refine r_iload_n dX0_has_0 rfl ?_
  refine r_if_lt (tgt := 16) dX0_has_1 rfl (by omega) (fun c1 => ?_) (fun c1 => ?_)
  · refine r_iconst dX0_has_16 ?_
    refine r_zreturn dX0_has_17 (by first | exact Or.inl rfl | exact Or.inr rfl | exact b2i_01 _ | omega) rfl rfl rfl ?_
    refine ⟨?_, rfl, rfl⟩; congr 2; simp only [b2i, decide_eq_true_eq]; split <;> omega
  · refine r_iload_n dX0_has_4 rfl ?_
    refine r_aload_n dX0_has_5 rfl ?_
    refine r_getI dX0_has_6 fl_X0_28 rfl (by assumption) ?_
    refine r_icmp_ge (tgt := 16) dX0_has_9 rfl (by omega) (by omega) (fun c9 => ?_) (fun c9 => ?_)
    · refine r_iconst dX0_has_16 ?_
      refine r_zreturn dX0_has_17 (by first | exact Or.inl rfl | exact Or.inr rfl | exact b2i_01 _ | omega) rfl rfl rfl ?_
      refine ⟨?_, rfl, rfl⟩; congr 2; simp only [b2i, decide_eq_true_eq]; split <;> omega
    · refine r_iconst dX0_has_12 ?_
      refine r_goto (tgt := 17) dX0_has_13 rfl ?_
      refine r_zreturn dX0_has_17 (by first | exact Or.inl rfl | exact Or.inr rfl | exact b2i_01 _ | omega) rfl rfl rfl ?_
      refine ⟨?_, rfl, rfl⟩; congr 2; simp only [b2i, decide_eq_true_eq]; split <;> omega
theorem c_lyingOn {sh : Sh} {μ : Mem} {c : Nat} {s : Int} (hC : IsCargo sh μ.2.2 c) (hs : -2147483648 ≤ s ∧ s < 2147483648) (hz : 0 ≤ μ.1 c 0 ∧ μ.1 c 0 ≤ 5) (hl : ∀ k, 0 ≤ k → k < μ.1 c 0 → -1 ≤ μ.1 (c + 4) k ∧ μ.1 (c + 4) k < 100) : FMet yX0_lyingOn gX0_lyingOn sh [vR c, vI s] μ (some (vI (fnd (fun k => decide (s ≠ -1 ∧ μ.1 (c + 4) k = s)) (μ.1 c 0).toNat 0))) μ := by
  obtain ⟨h0, h1, h2, h3, h4, h6, s1, s2, s3, s4, s5⟩ := hC
  have loop : ∀ (f n : Nat) (k : Int), n < f → 0 ≤ k → k + n = μ.1 c 0 → AW gX0_lyingOn sh μ 0 0 2 [some (vR c), some (vI s), some (vI k)] [] (fun r2 sh2 μ2 => r2 = some (vI (fnd (fun k => decide (s ≠ -1 ∧ μ.1 (c + 4) k = s)) n k)) ∧ sh2 = sh ∧ μ2 = μ) := by
    intro f
    induction f with
    | zero => intro n k h; exact absurd h (Nat.not_lt_zero _)
    | succ f ih =>
      intro n k hf hk hn
      refine r_iload_n dX0_lyingOn_2 rfl ?_
      refine r_aload_n dX0_lyingOn_3 rfl ?_
      refine r_getI dX0_lyingOn_4 fl_X0_28 rfl (by assumption) ?_
      refine r_icmp_ge (tgt := 33) dX0_lyingOn_7 rfl (by omega) (by omega) (fun c7 => ?_) (fun c7 => ?_)
      · refine r_iconst dX0_lyingOn_33 ?_
        refine r_ireturn dX0_lyingOn_34 rfl rfl rfl ?_
        obtain rfl | ⟨q, rfl⟩ : n = 0 ∨ ∃ q, n = q + 1 := by cases n <;> simp
        · first | exact ⟨rfl, rfl, rfl⟩ | omega
        · first | omega | (refine ⟨?_, rfl, rfl⟩; simp_all [fnd])
      · refine r_iload_n dX0_lyingOn_10 rfl ?_
        refine r_iconst dX0_lyingOn_11 ?_
        refine r_icmp_eq (tgt := 27) dX0_lyingOn_12 rfl (by omega) (by omega) (fun c12 => ?_) (fun c12 => ?_)
        · refine r_iinc dX0_lyingOn_27 rfl rfl ?_
          refine r_goto (tgt := 2) dX0_lyingOn_30 rfl ?_
          refine AW.mono (ih (n - 1) (k + 1) (by omega) (by omega) (by omega)) ?_
          obtain ⟨q, rfl⟩ : ∃ q, n = q + 1 := ⟨n - 1, by omega⟩
          rintro r sh2 μ2 ⟨rfl, h⟩
          refine ⟨?_, h⟩
          simp_all [fnd]
        · refine r_aload_n dX0_lyingOn_15 rfl ?_
          refine r_getR dX0_lyingOn_16 fl_X0_22 rfl (by assumption) (by assumption) ?_
          refine r_iload_n dX0_lyingOn_19 rfl ?_
          have hlk := hl k (by omega) (by omega)
          refine r_iald dX0_lyingOn_20 (by assumption) rfl (by omega) ?_
          refine r_iload_n dX0_lyingOn_21 rfl ?_
          refine r_icmp_ne (tgt := 27) dX0_lyingOn_22 rfl (by omega) (by omega) (fun c22 => ?_) (fun c22 => ?_)
          · refine r_iinc dX0_lyingOn_27 rfl rfl ?_
            refine r_goto (tgt := 2) dX0_lyingOn_30 rfl ?_
            refine AW.mono (ih (n - 1) (k + 1) (by omega) (by omega) (by omega)) ?_
            obtain ⟨q, rfl⟩ : ∃ q, n = q + 1 := ⟨n - 1, by omega⟩
            rintro r sh2 μ2 ⟨rfl, h⟩
            refine ⟨?_, h⟩
            simp_all [fnd]
          · refine r_iload_n dX0_lyingOn_25 rfl ?_
            refine r_ireturn dX0_lyingOn_26 rfl rfl rfl ?_
            obtain rfl | ⟨q, rfl⟩ : n = 0 ∨ ∃ q, n = q + 1 := by cases n <;> simp
            · first | exact ⟨rfl, rfl, rfl⟩ | omega
            · first | omega | (refine ⟨?_, rfl, rfl⟩; simp_all [fnd])
  refine AMet.of (by decide) rfl (by decide) rfl ?_
  refine r_iconst dX0_lyingOn_0 ?_
  refine r_istore_n dX0_lyingOn_1 rfl ?_
  exact loop _ _ 0 (Nat.lt_succ_self _) (by omega) (by omega)

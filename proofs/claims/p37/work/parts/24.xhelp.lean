/-! 24.xhelp: taken from whole (wip/p37/port.py) -/
variable {n_ : Sh}
/-! 24.xhelp: the class's helpers: copies, history, forgetting (wip/whole/src/24_xhelp.py) -/
/-- as AMet.of, for a member of a class of the machine's own that the machine has no entry for -/
theorem AMet.ofF {y : MethodName} {g : Gm} {sh : Sh} {vs : List AV} {μ : Mem} {P : Option AV → Sh → Mem → Prop} (hpn : plainFor y = true) (hy : y.cls = gO g) (hin : gI g = true → y.name = "<init>") (hlen : Nat.ble (argsL vs).length (gL g) = true)
    (h : AW g sh μ 0 0 0 (entL g vs) [] P) : AMet y g sh vs μ P := by
  intro w l
  refine va_MetF (cc := gC g) (maxL := gL g) (ret := gR g) hpn rfl ?_
  intro p e s m args below meth c s₁ B hml hv
  obtain ⟨rfl, hsz, hP, hK, hE⟩ := hv
  have hts := atoms_spec (ws := wsm y g) B.pre
  have hown : s.vm.findClass (gO g) = some m.cls := by rw [← hy]; exact findClass_of_methodNamed B.named
  have cx : Cx g w p s m (vs.map (cv w)).toArray meth c := ⟨B.exec, B.bytes, B.returns, hml, B.notSynchronized, fun x hx => hts x (List.mem_cons_of_mem _ hx), hown, fun hi => (name_of_methodNamed B.named B.method).1.trans (hin hi), hK, hE, by omega⟩
  rw [lg_entry_eq]
  have hl := lv_entry (vs.map (cv w)) (n := gL g) (by rw [lg_len]; exact Nat.le_of_ble_eq_true hlen)
  have hl2 : lvr w (lg_sl (vs.map (cv w)) ++ List.replicate (gL g - (lg_sl (vs.map (cv w))).length) Slot.unset).toArray (gL g) (entL g vs) := by
    unfold lvr entL
    rw [prs_pad, prs_args]
    exact hl
  exact h w p l e s m _ below meth c s.heap [] _ cx hP hsz va_S.rf hl2
theorem cpI_at {μ : Mem} {a b : Nat} {n j : Int} (h : 0 ≤ j ∧ j < n) : (cpI μ a b n).1 a j = μ.1 b j := if_pos ⟨rfl, h⟩
theorem cpI_ne {μ : Mem} {a b q : Nat} {n j : Int} (h : q ≠ a) : (cpI μ a b n).1 q j = μ.1 q j := if_neg (fun e => h e.1)
theorem cpI_L {μ : Mem} {a b q : Nat} {n j : Int} : (cpI μ a b n).2.1 q j = μ.2.1 q j := rfl
theorem cpL_at {μ : Mem} {a b : Nat} {n j : Int} (h : 0 ≤ j ∧ j < n) : (cpL μ a b n).2.1 a j = μ.2.1 b j := if_pos ⟨rfl, h⟩
theorem cpL_ne {μ : Mem} {a b q : Nat} {n j : Int} (h : q ≠ a) : (cpL μ a b n).2.1 q j = μ.2.1 q j := if_neg (fun e => h e.1)
theorem cpL_I {μ : Mem} {a b q : Nat} {n j : Int} : (cpL μ a b n).1 q j = μ.1 q j := rfl
theorem sI_at {μ : Mem} {a : Nat} {i x : Int} : (setI μ a i x).1 a i = x := if_pos ⟨rfl, rfl⟩
theorem sI_ne {μ : Mem} {a q : Nat} {i x j : Int} (h : q ≠ a) : (setI μ a i x).1 q j = μ.1 q j := if_neg (fun e => h e.1)
theorem sI_nj {μ : Mem} {a q : Nat} {i x j : Int} (h : j ≠ i) : (setI μ a i x).1 q j = μ.1 q j := if_neg (fun e => h e.2)
theorem sI_L {μ : Mem} {a q : Nat} {i x j : Int} : (setI μ a i x).2.1 q j = μ.2.1 q j := rfl
theorem sL_at {μ : Mem} {a : Nat} {i x : Int} : (setL μ a i x).2.1 a i = x := if_pos ⟨rfl, rfl⟩
theorem sL_ne {μ : Mem} {a q : Nat} {i x j : Int} (h : q ≠ a) : (setL μ a i x).2.1 q j = μ.2.1 q j := if_neg (fun e => h e.1)
theorem sL_nj {μ : Mem} {a q : Nat} {i x j : Int} (h : j ≠ i) : (setL μ a i x).2.1 q j = μ.2.1 q j := if_neg (fun e => h e.2)
theorem sL_I {μ : Mem} {a q : Nat} {i x j : Int} : (setL μ a i x).1 q j = μ.1 q j := rfl
theorem j_min {sh : Sh} {μ : Mem} {a b : Int} (ha : -2147483648 ≤ a ∧ a < 2147483648) (hb : -2147483648 ≤ b ∧ b < 2147483648)  : FMet yJ9_min_7cf53 gJ9_min_7cf53 sh [vI a, vI b] μ (some (vI (min a b))) μ := by
  refine AMet.ofF (by decide +kernel) rfl (by decide) rfl ?_
  refine r_iload_n dJ9_min_7cf53_0 rfl ?_
  refine r_iload_n dJ9_min_7cf53_1 rfl ?_
  refine q_icmp_gt (tgt := 9) dJ9_min_7cf53_2 rfl (by omega) (by omega) (fun c2 => ?_) (fun c2 => ?_)
  · refine r_iload_n dJ9_min_7cf53_9 rfl ?_
    refine r_ireturn dJ9_min_7cf53_10 rfl rfl rfl ?_
    exact ⟨rI (by omega), rfl, rfl⟩
  · refine r_iload_n dJ9_min_7cf53_5 rfl ?_
    refine r_goto (tgt := 10) dJ9_min_7cf53_6 rfl ?_
    refine r_ireturn dJ9_min_7cf53_10 rfl rfl rfl ?_
    exact ⟨rI (by omega), rfl, rfl⟩
theorem j_max {sh : Sh} {μ : Mem} {a b : Int} (ha : -2147483648 ≤ a ∧ a < 2147483648) (hb : -2147483648 ≤ b ∧ b < 2147483648)  : FMet yJ9_max_7cf53 gJ9_max_7cf53 sh [vI a, vI b] μ (some (vI (max a b))) μ := by
  refine AMet.ofF (by decide +kernel) rfl (by decide) rfl ?_
  refine r_iload_n dJ9_max_7cf53_0 rfl ?_
  refine r_iload_n dJ9_max_7cf53_1 rfl ?_
  refine q_icmp_lt (tgt := 9) dJ9_max_7cf53_2 rfl (by omega) (by omega) (fun c2 => ?_) (fun c2 => ?_)
  · refine r_iload_n dJ9_max_7cf53_9 rfl ?_
    refine r_ireturn dJ9_max_7cf53_10 rfl rfl rfl ?_
    exact ⟨rI (by omega), rfl, rfl⟩
  · refine r_iload_n dJ9_max_7cf53_5 rfl ?_
    refine r_goto (tgt := 10) dJ9_max_7cf53_6 rfl ?_
    refine r_ireturn dJ9_max_7cf53_10 rfl rfl rfl ?_
    exact ⟨rI (by omega), rfl, rfl⟩
theorem Kp.cc {S : Nat → Prop} {μ μ2 : Mem} {c o : Nat} (h1 : Kp S μ μ2) (h : ∀ q, c ≤ q → q < c + 6 → ¬ S q) : Kp S μ (cpCargo μ2 c o) :=
  (((((((h1.sI (h c (by omega) (by omega))).cL (h _ (by omega) (by omega))).cI (h _ (by omega) (by omega))).cI (h _ (by omega) (by omega))).cI (h _ (by omega) (by omega))).sI (h _ (by omega) (by omega))).cI (h _ (by omega) (by omega)))
theorem RelC.cp {sh : Sh} {μ : Mem} {c o : Nat} {ρ : Row} (h : RelC sh μ o ρ) (hn : ρ 11 ≤ 5) (hC : IsCargo sh μ.2.2 c) (hd : c + 6 ≤ o ∨ o + 6 ≤ c) : RelC sh (cpCargo μ c o) c ρ := by
  obtain ⟨_, e0, e5, e51, e52, e⟩ := h
  refine ⟨hC, ?_, ?_, ?_, ?_, fun k k0 k1 => ?_⟩
  · rw [← e0]; simp (disch := omega) only [cpCargo, cpI_at, cpI_ne, cpI_L, cpL_at, cpL_ne, cpL_I, sI_at, sI_ne, sI_nj, sI_L, sL_at, sL_ne, sL_nj, sL_I]
  · rw [← e5]; simp (disch := omega) only [cpCargo, cpI_at, cpI_ne, cpI_L, cpL_at, cpL_ne, cpL_I, sI_at, sI_ne, sI_nj, sI_L, sL_at, sL_ne, sL_nj, sL_I]
  · rw [← e51]; simp (disch := omega) only [cpCargo, cpI_at, cpI_ne, cpI_L, cpL_at, cpL_ne, cpL_I, sI_at, sI_ne, sI_nj, sI_L, sL_at, sL_ne, sL_nj, sL_I]
  · rw [← e52]; simp (disch := omega) only [cpCargo, cpI_at, cpI_ne, cpI_L, cpL_at, cpL_ne, cpL_I, sI_at, sI_ne, sI_nj, sI_L, sL_at, sL_ne, sL_nj, sL_I]
  · obtain ⟨a1, a2, a3, a4⟩ := e k k0 k1
    refine ⟨?_, ?_, ?_, ?_⟩
    · rw [← a1]; simp (disch := omega) only [cpCargo, cpI_at, cpI_ne, cpI_L, cpL_at, cpL_ne, cpL_I, sI_at, sI_ne, sI_nj, sI_L, sL_at, sL_ne, sL_nj, sL_I]
    · rw [← a2]; simp (disch := omega) only [cpCargo, cpI_at, cpI_ne, cpI_L, cpL_at, cpL_ne, cpL_I, sI_at, sI_ne, sI_nj, sI_L, sL_at, sL_ne, sL_nj, sL_I]
    · rw [← a3]; simp (disch := omega) only [cpCargo, cpI_at, cpI_ne, cpI_L, cpL_at, cpL_ne, cpL_I, sI_at, sI_ne, sI_nj, sI_L, sL_at, sL_ne, sL_nj, sL_I]
    · rw [← a4]; simp (disch := omega) only [cpCargo, cpI_at, cpI_ne, cpI_L, cpL_at, cpL_ne, cpL_I, sI_at, sI_ne, sI_nj, sI_L, sL_at, sL_ne, sL_nj, sL_I]
/-! the history -/
def kpX (μ : Mem) (c : Nat) : Mem := setI (setI (cpCargo μ (64 + 6 * (μ.1 62 1).toNat) c) 62 1 ((μ.1 62 1 + 1) % 8)) 62 2 (min (μ.1 62 2 + 1) 8)
def bbX (μ : Mem) (c : Nat) : Mem := setI (cpCargo (setI μ 62 1 ((μ.1 62 1 + 7) % 8)) c (64 + 6 * ((μ.1 62 1 + 7) % 8).toNat)) 62 2 (max (μ.1 62 2 - 1) 0)
theorem c_keep {μ : Mem} {c : Nat} (hL : Lay μ.2.2) (hc : c = 50 ∨ c = 56) (hC : IsCargo (SH n_) μ.2.2 c) (hn : 0 ≤ μ.1 62 1 ∧ μ.1 62 1 < 8) (hz : 0 ≤ μ.1 62 2 ∧ μ.1 62 2 ≤ 8) : FMet yX2_keep gX2_keep (SH n_) [vR 62, vR c] μ none (kpX μ c) := by
  obtain ⟨hk1, hk2⟩ := hL.kept hn
  have g0 : (SH n_)[62]? = some (2, 3) := rfl
  have g1 : (SH n_)[63]? = some (24, 8) := rfl
  have r0 := hL.r62_0
  have g2 := hk2.1
  have g3 := hC.1
  have e1 : (cpCargo μ (64 + 6 * (μ.1 62 1).toNat) c).1 62 1 = μ.1 62 1 := congrFun ((Kp.rf (fun q => q = 62) μ).cc (fun q q0 q1 => by (try dsimp only); omega) 62 rfl).1 1
  have e2 : (setI (cpCargo μ (64 + 6 * (μ.1 62 1).toNat) c) 62 1 ((μ.1 62 1 + 1) % 8)).1 62 2 = μ.1 62 2 := by
    simp only [setI]
    rw [if_neg (by omega)]
    exact congrFun ((Kp.rf (fun q => q = 62) μ).cc (fun q q0 q1 => by (try dsimp only); omega) 62 rfl).1 2
  refine AMet.of (by decide) rfl (by decide) rfl ?_
  refine r_aload_n dX2_keep_0 rfl ?_
  refine r_getR dX2_keep_1 fl_X2_11 rfl (by assumption) (by assumption) ?_
  refine r_aload_n dX2_keep_4 rfl ?_
  refine r_getI dX2_keep_5 fl_X2_18 rfl (by assumption) ?_
  refine r_aald dX2_keep_8 (by assumption) rfl (by omega) (by assumption) ?_
  refine r_astore_n dX2_keep_9 rfl ?_
  refine r_aload_n dX2_keep_10 rfl ?_
  refine r_ifnull dX2_keep_11 ?_
  refine r_aload_n dX2_keep_14 rfl ?_
  refine r_aload_n dX2_keep_15 rfl ?_
  refine r_cV1F0 dX2_keep_16 ml_X2_22 yl_X0_copyFrom ⟨rfl, rfl⟩ (by assumption) ⟨_, rfl⟩ rfl rfl rfl rfl (c_copyC hk2 hC) ?_
  refine r_aload_n dX2_keep_19 rfl ?_
  refine r_aload_n dX2_keep_20 rfl ?_
  refine r_getI dX2_keep_21 fl_X2_18 rfl (by assumption) ?_
  rw [e1]
  refine r_iconst dX2_keep_24 ?_
  refine r_iadd dX2_keep_25 ?_
  refine r_bipush dX2_keep_26 (by decide) ?_
  refine r_irem dX2_keep_28 (by omega) (by omega) ?_
  rw [show (μ.1 62 1 + 1).tmod 8 = (μ.1 62 1 + 1) % 8 from Int.tmod_eq_emod_of_nonneg (by omega)]
  refine r_putI dX2_keep_29 fl_X2_18 (by assumption) ?_
  refine r_aload_n dX2_keep_32 rfl ?_
  refine r_aload_n dX2_keep_33 rfl ?_
  refine r_getI dX2_keep_34 fl_X2_26 rfl (by assumption) ?_
  rw [e2]
  refine r_iconst dX2_keep_37 ?_
  refine r_iadd dX2_keep_38 ?_
  refine r_bipush dX2_keep_39 (by decide) ?_
  refine r_cS2F1 dX2_keep_41 ml_X2_29 yl_J9_min_7cf53 ⟨rfl, rfl⟩ rfl rfl rfl rfl (j_min (by omega) (by omega)) ?_
  refine r_putI dX2_keep_44 fl_X2_26 (by assumption) ?_
  refine r_return dX2_keep_47 rfl rfl rfl ?_
  exact ⟨rfl, rfl, rfl⟩
theorem c_bringBack {μ : Mem} {c : Nat} (hL : Lay μ.2.2) (hc : c = 50 ∨ c = 56) (hC : IsCargo (SH n_) μ.2.2 c) (hn : 0 ≤ μ.1 62 1 ∧ μ.1 62 1 < 8) (hz : 0 ≤ μ.1 62 2 ∧ μ.1 62 2 ≤ 8) : FMet yX2_bringBack gX2_bringBack (SH n_) [vR 62, vR c] μ none (bbX μ c) := by
  obtain ⟨hk1, hk2⟩ := hL.kept (i := (μ.1 62 1 + 7) % 8) (by omega)
  have g0 : (SH n_)[62]? = some (2, 3) := rfl
  have g1 : (SH n_)[63]? = some (24, 8) := rfl
  have r0 := hL.r62_0
  have g2 := hk2.1
  have g3 := hC.1
  have e1 : (setI μ 62 1 ((μ.1 62 1 + 7) % 8)).1 62 1 = (μ.1 62 1 + 7) % 8 := by simp [setI]
  have e2 : (cpCargo (setI μ 62 1 ((μ.1 62 1 + 7) % 8)) c (64 + 6 * ((μ.1 62 1 + 7) % 8).toNat)).1 62 2 = μ.1 62 2 := by
    have h := congrFun ((Kp.rf (fun q => q = 62) (setI μ 62 1 ((μ.1 62 1 + 7) % 8))).cc (c := c) (o := 64 + 6 * ((μ.1 62 1 + 7) % 8).toNat) (fun q q0 q1 => by (try dsimp only); omega) 62 rfl).1 2
    rw [h]
    simp [setI]
  refine AMet.of (by decide) rfl (by decide) rfl ?_
  refine r_aload_n dX2_bringBack_0 rfl ?_
  refine r_aload_n dX2_bringBack_1 rfl ?_
  refine r_getI dX2_bringBack_2 fl_X2_18 rfl (by assumption) ?_
  refine r_bipush dX2_bringBack_5 (by decide) ?_
  refine r_iadd dX2_bringBack_7 ?_
  refine r_iconst dX2_bringBack_8 ?_
  refine r_isub dX2_bringBack_9 ?_
  refine r_bipush dX2_bringBack_10 (by decide) ?_
  refine r_irem dX2_bringBack_12 (by omega) (by omega) ?_
  rw [show (μ.1 62 1 + 8 - 1).tmod 8 = (μ.1 62 1 + 8 - 1) % 8 from Int.tmod_eq_emod_of_nonneg (by omega)]
  rw [show (μ.1 62 1 + 8 - 1) % 8 = (μ.1 62 1 + 7) % 8 by omega]
  refine r_putI dX2_bringBack_13 fl_X2_18 (by assumption) ?_
  refine r_aload_n dX2_bringBack_16 rfl ?_
  refine r_getR dX2_bringBack_17 fl_X2_11 rfl (by assumption) (by assumption) ?_
  refine r_aload_n dX2_bringBack_20 rfl ?_
  refine r_getI dX2_bringBack_21 fl_X2_18 rfl (by assumption) ?_
  rw [e1]
  refine r_aald dX2_bringBack_24 (by assumption) rfl (by omega) (by assumption) ?_
  refine r_astore_n dX2_bringBack_25 rfl ?_
  refine r_aload_n dX2_bringBack_26 rfl ?_
  refine r_ifnull dX2_bringBack_27 ?_
  refine r_aload_n dX2_bringBack_30 rfl ?_
  refine r_aload_n dX2_bringBack_31 rfl ?_
  refine r_cV1F0 dX2_bringBack_32 ml_X2_22 yl_X0_copyFrom ⟨rfl, rfl⟩ (by assumption) ⟨_, rfl⟩ rfl rfl rfl rfl (c_copyC hC hk2) ?_
  refine r_aload_n dX2_bringBack_35 rfl ?_
  refine r_aload_n dX2_bringBack_36 rfl ?_
  refine r_getI dX2_bringBack_37 fl_X2_26 rfl (by assumption) ?_
  rw [e2]
  refine r_iconst dX2_bringBack_40 ?_
  refine r_isub dX2_bringBack_41 ?_
  refine r_iconst dX2_bringBack_42 ?_
  refine r_cS2F1 dX2_bringBack_43 ml_X2_35 yl_J9_max_7cf53 ⟨rfl, rfl⟩ rfl rfl rfl rfl (j_max (by omega) (by omega)) ?_
  refine r_putI dX2_bringBack_46 fl_X2_26 (by assumption) ?_
  refine r_return dX2_bringBack_49 rfl rfl rfl ?_
  exact ⟨rfl, rfl, rfl⟩
theorem c_forget {μ : Mem} : FMet yX8_forget gX8_forget (SH n_) [vR 172] μ none (setI μ 172 0 0) := by
  have g0 : (SH n_)[172]? = some (7, 15) := rfl
  refine AMet.of (by decide) rfl (by decide) rfl ?_
  refine r_aload_n dX8_forget_0 rfl ?_
  refine r_iconst dX8_forget_1 ?_
  refine r_putZ dX8_forget_2 fl_X8_39 (by assumption) (by first | exact Or.inl rfl | exact Or.inr rfl | exact b2i_01 _ | omega) ?_
  refine r_return dX8_forget_5 rfl rfl rfl ?_
  exact ⟨rfl, rfl, rfl⟩
theorem HistX.keep {μ : Mem} {ρ : Row} {us : List Row} {c : Nat} (h : HistX n_ μ ρ us) (hL : Lay μ.2.2) (hc : c = 50 ∨ c = 56) (hC : RelC (SH n_) μ c ρ) (hw : WF ρ) (h99 : W99 ρ) : HistX n_ (kpX μ c) ρ ((ρ :: us).take 8) := by
  obtain ⟨h1, h2, h3, h4⟩ := h
  have hn := hw.1.1
  unfold WFn at hn
  have f1 : (kpX μ c).1 62 1 = (μ.1 62 1 + 1) % 8 := by simp [kpX, setI]
  have f2 : (kpX μ c).1 62 2 = min (μ.1 62 2 + 1) 8 := by simp [kpX, setI]
  have hl : (((ρ :: us).take 8).length : Int) = min (us.length + 1) 8 := by
    rw [List.length_take, List.length_cons]; omega
  have hK : Kp (fun q => q ≠ 62) (cpCargo μ (64 + 6 * (μ.1 62 1).toNat) c) (kpX μ c) := ((Kp.rf _ _).sI (by simp)).sI (by simp)
  refine ⟨by omega, by rw [f2, h2]; omega, by rw [f1]; omega, fun t u hu => ?_⟩
  have ht : t < 8 := by
    have := (List.getElem?_eq_some_iff.mp hu).1
    rw [List.length_take] at this; omega
  rw [List.getElem?_take_of_lt ht] at hu
  rw [f1]
  cases t with
  | zero =>
    simp only [List.getElem?_cons_zero, Option.some.injEq] at hu
    subst hu
    rw [show ((μ.1 62 1 + 1) % 8 + 7 - ((0 : Nat) : Int)) % 8 = μ.1 62 1 by omega]
    exact ⟨(hC.cp (by omega) (hL.kept h3).2 (by omega)).mono (hK.mono (fun q hq => by (try dsimp only at *); omega)), PlEq.rf ρ, hw, h99⟩
  | succ t =>
    rw [List.getElem?_cons_succ] at hu
    have hlt := (List.getElem?_eq_some_iff.mp hu).1
    obtain ⟨a, b⟩ := h4 t u hu
    rw [show ((μ.1 62 1 + 1) % 8 + 7 - ((t + 1 : Nat) : Int)) % 8 = (μ.1 62 1 + 7 - t) % 8 by omega]
    refine ⟨a.mono (((Kp.rf _ μ).cc (fun q q0 q1 => ?_)).tr (hK.mono (fun q hq => ?_))), b⟩
    · (try dsimp only); omega
    · (try dsimp only at *); omega
theorem HistX.undo {μ : Mem} {ρ u : Row} {us : List Row} {c : Nat} (h : HistX n_ μ ρ (u :: us)) (hL : Lay μ.2.2) (hc : c = 50 ∨ c = 56) (hC : IsCargo (SH n_) μ.2.2 c) : HistX n_ (bbX μ c) u us ∧ RelC (SH n_) (bbX μ c) c u ∧ PlEq ρ u ∧ WF u ∧ W99 u := by
  obtain ⟨h1, h2, h3, h4⟩ := h
  obtain ⟨a, b, hw, h99⟩ := h4 0 u rfl
  have hn := hw.1.1
  unfold WFn at hn
  rw [show (μ.1 62 1 + 7 - ((0 : Nat) : Int)) % 8 = (μ.1 62 1 + 7) % 8 by omega] at a
  have f1 : (bbX μ c).1 62 1 = (μ.1 62 1 + 7) % 8 := by
    have e := congrFun ((Kp.rf (fun q => q = 62) (setI μ 62 1 ((μ.1 62 1 + 7) % 8))).cc (c := c) (o := 64 + 6 * ((μ.1 62 1 + 7) % 8).toNat) (fun q q0 q1 => by (try dsimp only); omega) 62 rfl).1 1
    simp only [bbX]
    rw [sI_nj (by omega)]
    exact e.trans sI_at
  have f2 : (bbX μ c).1 62 2 = max (μ.1 62 2 - 1) 0 := by simp [bbX, setI]
  have hl : ((u :: us).length : Int) = us.length + 1 := by simp
  have hK : Kp (fun q => 62 < q ∧ q < 112) μ (bbX μ c) := (((Kp.rf _ μ).sI (by simp)).cc (fun q q0 q1 => by (try dsimp only); omega)).sI (by simp)
  refine ⟨⟨by rw [List.length_cons] at h1; omega, by rw [f2, h2, hl]; omega, by rw [f1]; omega, fun t w hw2 => ?_⟩, ?_, b, hw, h99⟩
  · rw [f1]
    obtain ⟨a2, b2, c2⟩ := h4 (t + 1) w (by rw [List.getElem?_cons_succ]; exact hw2)
    have hlt := (List.getElem?_eq_some_iff.mp hw2).1
    rw [show (μ.1 62 1 + 7 - ((t + 1 : Nat) : Int)) % 8 = ((μ.1 62 1 + 7) % 8 + 7 - t) % 8 by omega] at a2
    exact ⟨a2.mono (hK.mono (fun q hq => by (try dsimp only at *); omega)), b.sy.tr b2, c2⟩
  · have a3 : RelC (SH n_) (setI μ 62 1 ((μ.1 62 1 + 7) % 8)) (64 + 6 * ((μ.1 62 1 + 7) % 8).toNat) u := a.mono ((Kp.rf _ μ).sI (by (try dsimp only); omega))
    have a4 := a3.cp (c := c) (by omega) hC (by omega)
    exact a4.mono ((Kp.rf _ _).sI (by (try dsimp only); omega))
def cpFloor (μ : Mem) (a o : Nat) : Mem :=
  let m0 := setI μ a 0 (μ.1 o 0)
  let m1 := cpL m0 (a + 1) (o + 1) 3
  let m2 := cpI m1 (a + 2) (o + 2) 3
  let m3 := cpI m2 (a + 3) (o + 3) 3
  let m4 := setI m3 a 4 (m3.1 o 4)
  let m5 := cpI m4 (a + 4) (o + 4) 6
  let m6 := cpI m5 (a + 5) (o + 5) 6
  let m7 := cpI m6 (a + 6) (o + 6) 6
  let m8 := cpI m7 (a + 7) (o + 7) 6
  let m9 := setI m8 a 9 (m8.1 o 9)
  let m10 := cpI m9 (a + 8) (o + 8) 6
  let m11 := cpI m10 (a + 9) (o + 9) 6
  m11
def cpVoyage (μ : Mem) (a o : Nat) : Mem :=
  let m0 := setI μ a 0 (μ.1 o 0)
  let m1 := cpL m0 (a + 1) (o + 1) 3
  let m2 := cpI m1 (a + 2) (o + 2) 3
  let m3 := cpI m2 (a + 3) (o + 3) 3
  let m4 := cpI m3 (a + 4) (o + 4) 3
  let m5 := setI m4 a 5 (m4.1 o 5)
  let m6 := cpI m5 (a + 5) (o + 5) 12
  let m7 := cpI m6 (a + 6) (o + 6) 12
  let m8 := setI m7 a 8 (m7.1 o 8)
  let m9 := cpI m8 (a + 7) (o + 7) 13
  let m10 := cpI m9 (a + 8) (o + 8) 13
  let m11 := cpI m10 (a + 9) (o + 9) 13
  m11
def cpPlane (μ : Mem) (p o : Nat) : Mem :=
  let m0 := setI μ p 0 (μ.1 o 0)
  let m1 := setI m0 p 1 (m0.1 o 1)
  let m2 := setI m1 p 2 (m1.1 o 2)
  let m3 := setI m2 p 3 (m2.1 o 3)
  let m4 := setI m3 p 4 (m3.1 o 4)
  let m5 := cpI m4 (p + 1) (o + 1) 2
  let m6 := cpI m5 (p + 2) (o + 2) 2
  cpVoyage (cpFloor m6 (p + 3) (o + 3)) (p + 13) (o + 13)
theorem Kp.cF {S : Nat → Prop} {μ μ2 : Mem} {a o : Nat} (h1 : Kp S μ μ2) (h : ∀ q, a ≤ q → q < a + 10 → ¬ S q) : Kp S μ (cpFloor μ2 a o) := ((((((((((((h1.sI (h _ (by omega) (by omega))).cL (h _ (by omega) (by omega))).cI (h _ (by omega) (by omega))).cI (h _ (by omega) (by omega))).sI (h _ (by omega) (by omega))).cI (h _ (by omega) (by omega))).cI (h _ (by omega) (by omega))).cI (h _ (by omega) (by omega))).cI (h _ (by omega) (by omega))).sI (h _ (by omega) (by omega))).cI (h _ (by omega) (by omega))).cI (h _ (by omega) (by omega)))
theorem Kp.cV {S : Nat → Prop} {μ μ2 : Mem} {a o : Nat} (h1 : Kp S μ μ2) (h : ∀ q, a ≤ q → q < a + 10 → ¬ S q) : Kp S μ (cpVoyage μ2 a o) := ((((((((((((h1.sI (h _ (by omega) (by omega))).cL (h _ (by omega) (by omega))).cI (h _ (by omega) (by omega))).cI (h _ (by omega) (by omega))).cI (h _ (by omega) (by omega))).sI (h _ (by omega) (by omega))).cI (h _ (by omega) (by omega))).cI (h _ (by omega) (by omega))).sI (h _ (by omega) (by omega))).cI (h _ (by omega) (by omega))).cI (h _ (by omega) (by omega))).cI (h _ (by omega) (by omega)))
theorem RelF.mono {sh : Sh} {μ μ2 : Mem} {a : Nat} {ρ : Row} (h : RelF sh μ a ρ) (hk : Kp (fun q => a ≤ q ∧ q < a + 10) μ μ2) : RelF sh μ2 a ρ := by
  have e0 := hk (a) (by (try dsimp only); omega)
  have e1 := hk (a + 1) (by (try dsimp only); omega)
  have e2 := hk (a + 2) (by (try dsimp only); omega)
  have e3 := hk (a + 3) (by (try dsimp only); omega)
  have e4 := hk (a + 4) (by (try dsimp only); omega)
  have e5 := hk (a + 5) (by (try dsimp only); omega)
  have e6 := hk (a + 6) (by (try dsimp only); omega)
  have e7 := hk (a + 7) (by (try dsimp only); omega)
  have e8 := hk (a + 8) (by (try dsimp only); omega)
  have e9 := hk (a + 9) (by (try dsimp only); omega)
  unfold RelF IsFloor at *
  simp only [(e0).1, (e0).2.2, (e1).1, (e1).2.2, (e2).1, (e2).2.2, (e3).1, (e3).2.2, (e4).1, (e4).2.2, (e5).1, (e5).2.2, (e6).1, (e6).2.2, (e7).1, (e7).2.2, (e8).1, (e8).2.2, (e9).1, (e9).2.2]
  exact h
theorem RelV.mono {sh : Sh} {μ μ2 : Mem} {a : Nat} {ρ : Row} (h : RelV sh μ a ρ) (hk : Kp (fun q => a ≤ q ∧ q < a + 10) μ μ2) : RelV sh μ2 a ρ := by
  have e0 := hk (a) (by (try dsimp only); omega)
  have e1 := hk (a + 1) (by (try dsimp only); omega)
  have e2 := hk (a + 2) (by (try dsimp only); omega)
  have e3 := hk (a + 3) (by (try dsimp only); omega)
  have e4 := hk (a + 4) (by (try dsimp only); omega)
  have e5 := hk (a + 5) (by (try dsimp only); omega)
  have e6 := hk (a + 6) (by (try dsimp only); omega)
  have e7 := hk (a + 7) (by (try dsimp only); omega)
  have e8 := hk (a + 8) (by (try dsimp only); omega)
  have e9 := hk (a + 9) (by (try dsimp only); omega)
  unfold RelV IsVoyage at *
  simp only [(e0).1, (e0).2.2, (e1).1, (e1).2.2, (e2).1, (e2).2.2, (e3).1, (e3).2.2, (e4).1, (e4).2.2, (e5).1, (e5).2.2, (e6).1, (e6).2.2, (e7).1, (e7).2.2, (e8).1, (e8).2.2, (e9).1, (e9).2.2]
  exact h
theorem RelF.cp {sh : Sh} {μ : Mem} {a o : Nat} {ρ : Row} (h : RelF sh μ o ρ) (hn : WFn ρ) (hA : IsFloor sh μ.2.2 a) (hd : a + 10 ≤ o ∨ o + 10 ≤ a) : RelF sh (cpFloor μ a o) a ρ := by
  unfold WFn at hn
  obtain ⟨_, f0, fh, f4, fs, f9, fj⟩ := h
  refine ⟨hA, ?_, fun b b0 b1 => ?_, ?_, fun b b0 b1 => ?_, ?_, fun b b0 b1 => ?_⟩
  · rw [← f0]; simp (disch := omega) only [cpFloor, cpI_at, cpI_ne, cpI_L, cpL_at, cpL_ne, cpL_I, sI_at, sI_ne, sI_nj, sI_L, sL_at, sL_ne, sL_nj, sL_I]
  · rw [← (fh b b0 b1).1, ← (fh b b0 b1).2]
    constructor
    · simp (disch := omega) only [cpFloor, cpI_at, cpI_ne, cpI_L, cpL_at, cpL_ne, cpL_I, sI_at, sI_ne, sI_nj, sI_L, sL_at, sL_ne, sL_nj, sL_I]
    · refine congrArg nz ?_
      simp (disch := omega) only [cpFloor, cpI_at, cpI_ne, cpI_L, cpL_at, cpL_ne, cpL_I, sI_at, sI_ne, sI_nj, sI_L, sL_at, sL_ne, sL_nj, sL_I]
  · rw [← f4]; simp (disch := omega) only [cpFloor, cpI_at, cpI_ne, cpI_L, cpL_at, cpL_ne, cpL_I, sI_at, sI_ne, sI_nj, sI_L, sL_at, sL_ne, sL_nj, sL_I]
  · obtain ⟨a1, a2, a3, a4⟩ := fs b b0 b1
    rw [← a1, ← a2, ← a3, ← a4]
    refine ⟨?_, ?_, ?_, ?_⟩ <;> (simp (disch := omega) only [cpFloor, cpI_at, cpI_ne, cpI_L, cpL_at, cpL_ne, cpL_I, sI_at, sI_ne, sI_nj, sI_L, sL_at, sL_ne, sL_nj, sL_I])
  · rw [← f9]; simp (disch := omega) only [cpFloor, cpI_at, cpI_ne, cpI_L, cpL_at, cpL_ne, cpL_I, sI_at, sI_ne, sI_nj, sI_L, sL_at, sL_ne, sL_nj, sL_I]
  · obtain ⟨a1, a2⟩ := fj b b0 b1
    rw [← a1, ← a2]
    refine ⟨?_, ?_⟩ <;> (simp (disch := omega) only [cpFloor, cpI_at, cpI_ne, cpI_L, cpL_at, cpL_ne, cpL_I, sI_at, sI_ne, sI_nj, sI_L, sL_at, sL_ne, sL_nj, sL_I])
theorem RelV.cp {sh : Sh} {μ : Mem} {a o : Nat} {ρ : Row} (h : RelV sh μ o ρ) (hn : WFn ρ) (hA : IsVoyage sh μ.2.2 a) (hd : a + 10 ≤ o ∨ o + 10 ≤ a) : RelV sh (cpVoyage μ a o) a ρ := by
  unfold WFn at hn
  obtain ⟨_, f0, ft, f5, f8, fi⟩ := h
  refine ⟨hA, ?_, fun b b0 b1 => ?_, ?_, ?_, fun b b0 b1 => ?_⟩
  · rw [← f0]; simp (disch := omega) only [cpVoyage, cpI_at, cpI_ne, cpI_L, cpL_at, cpL_ne, cpL_I, sI_at, sI_ne, sI_nj, sI_L, sL_at, sL_ne, sL_nj, sL_I]
  · obtain ⟨a1, a2⟩ := ft b b0 b1
    rw [← a1, ← a2]
    refine ⟨?_, ?_⟩ <;> (simp (disch := omega) only [cpVoyage, cpI_at, cpI_ne, cpI_L, cpL_at, cpL_ne, cpL_I, sI_at, sI_ne, sI_nj, sI_L, sL_at, sL_ne, sL_nj, sL_I])
  · rw [← f5]; simp (disch := omega) only [cpVoyage, cpI_at, cpI_ne, cpI_L, cpL_at, cpL_ne, cpL_I, sI_at, sI_ne, sI_nj, sI_L, sL_at, sL_ne, sL_nj, sL_I]
  · rw [← f8]; simp (disch := omega) only [cpVoyage, cpI_at, cpI_ne, cpI_L, cpL_at, cpL_ne, cpL_I, sI_at, sI_ne, sI_nj, sI_L, sL_at, sL_ne, sL_nj, sL_I]
  · obtain ⟨a1, a2, a3⟩ := fi b b0 b1
    rw [← a1, ← a2, ← a3]
    refine ⟨?_, ?_, ?_⟩ <;> (simp (disch := omega) only [cpVoyage, cpI_at, cpI_ne, cpI_L, cpL_at, cpL_ne, cpL_I, sI_at, sI_ne, sI_nj, sI_L, sL_at, sL_ne, sL_nj, sL_I])
def cpPl0 (μ : Mem) (p o : Nat) : Mem :=
  let m0 := setI μ p 0 (μ.1 o 0)
  let m1 := setI m0 p 1 (m0.1 o 1)
  let m2 := setI m1 p 2 (m1.1 o 2)
  let m3 := setI m2 p 3 (m2.1 o 3)
  let m4 := setI m3 p 4 (m3.1 o 4)
  let m5 := cpI m4 (p + 1) (o + 1) 2
  let m6 := cpI m5 (p + 2) (o + 2) 2
  m6
theorem Kp.cP0 {S : Nat → Prop} {μ μ2 : Mem} {a o : Nat} (h1 : Kp S μ μ2) (h : ∀ q, a ≤ q → q < a + 3 → ¬ S q) : Kp S μ (cpPl0 μ2 a o) := (((((((h1.sI (h _ (by omega) (by omega))).sI (h _ (by omega) (by omega))).sI (h _ (by omega) (by omega))).sI (h _ (by omega) (by omega))).sI (h _ (by omega) (by omega))).cI (h _ (by omega) (by omega))).cI (h _ (by omega) (by omega)))
theorem RelP.cp {sh : Sh} {μ : Mem} {p o : Nat} {ρ : Row} (h : RelP sh μ o ρ) (hn : WFn ρ) (hA : IsPlane sh μ.2.2 p) (hd : p + 23 ≤ o ∨ o + 23 ≤ p) : RelP sh (cpPlane μ p o) p ρ := by
  obtain ⟨_, p0, p1, p2, p3, p4, pb, hF, hV⟩ := h
  have e : cpPlane μ p o = cpVoyage (cpFloor (cpPl0 μ p o) (p + 3) (o + 3)) (p + 13) (o + 13) := rfl
  have hF1 : RelF sh (cpPl0 μ p o) (o + 3) ρ := hF.mono ((Kp.rf _ μ).cP0 (fun q q0 q1 => by (try dsimp only); omega))
  have hV1 : RelV sh (cpFloor (cpPl0 μ p o) (p + 3) (o + 3)) (o + 13) ρ := hV.mono (((Kp.rf _ μ).cP0 (fun q q0 q1 => by (try dsimp only); omega)).cF (fun q q0 q1 => by (try dsimp only); omega))
  have hF2 := hF1.cp hn (a := p + 3) hA.2.2.2.2.2.2.2.1 (by omega)
  have hV2 := hV1.cp hn (a := p + 13) hA.2.2.2.2.2.2.2.2 (by omega)
  have kk : Kp (fun q => p ≤ q ∧ q < p + 3) (cpPl0 μ p o) (cpPlane μ p o) := by
    rw [e]
    exact ((Kp.rf _ _).cF (fun q q0 q1 => by (try dsimp only); omega)).cV (fun q q0 q1 => by (try dsimp only); omega)
  have k0 := (kk p (by (try dsimp only); omega)).1
  have k1 := (kk (p + 1) (by (try dsimp only); omega)).1
  have k2 := (kk (p + 2) (by (try dsimp only); omega)).1
  refine ⟨hA, ?_, ?_, ?_, ?_, ?_, fun b b0 b1 => ?_, ?_, ?_⟩
  · rw [k0, ← p0]; simp (disch := omega) only [cpPl0, cpI_at, cpI_ne, cpI_L, cpL_at, cpL_ne, cpL_I, sI_at, sI_ne, sI_nj, sI_L, sL_at, sL_ne, sL_nj, sL_I]
  · rw [k0, ← p1]; simp (disch := omega) only [cpPl0, cpI_at, cpI_ne, cpI_L, cpL_at, cpL_ne, cpL_I, sI_at, sI_ne, sI_nj, sI_L, sL_at, sL_ne, sL_nj, sL_I]
  · rw [k0, ← p2]; simp (disch := omega) only [cpPl0, cpI_at, cpI_ne, cpI_L, cpL_at, cpL_ne, cpL_I, sI_at, sI_ne, sI_nj, sI_L, sL_at, sL_ne, sL_nj, sL_I]
  · rw [k0, ← p3]; simp (disch := omega) only [cpPl0, cpI_at, cpI_ne, cpI_L, cpL_at, cpL_ne, cpL_I, sI_at, sI_ne, sI_nj, sI_L, sL_at, sL_ne, sL_nj, sL_I]
  · rw [k0, ← p4]; simp (disch := omega) only [cpPl0, cpI_at, cpI_ne, cpI_L, cpL_at, cpL_ne, cpL_I, sI_at, sI_ne, sI_nj, sI_L, sL_at, sL_ne, sL_nj, sL_I]
  · have x1 : (cpPl0 μ p o).1 (p + 1) b = μ.1 (o + 1) b := by simp (disch := omega) only [cpPl0, cpI_at, cpI_ne, cpI_L, cpL_at, cpL_ne, cpL_I, sI_at, sI_ne, sI_nj, sI_L, sL_at, sL_ne, sL_nj, sL_I]
    have x2 : (cpPl0 μ p o).1 (p + 2) b = μ.1 (o + 2) b := by simp (disch := omega) only [cpPl0, cpI_at, cpI_ne, cpI_L, cpL_at, cpL_ne, cpL_I, sI_at, sI_ne, sI_nj, sI_L, sL_at, sL_ne, sL_nj, sL_I]
    rw [k1, k2, x1, x2]
    exact pb b b0 b1
  · rw [e]
    exact hF2.mono ((Kp.rf _ _).cV (fun q q0 q1 => by (try dsimp only); omega))
  · rw [e]
    exact hV2


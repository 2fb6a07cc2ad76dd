/-! 98.made: cells come behind the class's; the law's plane and cargo by bits (wip/p37/src/98.py) -/
variable {n_ : Sh}
theorem ref_lo : ∀ q ∈ refL, q.1 < 188 := by decide +kernel
theorem RelC.subS {sh sh' : Sh} {μ : Mem} {c : Nat} {ρ : Row} (h : RelC sh μ c ρ) (hs : ∀ (i : Nat) (x : Nat × Nat), sh[i]? = some x → sh'[i]? = some x) : RelC sh' μ c ρ := by
  obtain ⟨⟨u0, u1, u2, u3, u4, u6, y1, y2, y3, y4, y5⟩, h⟩ := h
  exact ⟨⟨hs _ _ u0, u1, u2, u3, u4, u6, hs _ _ y1, hs _ _ y2, hs _ _ y3, hs _ _ y4, hs _ _ y5⟩, h⟩
theorem HistX.subS {n2 : Sh} {μ : Mem} {ρ : Row} {us : List Row} (h : HistX n_ μ ρ us) (hs : ∀ (i : Nat) (x : Nat × Nat), (SH n_)[i]? = some x → (SH n2)[i]? = some x) : HistX n2 μ ρ us := by
  obtain ⟨h1, h2, h3, h4⟩ := h
  exact ⟨h1, h2, h3, fun t u hu => ⟨(h4 t u hu).1.subS hs, (h4 t u hu).2⟩⟩
theorem ImgX.subS {n2 : Sh} {μ : Mem} {a : Nat} {i : Option Row} (h : ImgX n_ μ a i) (hs : ∀ (i : Nat) (x : Nat × Nat), (SH n_)[i]? = some x → (SH n2)[i]? = some x) : ImgX n2 μ a i := by
  cases i with
  | none => exact h
  | some ρ =>
    obtain ⟨h1, h2, h3, h4⟩ := h
    exact ⟨h1, h2.subS hs, h3.subS hs, h4⟩
/-- more cells behind, and nothing of the class's has changed -/
theorem InX.grow {n2 : Sh} {μ μ2 : Mem} {G : Gh} {p pd c cd : Nat} (h : InX n_ μ G p pd c cd) (hs : ∀ (i : Nat) (x : Nat × Nat), (SH n_)[i]? = some x → (SH n2)[i]? = some x) (hk : Kp (fun a => a < 188) μ μ2) : InX n2 μ2 G p pd c cd := by
  obtain ⟨a1, a2, ⟨b1, b2, b3⟩, a4, ⟨c1, c2⟩, a6, a7, a8⟩ := h
  have hpc := PosX.pc a2
  have r0 : μ2.2.2 0 = μ.2.2 0 := (hk 0 (by decide)).2.2
  refine ⟨fun q hq => ?_, ?_, ⟨(b1.mono (hk.mono ?_)).subS hs, (b2.mono (hk.mono ?_)).subS hs, b3⟩, (a4.mono (hk.mono ?_)).subS hs, ⟨(c1.mono (hk.mono ?_)).subS hs, (c2.mono (hk.mono ?_)).subS hs⟩, a6.mono (congrFun (hk 2 (by decide)).1 1) (hk 3 (by decide)).1, ?_, a8.mono (congrFun (hk 182 (by decide)).1 1) (hk 183 (by decide)).1⟩
  · rw [(hk q.1 (ref_lo q hq)).2.2]
    exact a1 q hq
  · unfold PosX at *
    rw [r0]
    exact a2
  · intro q hq; (try dsimp only at *); omega
  · intro q hq; (try dsimp only at *); omega
  · intro q hq; (try dsimp only at *); omega
  · intro q hq; (try dsimp only at *); omega
  · intro q hq; (try dsimp only at *); omega
  · rw [(hk 0 (by decide)).1]; exact a7
set_option maxRecDepth 100000 in
theorem SH_app (a b : Sh) : SH (a ++ b) = SH a ++ b := rfl
theorem SH_sub (a b : Sh) : ∀ (i : Nat) (x : Nat × Nat), (SH a)[i]? = some x → (SH (a ++ b))[i]? = some x := fun i x h => by
  rw [SH_app]
  exact ap h
set_option maxRecDepth 100000 in
theorem SH_len (a : Sh) : (SH a).length = 188 + a.length := by
  have e : SH a = SH [] ++ a := rfl
  rw [e, List.length_append]
  rfl
theorem ref_all : ∀ q ∈ refL, q ∈ rfX11 := by decide +kernel
set_option maxRecDepth 100000 in
theorem SH_eq : [(10, 11)] ++ lstX11 = SH [] := by decide +kernel
/-- the class as it is made -/
theorem start_X {μ0 μ2 : Mem} (h1 : NS μ0 0 rfX11 zsX11 μ2) (hP : RelP ([(10, 11)] ++ lstX11) μ2 4 bareR) : InX [] μ2 G0 4 27 50 56 := by
  have rf1 : ∀ q ∈ rfX11, μ2.2.2 q.1 q.2.1 = some q.2.2 := fun q hq => by
    have := h1.2.1 q hq
    rw [Nat.zero_add, Nat.zero_add] at this
    exact this
  have hL : Lay μ2.2.2 := fun q hq => rf1 q (ref_all q hq)
  have z1 : ∀ q : Nat, q ∈ zsX11 → ∀ j, μ2.1 q j = 0 := fun q hq j => by
    have := h1.2.2 q hq j
    rw [Nat.zero_add] at this
    exact this
  have e : ∀ j, 4 ≤ j → bareR j = 0 := fun j hj => bare_z (Or.inl hj)
  have hPS : RelP (SH []) μ2 4 bareR := by
    rw [← SH_eq]
    exact hP
  have c50 := z1 50 (by decide +kernel)
  have c55 := z1 55 (by decide +kernel)
  refine ⟨hL, ⟨Or.inl ⟨rfl, rfl⟩, Or.inl ⟨rfl, rfl⟩, rf1 (0, 2, 4) (by decide +kernel), rf1 (0, 3, 27) (by decide +kernel), rf1 (0, 4, 50) (by decide +kernel), rf1 (0, 5, 56) (by decide +kernel)⟩, ⟨hPS, ⟨hL.c50, ?_, ?_, ?_, ?_, fun k k0 k1 => ?_⟩, bare_wf.1, bare_wf.2⟩, ⟨Nat.zero_le _, z1 62 (by decide +kernel) 2, ?_, fun t u h => by cases h⟩, ⟨z1 112 (by decide +kernel) 0, z1 142 (by decide +kernel) 0⟩, ⟨z1 2 (by decide +kernel) 1, by decide, fun i i0 i1 => absurd i1 (by simp [G0]; omega)⟩, ⟨z1 0 (by decide +kernel) 1, by decide, by decide⟩, ⟨z1 182 (by decide +kernel) 1, Nat.zero_le _, fun i x h => by cases h⟩⟩
  · show μ2.1 50 0 = bareR 11
    rw [c50, e 11 (by omega)]
  · show μ2.1 50 5 = bareR 12
    rw [c50, e 12 (by omega)]
  · show μ2.1 (50 + 5) 0 = bareR 51
    rw [c55, e 51 (by omega)]
  · show μ2.1 (50 + 5) 1 = bareR 52
    rw [c55, e 52 (by omega)]
  · exfalso
    have k1 : k < bareR 11 := k1
    rw [e 11 (by omega)] at k1
    omega
  · rw [z1 62 (by decide +kernel) 1]; decide
theorem mask (x : Int) {m : Int} (hm : 0 ≤ m ∧ m < 2147483648) : 0 ≤ iand x m ∧ iand x m ≤ m := by
  unfold iand
  have e : (Int32.ofInt m).toBitVec.toNat = m.toNat := by
    have h1 : (Int32.ofInt m).toInt = m := toI (by omega)
    have h2 : (Int32.ofInt m).toBitVec.toInt = m := h1
    rw [BitVec.toInt_eq_toNat_cond] at h2
    split at h2 <;> omega
  have h : (Int32.ofInt x &&& Int32.ofInt m).toBitVec.toNat ≤ m.toNat := by
    rw [Int32.toBitVec_and, BitVec.toNat_and, ← e]
    exact Nat.and_le_right
  show 0 ≤ (Int32.ofInt x &&& Int32.ofInt m).toBitVec.toInt ∧ (Int32.ofInt x &&& Int32.ofInt m).toBitVec.toInt ≤ m
  rw [BitVec.toInt_eq_toNat_of_lt (by omega)]
  omega
/-- a new row at the end, told by what it holds -/
def NewA (n : Nat) (sh : Sh) (μ : Mem) (Z : (Int → Int) → Prop) (r : Option AV) (sh2 : Sh) (μ2 : Mem) : Prop := r = some (vR sh.length) ∧ sh2 = sh ++ [(20, n)] ∧ Z (μ2.1 sh.length) ∧ Kp (fun q => q ≠ sh.length) μ μ2
theorem at_end {sh : Sh} {x : Nat × Nat} : (sh ++ [x])[sh.length]? = some x := apL rfl
def ZA (z : Int → Int) : Prop := (20 ≤ z 0 ∧ z 0 ≤ 83) ∧ (40 ≤ z 1 ∧ z 1 ≤ 55) ∧ (35 ≤ z 2 ∧ z 2 ≤ 42) ∧ (50 ≤ z 3 ∧ z 3 ≤ 65) ∧ (20 ≤ z 4 ∧ z 4 ≤ 83) ∧ (20 ≤ z 5 ∧ z 5 ≤ 83) ∧ (z 6 = 0 ∨ z 6 = 1) ∧ (z 7 = 0 ∨ z 7 = 1)
def ZB (k : Int) (z : Int → Int) : Prop := ∀ j, 0 ≤ j → j < k → (0 ≤ z (8 + j) ∧ z (8 + j) ≤ 67) ∧ (10 ≤ z (12 + j) ∧ z (12 + j) ≤ 41)
theorem sI1 {μ : Mem} {a : Nat} {i x j : Int} : (setI μ a i x).1 a j = if j = i then x else μ.1 a j := by simp [setI]
set_option maxRecDepth 100000 in
set_option maxHeartbeats 4000000 in
theorem c_planeL {sh : Sh} {μ : Mem} : AMet yL_plane gL_plane sh [vX 62] μ (NewA 23 sh μ ZOK) := by
  have q63 := fun x => mask x (m := 63) (by omega)
  have q31 := fun x => mask x (m := 31) (by omega)
  have q15 := fun x => mask x (m := 15) (by omega)
  have q7 := fun x => mask x (m := 7) (by omega)
  have q3 := fun x => mask x (m := 3) (by omega)
  have q1 := fun x => mask x (m := 1) (by omega)
  have ha : (sh ++ [(20, 23)])[sh.length]? = some (20, 23) := at_end
  have loop : ∀ (s : Nat) (k x y : Int) (m : Mem), 0 ≤ k → k + s = 4 → ZA (m.1 sh.length) → ZB k (m.1 sh.length) → Kp (fun q => q ≠ sh.length) μ m → AW gL_plane (sh ++ [(20, 23)]) m 1 23 111 [some (vX 62), some (vR sh.length), some (vI x), some (vI y), some (vI k)] [] (NewA 23 sh μ ZOK) := by
    intro s
    induction s with
    | zero =>
      intro k x y m hk0 hk1 hA hB hK
      obtain rfl : k = 4 := by omega
      refine r_iload dL_plane_111 rfl ?_
      refine r_iconst dL_plane_113 ?_
      refine q_icmp_ge (tgt := 170) dL_plane_114 rfl (by omega) (by omega) (fun c114 => ?_) (fun c114 => ?_)
      · refine r_aload_n dL_plane_170 rfl ?_
        refine r_bipush dL_plane_171 (by decide) ?_
        refine r_bipush dL_plane_173 (by decide) ?_
        refine r_iload_n dL_plane_175 rfl ?_
        refine r_bipush dL_plane_176 (by decide) ?_
        refine r_ishr dL_plane_178 ?_
        refine r_bipush dL_plane_179 (by decide) ?_
        refine r_iand dL_plane_181 ?_
        refine r_iadd dL_plane_182 ?_
        refine r_iast dL_plane_183 (by assumption) rfl (by omega) ?_
        refine r_aload_n dL_plane_184 rfl ?_
        refine r_bipush dL_plane_185 (by decide) ?_
        refine r_iload_n dL_plane_187 rfl ?_
        refine r_bipush dL_plane_188 (by decide) ?_
        refine r_ishr dL_plane_190 ?_
        refine r_bipush dL_plane_191 (by decide) ?_
        refine r_iand dL_plane_193 ?_
        refine r_iast dL_plane_194 (by assumption) rfl (by omega) ?_
        refine r_aload_n dL_plane_195 rfl ?_
        refine r_bipush dL_plane_196 (by decide) ?_
        refine r_iconst dL_plane_198 ?_
        refine r_aload_nX dL_plane_199 rfl ?_
        refine r_iconst dL_plane_200 ?_
        refine r_cS2I dL_plane_201 ml_L_28 yl_L_cell ⟨rfl, rfl⟩ rfl rfl rfl rfl (c_cell (by omega)) ?_
        rintro x0 m0 ⟨hx0, rfl⟩
        refine r_bipush dL_plane_204 (by decide) ?_
        refine r_ishr dL_plane_206 ?_
        refine r_iconst dL_plane_207 ?_
        refine r_iand dL_plane_208 ?_
        refine r_iadd dL_plane_209 ?_
        refine r_iast dL_plane_210 (by assumption) rfl (by omega) ?_
        refine r_aload_n dL_plane_211 rfl ?_
        refine r_bipush dL_plane_212 (by decide) ?_
        refine r_bipush dL_plane_214 (by decide) ?_
        refine r_iload_n dL_plane_216 rfl ?_
        refine r_bipush dL_plane_217 (by decide) ?_
        refine r_ishr dL_plane_219 ?_
        refine r_bipush dL_plane_220 (by decide) ?_
        refine r_iand dL_plane_222 ?_
        refine r_iadd dL_plane_223 ?_
        refine r_iast dL_plane_224 (by assumption) rfl (by omega) ?_
        refine r_aload_n dL_plane_225 rfl ?_
        refine r_bipush dL_plane_226 (by decide) ?_
        refine r_bipush dL_plane_228 (by decide) ?_
        refine r_aload_nX dL_plane_230 rfl ?_
        refine r_iconst dL_plane_231 ?_
        refine r_cS2I dL_plane_232 ml_L_28 yl_L_cell ⟨rfl, rfl⟩ rfl rfl rfl rfl (c_cell (by omega)) ?_
        rintro x0 m0 ⟨hx0, rfl⟩
        refine r_bipush dL_plane_235 (by decide) ?_
        refine r_ishr dL_plane_237 ?_
        refine r_bipush dL_plane_238 (by decide) ?_
        refine r_iand dL_plane_240 ?_
        refine r_iadd dL_plane_241 ?_
        refine r_iast dL_plane_242 (by assumption) rfl (by omega) ?_
        refine r_aload_n dL_plane_243 rfl ?_
        refine r_bipush dL_plane_244 (by decide) ?_
        refine r_iconst dL_plane_246 ?_
        refine r_aload_nX dL_plane_247 rfl ?_
        refine r_iconst dL_plane_248 ?_
        refine r_cS2I dL_plane_249 ml_L_28 yl_L_cell ⟨rfl, rfl⟩ rfl rfl rfl rfl (c_cell (by omega)) ?_
        rintro x0 m0 ⟨hx0, rfl⟩
        refine r_bipush dL_plane_252 (by decide) ?_
        refine r_ishr dL_plane_254 ?_
        refine r_bipush dL_plane_255 (by decide) ?_
        refine r_iand dL_plane_257 ?_
        refine r_iadd dL_plane_258 ?_
        refine r_iast dL_plane_259 (by assumption) rfl (by omega) ?_
        refine r_aload_n dL_plane_260 rfl ?_
        refine r_bipush dL_plane_261 (by decide) ?_
        refine r_iconst dL_plane_263 ?_
        refine r_iast dL_plane_264 (by assumption) rfl (by omega) ?_
        refine r_aload_n dL_plane_265 rfl ?_
        refine r_areturnA dL_plane_266 rfl rfl rfl ?_
        refine ⟨rfl, rfl, ?_, (((((((hK.sI (fun q => q rfl)).sI (fun q => q rfl)).sI (fun q => q rfl)).sI (fun q => q rfl)).sI (fun q => q rfl)).sI (fun q => q rfl)).sI (fun q => q rfl))⟩
        obtain ⟨z0, z1, z2, z3, z4, z5, z6, z7⟩ := hA
        unfold ZOK
        simp only [sI1]
        refine ⟨?_, ?_, ?_, ?_, ?_, ?_, ?_, ?_, fun j j0 j1 => ?_, ?_, ?_, ?_, ?_, ?_, ?_, ?_⟩
        · simpa using z0
        · simpa using z1
        · simpa using z2
        · simpa using z3
        · simpa using z4
        · simpa using z5
        · simpa using z6
        · simpa using z7
        · have := hB j j0 j1
          repeat rw [if_neg (by omega)]
          exact this
        · simp; have := q63 (ishr y 14); omega
        · simp; have := q63 (ishr y 20); omega
        · simp
          constructor
          · exact Int.le_add_of_nonneg_right (q3 _).1
          · have := fun x => (q3 x).2
            exact Int.add_le_add_left (this _) 1
        · simp; have := q31 (ishr y 26); omega
        · simp
          constructor
          · exact Int.le_add_of_nonneg_right (q31 _).1
          · exact Int.add_le_add_left (q31 _).2 20
        · simp
          constructor
          · exact Int.le_add_of_nonneg_right (q7 _).1
          · exact Int.add_le_add_left (q7 _).2 1
        · simp
      · exfalso; omega
    | succ s ih =>
      intro k x y m hk0 hk1 hA hB hK
      refine r_iload dL_plane_111 rfl ?_
      refine r_iconst dL_plane_113 ?_
      refine q_icmp_ge (tgt := 170) dL_plane_114 rfl (by omega) (by omega) (fun c114 => ?_) (fun c114 => ?_)
      · exfalso; omega
      · refine r_aload_n dL_plane_117 rfl ?_
        refine r_bipush dL_plane_118 (by decide) ?_
        refine r_iload dL_plane_120 rfl ?_
        refine r_iadd dL_plane_122 ?_
        refine r_bipush dL_plane_123 (by decide) ?_
        refine r_iload dL_plane_125 rfl ?_
        refine r_imul dL_plane_127 ?_
        refine r_iload_n dL_plane_128 rfl ?_
        refine r_iconst dL_plane_129 ?_
        refine r_iconst dL_plane_130 ?_
        refine r_iload dL_plane_131 rfl ?_
        refine r_imul dL_plane_133 ?_
        refine r_iadd dL_plane_134 ?_
        refine r_ishr dL_plane_135 ?_
        refine r_bipush dL_plane_136 (by decide) ?_
        refine r_iand dL_plane_138 ?_
        refine r_iadd dL_plane_139 ?_
        refine r_iast dL_plane_140 (by assumption) rfl (by omega) ?_
        refine r_aload_n dL_plane_141 rfl ?_
        refine r_bipush dL_plane_142 (by decide) ?_
        refine r_iload dL_plane_144 rfl ?_
        refine r_iadd dL_plane_146 ?_
        refine r_bipush dL_plane_147 (by decide) ?_
        refine r_aload_nX dL_plane_149 rfl ?_
        refine r_iconst dL_plane_150 ?_
        refine r_cS2I dL_plane_151 ml_L_28 yl_L_cell ⟨rfl, rfl⟩ rfl rfl rfl rfl (c_cell (by omega)) ?_
        rintro x0 m0 ⟨hx0, rfl⟩
        refine r_iconst dL_plane_154 ?_
        refine r_iload dL_plane_155 rfl ?_
        refine r_imul dL_plane_157 ?_
        refine r_ishr dL_plane_158 ?_
        refine r_bipush dL_plane_159 (by decide) ?_
        refine r_iand dL_plane_161 ?_
        refine r_iadd dL_plane_162 ?_
        refine r_iast dL_plane_163 (by assumption) rfl (by omega) ?_
        refine r_iinc dL_plane_164 rfl rfl ?_
        refine r_goto (tgt := 111) dL_plane_167 rfl ?_
        refine ih (k + 1) x y _ (by omega) (by omega) ?_ ?_ ((hK.sI (fun q => q rfl)).sI (fun q => q rfl))
        · obtain ⟨z0, z1, z2, z3, z4, z5, z6, z7⟩ := hA
          unfold ZA
          simp only [sI1]
          repeat rw [if_neg (by omega)]
          exact ⟨z0, z1, z2, z3, z4, z5, z6, z7⟩
        · intro j j0 j1
          simp only [sI1]
          by_cases e : j = k
          · subst e
            rw [if_neg (by omega), if_pos rfl, if_pos rfl]
            refine ⟨?_, Int.le_add_of_nonneg_right (q31 _).1, Int.add_le_add_left (q31 _).2 10⟩
            have := q7 (ishr y (2 + 3 * j))
            omega
          · rw [if_neg (by omega), if_neg (by omega), if_neg (by omega), if_neg (by omega)]
            exact hB j j0 (by omega)
  refine AMet.of (by decide) rfl (by decide) rfl ?_
  refine r_bipush dL_plane_0 (by decide) ?_
  refine r_newaI dL_plane_2 ac_I rfl rfl rfl rfl ?_
  refine r_astore_n dL_plane_4 rfl ?_
  refine r_aload_nX dL_plane_5 rfl ?_
  refine r_iconst dL_plane_6 ?_
  refine r_cS2I dL_plane_7 ml_L_28 yl_L_cell ⟨rfl, rfl⟩ rfl rfl rfl rfl (c_cell (by omega)) ?_
  rintro x0 m0 ⟨hx0, rfl⟩
  refine r_istore_n dL_plane_10 rfl ?_
  refine r_aload_nX dL_plane_11 rfl ?_
  refine r_iconst dL_plane_12 ?_
  refine r_cS2I dL_plane_13 ml_L_28 yl_L_cell ⟨rfl, rfl⟩ rfl rfl rfl rfl (c_cell (by omega)) ?_
  rintro x0 m0 ⟨hx0, rfl⟩
  refine r_istore_n dL_plane_16 rfl ?_
  refine r_aload_n dL_plane_17 rfl ?_
  refine r_iconst dL_plane_18 ?_
  refine r_bipush dL_plane_19 (by decide) ?_
  refine r_iload_n dL_plane_21 rfl ?_
  refine r_bipush dL_plane_22 (by decide) ?_
  refine r_iand dL_plane_24 ?_
  refine r_iadd dL_plane_25 ?_
  refine r_iast dL_plane_26 (by assumption) rfl (by omega) ?_
  refine r_aload_n dL_plane_27 rfl ?_
  refine r_iconst dL_plane_28 ?_
  refine r_bipush dL_plane_29 (by decide) ?_
  refine r_iload_n dL_plane_31 rfl ?_
  refine r_bipush dL_plane_32 (by decide) ?_
  refine r_ishr dL_plane_34 ?_
  refine r_bipush dL_plane_35 (by decide) ?_
  refine r_iand dL_plane_37 ?_
  refine r_iadd dL_plane_38 ?_
  refine r_iast dL_plane_39 (by assumption) rfl (by omega) ?_
  refine r_aload_n dL_plane_40 rfl ?_
  refine r_iconst dL_plane_41 ?_
  refine r_bipush dL_plane_42 (by decide) ?_
  refine r_iload_n dL_plane_44 rfl ?_
  refine r_bipush dL_plane_45 (by decide) ?_
  refine r_ishr dL_plane_47 ?_
  refine r_bipush dL_plane_48 (by decide) ?_
  refine r_iand dL_plane_50 ?_
  refine r_iadd dL_plane_51 ?_
  refine r_iast dL_plane_52 (by assumption) rfl (by omega) ?_
  refine r_aload_n dL_plane_53 rfl ?_
  refine r_iconst dL_plane_54 ?_
  refine r_bipush dL_plane_55 (by decide) ?_
  refine r_iload_n dL_plane_57 rfl ?_
  refine r_bipush dL_plane_58 (by decide) ?_
  refine r_ishr dL_plane_60 ?_
  refine r_bipush dL_plane_61 (by decide) ?_
  refine r_iand dL_plane_63 ?_
  refine r_iadd dL_plane_64 ?_
  refine r_iast dL_plane_65 (by assumption) rfl (by omega) ?_
  refine r_aload_n dL_plane_66 rfl ?_
  refine r_iconst dL_plane_67 ?_
  refine r_bipush dL_plane_68 (by decide) ?_
  refine r_iload_n dL_plane_70 rfl ?_
  refine r_bipush dL_plane_71 (by decide) ?_
  refine r_ishr dL_plane_73 ?_
  refine r_bipush dL_plane_74 (by decide) ?_
  refine r_iand dL_plane_76 ?_
  refine r_iadd dL_plane_77 ?_
  refine r_iast dL_plane_78 (by assumption) rfl (by omega) ?_
  refine r_aload_n dL_plane_79 rfl ?_
  refine r_iconst dL_plane_80 ?_
  refine r_bipush dL_plane_81 (by decide) ?_
  refine r_iload_n dL_plane_83 rfl ?_
  refine r_bipush dL_plane_84 (by decide) ?_
  refine r_ishr dL_plane_86 ?_
  refine r_bipush dL_plane_87 (by decide) ?_
  refine r_iand dL_plane_89 ?_
  refine r_iadd dL_plane_90 ?_
  refine r_iast dL_plane_91 (by assumption) rfl (by omega) ?_
  refine r_aload_n dL_plane_92 rfl ?_
  refine r_bipush dL_plane_93 (by decide) ?_
  refine r_iload_n dL_plane_95 rfl ?_
  refine r_iconst dL_plane_96 ?_
  refine r_iand dL_plane_97 ?_
  refine r_iast dL_plane_98 (by assumption) rfl (by omega) ?_
  refine r_aload_n dL_plane_99 rfl ?_
  refine r_bipush dL_plane_100 (by decide) ?_
  refine r_iload_n dL_plane_102 rfl ?_
  refine r_iconst dL_plane_103 ?_
  refine r_ishr dL_plane_104 ?_
  refine r_iconst dL_plane_105 ?_
  refine r_iand dL_plane_106 ?_
  refine r_iast dL_plane_107 (by assumption) rfl (by omega) ?_
  refine r_iconst dL_plane_108 ?_
  refine r_istore dL_plane_109 rfl ?_
  refine loop 4 0 _ _ _ (by omega) (by omega) ?_ (fun j j0 j1 => by omega) ((((((((((Kp.rf _ μ).bn (fun q => q rfl)).sI (fun q => q rfl)).sI (fun q => q rfl)).sI (fun q => q rfl)).sI (fun q => q rfl)).sI (fun q => q rfl)).sI (fun q => q rfl)).sI (fun q => q rfl)).sI (fun q => q rfl))
  unfold ZA
  simp only [sI1]
  refine ⟨?_, ?_, ?_, ?_, ?_, ?_, ?_, ?_⟩
  · simp
    exact ⟨Int.le_add_of_nonneg_right (q63 _).1, Int.add_le_add_left (q63 _).2 20⟩
  · simp
    exact ⟨Int.le_add_of_nonneg_right (q15 _).1, Int.add_le_add_left (q15 _).2 40⟩
  · simp
    exact ⟨Int.le_add_of_nonneg_right (q7 _).1, Int.add_le_add_left (q7 _).2 35⟩
  · simp
    exact ⟨Int.le_add_of_nonneg_right (q15 _).1, Int.add_le_add_left (q15 _).2 50⟩
  · simp
    exact ⟨Int.le_add_of_nonneg_right (q63 _).1, Int.add_le_add_left (q63 _).2 20⟩
  · simp
    exact ⟨Int.le_add_of_nonneg_right (q63 _).1, Int.add_le_add_left (q63 _).2 20⟩
  · simp
    exact (show ∀ v : Int, 0 ≤ v ∧ v ≤ 1 → v = 0 ∨ v = 1 by intro v hv; omega) _ (q1 _)
  · simp
    exact (show ∀ v : Int, 0 ≤ v ∧ v ≤ 1 → v = 0 ∨ v = 1 by intro v hv; omega) _ (q1 _)
set_option maxRecDepth 100000 in
set_option maxHeartbeats 4000000 in
theorem c_cargoL {sh : Sh} {μ : Mem} {b : Nat} (hb : sh[b]? = some (20, 23)) (hz : ZOK (μ.1 b)) : AMet yL_cargo gL_cargo sh [vX 62, vR b] μ (NewA 12 sh μ (COK2 (μ.1 b))) := by
  have q63 := fun x => mask x (m := 63) (by omega)
  have q31 := fun x => mask x (m := 31) (by omega)
  have q15 := fun x => mask x (m := 15) (by omega)
  have q7 := fun x => mask x (m := 7) (by omega)
  have q3 := fun x => mask x (m := 3) (by omega)
  have q1 := fun x => mask x (m := 1) (by omega)
  have ha : (sh ++ [(20, 12)])[sh.length]? = some (20, 12) := at_end
  have hb2 : (sh ++ [(20, 12)])[b]? = some (20, 23) := ap hb
  have hne : b ≠ sh.length := by
    have := (List.getElem?_eq_some_iff.mp hb).1
    omega
  have z18 := hz.2.2.2.2.2.2.2.2.2.2.2.1
  have loop : ∀ (s : Nat) (k : Int) (m : Mem), 0 ≤ k → k + s = m.1 sh.length 11 → m.1 sh.length 11 ≤ 3 → (∀ j, 0 ≤ j → j < k → (1 ≤ m.1 sh.length (2 * j) ∧ m.1 sh.length (2 * j) ≤ 32) ∧ (1 ≤ m.1 sh.length (2 * j + 1) ∧ m.1 sh.length (2 * j + 1) ≤ 3)) → Kp (fun q => q ≠ sh.length) μ m → AW gL_cargo (sh ++ [(20, 12)]) m 1 12 20 [some (vX 62), some (vR b), some (vR sh.length), some (vI k)] [] (NewA 12 sh μ (COK2 (μ.1 b))) := by
    intro s
    induction s with
    | zero =>
      intro k m hk0 hk1 h3 hB hK
      have eb : m.1 b = μ.1 b := (hK b hne).1
      refine r_iload_n dL_cargo_20 rfl ?_
      refine r_aload_n dL_cargo_21 rfl ?_
      refine r_bipush dL_cargo_22 (by decide) ?_
      refine r_iald dL_cargo_24 (by assumption) rfl (by omega) ?_
      refine q_icmp_ge (tgt := 82) dL_cargo_25 rfl (by omega) (by omega) (fun c25 => ?_) (fun c25 => ?_)
      · refine r_aload_n dL_cargo_82 rfl ?_
        refine r_bipush dL_cargo_83 (by decide) ?_
        refine r_aload_nX dL_cargo_85 rfl ?_
        refine r_iconst dL_cargo_86 ?_
        refine r_cS2I dL_cargo_87 ml_L_28 yl_L_cell ⟨rfl, rfl⟩ rfl rfl rfl rfl (c_cell (by omega)) ?_
        rintro x0 m0 ⟨hx0, rfl⟩
        refine r_bipush dL_cargo_90 (by decide) ?_
        refine r_ishr dL_cargo_92 ?_
        refine r_bipush dL_cargo_93 (by decide) ?_
        refine r_iand dL_cargo_95 ?_
        refine r_aload_n dL_cargo_96 rfl ?_
        refine r_bipush dL_cargo_97 (by decide) ?_
        refine r_iald dL_cargo_99 (by assumption) rfl (by omega) ?_
        rw [eb]
        refine r_iconst dL_cargo_100 ?_
        refine r_iadd dL_cargo_101 ?_
        refine r_irem dL_cargo_102 (by have := q7 (ishr x0 24); omega) (by omega) ?_
        refine r_iast dL_cargo_103 (by assumption) rfl (by omega) ?_
        refine r_aload_n dL_cargo_104 rfl ?_
        refine r_areturnA dL_cargo_105 rfl rfl rfl ?_
        refine ⟨rfl, rfl, ?_, hK.sI (fun q => q rfl)⟩
        unfold COK2
        simp only [sI1]
        have h7 := q7 (ishr x0 24)
        have ht : (iand (ishr x0 24) 7).tmod (μ.1 b 18 + 2) = (iand (ishr x0 24) 7) % (μ.1 b 18 + 2) := Int.tmod_eq_emod_of_nonneg (by omega)
        have h8 := Int.emod_nonneg (iand (ishr x0 24) 7) (show μ.1 b 18 + 2 ≠ 0 by omega)
        have h9 := Int.emod_lt_of_pos (iand (ishr x0 24) 7) (show 0 < μ.1 b 18 + 2 by omega)
        refine ⟨?_, fun j j0 j1 => ?_, ?_⟩
        · rw [if_neg (by omega)]; omega
        · rw [if_neg (by omega)] at j1
          rw [if_neg (by omega), if_neg (by omega)]
          exact hB j j0 (by omega)
        · simp only [if_true]
          rw [ht]
          omega
      · exfalso; omega
    | succ s ih =>
      intro k m hk0 hk1 h3 hB hK
      refine r_iload_n dL_cargo_20 rfl ?_
      refine r_aload_n dL_cargo_21 rfl ?_
      refine r_bipush dL_cargo_22 (by decide) ?_
      refine r_iald dL_cargo_24 (by assumption) rfl (by omega) ?_
      refine q_icmp_ge (tgt := 82) dL_cargo_25 rfl (by omega) (by omega) (fun c25 => ?_) (fun c25 => ?_)
      · exfalso; omega
      · refine r_aload_n dL_cargo_28 rfl ?_
        refine r_iconst dL_cargo_29 ?_
        refine r_iload_n dL_cargo_30 rfl ?_
        refine r_imul dL_cargo_31 ?_
        refine r_iconst dL_cargo_32 ?_
        refine r_aload_nX dL_cargo_33 rfl ?_
        refine r_iconst dL_cargo_34 ?_
        refine r_cS2I dL_cargo_35 ml_L_28 yl_L_cell ⟨rfl, rfl⟩ rfl rfl rfl rfl (c_cell (by omega)) ?_
        rintro x0 m0 ⟨hx0, rfl⟩
        refine r_iconst dL_cargo_38 ?_
        refine r_bipush dL_cargo_39 (by decide) ?_
        refine r_iload_n dL_cargo_41 rfl ?_
        refine r_imul dL_cargo_42 ?_
        refine r_iadd dL_cargo_43 ?_
        refine r_ishr dL_cargo_44 ?_
        refine r_bipush dL_cargo_45 (by decide) ?_
        refine r_iand dL_cargo_47 ?_
        refine r_iadd dL_cargo_48 ?_
        refine r_iast dL_cargo_49 (by assumption) rfl (by omega) ?_
        refine r_aload_n dL_cargo_50 rfl ?_
        refine r_iconst dL_cargo_51 ?_
        refine r_iload_n dL_cargo_52 rfl ?_
        refine r_imul dL_cargo_53 ?_
        refine r_iconst dL_cargo_54 ?_
        refine r_iadd dL_cargo_55 ?_
        refine r_iconst dL_cargo_56 ?_
        refine r_aload_nX dL_cargo_57 rfl ?_
        refine r_iconst dL_cargo_58 ?_
        refine r_cS2I dL_cargo_59 ml_L_28 yl_L_cell ⟨rfl, rfl⟩ rfl rfl rfl rfl (c_cell (by omega)) ?_
        rintro x1 m1 ⟨hx1, rfl⟩
        refine r_bipush dL_cargo_62 (by decide) ?_
        refine r_bipush dL_cargo_64 (by decide) ?_
        refine r_iload_n dL_cargo_66 rfl ?_
        refine r_imul dL_cargo_67 ?_
        refine r_iadd dL_cargo_68 ?_
        refine r_ishr dL_cargo_69 ?_
        refine r_iconst dL_cargo_70 ?_
        refine r_iand dL_cargo_71 ?_
        refine r_iconst dL_cargo_72 ?_
        refine r_irem dL_cargo_73 (by have := q3 (ishr x1 (7 + 7 * k)); omega) (by omega) ?_
        refine r_iadd dL_cargo_74 ?_
        refine r_iast dL_cargo_75 (by assumption) rfl (by omega) ?_
        refine r_iinc dL_cargo_76 rfl rfl ?_
        refine r_goto (tgt := 20) dL_cargo_79 rfl ?_
        have h3' := q3 (ishr x1 (7 + 7 * k))
        have ht : (iand (ishr x1 (7 + 7 * k)) 3).tmod 3 = (iand (ishr x1 (7 + 7 * k)) 3) % 3 := Int.tmod_eq_emod_of_nonneg (by omega)
        have h31 := q31 (ishr x0 (2 + 7 * k))
        refine ih (k + 1) _ (by omega) ?_ ?_ (fun j j0 j1 => ?_) ((hK.sI (fun q => q rfl)).sI (fun q => q rfl))
        · simp only [sI1]
          rw [if_neg (by omega), if_neg (by omega)]
          omega
        · simp only [sI1]
          rw [if_neg (by omega), if_neg (by omega)]
          omega
        · simp only [sI1]
          by_cases e : j = k
          · subst e
            rw [if_neg (by omega), if_pos rfl, if_pos rfl, ht]
            omega
          · rw [if_neg (by omega), if_neg (by omega), if_neg (by omega), if_neg (by omega)]
            exact hB j j0 (by omega)
  refine AMet.of (by decide) rfl (by decide) rfl ?_
  refine r_bipush dL_cargo_0 (by decide) ?_
  refine r_newaI dL_cargo_2 ac_I rfl rfl rfl rfl ?_
  refine r_astore_n dL_cargo_4 rfl ?_
  refine r_aload_n dL_cargo_5 rfl ?_
  refine r_bipush dL_cargo_6 (by decide) ?_
  refine r_aload_nX dL_cargo_8 rfl ?_
  refine r_iconst dL_cargo_9 ?_
  refine r_cS2I dL_cargo_10 ml_L_28 yl_L_cell ⟨rfl, rfl⟩ rfl rfl rfl rfl (c_cell (by omega)) ?_
  rintro x0 m0 ⟨hx0, rfl⟩
  refine r_iconst dL_cargo_13 ?_
  refine r_iand dL_cargo_14 ?_
  refine r_iconst dL_cargo_15 ?_
  refine r_irem dL_cargo_16 (by have := q3 x0; omega) (by omega) ?_
  refine r_iast dL_cargo_17 (by assumption) rfl (by omega) ?_
  refine r_iconst dL_cargo_18 ?_
  refine r_istore_n dL_cargo_19 rfl ?_
  have h3' := q3 x0
  have ht : (iand x0 3).tmod 4 = iand x0 3 := by rw [Int.tmod_eq_emod_of_nonneg (by omega)]; omega
  refine loop (iand x0 3).toNat 0 _ (by omega) ?_ ?_ (fun j j0 j1 => by omega) (((Kp.rf _ μ).bn (fun q => q rfl)).sI (fun q => q rfl))
  · rw [sI1, if_pos rfl, ht]
    omega
  · rw [sI1, if_pos rfl, ht]
    omega

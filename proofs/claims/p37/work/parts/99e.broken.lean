/-! 99e.broken: the law's first broken rule (wip/p37/src/99e.py) -/
theorem r_cS6F1 {g g2 : Gm} {sh : Sh} {μ μ' : Mem} {cs ss pc idx : Nat} {ls : Ls} {st : List AV} {P : Option AV → Sh → Mem → Prop} {y : MethodName} {v1 v2 v3 v4 v5 v6 v : AV} (hd : decode (gC g) pc = .ok (.invokestatic idx, 3)) (hk : Cond.methodLink (gO g) idx y ∈ GW ∧ Cond.static y ∈ GW) (hy : YL y g2 6) (h0 : gM g2 = 0 ∧ gS g2 = 0) (hr : Nat.ble (gD g2 + 1) (gD g) = true) (hcs : Nat.ble (catSum st) 8 = true) (hc1 : Nat.ble cs (gM g) = true) (hs1 : Nat.ble ss (gS g) = true)
    (hm : FMet y g2 sh [v1, v2, v3, v4, v5, v6] μ (some v) μ') (kk : AW g sh μ' cs ss (pc + 3) ls (v :: st) P) : AW g sh μ cs ss pc ls (v6 :: v5 :: v4 :: v3 :: v2 :: v1 :: st) P := by
  exact r_callS (vs := [v1, v2, v3, v4, v5, v6]) hd hk hy hm rfl hr hcs (le0 h0.1 hc1) (le0 h0.2 hs1) (fun r sh2 μ2 h => by obtain ⟨rfl, rfl, rfl⟩ := h; exact up0 h0.1 h0.2 kk)
def gBrokA : Gm := (gO gL_broken, gC gL_broken, gL gL_broken, gR gL_broken, false, gD gL_broken, 1, 4)
theorem yl_brokA : YL yL_broken gBrokA 4 := yl_L_broken
/-- the two rows of broken: who lies on each spot, and what weighs there -/
def BK (sh : Sh) (M : Mem) (b d e a a2 : Nat) (po : Int) (ρ : Row) : Prop := (sh[b]? = some (20, 23) ∧ sh[d]? = some (20, 12) ∧ sh[e]? = some (20, 3) ∧ sh[a]? = some (20, 4) ∧ sh[a2]? = some (20, 4)) ∧ LR (M.1 b) (M.1 d) (M.1 e) po ρ ∧ (∀ s, 0 ≤ s → s < 4 → M.1 a s = onF ρ s) ∧ ∀ s, 0 ≤ s → s < 4 → M.1 a2 s = wOnF ρ s
section BROKEN
variable {sh : Sh} {M μ : Mem} {b d e a a2 : Nat} {po : Int} {ρ : Row}
theorem mulr {x y : Int} (hx : -4000 ≤ x ∧ x ≤ 4000) (hy : 0 ≤ y ∧ y ≤ 99) : -500000 ≤ x * y ∧ x * y ≤ 500000 := mul_abs (by omega) hy
set_option maxRecDepth 100000 in
set_option maxHeartbeats 4000000 in
theorem rl7 (hK : BK sh M b d e a a2 po ρ) (hN : ∀ q, 1 ≤ q → q < 7 → atF ρ q < 0) : ∀ (n : Nat) (i : Int), 0 ≤ i → i + n = 5 → (∀ j, 0 ≤ j → j < i → brkF ρ 7 j = false) → AW gL_broken sh M 2 8 307 [some (vR b), some (vR d), some (vR e), some (vI po), some (vR a), some (vR a2), some (vI i), none, none] [] (fun r2 sh2 μ2 => r2 = some (vI (codeF ρ)) ∧ sh2 = sh ∧ μ2 = M) := by
  obtain ⟨⟨hb, hd, he, ha, ha2⟩, hL, hOn, hW⟩ := id hK
  obtain ⟨hp, ⟨e11, e12, e51, hrow⟩, hw, hz, ⟨⟨n0, n3⟩, hcb, hc10, hpo⟩⟩ := id hL
  obtain ⟨⟨p0, p1, p2, p3⟩, ⟨b1, b2, b3, b4, b5, b6, b7⟩, ⟨c1, c2, c3, c4⟩, ⟨d1, d2, d3, d4⟩, farm, ⟨g1, g2, g3, g4⟩, ⟨i1, i2⟩, hj⟩ := id hp
  have z99 := hz.le99
  have on3 := fun s => on_rng hL s
  have wn := fun s => wOnF_rng hw.1.1 hw.2.2.1 s
  intro n
  induction n with
  | zero =>
    intro i i0 i1 hf
    refine r_iload dL_broken_307 rfl ?_
    refine r_iconst dL_broken_309 ?_
    refine q_icmp_ge (tgt := 372) dL_broken_310 rfl (by omega) (by omega) (fun c310 => ?_) (fun c310 => ?_)
    · refine r_iconst dL_broken_372 ?_
      refine r_ireturn dL_broken_373 rfl rfl rfl ?_
      refine ⟨rI ?_, rfl, rfl⟩
      refine (code_no fun q q0 q1 => ?_).symm
      by_cases q7 : q = 7
      · subst q7
        exact at_no (by rw [plc7]; omega) (fun j j0 j1 => hf j j0 (by rw [plc7] at j1; omega))
      · exact hN q q0 (by omega)
    · exfalso; omega
  | succ n ih =>
    intro i i0 i1 hf
    have hS0 : FMet yL_stage gL_stage sh [vR b, vR d, vR e, vI po, vI i, vI 0] M (some (vI (stW ρ i))) M := by
      rw [stW_eq hL (by omega)]
      exact c_stage hb hd he hL.2.2.2.2 (by omega) (Or.inl rfl)
    have hS1 : FMet yL_stage gL_stage sh [vR b, vR d, vR e, vI po, vI i, vI 1] M (some (vI (stM ρ i))) M := by
      rw [stM_eq hL (by omega)]
      exact c_stage hb hd he hL.2.2.2.2 (by omega) (Or.inr rfl)
    have ss := st_small hL (i := i) (by omega)
    have m2 := mulr ss.1 (z99 2 (by omega) (by omega))
    have m3 := mulr ss.1 (z99 3 (by omega) (by omega))
    have e7 := brk7 (ρ := ρ) i
    rw [p2, p3] at e7
    refine r_iload dL_broken_307 rfl ?_
    refine r_iconst dL_broken_309 ?_
    refine q_icmp_ge (tgt := 372) dL_broken_310 rfl (by omega) (by omega) (fun c310 => ?_) (fun c310 => ?_)
    · exfalso; omega
    · refine r_aload_n dL_broken_313 rfl ?_
      refine r_aload_n dL_broken_314 rfl ?_
      refine r_aload_n dL_broken_315 rfl ?_
      refine r_iload_n dL_broken_316 rfl ?_
      refine r_iload dL_broken_317 rfl ?_
      refine r_iconst dL_broken_319 ?_
      refine r_cS6F1 dL_broken_320 ml_L_90 yl_L_stage ⟨rfl, rfl⟩ rfl rfl rfl rfl (hS0) ?_
      refine r_istore dL_broken_323 rfl ?_
      refine r_aload_n dL_broken_325 rfl ?_
      refine r_aload_n dL_broken_326 rfl ?_
      refine r_aload_n dL_broken_327 rfl ?_
      refine r_iload_n dL_broken_328 rfl ?_
      refine r_iload dL_broken_329 rfl ?_
      refine r_iconst dL_broken_331 ?_
      refine r_cS6F1 dL_broken_332 ml_L_90 yl_L_stage ⟨rfl, rfl⟩ rfl rfl rfl rfl (hS1) ?_
      refine r_istore dL_broken_335 rfl ?_
      refine r_iload dL_broken_337 rfl ?_
      refine r_iload dL_broken_339 rfl ?_
      refine r_aload_n dL_broken_341 rfl ?_
      refine r_iconst dL_broken_342 ?_
      refine r_iald dL_broken_343 (by assumption) rfl (by omega) ?_
      refine r_imul dL_broken_344 ?_
      refine q_icmp_lt (tgt := 359) dL_broken_345 rfl (by omega) (by omega) (fun c345 => ?_) (fun c345 => ?_)
      · refine r_sipush dL_broken_359 (by decide) ?_
        refine r_iload dL_broken_362 rfl ?_
        refine r_iadd dL_broken_364 ?_
        refine r_ireturn dL_broken_365 rfl rfl rfl ?_
        refine ⟨rI ?_, rfl, rfl⟩
        have hat : atF ρ 7 = i := at_is (by rw [plc7]; omega) (by rw [e7]; simp only [decide_eq_true_eq]; omega) hf
        have hcd := code_is (ρ := ρ) (r := 7) (by omega) (by omega) hN hat
        omega
      · refine r_iload dL_broken_348 rfl ?_
        refine r_iload dL_broken_350 rfl ?_
        refine r_aload_n dL_broken_352 rfl ?_
        refine r_iconst dL_broken_353 ?_
        refine r_iald dL_broken_354 (by assumption) rfl (by omega) ?_
        refine r_imul dL_broken_355 ?_
        refine q_icmp_le (tgt := 366) dL_broken_356 rfl (by omega) (by omega) (fun c356 => ?_) (fun c356 => ?_)
        · refine r_iinc dL_broken_366 rfl rfl ?_
          refine r_goto (tgt := 307) dL_broken_369 rfl ?_
          refine AW.lw (ih (i + 1) (by omega) (by omega) (fun j j0 j1 => ?_)) (by repeat first | exact trivial | refine And.intro rfl ?_)
          by_cases ej : j = i
          · subst ej
            rw [e7]
            simp only [decide_eq_false_iff_not]
            omega
          · exact hf j j0 (by omega)
        · refine r_sipush dL_broken_359 (by decide) ?_
          refine r_iload dL_broken_362 rfl ?_
          refine r_iadd dL_broken_364 ?_
          refine r_ireturn dL_broken_365 rfl rfl rfl ?_
          refine ⟨rI ?_, rfl, rfl⟩
          have hat : atF ρ 7 = i := at_is (by rw [plc7]; omega) (by rw [e7]; simp only [decide_eq_true_eq]; omega) hf
          have hcd := code_is (ρ := ρ) (r := 7) (by omega) (by omega) hN hat
          omega
set_option maxRecDepth 100000 in
set_option maxHeartbeats 4000000 in
theorem rl6 (hK : BK sh M b d e a a2 po ρ) (hN : ∀ q, 1 ≤ q → q < 6 → atF ρ q < 0) : ∀ (n : Nat) (k : Int), 0 ≤ k → k + n = 4 → (∀ j, 0 ≤ j → j < k → brkF ρ 6 j = false) → AW gL_broken sh M 2 8 227 [some (vR b), some (vR d), some (vR e), some (vI po), some (vR a), some (vR a2), some (vI k), none, none] [] (fun r2 sh2 μ2 => r2 = some (vI (codeF ρ)) ∧ sh2 = sh ∧ μ2 = M) := by
  obtain ⟨⟨hb, hd, he, ha, ha2⟩, hL, hOn, hW⟩ := id hK
  obtain ⟨hp, ⟨e11, e12, e51, hrow⟩, hw, hz, ⟨⟨n0, n3⟩, hcb, hc10, hpo⟩⟩ := id hL
  obtain ⟨⟨p0, p1, p2, p3⟩, ⟨b1, b2, b3, b4, b5, b6, b7⟩, ⟨c1, c2, c3, c4⟩, ⟨d1, d2, d3, d4⟩, farm, ⟨g1, g2, g3, g4⟩, ⟨i1, i2⟩, hj⟩ := id hp
  have z99 := hz.le99
  have on3 := fun s => on_rng hL s
  have wn := fun s => wOnF_rng hw.1.1 hw.2.2.1 s
  intro n
  induction n with
  | zero =>
    intro k k0 k1 hf
    refine r_iload dL_broken_227 rfl ?_
    refine r_iconst dL_broken_229 ?_
    refine q_icmp_ge (tgt := 304) dL_broken_230 rfl (by omega) (by omega) (fun c230 => ?_) (fun c230 => ?_)
    · refine r_iconst dL_broken_304 ?_
      refine r_istore dL_broken_305 rfl ?_
      refine rl7 hK (fun q q0 q1 => ?_) 5 0 (by omega) (by omega) (fun j j0 j1 => by omega)
      by_cases q6 : q = 6
      · subst q6
        exact at_no (by rw [plc6]; omega) (fun j j0 j1 => hf j j0 (by rw [plc6] at j1; omega))
      · exact hN q q0 (by omega)
    · exfalso; omega
  | succ n ih =>
    intro k k0 k1 hf
    have hy := c_way hb hz (s := k) (by omega)
    have wr := wayL_rng (z := M.1 b) (s := k) (by omega)
    have ok := on3 k
    have ow := on3 (wayL (M.1 b) k)
    have e6 := brk6 (ρ := ρ) k
    have cck := fun (h : 0 ≤ onF ρ k) => (hcb (onF ρ k) h (on_at hL h).1).2.1
    have ccw := fun (h : 0 ≤ onF ρ (wayL (M.1 b) k)) => (hcb _ h (on_at hL h).1).2.1
    refine r_iload dL_broken_227 rfl ?_
    refine r_iconst dL_broken_229 ?_
    refine q_icmp_ge (tgt := 304) dL_broken_230 rfl (by omega) (by omega) (fun c230 => ?_) (fun c230 => ?_)
    · exfalso; omega
    · refine r_aload dL_broken_233 rfl ?_
      refine r_iload dL_broken_235 rfl ?_
      refine r_iald dL_broken_237 (by assumption) rfl (by omega) ?_
      rw [hOn k k0 (by omega)]
      refine q_if_lt (tgt := 298) dL_broken_238 rfl (by omega) (fun c238 => ?_) (fun c238 => ?_)
      · refine r_iinc dL_broken_298 rfl rfl ?_
        refine r_goto (tgt := 227) dL_broken_301 rfl ?_
        refine ih (k + 1) (by omega) (by omega) (fun j j0 j1 => ?_)
        by_cases ej : j = k
        · subst ej
          rw [e6]
          simp only [decide_eq_false_iff_not]
          rintro ⟨h1, h2⟩
          have h3 := (blk_one hL (k := j) (by omega) h1).mp h2
          omega
        · exact hf j j0 (by omega)
      · refine r_aload_n dL_broken_241 rfl ?_
        refine r_iload dL_broken_242 rfl ?_
        refine r_cS2F1 dL_broken_244 ml_L_87 yl_L_way ⟨rfl, rfl⟩ rfl rfl rfl rfl (hy) ?_
        refine q_if_lt (tgt := 298) dL_broken_247 rfl (by omega) (fun c247 => ?_) (fun c247 => ?_)
        · refine r_iinc dL_broken_298 rfl rfl ?_
          refine r_goto (tgt := 227) dL_broken_301 rfl ?_
          refine ih (k + 1) (by omega) (by omega) (fun j j0 j1 => ?_)
          by_cases ej : j = k
          · subst ej
            rw [e6]
            simp only [decide_eq_false_iff_not]
            rintro ⟨h1, h2⟩
            have h3 := (blk_one hL (k := j) (by omega) h1).mp h2
            omega
          · exact hf j j0 (by omega)
        · refine r_aload dL_broken_250 rfl ?_
          refine r_aload_n dL_broken_252 rfl ?_
          refine r_iload dL_broken_253 rfl ?_
          refine r_cS2F1 dL_broken_255 ml_L_87 yl_L_way ⟨rfl, rfl⟩ rfl rfl rfl rfl (hy) ?_
          refine r_iald dL_broken_258 (by assumption) rfl (by omega) ?_
          rw [hOn (wayL (M.1 b) k) (by omega) (by omega)]
          refine q_if_lt (tgt := 298) dL_broken_259 rfl (by omega) (fun c259 => ?_) (fun c259 => ?_)
          · refine r_iinc dL_broken_298 rfl rfl ?_
            refine r_goto (tgt := 227) dL_broken_301 rfl ?_
            refine ih (k + 1) (by omega) (by omega) (fun j j0 j1 => ?_)
            by_cases ej : j = k
            · subst ej
              rw [e6]
              simp only [decide_eq_false_iff_not]
              rintro ⟨h1, h2⟩
              have h3 := (blk_one hL (k := j) (by omega) h1).mp h2
              omega
            · exact hf j j0 (by omega)
          · refine r_aload_n dL_broken_262 rfl ?_
            refine r_iconst dL_broken_263 ?_
            refine r_aload dL_broken_264 rfl ?_
            refine r_aload_n dL_broken_266 rfl ?_
            refine r_iload dL_broken_267 rfl ?_
            refine r_cS2F1 dL_broken_269 ml_L_87 yl_L_way ⟨rfl, rfl⟩ rfl rfl rfl rfl (hy) ?_
            refine r_iald dL_broken_272 (by assumption) rfl (by omega) ?_
            rw [hOn (wayL (M.1 b) k) (by omega) (by omega)]
            refine r_imul dL_broken_273 ?_
            refine r_iconst dL_broken_274 ?_
            refine r_iadd dL_broken_275 ?_
            refine r_iald dL_broken_276 (by assumption) rfl (by omega) ?_
            refine r_aload_n dL_broken_277 rfl ?_
            refine r_iconst dL_broken_278 ?_
            refine r_aload dL_broken_279 rfl ?_
            refine r_iload dL_broken_281 rfl ?_
            refine r_iald dL_broken_283 (by assumption) rfl (by omega) ?_
            rw [hOn k k0 (by omega)]
            refine r_imul dL_broken_284 ?_
            refine r_iconst dL_broken_285 ?_
            refine r_iadd dL_broken_286 ?_
            refine r_iald dL_broken_287 (by assumption) rfl (by omega) ?_
            refine q_icmp_le (tgt := 298) dL_broken_288 rfl (by have := ccw (by omega); omega) (by have := cck (by omega); omega) (fun c288 => ?_) (fun c288 => ?_)
            · refine r_iinc dL_broken_298 rfl rfl ?_
              refine r_goto (tgt := 227) dL_broken_301 rfl ?_
              refine ih (k + 1) (by omega) (by omega) (fun j j0 j1 => ?_)
              by_cases ej : j = k
              · subst ej
                rw [e6]
                simp only [decide_eq_false_iff_not]
                rintro ⟨h1, h2⟩
                have h3 := (blk_one hL (k := j) (by omega) h1).mp h2
                omega
              · exact hf j j0 (by omega)
            · refine r_sipush dL_broken_291 (by decide) ?_
              refine r_iload dL_broken_294 rfl ?_
              refine r_iadd dL_broken_296 ?_
              refine r_ireturn dL_broken_297 rfl rfl rfl ?_
              refine ⟨rI ?_, rfl, rfl⟩
              have hbl := (blk_one hL (k := k) (by omega) (by omega)).mpr ⟨by omega, by omega, by omega⟩
              have hat : atF ρ 6 = k := at_is (by rw [plc6]; omega) (by rw [e6]; simp only [decide_eq_true_eq]; exact ⟨by omega, hbl⟩) hf
              have hcd := code_is (ρ := ρ) (r := 6) (by omega) (by omega) hN hat
              omega
set_option maxRecDepth 100000 in
set_option maxHeartbeats 4000000 in
theorem rl5 (hK : BK sh M b d e a a2 po ρ) (hN : ∀ q, 1 ≤ q → q < 5 → atF ρ q < 0) : AW gL_broken sh M 2 8 212 [some (vR b), some (vR d), some (vR e), some (vI po), some (vR a), some (vR a2), none, none, none] [] (fun r2 sh2 μ2 => r2 = some (vI (codeF ρ)) ∧ sh2 = sh ∧ μ2 = M) := by
  obtain ⟨⟨hb, hd, he, ha, ha2⟩, hL, hOn, hW⟩ := id hK
  obtain ⟨hp, ⟨e11, e12, e51, hrow⟩, hw, hz, ⟨⟨n0, n3⟩, hcb, hc10, hpo⟩⟩ := id hL
  obtain ⟨⟨p0, p1, p2, p3⟩, ⟨b1, b2, b3, b4, b5, b6, b7⟩, ⟨c1, c2, c3, c4⟩, ⟨d1, d2, d3, d4⟩, farm, ⟨g1, g2, g3, g4⟩, ⟨i1, i2⟩, hj⟩ := id hp
  have z99 := hz.le99
  have on3 := fun s => on_rng hL s
  have wn := fun s => wOnF_rng hw.1.1 hw.2.2.1 s
  have e5 := brk5 (ρ := ρ) 0
  have e52 := bin2 hL
  refine r_iload_n dL_broken_212 rfl ?_
  refine r_aload_n dL_broken_213 rfl ?_
  refine r_bipush dL_broken_214 (by decide) ?_
  refine r_iald dL_broken_216 (by assumption) rfl (by omega) ?_
  refine q_icmp_eq (tgt := 224) dL_broken_217 rfl (by omega) (by omega) (fun c217 => ?_) (fun c217 => ?_)
  · refine r_iconst dL_broken_224 ?_
    refine r_istore dL_broken_225 rfl ?_
    refine rl6 hK (fun q q0 q1 => ?_) 4 0 (by omega) (by omega) (fun j j0 j1 => by omega)
    by_cases q5 : q = 5
    · subst q5
      refine at_no (by rw [plc5]; omega) (fun j j0 j1 => ?_)
      rw [brk5]
      simp only [decide_eq_false_iff_not]
      omega
    · exact hN q q0 (by omega)
  · refine r_sipush dL_broken_220 (by decide) ?_
    refine r_ireturn dL_broken_223 rfl rfl rfl ?_
    refine ⟨rI ?_, rfl, rfl⟩
    have hat : atF ρ 5 = 0 := at_is (by rw [plc5]; omega) (by rw [e5]; simp only [decide_eq_true_eq]; omega) (fun j j0 j1 => by omega)
    have hcd := code_is (ρ := ρ) (r := 5) (by omega) (by omega) hN hat
    omega
set_option maxRecDepth 100000 in
set_option maxHeartbeats 4000000 in
theorem rl4 (hK : BK sh M b d e a a2 po ρ) (hN : ∀ q, 1 ≤ q → q < 4 → atF ρ q < 0) : ∀ (n : Nat) (k : Int), 0 ≤ k → k + n = 2 → (∀ j, 0 ≤ j → j < k → brkF ρ 4 j = false) → AW gL_broken sh M 2 8 167 [some (vR b), some (vR d), some (vR e), some (vI po), some (vR a), some (vR a2), some (vI k), none, none] [] (fun r2 sh2 μ2 => r2 = some (vI (codeF ρ)) ∧ sh2 = sh ∧ μ2 = M) := by
  obtain ⟨⟨hb, hd, he, ha, ha2⟩, hL, hOn, hW⟩ := id hK
  obtain ⟨hp, ⟨e11, e12, e51, hrow⟩, hw, hz, ⟨⟨n0, n3⟩, hcb, hc10, hpo⟩⟩ := id hL
  obtain ⟨⟨p0, p1, p2, p3⟩, ⟨b1, b2, b3, b4, b5, b6, b7⟩, ⟨c1, c2, c3, c4⟩, ⟨d1, d2, d3, d4⟩, farm, ⟨g1, g2, g3, g4⟩, ⟨i1, i2⟩, hj⟩ := id hp
  have z99 := hz.le99
  have on3 := fun s => on_rng hL s
  have wn := fun s => wOnF_rng hw.1.1 hw.2.2.1 s
  intro n
  induction n with
  | zero =>
    intro k k0 k1 hf
    refine r_iload dL_broken_167 rfl ?_
    refine r_iconst dL_broken_169 ?_
    refine q_icmp_ge (tgt := 212) dL_broken_170 rfl (by omega) (by omega) (fun c170 => ?_) (fun c170 => ?_)
    · refine AW.lw (rl5 hK (fun q q0 q1 => ?_)) (by repeat first | exact trivial | refine And.intro rfl ?_)
      by_cases q4 : q = 4
      · subst q4
        exact at_no (by rw [plc4]; omega) (fun j j0 j1 => hf j j0 (by rw [plc4] at j1; omega))
      · exact hN q q0 (by omega)
    · exfalso; omega
  | succ n ih =>
    intro k k0 k1 hf
    have e4 := brk4 (ρ := ρ) k
    rw [hold_eq hp (by omega)] at e4
    have e13 : ρ (13 + k) = M.1 b (4 + k) := by
      rcases (show k = 0 ∨ k = 1 by omega) with rfl | rfl
      · exact c1
      · exact c2
    rw [e13] at e4
    have w1 := wn (2 * k)
    have w2 := wn (2 * k + 1)
    have zk := z99 (4 + k) (by omega) (by omega)
    refine r_iload dL_broken_167 rfl ?_
    refine r_iconst dL_broken_169 ?_
    refine q_icmp_ge (tgt := 212) dL_broken_170 rfl (by omega) (by omega) (fun c170 => ?_) (fun c170 => ?_)
    · exfalso; omega
    · refine r_aload dL_broken_173 rfl ?_
      refine r_iconst dL_broken_175 ?_
      refine r_iload dL_broken_176 rfl ?_
      refine r_imul dL_broken_178 ?_
      refine r_iald dL_broken_179 (by assumption) rfl (by omega) ?_
      rw [hW (2 * k) (by omega) (by omega)]
      refine r_aload dL_broken_180 rfl ?_
      refine r_iconst dL_broken_182 ?_
      refine r_iload dL_broken_183 rfl ?_
      refine r_imul dL_broken_185 ?_
      refine r_iconst dL_broken_186 ?_
      refine r_iadd dL_broken_187 ?_
      refine r_iald dL_broken_188 (by assumption) rfl (by omega) ?_
      rw [hW (2 * k + 1) (by omega) (by omega)]
      refine r_iadd dL_broken_189 ?_
      refine r_aload_n dL_broken_190 rfl ?_
      refine r_iconst dL_broken_191 ?_
      refine r_iload dL_broken_192 rfl ?_
      refine r_iadd dL_broken_194 ?_
      refine r_iald dL_broken_195 (by assumption) rfl (by omega) ?_
      refine q_icmp_le (tgt := 206) dL_broken_196 rfl (by omega) (by omega) (fun c196 => ?_) (fun c196 => ?_)
      · refine r_iinc dL_broken_206 rfl rfl ?_
        refine r_goto (tgt := 167) dL_broken_209 rfl ?_
        refine ih (k + 1) (by omega) (by omega) (fun j j0 j1 => ?_)
        by_cases ej : j = k
        · subst ej
          rw [e4]
          simp only [decide_eq_false_iff_not]
          omega
        · exact hf j j0 (by omega)
      · refine r_sipush dL_broken_199 (by decide) ?_
        refine r_iload dL_broken_202 rfl ?_
        refine r_iadd dL_broken_204 ?_
        refine r_ireturn dL_broken_205 rfl rfl rfl ?_
        refine ⟨rI ?_, rfl, rfl⟩
        have hat : atF ρ 4 = k := at_is (by rw [plc4]; omega) (by rw [e4]; simp only [decide_eq_true_eq]; omega) hf
        have hcd := code_is (ρ := ρ) (r := 4) (by omega) (by omega) hN hat
        omega
set_option maxRecDepth 100000 in
set_option maxHeartbeats 4000000 in
theorem rl3 (hK : BK sh M b d e a a2 po ρ) (hN : ∀ q, 1 ≤ q → q < 3 → atF ρ q < 0) : AW gL_broken sh M 2 8 144 [some (vR b), some (vR d), some (vR e), some (vI po), some (vR a), some (vR a2), none, none, none] [] (fun r2 sh2 μ2 => r2 = some (vI (codeF ρ)) ∧ sh2 = sh ∧ μ2 = M) := by
  obtain ⟨⟨hb, hd, he, ha, ha2⟩, hL, hOn, hW⟩ := id hK
  obtain ⟨hp, ⟨e11, e12, e51, hrow⟩, hw, hz, ⟨⟨n0, n3⟩, hcb, hc10, hpo⟩⟩ := id hL
  obtain ⟨⟨p0, p1, p2, p3⟩, ⟨b1, b2, b3, b4, b5, b6, b7⟩, ⟨c1, c2, c3, c4⟩, ⟨d1, d2, d3, d4⟩, farm, ⟨g1, g2, g3, g4⟩, ⟨i1, i2⟩, hj⟩ := id hp
  have z99 := hz.le99
  have on3 := fun s => on_rng hL s
  have wn := fun s => wOnF_rng hw.1.1 hw.2.2.1 s
  have e3 := brk3 (ρ := ρ) 0
  simp only [Int.add_zero] at e3
  rw [g1, g2] at e3
  simp only [Int.zero_add] at e3
  have w1 := wn 0
  have w2 := wn 1
  have zk := z99 16 (by omega) (by omega)
  refine r_aload dL_broken_144 rfl ?_
  refine r_iconst dL_broken_146 ?_
  refine r_iald dL_broken_147 (by assumption) rfl (by omega) ?_
  rw [hW 0 (by omega) (by omega)]
  refine r_aload dL_broken_148 rfl ?_
  refine r_iconst dL_broken_150 ?_
  refine r_iald dL_broken_151 (by assumption) rfl (by omega) ?_
  rw [hW 1 (by omega) (by omega)]
  refine r_iadd dL_broken_152 ?_
  refine r_aload_n dL_broken_153 rfl ?_
  refine r_bipush dL_broken_154 (by decide) ?_
  refine r_iald dL_broken_156 (by assumption) rfl (by omega) ?_
  refine q_icmp_le (tgt := 164) dL_broken_157 rfl (by omega) (by omega) (fun c157 => ?_) (fun c157 => ?_)
  · refine r_iconst dL_broken_164 ?_
    refine r_istore dL_broken_165 rfl ?_
    refine rl4 hK (fun q q0 q1 => ?_) 2 0 (by omega) (by omega) (fun j j0 j1 => by omega)
    by_cases q3 : q = 3
    · subst q3
      refine at_no (by rw [plc3]; omega) (fun j j0 j1 => ?_)
      obtain rfl : j = 0 := by rw [plc3] at j1; omega
      rw [e3]
      simp only [decide_eq_false_iff_not]
      omega
    · exact hN q q0 (by omega)
  · refine r_sipush dL_broken_160 (by decide) ?_
    refine r_ireturn dL_broken_163 rfl rfl rfl ?_
    refine ⟨rI ?_, rfl, rfl⟩
    have hat : atF ρ 3 = 0 := at_is (by rw [plc3]; omega) (by rw [e3]; simp only [decide_eq_true_eq]; omega) (fun j j0 j1 => by omega)
    have hcd := code_is (ρ := ρ) (r := 3) (by omega) (by omega) hN hat
    omega
set_option maxRecDepth 100000 in
set_option maxHeartbeats 4000000 in
theorem rl2 (hK : BK sh M b d e a a2 po ρ) (hN : ∀ q, 1 ≤ q → q < 2 → atF ρ q < 0) : ∀ (n : Nat) (k : Int), 0 ≤ k → k + n = 4 → (∀ j, 0 ≤ j → j < k → brkF ρ 2 j = false) → AW gL_broken sh M 2 8 110 [some (vR b), some (vR d), some (vR e), some (vI po), some (vR a), some (vR a2), some (vI k), none, none] [] (fun r2 sh2 μ2 => r2 = some (vI (codeF ρ)) ∧ sh2 = sh ∧ μ2 = M) := by
  obtain ⟨⟨hb, hd, he, ha, ha2⟩, hL, hOn, hW⟩ := id hK
  obtain ⟨hp, ⟨e11, e12, e51, hrow⟩, hw, hz, ⟨⟨n0, n3⟩, hcb, hc10, hpo⟩⟩ := id hL
  obtain ⟨⟨p0, p1, p2, p3⟩, ⟨b1, b2, b3, b4, b5, b6, b7⟩, ⟨c1, c2, c3, c4⟩, ⟨d1, d2, d3, d4⟩, farm, ⟨g1, g2, g3, g4⟩, ⟨i1, i2⟩, hj⟩ := id hp
  have z99 := hz.le99
  have on3 := fun s => on_rng hL s
  have wn := fun s => wOnF_rng hw.1.1 hw.2.2.1 s
  intro n
  induction n with
  | zero =>
    intro k k0 k1 hf
    refine r_iload dL_broken_110 rfl ?_
    refine r_iconst dL_broken_112 ?_
    refine q_icmp_ge (tgt := 144) dL_broken_113 rfl (by omega) (by omega) (fun c113 => ?_) (fun c113 => ?_)
    · refine AW.lw (rl3 hK (fun q q0 q1 => ?_)) (by repeat first | exact trivial | refine And.intro rfl ?_)
      by_cases q2 : q = 2
      · subst q2
        exact at_no (by rw [plc2]; omega) (fun j j0 j1 => hf j j0 (by rw [plc2] at j1; omega))
      · exact hN q q0 (by omega)
    · exfalso; omega
  | succ n ih =>
    intro k k0 k1 hf
    have e2 := brk2 (ρ := ρ) k
    rw [(farm k k0 (by omega)).2] at e2
    have w1 := wn k
    have zk := z99 (12 + k) (by omega) (by omega)
    refine r_iload dL_broken_110 rfl ?_
    refine r_iconst dL_broken_112 ?_
    refine q_icmp_ge (tgt := 144) dL_broken_113 rfl (by omega) (by omega) (fun c113 => ?_) (fun c113 => ?_)
    · exfalso; omega
    · refine r_aload dL_broken_116 rfl ?_
      refine r_iload dL_broken_118 rfl ?_
      refine r_iald dL_broken_120 (by assumption) rfl (by omega) ?_
      rw [hW k k0 (by omega)]
      refine r_aload_n dL_broken_121 rfl ?_
      refine r_bipush dL_broken_122 (by decide) ?_
      refine r_iload dL_broken_124 rfl ?_
      refine r_iadd dL_broken_126 ?_
      refine r_iald dL_broken_127 (by assumption) rfl (by omega) ?_
      refine q_icmp_le (tgt := 138) dL_broken_128 rfl (by omega) (by omega) (fun c128 => ?_) (fun c128 => ?_)
      · refine r_iinc dL_broken_138 rfl rfl ?_
        refine r_goto (tgt := 110) dL_broken_141 rfl ?_
        refine ih (k + 1) (by omega) (by omega) (fun j j0 j1 => ?_)
        by_cases ej : j = k
        · subst ej
          rw [e2]
          simp only [decide_eq_false_iff_not]
          omega
        · exact hf j j0 (by omega)
      · refine r_sipush dL_broken_131 (by decide) ?_
        refine r_iload dL_broken_134 rfl ?_
        refine r_iadd dL_broken_136 ?_
        refine r_ireturn dL_broken_137 rfl rfl rfl ?_
        refine ⟨rI ?_, rfl, rfl⟩
        have hat : atF ρ 2 = k := at_is (by rw [plc2]; omega) (by rw [e2]; simp only [decide_eq_true_eq]; omega) hf
        have hcd := code_is (ρ := ρ) (r := 2) (by omega) (by omega) hN hat
        omega
set_option maxRecDepth 100000 in
set_option maxHeartbeats 4000000 in
theorem c_brokenA (hb : sh[b]? = some (20, 23)) (hd : sh[d]? = some (20, 12)) (he : sh[e]? = some (20, 3)) (hB : CB (μ.1 d) (μ.1 e) po) {k0 : Int} (hk0 : 0 ≤ k0 ∧ k0 < μ.1 d 11) (ho : μ.1 e k0 < 0) (hi : ∀ j, 0 ≤ j → j < k0 → 0 ≤ μ.1 e j) : AMet yL_broken gBrokA sh [vR b, vR d, vR e, vI po] μ (fun r2 sh2 μ2 => r2 = some (vI (100 + k0)) ∧ sh2 = sh ++ [(20, 4)] ∧ Kp (fun q => q < sh.length) μ μ2) := by
  have hb1 : (sh ++ [(20, 4)])[b]? = some (20, 23) := ap hb
  have hd1 : (sh ++ [(20, 4)])[d]? = some (20, 12) := ap hd
  have he1 : (sh ++ [(20, 4)])[e]? = some (20, 3) := ap he
  have ha1 : (sh ++ [(20, 4)])[sh.length]? = some (20, 4) := at_end
  have lb := (List.getElem?_eq_some_iff.mp hb).1
  have ld := (List.getElem?_eq_some_iff.mp hd).1
  have le := (List.getElem?_eq_some_iff.mp he).1
  obtain ⟨⟨n0, n3⟩, hcb, -⟩ := hB
  have loop : ∀ (n : Nat) (k : Int) (m : Mem), 0 ≤ k → k + n = k0 → Kp (fun q => q < sh.length) μ m → AW gBrokA (sh ++ [(20, 4)]) m 1 4 24 [some (vR b), some (vR d), some (vR e), some (vI po), some (vR sh.length), some (vI k), none, none, none] [] (fun r2 sh2 μ2 => r2 = some (vI (100 + k0)) ∧ sh2 = sh ++ [(20, 4)] ∧ Kp (fun q => q < sh.length) μ μ2) := by
    intro n
    induction n with
    | zero =>
      intro k m q0 q1 hK
      obtain rfl : k = k0 := by omega
      have eb : m.1 b = μ.1 b := (hK b lb).1
      have ed : m.1 d = μ.1 d := (hK d ld).1
      have ee : m.1 e = μ.1 e := (hK e le).1
      refine r_iload dL_broken_24 rfl ?_
      refine r_aload_n dL_broken_26 rfl ?_
      refine r_bipush dL_broken_27 (by decide) ?_
      refine r_iald dL_broken_29 (by assumption) rfl (by omega) ?_
      rw [ed]
      refine q_icmp_ge (tgt := 61) dL_broken_30 rfl (by omega) (by omega) (fun c30 => ?_) (fun c30 => ?_)
      · exfalso; omega
      · refine r_aload_n dL_broken_33 rfl ?_
        refine r_iload dL_broken_34 rfl ?_
        refine r_iald dL_broken_36 (by assumption) rfl (by omega) ?_
        rw [ee]
        refine q_if_ge (tgt := 46) dL_broken_37 rfl (by have := hcb k q0 (by omega); omega) (fun c37 => ?_) (fun c37 => ?_)
        · exfalso; omega
        · refine r_bipush dL_broken_40 (by decide) ?_
          refine r_iload dL_broken_42 rfl ?_
          refine r_iadd dL_broken_44 ?_
          refine r_ireturn dL_broken_45 rfl rfl rfl ?_
          exact ⟨rfl, rfl, hK⟩
    | succ n ih =>
      intro k m q0 q1 hK
      have hik := hi k q0 (by omega)
      have hck := hcb k q0 (by omega)
      have eb : m.1 b = μ.1 b := (hK b lb).1
      have ed : m.1 d = μ.1 d := (hK d ld).1
      have ee : m.1 e = μ.1 e := (hK e le).1
      refine r_iload dL_broken_24 rfl ?_
      refine r_aload_n dL_broken_26 rfl ?_
      refine r_bipush dL_broken_27 (by decide) ?_
      refine r_iald dL_broken_29 (by assumption) rfl (by omega) ?_
      rw [ed]
      refine q_icmp_ge (tgt := 61) dL_broken_30 rfl (by omega) (by omega) (fun c30 => ?_) (fun c30 => ?_)
      · exfalso; omega
      · refine r_aload_n dL_broken_33 rfl ?_
        refine r_iload dL_broken_34 rfl ?_
        refine r_iald dL_broken_36 (by assumption) rfl (by omega) ?_
        rw [ee]
        refine q_if_ge (tgt := 46) dL_broken_37 rfl (by omega) (fun c37 => ?_) (fun c37 => ?_)
        · refine r_aload dL_broken_46 rfl ?_
          refine r_aload_n dL_broken_48 rfl ?_
          refine r_iload dL_broken_49 rfl ?_
          refine r_iald dL_broken_51 (by assumption) rfl (by omega) ?_
          rw [ee]
          refine r_iload dL_broken_52 rfl ?_
          refine r_iast dL_broken_54 (by assumption) rfl (by omega) ?_
          refine r_iinc dL_broken_55 rfl rfl ?_
          refine r_goto (tgt := 24) dL_broken_58 rfl ?_
          exact ih (k + 1) _ (by omega) (by omega) (hK.sI (fun q => Nat.lt_irrefl _ q))
        · exfalso; omega
  refine AMet.of (by decide) rfl (by decide) rfl ?_
  refine r_iconst dL_broken_0 ?_
  refine r_newaI dL_broken_1 ac_I rfl rfl rfl rfl ?_
  refine r_dup dL_broken_3 rfl ?_
  refine r_iconst dL_broken_4 ?_
  refine r_iconst dL_broken_5 ?_
  refine r_iast dL_broken_6 (by assumption) rfl (by omega) ?_
  refine r_dup dL_broken_7 rfl ?_
  refine r_iconst dL_broken_8 ?_
  refine r_iconst dL_broken_9 ?_
  refine r_iast dL_broken_10 (by assumption) rfl (by omega) ?_
  refine r_dup dL_broken_11 rfl ?_
  refine r_iconst dL_broken_12 ?_
  refine r_iconst dL_broken_13 ?_
  refine r_iast dL_broken_14 (by assumption) rfl (by omega) ?_
  refine r_dup dL_broken_15 rfl ?_
  refine r_iconst dL_broken_16 ?_
  refine r_iconst dL_broken_17 ?_
  refine r_iast dL_broken_18 (by assumption) rfl (by omega) ?_
  refine r_astore dL_broken_19 rfl ?_
  refine r_iconst dL_broken_21 ?_
  refine r_istore dL_broken_22 rfl ?_
  exact loop k0.toNat 0 _ (by omega) (by omega) ((((((Kp.rf (fun q => q < sh.length) μ).bn (fun q => Nat.lt_irrefl _ q)).sI (fun q => Nat.lt_irrefl _ q)).sI (fun q => Nat.lt_irrefl _ q)).sI (fun q => Nat.lt_irrefl _ q)).sI (fun q => Nat.lt_irrefl _ q))
set_option maxRecDepth 100000 in
set_option maxHeartbeats 4000000 in
theorem c_brokenB (hb : sh[b]? = some (20, 23)) (hd : sh[d]? = some (20, 12)) (he : sh[e]? = some (20, 3)) (hL : LR (μ.1 b) (μ.1 d) (μ.1 e) po ρ) (hi : ∀ j, 0 ≤ j → j < μ.1 d 11 → 0 ≤ μ.1 e j) : AMet yL_broken gL_broken sh [vR b, vR d, vR e, vI po] μ (fun r2 sh2 μ2 => r2 = some (vI (codeF ρ)) ∧ sh2 = sh ++ [(20, 4)] ++ [(20, 4)] ∧ Kp (fun q => q < sh.length) μ μ2) := by
  have hb1 : (sh ++ [(20, 4)])[b]? = some (20, 23) := ap hb
  have hd1 : (sh ++ [(20, 4)])[d]? = some (20, 12) := ap hd
  have he1 : (sh ++ [(20, 4)])[e]? = some (20, 3) := ap he
  have ha1 : (sh ++ [(20, 4)])[sh.length]? = some (20, 4) := at_end
  have lb := (List.getElem?_eq_some_iff.mp hb).1
  have ld := (List.getElem?_eq_some_iff.mp hd).1
  have le := (List.getElem?_eq_some_iff.mp he).1
  obtain ⟨hp, ⟨e11, e12, e51, hrow⟩, hw, hz, ⟨⟨n0, n3⟩, hcb, hc10, hpo⟩⟩ := id hL
  have on3 := fun s => on_rng hL s
  have hlen : (sh ++ [(20, 4)]).length = sh.length + 1 := by simp
  have hb2 : (sh ++ [(20, 4)] ++ [(20, 4)])[b]? = some (20, 23) := ap hb1
  have hd2 : (sh ++ [(20, 4)] ++ [(20, 4)])[d]? = some (20, 12) := ap hd1
  have he2 : (sh ++ [(20, 4)] ++ [(20, 4)])[e]? = some (20, 3) := ap he1
  have ha2 : (sh ++ [(20, 4)] ++ [(20, 4)])[sh.length]? = some (20, 4) := ap ha1
  have ha3 : (sh ++ [(20, 4)] ++ [(20, 4)])[(sh ++ [(20, 4)]).length]? = some (20, 4) := at_end
  have hN : ∀ q, 1 ≤ q → q < 2 → atF ρ q < 0 := fun q q0 q1 => by
    obtain rfl : q = 1 := by omega
    refine at_no (by rw [plc1]; omega) (fun j j0 j1 => ?_)
    rw [plc1] at j1
    have := hi j j0 (by omega)
    have := (hrow j j0 (by omega)).2.2
    rw [brk1]
    simp only [decide_eq_false_iff_not]
    omega
  have wloop : ∀ (n : Nat) (k : Int) (m : Mem), 0 ≤ k → k + n = 4 → Kp (fun q => q < sh.length) μ m → (∀ s, 0 ≤ s → s < 4 → m.1 sh.length s = onF ρ s) → (∀ s, 0 ≤ s → s < k → m.1 (sh ++ [(20, 4)]).length s = wOnF ρ s) → AW gL_broken (sh ++ [(20, 4)] ++ [(20, 4)]) m 2 8 69 [some (vR b), some (vR d), some (vR e), some (vI po), some (vR sh.length), some (vR (sh ++ [(20, 4)]).length), some (vI k), none, none] [] (fun r2 sh2 μ2 => r2 = some (vI (codeF ρ)) ∧ sh2 = sh ++ [(20, 4)] ++ [(20, 4)] ∧ Kp (fun q => q < sh.length) μ μ2) := by
    intro n
    induction n with
    | zero =>
      intro k m k0 k1 hK hO hW
      obtain rfl : k = 4 := by omega
      have eb : m.1 b = μ.1 b := (hK b lb).1
      have ed : m.1 d = μ.1 d := (hK d ld).1
      have ee : m.1 e = μ.1 e := (hK e le).1
      have hBK : BK (sh ++ [(20, 4)] ++ [(20, 4)]) m b d e sh.length (sh ++ [(20, 4)]).length po ρ := ⟨⟨hb2, hd2, he2, ha2, ha3⟩, by rw [eb, ed, ee]; exact hL, hO, hW⟩
      refine r_iload dL_broken_69 rfl ?_
      refine r_iconst dL_broken_71 ?_
      refine q_icmp_ge (tgt := 107) dL_broken_72 rfl (by omega) (by omega) (fun c72 => ?_) (fun c72 => ?_)
      · refine r_iconst dL_broken_107 ?_
        refine r_istore dL_broken_108 rfl ?_
        refine AW.mono (rl2 hBK hN 4 0 (by omega) (by omega) (fun j j0 j1 => by omega)) ?_
        rintro r2 sh2 μ2 ⟨q1, q2, rfl⟩
        exact ⟨q1, q2, hK⟩
      · exfalso; omega
    | succ n ih =>
      intro k m k0 k1 hK hO hW
      have eb : m.1 b = μ.1 b := (hK b lb).1
      have ed : m.1 d = μ.1 d := (hK d ld).1
      have ee : m.1 e = μ.1 e := (hK e le).1
      have ok := on3 k
      have ek := wOn_is hL k
      have oc := fun (h : 0 ≤ onF ρ k) => (on_at hL h).1
      refine r_iload dL_broken_69 rfl ?_
      refine r_iconst dL_broken_71 ?_
      refine q_icmp_ge (tgt := 107) dL_broken_72 rfl (by omega) (by omega) (fun c72 => ?_) (fun c72 => ?_)
      · exfalso; omega
      · refine r_aload dL_broken_75 rfl ?_
        refine r_iload dL_broken_77 rfl ?_
        refine r_aload dL_broken_79 rfl ?_
        refine r_iload dL_broken_81 rfl ?_
        refine r_iald dL_broken_83 (by assumption) rfl (by omega) ?_
        rw [hO k k0 (by omega)]
        refine q_if_ge (tgt := 91) dL_broken_84 rfl (by omega) (fun c84 => ?_) (fun c84 => ?_)
        · refine r_aload_n dL_broken_91 rfl ?_
          refine r_iconst dL_broken_92 ?_
          refine r_aload dL_broken_93 rfl ?_
          refine r_iload dL_broken_95 rfl ?_
          refine r_iald dL_broken_97 (by assumption) rfl (by omega) ?_
          rw [hO k k0 (by omega)]
          refine r_imul dL_broken_98 ?_
          refine r_iald dL_broken_99 (by assumption) rfl (by omega) ?_
          rw [ed]
          refine r_iast dL_broken_100 (by assumption) rfl (by omega) ?_
          refine r_iinc dL_broken_101 rfl rfl ?_
          refine r_goto (tgt := 69) dL_broken_104 rfl ?_
          refine ih (k + 1) _ (by omega) (by omega) (hK.sI (fun q => by omega)) (fun s s0 s1 => ?_) (fun s s0 s1 => ?_)
          · rw [setI_ne (by omega)]
            exact hO s s0 s1
          · rw [sI1]
            by_cases es : s = k
            · subst es
              rw [if_pos rfl, ek]
              first
                | rw [if_pos (by omega)]
                | rw [if_neg (by omega)]
            · rw [if_neg es]
              exact hW s s0 (by omega)
        · refine r_iconst dL_broken_87 ?_
          refine r_goto (tgt := 100) dL_broken_88 rfl ?_
          refine r_iast dL_broken_100 (by assumption) rfl (by omega) ?_
          refine r_iinc dL_broken_101 rfl rfl ?_
          refine r_goto (tgt := 69) dL_broken_104 rfl ?_
          refine ih (k + 1) _ (by omega) (by omega) (hK.sI (fun q => by omega)) (fun s s0 s1 => ?_) (fun s s0 s1 => ?_)
          · rw [setI_ne (by omega)]
            exact hO s s0 s1
          · rw [sI1]
            by_cases es : s = k
            · subst es
              rw [if_pos rfl, ek]
              first
                | rw [if_pos (by omega)]
                | rw [if_neg (by omega)]
            · rw [if_neg es]
              exact hW s s0 (by omega)
  have loop : ∀ (n : Nat) (k : Int) (m : Mem), 0 ≤ k → k + n = μ.1 d 11 → Kp (fun q => q < sh.length) μ m → (∀ s, 0 ≤ s → s < 4 → (m.1 sh.length s = -1 ∧ ∀ j, 0 ≤ j → j < k → μ.1 e j ≠ s) ∨ ((0 ≤ m.1 sh.length s ∧ m.1 sh.length s < k) ∧ μ.1 e (m.1 sh.length s) = s)) → AW gL_broken (sh ++ [(20, 4)]) m 1 4 24 [some (vR b), some (vR d), some (vR e), some (vI po), some (vR sh.length), some (vI k), none, none, none] [] (fun r2 sh2 μ2 => r2 = some (vI (codeF ρ)) ∧ sh2 = sh ++ [(20, 4)] ++ [(20, 4)] ∧ Kp (fun q => q < sh.length) μ μ2) := by
    intro n
    induction n with
    | zero =>
      intro k m q0 q1 hK hO
      have eb : m.1 b = μ.1 b := (hK b lb).1
      have ed : m.1 d = μ.1 d := (hK d ld).1
      have ee : m.1 e = μ.1 e := (hK e le).1
      refine r_iload dL_broken_24 rfl ?_
      refine r_aload_n dL_broken_26 rfl ?_
      refine r_bipush dL_broken_27 (by decide) ?_
      refine r_iald dL_broken_29 (by assumption) rfl (by omega) ?_
      rw [ed]
      refine q_icmp_ge (tgt := 61) dL_broken_30 rfl (by omega) (by omega) (fun c30 => ?_) (fun c30 => ?_)
      · refine r_iconst dL_broken_61 ?_
        refine r_newaI dL_broken_62 ac_I rfl rfl rfl rfl ?_
        refine r_astore dL_broken_64 rfl ?_
        refine r_iconst dL_broken_66 ?_
        refine r_istore dL_broken_67 rfl ?_
        refine wloop 4 0 _ (by omega) (by omega) (hK.bn (fun q => by omega)) (fun s s0 s1 => ?_) (fun s s0 s1 => by omega)
        rw [bornI (by omega)]
        refine on_is hL s0 ?_
        rcases hO s s0 s1 with h | h
        · exact Or.inl ⟨h.1, fun j j0 j1 => h.2 j j0 (by omega)⟩
        · exact Or.inr ⟨by omega, h.2⟩
      · exfalso; omega
    | succ n ih =>
      intro k m q0 q1 hK hO
      have hik := hi k q0 (by omega)
      have hck := hcb k q0 (by omega)
      have eb : m.1 b = μ.1 b := (hK b lb).1
      have ed : m.1 d = μ.1 d := (hK d ld).1
      have ee : m.1 e = μ.1 e := (hK e le).1
      refine r_iload dL_broken_24 rfl ?_
      refine r_aload_n dL_broken_26 rfl ?_
      refine r_bipush dL_broken_27 (by decide) ?_
      refine r_iald dL_broken_29 (by assumption) rfl (by omega) ?_
      rw [ed]
      refine q_icmp_ge (tgt := 61) dL_broken_30 rfl (by omega) (by omega) (fun c30 => ?_) (fun c30 => ?_)
      · exfalso; omega
      · refine r_aload_n dL_broken_33 rfl ?_
        refine r_iload dL_broken_34 rfl ?_
        refine r_iald dL_broken_36 (by assumption) rfl (by omega) ?_
        rw [ee]
        refine q_if_ge (tgt := 46) dL_broken_37 rfl (by omega) (fun c37 => ?_) (fun c37 => ?_)
        · refine r_aload dL_broken_46 rfl ?_
          refine r_aload_n dL_broken_48 rfl ?_
          refine r_iload dL_broken_49 rfl ?_
          refine r_iald dL_broken_51 (by assumption) rfl (by omega) ?_
          rw [ee]
          refine r_iload dL_broken_52 rfl ?_
          refine r_iast dL_broken_54 (by assumption) rfl (by omega) ?_
          refine r_iinc dL_broken_55 rfl rfl ?_
          refine r_goto (tgt := 24) dL_broken_58 rfl ?_
          refine ih (k + 1) _ (by omega) (by omega) (hK.sI (fun q => Nat.lt_irrefl _ q)) (fun s s0 s1 => ?_)
          rw [sI1]
          by_cases es : s = μ.1 e k
          · rw [if_pos es]
            exact Or.inr ⟨by omega, es.symm⟩
          · rw [if_neg es]
            rcases hO s s0 s1 with h | h
            · refine Or.inl ⟨h.1, fun j j0 j1 => ?_⟩
              by_cases ej : j = k
              · subst ej
                exact fun w => es w.symm
              · exact h.2 j j0 (by omega)
            · exact Or.inr ⟨by omega, h.2⟩
        · exfalso; omega
  refine AMet.of (by decide) rfl (by decide) rfl ?_
  refine r_iconst dL_broken_0 ?_
  refine r_newaI dL_broken_1 ac_I rfl rfl rfl rfl ?_
  refine r_dup dL_broken_3 rfl ?_
  refine r_iconst dL_broken_4 ?_
  refine r_iconst dL_broken_5 ?_
  refine r_iast dL_broken_6 (by assumption) rfl (by omega) ?_
  refine r_dup dL_broken_7 rfl ?_
  refine r_iconst dL_broken_8 ?_
  refine r_iconst dL_broken_9 ?_
  refine r_iast dL_broken_10 (by assumption) rfl (by omega) ?_
  refine r_dup dL_broken_11 rfl ?_
  refine r_iconst dL_broken_12 ?_
  refine r_iconst dL_broken_13 ?_
  refine r_iast dL_broken_14 (by assumption) rfl (by omega) ?_
  refine r_dup dL_broken_15 rfl ?_
  refine r_iconst dL_broken_16 ?_
  refine r_iconst dL_broken_17 ?_
  refine r_iast dL_broken_18 (by assumption) rfl (by omega) ?_
  refine r_astore dL_broken_19 rfl ?_
  refine r_iconst dL_broken_21 ?_
  refine r_istore dL_broken_22 rfl ?_
  refine loop (μ.1 d 11).toNat 0 _ (by omega) (by omega) ((((((Kp.rf (fun q => q < sh.length) μ).bn (fun q => Nat.lt_irrefl _ q)).sI (fun q => Nat.lt_irrefl _ q)).sI (fun q => Nat.lt_irrefl _ q)).sI (fun q => Nat.lt_irrefl _ q)).sI (fun q => Nat.lt_irrefl _ q)) (fun s s0 s1 => Or.inl ⟨?_, fun j j0 j1 => by omega⟩)
  simp only [sI1]
  rcases (show s = 0 ∨ s = 1 ∨ s = 2 ∨ s = 3 by omega) with rfl | rfl | rfl | rfl <;> simp
end BROKEN

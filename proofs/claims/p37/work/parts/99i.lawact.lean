/-! 99i.lawact: the law's acts, its loop (wip/p37/src/99i.py) -/
section ACTS
variable {z c at_ : Int → Int} {po : Int} {ρ : Row} {n : Int} {G : Gh} {acts : Int}
theorem UI.step (h : UI n G acts) (ha : acts ≤ 11) (ρ' : Row) : UI n (setRow (keepG G) ρ') (acts + 1) := by
  obtain ⟨⟨a0, a1⟩, h1, h2⟩ := h
  have e : (gUnd (setRow (keepG G) ρ')).length = min 8 ((gUnd G).length + 1) := by
    show ((gRow G :: gUnd G).take 8).length = _
    rw [List.length_take, List.length_cons]
  refine ⟨by omega, by omega, fun h => ?_⟩
  obtain ⟨u, hu, hi⟩ := h2 (by omega)
  refine ⟨u, ?_, hi⟩
  have e3 : (gUnd (setRow (keepG G) ρ')).length = (gUnd G).length + 1 := by omega
  rw [e3]
  show (ρ' :: (gRow G :: gUnd G).take 8)[(gUnd G).length + 1]? = some u
  rw [List.getElem?_cons_succ, List.getElem?_take, if_pos (by omega)]
  exact hu
theorem LR.put (h : LR z c at_ po ρ) {k s : Int} (hk : 0 ≤ k ∧ k < c 11) (hs : -1 ≤ s ∧ s ≤ 3) (hw : WF (rset ρ (93 + k) s)) {a2 : Int → Int} (ea : ∀ j, a2 j = if j = k then s else at_ j) : LR z c a2 po (rset ρ (93 + k) s) := by
  obtain ⟨hp, ⟨e11, e12, e51, hc⟩, -, hz, ⟨⟨n0, n3⟩, hb, h10, hpo⟩⟩ := h
  refine ⟨hp.mono ((PlEq.rf ρ).set (by omega)), ⟨by rw [rset_ne (by omega)]; exact e11, by rw [rset_ne (by omega)]; exact e12, by rw [rset_ne (by omega)]; exact e51, fun j j0 j1 => ?_⟩, hw, hz, ⟨⟨n0, n3⟩, fun j j0 j1 => ?_, h10, hpo⟩⟩
  · have q := hc j j0 j1
    rw [rset_ne (by omega), rset_ne (by omega), ea]
    refine ⟨q.1, q.2.1, ?_⟩
    by_cases e : j = k
    · subst e
      rw [rset_eq, if_pos rfl]
    · rw [rset_ne (by omega), if_neg e]
      exact q.2.2
  · have q := hb j j0 j1
    refine ⟨q.1, q.2.1, ?_⟩
    rw [ea]
    split
    · exact hs
    · exact q.2.2
theorem LR.pour (h : LR z c at_ po ρ) {v : Int} (hv : 0 ≤ v ∧ v ≤ 7) (hw : WF (rset ρ (51 + 0) v)) : LR z c at_ v (rset ρ (51 + 0) v) := by
  obtain ⟨hp, ⟨e11, e12, e51, hc⟩, -, hz, ⟨⟨n0, n3⟩, hb, h10, hpo⟩⟩ := h
  refine ⟨hp.mono ((PlEq.rf ρ).set (by omega)), ⟨by rw [rset_ne (by omega)]; exact e11, by rw [rset_ne (by omega)]; exact e12, rset_eq, fun j j0 j1 => ?_⟩, hw, hz, ⟨⟨n0, n3⟩, hb, h10, hv⟩⟩
  rw [rset_ne (by omega), rset_ne (by omega), rset_ne (by omega)]
  exact hc j j0 j1
theorem LR.weigh (h : LR z c at_ po ρ) {k v : Int} (hk : 0 ≤ k ∧ k < c 11) (hv : 1 ≤ v ∧ v ≤ 32) (hw : WF (rset ρ (83 + k) v)) {c2 : Int → Int} (ec : ∀ j, c2 j = if j = 2 * k then v else c j) : LR z c2 at_ po (rset ρ (83 + k) v) := by
  obtain ⟨hp, ⟨e11, e12, e51, hc⟩, -, hz, ⟨⟨n0, n3⟩, hb, h10, hpo⟩⟩ := h
  have q11 : c2 11 = c 11 := by rw [ec, if_neg (by omega)]
  have q10 : c2 10 = c 10 := by rw [ec, if_neg (by omega)]
  refine ⟨hp.mono ((PlEq.rf ρ).set (by omega)), ⟨by rw [rset_ne (by omega), q11]; exact e11, by rw [rset_ne (by omega), q10]; exact e12, by rw [rset_ne (by omega)]; exact e51, fun j j0 j1 => ?_⟩, hw, hz, ⟨by rw [q11]; exact ⟨n0, n3⟩, fun j j0 j1 => ?_, by rw [q10]; exact h10, hpo⟩⟩
  · rw [q11] at j1
    have q := hc j j0 j1
    rw [rset_ne (show 88 + j ≠ 83 + k by omega), rset_ne (show 93 + j ≠ 83 + k by omega), ec, ec, if_neg (show ¬ 2 * j + 1 = 2 * k by omega)]
    refine ⟨?_, q.2.1, q.2.2⟩
    by_cases e : j = k
    · subst e
      rw [rset_eq, if_pos rfl]
    · rw [rset_ne (by omega), if_neg (by omega)]
      exact q.1
  · rw [q11] at j1
    have q := hb j j0 j1
    rw [ec, ec, if_neg (show ¬ 2 * j + 1 = 2 * k by omega)]
    refine ⟨?_, q.2⟩
    split
    · exact hv
    · exact q.1
end ACTS
section LAWACT
variable {tl : Sh} {μ : Mem} {G : Gh} {cs ss : Nat} {po acts i : Int}
theorem SB.kept {μ2 : Mem} {G' : Gh} (h : SB tl μ G po) (hX : InE (TL tl) μ2 G') (hk : Kp (fun a => 188 ≤ a) μ μ2) (hr : gRow G' = gRow G) : SB tl μ2 G' po := by
  refine ⟨hX, ?_⟩
  rw [(hk 189 (by (try dsimp only); omega)).1, (hk 190 (by (try dsimp only); omega)).1, (hk 191 (by (try dsimp only); omega)).1, hr]
  exact h.2
theorem InE.wf {n_ : Sh} (h : InE n_ μ G) : WF (gRow G) := by
  obtain ⟨p, pd, c, cd, h⟩ := h
  exact h.2.2.1.2.2.1
theorem InE.sI {n_ : Sh} {a : Nat} {j x : Int} (h : InE n_ μ G) (ha : 188 ≤ a) : InE n_ (setI μ a j x) G := by
  obtain ⟨p, pd, c, cd, h⟩ := h
  exact ⟨p, pd, c, cd, h.mono ((Kp.rf _ _).sI (by (try dsimp only); omega)) rfl⟩
set_option maxRecDepth 100000 in
set_option maxHeartbeats 4000000 in
theorem la_put (hC : Nat.ble cs (gM gL_law) = true) (hS : Nat.ble ss (gS gL_law) = true) (hSB : SB tl μ G po) (hU : UI (μ.1 190 11) G acts) (ha : acts ≤ 11) {x k s : Int} (hx : -2147483648 ≤ x ∧ x < 2147483648) (hk : 0 ≤ k ∧ k < 4) (hs : 0 ≤ s ∧ s < 4) (K : ∀ (μ2 : Mem) (G2 : Gh) (po2 due : Int), SB tl μ2 G2 po2 → UI (μ2.1 190 11) G2 (if due = 0 then acts + 1 else acts) → -1 ≤ due ∧ due ≤ 3 → AL gL_law (SH (TL tl)) μ2 cs ss 415 [some (vX 62), some (vR 0), some (vR 188), some (vR 189), some (vR 190), some (vR 191), some (vI po2), some (vI acts), some (vI i), none, none, none, none, some (vI due), none, none, none, none, none, none] [] PL) : AL gL_law (SH (TL tl)) μ cs ss 168 [some (vX 62), some (vR 0), some (vR 188), some (vR 189), some (vR 190), some (vR 191), some (vI po), some (vI acts), some (vI i), some (vI x), some (vI k), some (vI s), some (vI (if k < μ.1 190 11 then 1 else 0)), some (vI (-1)), some (vI (onF (gRow G) s)), none, none, none, none, none] [] PL := by
  have x0 : (SH (TL tl))[0]? = some (10, 11) := rfl
  have a188 : (SH (TL tl))[188]? = some (20, 160) := rfl
  have a189 : (SH (TL tl))[189]? = some (20, 23) := rfl
  have a190 : (SH (TL tl))[190]? = some (20, 12) := rfl
  have a191 : (SH (TL tl))[191]? = some (20, 3) := rfl
  obtain ⟨⟨p, pd, c, cd, hX⟩, hL⟩ := id hSB
  obtain ⟨hp, ⟨e11, e12, e51, hrow⟩, hw, hz, ⟨⟨n0, n3⟩, hcb, hc10, hpo⟩⟩ := id hL
  obtain ⟨-, ⟨b1, b2, b3, b4, b5, b6, b7⟩, -, -, -, ⟨g1, g2, g3, g4⟩, -⟩ := id hp
  have q3 := fun y => mask y (m := 3) (by omega)
  have q1 := fun y => mask y (m := 1) (by omega)
  have q7 := fun y => mask y (m := 7) (by omega)
  have q31 := fun y => mask y (m := 31) (by omega)
  have w3 := q3 x
  have w1 := q1 (ishr x 6)
  have on3 := on_rng hL s
  have hput := x_put hX (k := k) (s := s) (by omega) (by omega)
  by_cases hkn : k < μ.1 190 11
  · rw [if_pos hkn]
    have hpal : palG G k := ⟨hk.1, by show k < gRow G 11; omega⟩
    by_cases hon : onF (gRow G) s < 0
    · have e : putF G k s = (0, setRow (keepG G) (rset (gRow G) (93 + k) s)) := by
        unfold putF
        rw [if_neg (fun h => h ⟨hpal, hs.1, by show s < gRow G 5; omega⟩), if_neg (show ¬ 0 ≤ onF (gRow G) s by omega)]
      rw [e] at hput
      refine l_iload dL_law_168 rfl ?_
      refine lq_if_eq (tgt := 196) dL_law_170 rfl (by omega) (fun c170 => ?_) (fun c170 => ?_)
      · exfalso; omega
      · refine l_iload dL_law_173 rfl ?_
        refine lq_if_ge (tgt := 182) dL_law_175 rfl (by omega) (fun c175 => ?_) (fun c175 => ?_)
        · exfalso; omega
        · refine l_iconst dL_law_178 ?_
          refine l_goto (tgt := 194) dL_law_179 rfl ?_
          refine l_istore dL_law_194 rfl ?_
          refine l_aload_n dL_law_196 rfl ?_
          refine l_iload dL_law_197 rfl ?_
          refine l_iload dL_law_199 rfl ?_
          refine l_cV2I dL_law_201 ml_L_108 yl_X11_put ⟨rfl, rfl⟩ (by assumption) ⟨_, rfl⟩ rfl rfl hC hS (hput) ?_
          rintro v m2 ⟨hv, hXS⟩
          dsimp only at hv
          refine l_iload dL_law_204 rfl ?_
          refine lq_icmp_eq (tgt := 211) dL_law_206 rfl (by omega) (by omega) (fun c206 => ?_) (fun c206 => ?_)
          · refine l_iload dL_law_211 rfl ?_
            refine lq_if_ne (tgt := 415) dL_law_213 rfl (by omega) (fun c213 => ?_) (fun c213 => ?_)
            · exfalso; omega
            · refine l_aload dL_law_216 rfl ?_
              refine l_iload dL_law_218 rfl ?_
              refine l_iload dL_law_220 rfl ?_
              refine l_iast dL_law_222 (by assumption) rfl (by omega) ?_
              refine l_goto (tgt := 415) dL_law_223 rfl ?_
              have hw2 : WF (rset (gRow G) (93 + k) s) := hXS.1.2.2.1.2.2.1
              have e189 : m2.1 189 = μ.1 189 := (hXS.2.1 189 (by (try dsimp only); omega)).1
              have e190 : m2.1 190 = μ.1 190 := (hXS.2.1 190 (by (try dsimp only); omega)).1
              have e191 : m2.1 191 = μ.1 191 := (hXS.2.1 191 (by (try dsimp only); omega)).1
              refine AL.lw (K (setI m2 191 k s) _ po 0 ⟨InE.sI ⟨p, pd, c, cd, hXS.1⟩ (by omega), ?_⟩ ?_ (by omega)) (by repeat first | exact trivial | refine And.intro rfl ?_)
              · rw [setI_ne (by omega), setI_ne (by omega), e189, e190]
                exact hL.put ⟨hk.1, hkn⟩ (by omega) hw2 (fun j => by rw [sI1, e191])
              · rw [setI_ne (by omega), e190, if_pos rfl]
                exact hU.step ha _
          · exfalso; omega
    · by_cases hok : onF (gRow G) s = k
      · have e : putF G k s = (2, G) := by
          unfold putF
          rw [if_neg (fun h => h ⟨hpal, hs.1, by show s < gRow G 5; omega⟩), if_pos (show 0 ≤ onF (gRow G) s by omega), if_pos hok]
        rw [e] at hput
        refine l_iload dL_law_168 rfl ?_
        refine lq_if_eq (tgt := 196) dL_law_170 rfl (by omega) (fun c170 => ?_) (fun c170 => ?_)
        · exfalso; omega
        · refine l_iload dL_law_173 rfl ?_
          refine lq_if_ge (tgt := 182) dL_law_175 rfl (by omega) (fun c175 => ?_) (fun c175 => ?_)
          · refine l_iload dL_law_182 rfl ?_
            refine l_iload dL_law_184 rfl ?_
            refine lq_icmp_ne (tgt := 193) dL_law_186 rfl (by omega) (by omega) (fun c186 => ?_) (fun c186 => ?_)
            · exfalso; omega
            · refine l_iconst dL_law_189 ?_
              refine l_goto (tgt := 194) dL_law_190 rfl ?_
              refine l_istore dL_law_194 rfl ?_
              refine l_aload_n dL_law_196 rfl ?_
              refine l_iload dL_law_197 rfl ?_
              refine l_iload dL_law_199 rfl ?_
              refine l_cV2I dL_law_201 ml_L_108 yl_X11_put ⟨rfl, rfl⟩ (by assumption) ⟨_, rfl⟩ rfl rfl hC hS (hput) ?_
              rintro v m2 ⟨hv, hXS⟩
              dsimp only at hv
              refine l_iload dL_law_204 rfl ?_
              refine lq_icmp_eq (tgt := 211) dL_law_206 rfl (by omega) (by omega) (fun c206 => ?_) (fun c206 => ?_)
              · refine l_iload dL_law_211 rfl ?_
                refine lq_if_ne (tgt := 415) dL_law_213 rfl (by omega) (fun c213 => ?_) (fun c213 => ?_)
                · have hU2 : UI (m2.1 190 11) G (if (2 : Int) = 0 then acts + 1 else acts) := by
                    rw [(hXS.2.1 190 (by (try dsimp only); omega)).1, if_neg (by decide)]
                    exact hU
                  exact AL.lw (K m2 G po 2 (hSB.kept ⟨p, pd, c, cd, hXS.1⟩ hXS.2.1 rfl) hU2 (by omega)) (by repeat first | exact trivial | refine And.intro rfl ?_)
                · exfalso; omega
              · exfalso; omega
          · exfalso; omega
      · have e : putF G k s = (1, G) := by
          unfold putF
          rw [if_neg (fun h => h ⟨hpal, hs.1, by show s < gRow G 5; omega⟩), if_pos (show 0 ≤ onF (gRow G) s by omega), if_neg hok]
        rw [e] at hput
        refine l_iload dL_law_168 rfl ?_
        refine lq_if_eq (tgt := 196) dL_law_170 rfl (by omega) (fun c170 => ?_) (fun c170 => ?_)
        · exfalso; omega
        · refine l_iload dL_law_173 rfl ?_
          refine lq_if_ge (tgt := 182) dL_law_175 rfl (by omega) (fun c175 => ?_) (fun c175 => ?_)
          · refine l_iload dL_law_182 rfl ?_
            refine l_iload dL_law_184 rfl ?_
            refine lq_icmp_ne (tgt := 193) dL_law_186 rfl (by omega) (by omega) (fun c186 => ?_) (fun c186 => ?_)
            · refine l_iconst dL_law_193 ?_
              refine l_istore dL_law_194 rfl ?_
              refine l_aload_n dL_law_196 rfl ?_
              refine l_iload dL_law_197 rfl ?_
              refine l_iload dL_law_199 rfl ?_
              refine l_cV2I dL_law_201 ml_L_108 yl_X11_put ⟨rfl, rfl⟩ (by assumption) ⟨_, rfl⟩ rfl rfl hC hS (hput) ?_
              rintro v m2 ⟨hv, hXS⟩
              dsimp only at hv
              refine l_iload dL_law_204 rfl ?_
              refine lq_icmp_eq (tgt := 211) dL_law_206 rfl (by omega) (by omega) (fun c206 => ?_) (fun c206 => ?_)
              · refine l_iload dL_law_211 rfl ?_
                refine lq_if_ne (tgt := 415) dL_law_213 rfl (by omega) (fun c213 => ?_) (fun c213 => ?_)
                · have hU2 : UI (m2.1 190 11) G (if (1 : Int) = 0 then acts + 1 else acts) := by
                    rw [(hXS.2.1 190 (by (try dsimp only); omega)).1, if_neg (by decide)]
                    exact hU
                  exact AL.lw (K m2 G po 1 (hSB.kept ⟨p, pd, c, cd, hXS.1⟩ hXS.2.1 rfl) hU2 (by omega)) (by repeat first | exact trivial | refine And.intro rfl ?_)
                · exfalso; omega
              · exfalso; omega
            · exfalso; omega
          · exfalso; omega
  · rw [if_neg hkn]
    have e : putF G k s = (-1, G) := by
      unfold putF
      rw [if_pos (fun h => hkn (by have := h.1.2; have : k < gRow G 11 := this; omega))]
    rw [e] at hput
    refine l_iload dL_law_168 rfl ?_
    refine lq_if_eq (tgt := 196) dL_law_170 rfl (by omega) (fun c170 => ?_) (fun c170 => ?_)
    · refine l_aload_n dL_law_196 rfl ?_
      refine l_iload dL_law_197 rfl ?_
      refine l_iload dL_law_199 rfl ?_
      refine l_cV2I dL_law_201 ml_L_108 yl_X11_put ⟨rfl, rfl⟩ (by assumption) ⟨_, rfl⟩ rfl rfl hC hS (hput) ?_
      rintro v m2 ⟨hv, hXS⟩
      dsimp only at hv
      refine l_iload dL_law_204 rfl ?_
      refine lq_icmp_eq (tgt := 211) dL_law_206 rfl (by omega) (by omega) (fun c206 => ?_) (fun c206 => ?_)
      · refine l_iload dL_law_211 rfl ?_
        refine lq_if_ne (tgt := 415) dL_law_213 rfl (by omega) (fun c213 => ?_) (fun c213 => ?_)
        · have hU2 : UI (m2.1 190 11) G (if ((-1) : Int) = 0 then acts + 1 else acts) := by
            rw [(hXS.2.1 190 (by (try dsimp only); omega)).1, if_neg (by decide)]
            exact hU
          exact AL.lw (K m2 G po (-1) (hSB.kept ⟨p, pd, c, cd, hXS.1⟩ hXS.2.1 rfl) hU2 (by omega)) (by repeat first | exact trivial | refine And.intro rfl ?_)
        · exfalso; omega
      · exfalso; omega
    · exfalso; omega
set_option maxRecDepth 100000 in
set_option maxHeartbeats 4000000 in
theorem la_off (hC : Nat.ble cs (gM gL_law) = true) (hS : Nat.ble ss (gS gL_law) = true) (hSB : SB tl μ G po) (hU : UI (μ.1 190 11) G acts) (ha : acts ≤ 11) {x k s : Int} (hx : -2147483648 ≤ x ∧ x < 2147483648) (hk : 0 ≤ k ∧ k < 4) (hs : 0 ≤ s ∧ s < 4) (K : ∀ (μ2 : Mem) (G2 : Gh) (po2 due : Int), SB tl μ2 G2 po2 → UI (μ2.1 190 11) G2 (if due = 0 then acts + 1 else acts) → -1 ≤ due ∧ due ≤ 3 → AL gL_law (SH (TL tl)) μ2 cs ss 415 [some (vX 62), some (vR 0), some (vR 188), some (vR 189), some (vR 190), some (vR 191), some (vI po2), some (vI acts), some (vI i), none, none, none, none, some (vI due), none, none, none, none, none, none] [] PL) : AL gL_law (SH (TL tl)) μ cs ss 234 [some (vX 62), some (vR 0), some (vR 188), some (vR 189), some (vR 190), some (vR 191), some (vI po), some (vI acts), some (vI i), some (vI x), some (vI k), some (vI s), some (vI (if k < μ.1 190 11 then 1 else 0)), some (vI (-1)), some (vI (onF (gRow G) s)), none, none, none, none, none] [] PL := by
  have x0 : (SH (TL tl))[0]? = some (10, 11) := rfl
  have a188 : (SH (TL tl))[188]? = some (20, 160) := rfl
  have a189 : (SH (TL tl))[189]? = some (20, 23) := rfl
  have a190 : (SH (TL tl))[190]? = some (20, 12) := rfl
  have a191 : (SH (TL tl))[191]? = some (20, 3) := rfl
  obtain ⟨⟨p, pd, c, cd, hX⟩, hL⟩ := id hSB
  obtain ⟨hp, ⟨e11, e12, e51, hrow⟩, hw, hz, ⟨⟨n0, n3⟩, hcb, hc10, hpo⟩⟩ := id hL
  obtain ⟨-, ⟨b1, b2, b3, b4, b5, b6, b7⟩, -, -, -, ⟨g1, g2, g3, g4⟩, -⟩ := id hp
  have q3 := fun y => mask y (m := 3) (by omega)
  have q1 := fun y => mask y (m := 1) (by omega)
  have q7 := fun y => mask y (m := 7) (by omega)
  have q31 := fun y => mask y (m := 31) (by omega)
  have w3 := q3 x
  have w1 := q1 (ishr x 6)
  have hoff := x_off hX (k := k) (by omega)
  by_cases hkn : k < μ.1 190 11
  · rw [if_pos hkn]
    have hpal : palG G k := ⟨hk.1, by show k < gRow G 11; omega⟩
    have ck := hcb k hk.1 hkn
    have rk := (hrow k hk.1 hkn).2.2
    by_cases ho : 0 ≤ μ.1 191 k
    · have e : offF G k = (μ.1 191 k, setRow (keepG G) (rset (gRow G) (93 + k) (-1))) := by
        unfold offF
        rw [if_pos ⟨hpal, by omega⟩, rk]
      rw [e] at hoff
      refine l_iload dL_law_234 rfl ?_
      refine lq_if_eq (tgt := 246) dL_law_236 rfl (by omega) (fun c236 => ?_) (fun c236 => ?_)
      · exfalso; omega
      · refine l_aload dL_law_239 rfl ?_
        refine l_iload dL_law_241 rfl ?_
        refine l_iald dL_law_243 (by assumption) rfl (by omega) ?_
        refine l_istore dL_law_244 rfl ?_
        refine l_aload_n dL_law_246 rfl ?_
        refine l_iload dL_law_247 rfl ?_
        refine l_cV1I dL_law_249 ml_L_112 yl_X11_off ⟨rfl, rfl⟩ (by assumption) ⟨_, rfl⟩ rfl rfl hC hS (hoff) ?_
        rintro v m2 ⟨hv, hXS⟩
        dsimp only at hv
        refine l_iload dL_law_252 rfl ?_
        refine lq_icmp_eq (tgt := 259) dL_law_254 rfl (by omega) (by omega) (fun c254 => ?_) (fun c254 => ?_)
        · refine l_iload dL_law_259 rfl ?_
          refine lq_if_lt (tgt := 270) dL_law_261 rfl (by omega) (fun c261 => ?_) (fun c261 => ?_)
          · exfalso; omega
          · refine l_aload dL_law_264 rfl ?_
            refine l_iload dL_law_266 rfl ?_
            refine l_iconst dL_law_268 ?_
            refine l_iast dL_law_269 (by assumption) rfl (by omega) ?_
            refine l_iload dL_law_270 rfl ?_
            refine lq_if_lt (tgt := 415) dL_law_272 rfl (by omega) (fun c272 => ?_) (fun c272 => ?_)
            · exfalso; omega
            · refine l_iconst dL_law_275 ?_
              refine l_istore dL_law_276 rfl ?_
              refine l_goto (tgt := 415) dL_law_278 rfl ?_
              have hw2 : WF (rset (gRow G) (93 + k) (-1)) := hXS.1.2.2.1.2.2.1
              have e189 : m2.1 189 = μ.1 189 := (hXS.2.1 189 (by (try dsimp only); omega)).1
              have e190 : m2.1 190 = μ.1 190 := (hXS.2.1 190 (by (try dsimp only); omega)).1
              have e191 : m2.1 191 = μ.1 191 := (hXS.2.1 191 (by (try dsimp only); omega)).1
              refine AL.lw (K (setI m2 191 k (-1)) _ po 0 ⟨InE.sI ⟨p, pd, c, cd, hXS.1⟩ (by omega), ?_⟩ ?_ (by omega)) (by repeat first | exact trivial | refine And.intro rfl ?_)
              · rw [setI_ne (by omega), setI_ne (by omega), e189, e190]
                exact hL.put ⟨hk.1, hkn⟩ (by omega) hw2 (fun j => by rw [sI1, e191])
              · rw [setI_ne (by omega), e190, if_pos rfl]
                exact hU.step ha _
        · exfalso; omega
    · have e : offF G k = (-1, G) := by
        unfold offF
        rw [if_neg (fun h => ho (by omega))]
      rw [e] at hoff
      have e1 : μ.1 191 k = -1 := by omega
      refine l_iload dL_law_234 rfl ?_
      refine lq_if_eq (tgt := 246) dL_law_236 rfl (by omega) (fun c236 => ?_) (fun c236 => ?_)
      · exfalso; omega
      · refine l_aload dL_law_239 rfl ?_
        refine l_iload dL_law_241 rfl ?_
        refine l_iald dL_law_243 (by assumption) rfl (by omega) ?_
        rw [e1]
        refine l_istore dL_law_244 rfl ?_
        refine l_aload_n dL_law_246 rfl ?_
        refine l_iload dL_law_247 rfl ?_
        refine l_cV1I dL_law_249 ml_L_112 yl_X11_off ⟨rfl, rfl⟩ (by assumption) ⟨_, rfl⟩ rfl rfl hC hS (hoff) ?_
        rintro v m2 ⟨hv, hXS⟩
        dsimp only at hv
        refine l_iload dL_law_252 rfl ?_
        refine lq_icmp_eq (tgt := 259) dL_law_254 rfl (by omega) (by omega) (fun c254 => ?_) (fun c254 => ?_)
        · refine l_iload dL_law_259 rfl ?_
          refine lq_if_lt (tgt := 270) dL_law_261 rfl (by omega) (fun c261 => ?_) (fun c261 => ?_)
          · refine l_iload dL_law_270 rfl ?_
            refine lq_if_lt (tgt := 415) dL_law_272 rfl (by omega) (fun c272 => ?_) (fun c272 => ?_)
            · have hU2 : UI (m2.1 190 11) G (if ((-1) : Int) = 0 then acts + 1 else acts) := by
                rw [(hXS.2.1 190 (by (try dsimp only); omega)).1, if_neg (by decide)]
                exact hU
              exact AL.lw (K m2 G po (-1) (hSB.kept ⟨p, pd, c, cd, hXS.1⟩ hXS.2.1 rfl) hU2 (by omega)) (by repeat first | exact trivial | refine And.intro rfl ?_)
            · exfalso; omega
          · exfalso; omega
        · exfalso; omega
  · rw [if_neg hkn]
    have e : offF G k = (-1, G) := by
      unfold offF
      rw [if_neg (fun h => hkn (by have := h.1.2; have : k < gRow G 11 := this; omega))]
    rw [e] at hoff
    refine l_iload dL_law_234 rfl ?_
    refine lq_if_eq (tgt := 246) dL_law_236 rfl (by omega) (fun c236 => ?_) (fun c236 => ?_)
    · refine l_aload_n dL_law_246 rfl ?_
      refine l_iload dL_law_247 rfl ?_
      refine l_cV1I dL_law_249 ml_L_112 yl_X11_off ⟨rfl, rfl⟩ (by assumption) ⟨_, rfl⟩ rfl rfl hC hS (hoff) ?_
      rintro v m2 ⟨hv, hXS⟩
      dsimp only at hv
      refine l_iload dL_law_252 rfl ?_
      refine lq_icmp_eq (tgt := 259) dL_law_254 rfl (by omega) (by omega) (fun c254 => ?_) (fun c254 => ?_)
      · refine l_iload dL_law_259 rfl ?_
        refine lq_if_lt (tgt := 270) dL_law_261 rfl (by omega) (fun c261 => ?_) (fun c261 => ?_)
        · refine l_iload dL_law_270 rfl ?_
          refine lq_if_lt (tgt := 415) dL_law_272 rfl (by omega) (fun c272 => ?_) (fun c272 => ?_)
          · have hU2 : UI (m2.1 190 11) G (if ((-1) : Int) = 0 then acts + 1 else acts) := by
              rw [(hXS.2.1 190 (by (try dsimp only); omega)).1, if_neg (by decide)]
              exact hU
            exact AL.lw (K m2 G po (-1) (hSB.kept ⟨p, pd, c, cd, hXS.1⟩ hXS.2.1 rfl) hU2 (by omega)) (by repeat first | exact trivial | refine And.intro rfl ?_)
          · exfalso; omega
        · exfalso; omega
      · exfalso; omega
    · exfalso; omega
set_option maxRecDepth 100000 in
set_option maxHeartbeats 4000000 in
theorem la_pour (hC : Nat.ble cs (gM gL_law) = true) (hS : Nat.ble ss (gS gL_law) = true) (hSB : SB tl μ G po) (hU : UI (μ.1 190 11) G acts) (ha : acts ≤ 11) {x k s : Int} (hx : -2147483648 ≤ x ∧ x < 2147483648) (hk : 0 ≤ k ∧ k < 4) (hs : 0 ≤ s ∧ s < 4) (K : ∀ (μ2 : Mem) (G2 : Gh) (po2 due : Int), SB tl μ2 G2 po2 → UI (μ2.1 190 11) G2 (if due = 0 then acts + 1 else acts) → -1 ≤ due ∧ due ≤ 3 → AL gL_law (SH (TL tl)) μ2 cs ss 415 [some (vX 62), some (vR 0), some (vR 188), some (vR 189), some (vR 190), some (vR 191), some (vI po2), some (vI acts), some (vI i), none, none, none, none, some (vI due), none, none, none, none, none, none] [] PL) : AL gL_law (SH (TL tl)) μ cs ss 291 [some (vX 62), some (vR 0), some (vR 188), some (vR 189), some (vR 190), some (vR 191), some (vI po), some (vI acts), some (vI i), some (vI x), some (vI k), some (vI s), some (vI (if k < μ.1 190 11 then 1 else 0)), some (vI (-1)), some (vI (onF (gRow G) s)), none, none, none, none, none] [] PL := by
  have x0 : (SH (TL tl))[0]? = some (10, 11) := rfl
  have a188 : (SH (TL tl))[188]? = some (20, 160) := rfl
  have a189 : (SH (TL tl))[189]? = some (20, 23) := rfl
  have a190 : (SH (TL tl))[190]? = some (20, 12) := rfl
  have a191 : (SH (TL tl))[191]? = some (20, 3) := rfl
  obtain ⟨⟨p, pd, c, cd, hX⟩, hL⟩ := id hSB
  obtain ⟨hp, ⟨e11, e12, e51, hrow⟩, hw, hz, ⟨⟨n0, n3⟩, hcb, hc10, hpo⟩⟩ := id hL
  obtain ⟨-, ⟨b1, b2, b3, b4, b5, b6, b7⟩, -, -, -, ⟨g1, g2, g3, g4⟩, -⟩ := id hp
  have q3 := fun y => mask y (m := 3) (by omega)
  have q1 := fun y => mask y (m := 1) (by omega)
  have q7 := fun y => mask y (m := 7) (by omega)
  have q31 := fun y => mask y (m := 31) (by omega)
  have w3 := q3 x
  have w1 := q1 (ishr x 6)
  obtain ⟨v0, hv0⟩ : ∃ v, v = iand (ishr x 7) 7 := ⟨_, rfl⟩
  have hvr := q7 (ishr x 7)
  rw [← hv0] at hvr
  have z18 := hz.2.2.2.2.2.2.2.2.2.2.2.1
  have hpour := x_pour hX (b := 0) (n := v0) (by omega) (by omega)
  by_cases hle : v0 ≤ μ.1 189 18
  · by_cases hne : v0 = po
    · have e : pourF G 0 v0 = (1, G) := by
        unfold pourF set0F
        rw [if_pos ⟨⟨by omega, by omega⟩, hvr.1, by show v0 ≤ gRow G 49; omega⟩, if_pos (show gRow G (51 + 0) = v0 from (show gRow G 51 = v0 by omega))]
      rw [e] at hpour
      refine l_iload dL_law_291 rfl ?_
      refine l_bipush dL_law_293 (by decide) ?_
      refine l_ishr dL_law_295 ?_
      refine l_bipush dL_law_296 (by decide) ?_
      refine l_iand dL_law_298 ?_
      rw [← hv0]
      refine l_istore dL_law_299 rfl ?_
      refine l_iload dL_law_301 rfl ?_
      refine l_aload_n dL_law_303 rfl ?_
      refine l_bipush dL_law_304 (by decide) ?_
      refine l_iald dL_law_306 (by assumption) rfl (by omega) ?_
      refine lq_icmp_gt (tgt := 324) dL_law_307 rfl (by omega) (by omega) (fun c307 => ?_) (fun c307 => ?_)
      · exfalso; omega
      · refine l_iload dL_law_310 rfl ?_
        refine l_iload dL_law_312 rfl ?_
        refine lq_icmp_ne (tgt := 321) dL_law_314 rfl (by omega) (by omega) (fun c314 => ?_) (fun c314 => ?_)
        · exfalso; omega
        · refine l_iconst dL_law_317 ?_
          refine l_goto (tgt := 322) dL_law_318 rfl ?_
          refine l_istore dL_law_322 rfl ?_
          refine l_aload_n dL_law_324 rfl ?_
          refine l_iconst dL_law_325 ?_
          refine l_iload dL_law_326 rfl ?_
          refine l_cV2I dL_law_328 ml_L_116 yl_X11_pour ⟨rfl, rfl⟩ (by assumption) ⟨_, rfl⟩ rfl rfl hC hS (hpour) ?_
          rintro v m2 ⟨hv, hXS⟩
          dsimp only at hv
          refine l_iload dL_law_331 rfl ?_
          refine lq_icmp_eq (tgt := 338) dL_law_333 rfl (by omega) (by omega) (fun c333 => ?_) (fun c333 => ?_)
          · refine l_iload dL_law_338 rfl ?_
            refine lq_if_ne (tgt := 347) dL_law_340 rfl (by omega) (fun c340 => ?_) (fun c340 => ?_)
            · refine l_goto (tgt := 415) dL_law_347 rfl ?_
              have hU2 : UI (m2.1 190 11) G (if (1 : Int) = 0 then acts + 1 else acts) := by
                rw [(hXS.2.1 190 (by (try dsimp only); omega)).1, if_neg (by decide)]
                exact hU
              exact AL.lw (K m2 G po 1 (hSB.kept ⟨p, pd, c, cd, hXS.1⟩ hXS.2.1 rfl) hU2 (by omega)) (by repeat first | exact trivial | refine And.intro rfl ?_)
            · exfalso; omega
          · exfalso; omega
    · have e : pourF G 0 v0 = (0, setRow (keepG G) (rset (gRow G) (51 + 0) v0)) := by
        unfold pourF set0F
        rw [if_pos ⟨⟨by omega, by omega⟩, hvr.1, by show v0 ≤ gRow G 49; omega⟩, if_neg (show ¬ gRow G (51 + 0) = v0 from (show ¬ gRow G 51 = v0 by omega))]
      rw [e] at hpour
      refine l_iload dL_law_291 rfl ?_
      refine l_bipush dL_law_293 (by decide) ?_
      refine l_ishr dL_law_295 ?_
      refine l_bipush dL_law_296 (by decide) ?_
      refine l_iand dL_law_298 ?_
      rw [← hv0]
      refine l_istore dL_law_299 rfl ?_
      refine l_iload dL_law_301 rfl ?_
      refine l_aload_n dL_law_303 rfl ?_
      refine l_bipush dL_law_304 (by decide) ?_
      refine l_iald dL_law_306 (by assumption) rfl (by omega) ?_
      refine lq_icmp_gt (tgt := 324) dL_law_307 rfl (by omega) (by omega) (fun c307 => ?_) (fun c307 => ?_)
      · exfalso; omega
      · refine l_iload dL_law_310 rfl ?_
        refine l_iload dL_law_312 rfl ?_
        refine lq_icmp_ne (tgt := 321) dL_law_314 rfl (by omega) (by omega) (fun c314 => ?_) (fun c314 => ?_)
        · refine l_iconst dL_law_321 ?_
          refine l_istore dL_law_322 rfl ?_
          refine l_aload_n dL_law_324 rfl ?_
          refine l_iconst dL_law_325 ?_
          refine l_iload dL_law_326 rfl ?_
          refine l_cV2I dL_law_328 ml_L_116 yl_X11_pour ⟨rfl, rfl⟩ (by assumption) ⟨_, rfl⟩ rfl rfl hC hS (hpour) ?_
          rintro v m2 ⟨hv, hXS⟩
          dsimp only at hv
          refine l_iload dL_law_331 rfl ?_
          refine lq_icmp_eq (tgt := 338) dL_law_333 rfl (by omega) (by omega) (fun c333 => ?_) (fun c333 => ?_)
          · refine l_iload dL_law_338 rfl ?_
            refine lq_if_ne (tgt := 347) dL_law_340 rfl (by omega) (fun c340 => ?_) (fun c340 => ?_)
            · exfalso; omega
            · refine l_iload dL_law_343 rfl ?_
              refine l_istore dL_law_345 rfl ?_
              refine l_goto (tgt := 415) dL_law_347 rfl ?_
              have hw2 : WF (rset (gRow G) (51 + 0) v0) := hXS.1.2.2.1.2.2.1
              have e189 : m2.1 189 = μ.1 189 := (hXS.2.1 189 (by (try dsimp only); omega)).1
              have e190 : m2.1 190 = μ.1 190 := (hXS.2.1 190 (by (try dsimp only); omega)).1
              have e191 : m2.1 191 = μ.1 191 := (hXS.2.1 191 (by (try dsimp only); omega)).1
              refine AL.lw (K m2 _ v0 0 ⟨⟨p, pd, c, cd, hXS.1⟩, ?_⟩ ?_ (by omega)) (by repeat first | exact trivial | refine And.intro rfl ?_)
              · rw [e189, e190, e191]
                exact hL.pour hvr hw2
              · rw [e190, if_pos rfl]
                exact hU.step ha _
          · exfalso; omega
        · exfalso; omega
  · have e : pourF G 0 v0 = (-1, G) := by
      unfold pourF
      rw [if_neg (fun h => hle (by have := h.2.2; have : v0 ≤ gRow G 49 := this; omega))]
    rw [e] at hpour
    refine l_iload dL_law_291 rfl ?_
    refine l_bipush dL_law_293 (by decide) ?_
    refine l_ishr dL_law_295 ?_
    refine l_bipush dL_law_296 (by decide) ?_
    refine l_iand dL_law_298 ?_
    rw [← hv0]
    refine l_istore dL_law_299 rfl ?_
    refine l_iload dL_law_301 rfl ?_
    refine l_aload_n dL_law_303 rfl ?_
    refine l_bipush dL_law_304 (by decide) ?_
    refine l_iald dL_law_306 (by assumption) rfl (by omega) ?_
    refine lq_icmp_gt (tgt := 324) dL_law_307 rfl (by omega) (by omega) (fun c307 => ?_) (fun c307 => ?_)
    · refine l_aload_n dL_law_324 rfl ?_
      refine l_iconst dL_law_325 ?_
      refine l_iload dL_law_326 rfl ?_
      refine l_cV2I dL_law_328 ml_L_116 yl_X11_pour ⟨rfl, rfl⟩ (by assumption) ⟨_, rfl⟩ rfl rfl hC hS (hpour) ?_
      rintro v m2 ⟨hv, hXS⟩
      dsimp only at hv
      refine l_iload dL_law_331 rfl ?_
      refine lq_icmp_eq (tgt := 338) dL_law_333 rfl (by omega) (by omega) (fun c333 => ?_) (fun c333 => ?_)
      · refine l_iload dL_law_338 rfl ?_
        refine lq_if_ne (tgt := 347) dL_law_340 rfl (by omega) (fun c340 => ?_) (fun c340 => ?_)
        · refine l_goto (tgt := 415) dL_law_347 rfl ?_
          have hU2 : UI (m2.1 190 11) G (if ((-1) : Int) = 0 then acts + 1 else acts) := by
            rw [(hXS.2.1 190 (by (try dsimp only); omega)).1, if_neg (by decide)]
            exact hU
          exact AL.lw (K m2 G po (-1) (hSB.kept ⟨p, pd, c, cd, hXS.1⟩ hXS.2.1 rfl) hU2 (by omega)) (by repeat first | exact trivial | refine And.intro rfl ?_)
        · exfalso; omega
      · exfalso; omega
    · exfalso; omega
set_option maxRecDepth 100000 in
set_option maxHeartbeats 4000000 in
theorem la_weigh (hC : Nat.ble cs (gM gL_law) = true) (hS : Nat.ble ss (gS gL_law) = true) (hSB : SB tl μ G po) (hU : UI (μ.1 190 11) G acts) (ha : acts ≤ 11) {x k s : Int} (hx : -2147483648 ≤ x ∧ x < 2147483648) (hk : 0 ≤ k ∧ k < 4) (hs : 0 ≤ s ∧ s < 4) (K : ∀ (μ2 : Mem) (G2 : Gh) (po2 due : Int), SB tl μ2 G2 po2 → UI (μ2.1 190 11) G2 (if due = 0 then acts + 1 else acts) → -1 ≤ due ∧ due ≤ 3 → AL gL_law (SH (TL tl)) μ2 cs ss 415 [some (vX 62), some (vR 0), some (vR 188), some (vR 189), some (vR 190), some (vR 191), some (vI po2), some (vI acts), some (vI i), none, none, none, none, some (vI due), none, none, none, none, none, none] [] PL) : AL gL_law (SH (TL tl)) μ cs ss 350 [some (vX 62), some (vR 0), some (vR 188), some (vR 189), some (vR 190), some (vR 191), some (vI po), some (vI acts), some (vI i), some (vI x), some (vI k), some (vI s), some (vI (if k < μ.1 190 11 then 1 else 0)), some (vI (-1)), some (vI (onF (gRow G) s)), none, none, none, none, none] [] PL := by
  have x0 : (SH (TL tl))[0]? = some (10, 11) := rfl
  have a188 : (SH (TL tl))[188]? = some (20, 160) := rfl
  have a189 : (SH (TL tl))[189]? = some (20, 23) := rfl
  have a190 : (SH (TL tl))[190]? = some (20, 12) := rfl
  have a191 : (SH (TL tl))[191]? = some (20, 3) := rfl
  obtain ⟨⟨p, pd, c, cd, hX⟩, hL⟩ := id hSB
  obtain ⟨hp, ⟨e11, e12, e51, hrow⟩, hw, hz, ⟨⟨n0, n3⟩, hcb, hc10, hpo⟩⟩ := id hL
  obtain ⟨-, ⟨b1, b2, b3, b4, b5, b6, b7⟩, -, -, -, ⟨g1, g2, g3, g4⟩, -⟩ := id hp
  have q3 := fun y => mask y (m := 3) (by omega)
  have q1 := fun y => mask y (m := 1) (by omega)
  have q7 := fun y => mask y (m := 7) (by omega)
  have q31 := fun y => mask y (m := 31) (by omega)
  have w3 := q3 x
  have w1 := q1 (ishr x 6)
  obtain ⟨v0, hv0⟩ : ∃ v, v = 1 + iand (ishr x 7) 31 := ⟨_, rfl⟩
  have hvr := q31 (ishr x 7)
  have hv32 : 1 ≤ v0 ∧ v0 ≤ 32 := by omega
  have hweigh := x_weigh hX (k := k) (w := v0) (by omega) (by omega)
  by_cases hkn : k < μ.1 190 11
  · rw [if_pos hkn]
    have hpal : palG G k := ⟨hk.1, by show k < gRow G 11; omega⟩
    have ck := hcb k hk.1 hkn
    have rk := (hrow k hk.1 hkn).1
    by_cases hne : μ.1 190 (2 * k) = v0
    · have e : weighF G k v0 = (1, G) := by
        unfold weighF set0F
        rw [if_pos ⟨hpal, by omega, by omega⟩, if_pos (show gRow G (83 + k) = v0 by omega)]
      rw [e] at hweigh
      refine l_iconst dL_law_350 ?_
      refine l_iload dL_law_351 rfl ?_
      refine l_bipush dL_law_353 (by decide) ?_
      refine l_ishr dL_law_355 ?_
      refine l_bipush dL_law_356 (by decide) ?_
      refine l_iand dL_law_358 ?_
      refine l_iadd dL_law_359 ?_
      rw [← hv0]
      refine l_istore dL_law_360 rfl ?_
      refine l_iload dL_law_362 rfl ?_
      refine lq_if_eq (tgt := 386) dL_law_364 rfl (by omega) (fun c364 => ?_) (fun c364 => ?_)
      · exfalso; omega
      · refine l_aload dL_law_367 rfl ?_
        refine l_iconst dL_law_369 ?_
        refine l_iload dL_law_370 rfl ?_
        refine l_imul dL_law_372 ?_
        refine l_iald dL_law_373 (by assumption) rfl (by omega) ?_
        refine l_iload dL_law_374 rfl ?_
        refine lq_icmp_ne (tgt := 383) dL_law_376 rfl (by omega) (by omega) (fun c376 => ?_) (fun c376 => ?_)
        · exfalso; omega
        · refine l_iconst dL_law_379 ?_
          refine l_goto (tgt := 384) dL_law_380 rfl ?_
          refine l_istore dL_law_384 rfl ?_
          refine l_aload_n dL_law_386 rfl ?_
          refine l_iload dL_law_387 rfl ?_
          refine l_iload dL_law_389 rfl ?_
          refine l_cV2I dL_law_391 ml_L_119 yl_X11_weigh ⟨rfl, rfl⟩ (by assumption) ⟨_, rfl⟩ rfl rfl hC hS (hweigh) ?_
          rintro v m2 ⟨hv, hXS⟩
          dsimp only at hv
          refine l_iload dL_law_394 rfl ?_
          refine lq_icmp_eq (tgt := 401) dL_law_396 rfl (by omega) (by omega) (fun c396 => ?_) (fun c396 => ?_)
          · refine l_iload dL_law_401 rfl ?_
            refine lq_if_ne (tgt := 415) dL_law_403 rfl (by omega) (fun c403 => ?_) (fun c403 => ?_)
            · have hU2 : UI (m2.1 190 11) G (if (1 : Int) = 0 then acts + 1 else acts) := by
                rw [(hXS.2.1 190 (by (try dsimp only); omega)).1, if_neg (by decide)]
                exact hU
              exact AL.lw (K m2 G po 1 (hSB.kept ⟨p, pd, c, cd, hXS.1⟩ hXS.2.1 rfl) hU2 (by omega)) (by repeat first | exact trivial | refine And.intro rfl ?_)
            · exfalso; omega
          · exfalso; omega
    · have e : weighF G k v0 = (0, setRow (keepG G) (rset (gRow G) (83 + k) v0)) := by
        unfold weighF set0F
        rw [if_pos ⟨hpal, by omega, by omega⟩, if_neg (show ¬ gRow G (83 + k) = v0 by omega)]
      rw [e] at hweigh
      refine l_iconst dL_law_350 ?_
      refine l_iload dL_law_351 rfl ?_
      refine l_bipush dL_law_353 (by decide) ?_
      refine l_ishr dL_law_355 ?_
      refine l_bipush dL_law_356 (by decide) ?_
      refine l_iand dL_law_358 ?_
      refine l_iadd dL_law_359 ?_
      rw [← hv0]
      refine l_istore dL_law_360 rfl ?_
      refine l_iload dL_law_362 rfl ?_
      refine lq_if_eq (tgt := 386) dL_law_364 rfl (by omega) (fun c364 => ?_) (fun c364 => ?_)
      · exfalso; omega
      · refine l_aload dL_law_367 rfl ?_
        refine l_iconst dL_law_369 ?_
        refine l_iload dL_law_370 rfl ?_
        refine l_imul dL_law_372 ?_
        refine l_iald dL_law_373 (by assumption) rfl (by omega) ?_
        refine l_iload dL_law_374 rfl ?_
        refine lq_icmp_ne (tgt := 383) dL_law_376 rfl (by omega) (by omega) (fun c376 => ?_) (fun c376 => ?_)
        · refine l_iconst dL_law_383 ?_
          refine l_istore dL_law_384 rfl ?_
          refine l_aload_n dL_law_386 rfl ?_
          refine l_iload dL_law_387 rfl ?_
          refine l_iload dL_law_389 rfl ?_
          refine l_cV2I dL_law_391 ml_L_119 yl_X11_weigh ⟨rfl, rfl⟩ (by assumption) ⟨_, rfl⟩ rfl rfl hC hS (hweigh) ?_
          rintro v m2 ⟨hv, hXS⟩
          dsimp only at hv
          refine l_iload dL_law_394 rfl ?_
          refine lq_icmp_eq (tgt := 401) dL_law_396 rfl (by omega) (by omega) (fun c396 => ?_) (fun c396 => ?_)
          · refine l_iload dL_law_401 rfl ?_
            refine lq_if_ne (tgt := 415) dL_law_403 rfl (by omega) (fun c403 => ?_) (fun c403 => ?_)
            · exfalso; omega
            · refine l_aload dL_law_406 rfl ?_
              refine l_iconst dL_law_408 ?_
              refine l_iload dL_law_409 rfl ?_
              refine l_imul dL_law_411 ?_
              refine l_iload dL_law_412 rfl ?_
              refine l_iast dL_law_414 (by assumption) rfl (by omega) ?_
              have hw2 : WF (rset (gRow G) (83 + k) v0) := hXS.1.2.2.1.2.2.1
              have e189 : m2.1 189 = μ.1 189 := (hXS.2.1 189 (by (try dsimp only); omega)).1
              have e190 : m2.1 190 = μ.1 190 := (hXS.2.1 190 (by (try dsimp only); omega)).1
              have e191 : m2.1 191 = μ.1 191 := (hXS.2.1 191 (by (try dsimp only); omega)).1
              refine AL.lw (K (setI m2 190 (2 * k) v0) _ po 0 ⟨InE.sI ⟨p, pd, c, cd, hXS.1⟩ (by omega), ?_⟩ ?_ (by omega)) (by repeat first | exact trivial | refine And.intro rfl ?_)
              · rw [setI_ne (b := 189) (by omega), setI_ne (b := 191) (by omega), e189, e191]
                exact hL.weigh ⟨hk.1, hkn⟩ (by omega) hw2 (fun j => by rw [sI1, e190])
              · rw [sI1, if_neg (by omega), e190, if_pos rfl]
                exact hU.step ha _
          · exfalso; omega
        · exfalso; omega
  · rw [if_neg hkn]
    have e : weighF G k v0 = (-1, G) := by
      unfold weighF
      rw [if_neg (fun h => hkn (by have := h.1.2; have : k < gRow G 11 := this; omega))]
    rw [e] at hweigh
    refine l_iconst dL_law_350 ?_
    refine l_iload dL_law_351 rfl ?_
    refine l_bipush dL_law_353 (by decide) ?_
    refine l_ishr dL_law_355 ?_
    refine l_bipush dL_law_356 (by decide) ?_
    refine l_iand dL_law_358 ?_
    refine l_iadd dL_law_359 ?_
    rw [← hv0]
    refine l_istore dL_law_360 rfl ?_
    refine l_iload dL_law_362 rfl ?_
    refine lq_if_eq (tgt := 386) dL_law_364 rfl (by omega) (fun c364 => ?_) (fun c364 => ?_)
    · refine l_aload_n dL_law_386 rfl ?_
      refine l_iload dL_law_387 rfl ?_
      refine l_iload dL_law_389 rfl ?_
      refine l_cV2I dL_law_391 ml_L_119 yl_X11_weigh ⟨rfl, rfl⟩ (by assumption) ⟨_, rfl⟩ rfl rfl hC hS (hweigh) ?_
      rintro v m2 ⟨hv, hXS⟩
      dsimp only at hv
      refine l_iload dL_law_394 rfl ?_
      refine lq_icmp_eq (tgt := 401) dL_law_396 rfl (by omega) (by omega) (fun c396 => ?_) (fun c396 => ?_)
      · refine l_iload dL_law_401 rfl ?_
        refine lq_if_ne (tgt := 415) dL_law_403 rfl (by omega) (fun c403 => ?_) (fun c403 => ?_)
        · have hU2 : UI (m2.1 190 11) G (if ((-1) : Int) = 0 then acts + 1 else acts) := by
            rw [(hXS.2.1 190 (by (try dsimp only); omega)).1, if_neg (by decide)]
            exact hU
          exact AL.lw (K m2 G po (-1) (hSB.kept ⟨p, pd, c, cd, hXS.1⟩ hXS.2.1 rfl) hU2 (by omega)) (by repeat first | exact trivial | refine And.intro rfl ?_)
        · exfalso; omega
      · exfalso; omega
    · exfalso; omega
set_option maxRecDepth 100000 in
set_option maxHeartbeats 4000000 in
theorem la_act (hC : Nat.ble cs (gM gL_law) = true) (hS : Nat.ble ss (gS gL_law) = true) (hSB : SB tl μ G po) (hU : UI (μ.1 190 11) G acts) (ha : acts ≤ 11) {x k s : Int} (hx : -2147483648 ≤ x ∧ x < 2147483648) (hk : 0 ≤ k ∧ k < 4) (hs : 0 ≤ s ∧ s < 4) (K : ∀ (μ2 : Mem) (G2 : Gh) (po2 due : Int), SB tl μ2 G2 po2 → UI (μ2.1 190 11) G2 (if due = 0 then acts + 1 else acts) → -1 ≤ due ∧ due ≤ 3 → AL gL_law (SH (TL tl)) μ2 cs ss 415 [some (vX 62), some (vR 0), some (vR 188), some (vR 189), some (vR 190), some (vR 191), some (vI po2), some (vI acts), some (vI i), none, none, none, none, some (vI due), none, none, none, none, none, none] [] PL) : AL gL_law (SH (TL tl)) μ cs ss 160 [some (vX 62), some (vR 0), some (vR 188), some (vR 189), some (vR 190), some (vR 191), some (vI po), some (vI acts), some (vI i), some (vI x), some (vI k), some (vI s), some (vI (if k < μ.1 190 11 then 1 else 0)), some (vI (-1)), some (vI (onF (gRow G) s)), none, none, none, none, none] [] PL := by
  have x0 : (SH (TL tl))[0]? = some (10, 11) := rfl
  have a188 : (SH (TL tl))[188]? = some (20, 160) := rfl
  have a189 : (SH (TL tl))[189]? = some (20, 23) := rfl
  have a190 : (SH (TL tl))[190]? = some (20, 12) := rfl
  have a191 : (SH (TL tl))[191]? = some (20, 3) := rfl
  obtain ⟨⟨p, pd, c, cd, hX⟩, hL⟩ := id hSB
  obtain ⟨hp, ⟨e11, e12, e51, hrow⟩, hw, hz, ⟨⟨n0, n3⟩, hcb, hc10, hpo⟩⟩ := id hL
  obtain ⟨-, ⟨b1, b2, b3, b4, b5, b6, b7⟩, -, -, -, ⟨g1, g2, g3, g4⟩, -⟩ := id hp
  have q3 := fun y => mask y (m := 3) (by omega)
  have q1 := fun y => mask y (m := 1) (by omega)
  have q7 := fun y => mask y (m := 7) (by omega)
  have q31 := fun y => mask y (m := 31) (by omega)
  have w3 := q3 x
  have w1 := q1 (ishr x 6)
  refine l_iload dL_law_160 rfl ?_
  refine l_iconst dL_law_162 ?_
  refine l_iand dL_law_163 ?_
  refine l_iconst dL_law_164 ?_
  refine lq_icmp_ge (tgt := 226) dL_law_165 rfl (by omega) (by omega) (fun c165 => ?_) (fun c165 => ?_)
  · refine l_iload dL_law_226 rfl ?_
    refine l_iconst dL_law_228 ?_
    refine l_iand dL_law_229 ?_
    refine l_iconst dL_law_230 ?_
    refine lq_icmp_ne (tgt := 281) dL_law_231 rfl (by omega) (by omega) (fun c231 => ?_) (fun c231 => ?_)
    · refine l_iload dL_law_281 rfl ?_
      refine l_bipush dL_law_283 (by decide) ?_
      refine l_ishr dL_law_285 ?_
      refine l_iconst dL_law_286 ?_
      refine l_iand dL_law_287 ?_
      refine lq_if_ne (tgt := 350) dL_law_288 rfl (by omega) (fun c288 => ?_) (fun c288 => ?_)
      · exact AL.lw (la_weigh hC hS hSB hU ha hx hk hs K) (by repeat first | exact trivial | refine And.intro rfl ?_)
      · exact AL.lw (la_pour hC hS hSB hU ha hx hk hs K) (by repeat first | exact trivial | refine And.intro rfl ?_)
    · exact AL.lw (la_off hC hS hSB hU ha hx hk hs K) (by repeat first | exact trivial | refine And.intro rfl ?_)
  · exact la_put hC hS hSB hU ha hx hk hs K
end LAWACT

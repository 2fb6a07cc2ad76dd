/-! 73.tab6: the class asked for good loadings (wip/whole/src/73_tab6.py) -/
def EntOK (ρ : Row) (e : Ent) : Prop := (0 ≤ e.1 ∧ e.1 < 7 ^ (ρ 11).toNat) ∧ (0 ≤ e.2.1 ∧ 1 ≤ e.2.2 ∧ e.2.1 + e.2.2 ≤ 100) ∧ ∀ j, 0 ≤ j → j < ρ 11 → 1 ≤ dg (ρ 11) e.1 j
theorem catL_mem {α : Type} {g : Int → List α} {x : α} : ∀ (n : Nat) (k : Int), x ∈ catL g n k → ∃ j, k ≤ j ∧ j < k + n ∧ x ∈ g j
  | 0, _, h => absurd h (by simp [catL])
  | n + 1, k, h => by
    rw [catL, List.mem_append] at h
    rcases h with h | h
    · exact ⟨k, Int.le_refl _, by omega, h⟩
    · obtain ⟨j, a, b, c⟩ := catL_mem n (k + 1) h
      exact ⟨j, by omega, by omega, c⟩
theorem keep_ok {σ : Row} (hP : WFP σ) (hA : ArmB σ) (hl : LyS σ (σ 11)) {e : Ent} (h : e ∈ keepE σ) : EntOK σ e := by
  have hn := hP.1
  unfold WFn at hn
  unfold keepE at h
  by_cases c : okS σ ∧ frF σ ≤ toF σ
  · rw [if_pos c, List.mem_singleton] at h
    subst h
    have hf := fr_rng (ρ := σ) (by omega) hA.2
    have hc := codeR_spec (ρ := σ) (fun k k0 k1 => by have := hl k k0 k1; omega)
    refine ⟨hc.1, ⟨hf.1, ?_, ?_⟩, fun j j0 j1 => ?_⟩
    · show 1 ≤ toF σ - frF σ + 1; omega
    · show frF σ + (toF σ - frF σ + 1) ≤ 100; omega
    · show 1 ≤ dg (σ 11) (codeR σ) j
      have := hl j j0 j1
      rw [hc.2 j j0 j1]
      omega
  · rw [if_neg c] at h
    exact absurd h (by simp)
theorem layE_mem : ∀ (n : Nat) (k : Int) (r : Row), WFP r → ArmB r → LyS r k → 0 ≤ k → k + n = r 11 → ∀ e ∈ layE n k r, EntOK r e
  | 0, k, r, hP, hA, hl, hk, hkn, e, he => by
    obtain rfl : k = r 11 := by omega
    exact keep_ok hP hA hl he
  | n + 1, k, r, hP, hA, hl, hk, hkn, e, he => by
    have hn := hP.1
    unfold WFn at hn
    rw [layE] at he
    obtain ⟨s, s0, s1, hs⟩ := catL_mem _ _ he
    try dsimp only at hs
    by_cases c : mayB r k s = true
    · rw [if_pos c] at hs
      have e11 : rset r (93 + k) s 11 = r 11 := rset_ne (by omega)
      have q := layE_mem n (k + 1) (rset r (93 + k) s) (wfP_set hP hk) (hA.set hk) (hl.set ⟨s0, by omega⟩ hk) (by omega) (by rw [e11]; omega) e hs
      unfold EntOK at q
      rw [e11] at q
      exact q
    · rw [if_neg c] at hs
      exact absurd hs (by simp)
theorem TL_mem {ρ : Row} (hw : WF ρ) {e : Ent} (he : e ∈ TL ρ) : EntOK ρ e := by
  have hn := hw.1.1
  unfold WFn at hn
  unfold TL at he
  by_cases c : aMF ρ < aLF ρ ∨ ρ 5 < ρ 11
  · rw [if_pos c] at he
    exact absurd he (by simp)
  · rw [if_neg c] at he
    exact layE_mem _ 0 ρ hw.1 hw.armB (fun j _ _ => by omega) (by omega) (by omega) e he
theorem seqL_get : ∀ (n : Nat) (b : Int) (j : Nat), j < n → (seqL b n)[j]? = some (b + j)
  | 0, _, _, h => by omega
  | n + 1, b, 0, _ => by rw [seqL]; simp
  | n + 1, b, j + 1, h => by
    rw [seqL, List.getElem?_cons_succ, seqL_get n (b + 1) j (by omega)]
    congr 1
    omega
theorem row_cases (L : List Ent) (i : Int) : (rowF L i = -1 ∧ ¬ (0 ≤ i ∧ i < (expE L).length)) ∨ ∃ (r : Nat) (e : Ent), rowF L i = r ∧ L[r]? = some e ∧ (0 ≤ i ∧ i < (expE L).length) ∧ upC L r ≤ i ∧ i < upC L r + e.2.2.toNat ∧ (expE L)[i.toNat]? = some (200 * e.1 + e.2.1 + (i - upC L r)) := by
  unfold rowF
  by_cases h0 : 0 ≤ i
  · rw [if_pos h0]
    rcases fnd_spec (p := fun r => decide (i < upC L (r.toNat + 1))) L.length 0 with ⟨h1, h2⟩ | ⟨h1, h2, h3, h4⟩
    · left
      refine ⟨h1, fun h => ?_⟩
      cases hl : L.length with
      | zero =>
        have : L = [] := List.length_eq_zero_iff.1 hl
        subst this
        have := h.2
        simp [expE] at this
        omega
      | succ m =>
        have q := of_decide_eq_false (h2 (m : Int) (by omega) (by omega))
        rw [show ((m : Int)).toNat + 1 = L.length by omega, upC_all] at q
        omega
    · right
      generalize fnd (fun r => decide (i < upC L (r.toNat + 1))) L.length 0 = r at *
      obtain ⟨e, he⟩ := getD_of (L := L) (i := r.toNat) (by omega)
      have h3 := of_decide_eq_true h3
      have hs := upC_s he
      have hle := upC_le (L := L) (n := r.toNat + 1)
      have hlo : upC L r.toNat ≤ i := by
        by_cases z : r = 0
        · rw [z]; show upC L 0 ≤ i; rw [upC_0]; exact h0
        · have q := of_decide_eq_false (h4 (r - 1) (by omega) (by omega))
          rw [show (r - 1).toNat + 1 = r.toNat by omega] at q
          omega
      refine ⟨r.toNat, e, by omega, he, ⟨h0, by omega⟩, hlo, by omega, ?_⟩
      have hlt : r.toNat < L.length := (List.getElem?_eq_some_iff.1 he).1
      have hge : L[r.toNat] = e := (List.getElem?_eq_some_iff.1 he).2
      have hsplit : expE L = expE (L.take r.toNat) ++ (seqL (200 * e.1 + e.2.1) e.2.2.toNat ++ expE (L.drop (r.toNat + 1))) := by
        have q : L = L.take r.toNat ++ L.drop r.toNat := (List.take_append_drop _ _).symm
        rw [List.drop_eq_getElem_cons hlt, hge] at q
        have q2 := congrArg expE q
        rw [exp_app] at q2
        exact q2
      have hu : upC L r.toNat = ((expE (L.take r.toNat)).length : Int) := rfl
      rw [hsplit, List.getElem?_append_right (by omega), List.getElem?_append_left (by rw [seqL_len]; omega), seqL_get _ _ _ (by omega)]
      congr 1
      omega
  · rw [if_neg h0]
    exact Or.inl ⟨rfl, fun h => h0 h.1⟩
theorem tab_at {ρ : Row} (hw : WF ρ) (i : Int) : (rowF (TL ρ) i = -1 ∧ ¬ isG ρ i) ∨ ∃ (r : Nat) (e : Ent), rowF (TL ρ) i = r ∧ (TL ρ)[r]? = some e ∧ isG ρ i ∧ gAt ρ i / 200 = e.1 ∧ gAt ρ i % 200 = e.2.1 + i - upC (TL ρ) r ∧ EntOK ρ e ∧ r < 720 := by
  obtain ⟨hx, hl⟩ := TL_exp hw
  rcases row_cases (TL ρ) i with ⟨a, b⟩ | ⟨r, e, a, b, c, d1, d2, f⟩
  · rw [hx] at b
    exact Or.inl ⟨a, b⟩
  · right
    have hm := TL_mem hw (List.mem_of_getElem? b)
    rw [hx] at c f
    have hg : gAt ρ i = 200 * e.1 + e.2.1 + (i - upC (TL ρ) r) := by
      unfold gAt
      rw [List.getD_eq_getElem?_getD, f]
      rfl
    have h2 := hm.2.1
    have hlt := (List.getElem?_eq_some_iff.1 b).1
    refine ⟨r, e, a, b, c, ?_, ?_, hm, by omega⟩
    · rw [hg]; omega
    · rw [hg]; omega
theorem tab_no : ∀ q ∈ refL, ¬ (q.1 = 172 ∧ (q.2.1 = 5 ∨ q.2.1 = 6)) := by decide +kernel
theorem InX.tab {μ μ2 : Mem} {G : Gh} {p pd c cd : Nat} (h : InX μ G p pd c cd) (hq : MkQ μ μ2 p c (gRow G)) : InX μ2 G p pd c cd := by
  obtain ⟨hL, hPos, ⟨hP, hC, hw, h99⟩, hH, ⟨hi0, hi1⟩, hT, hFk, hTm⟩ := h
  obtain ⟨hk, hR, -, -, -⟩ := hq
  have hp := hPos.1
  have hc := hPos.2.1
  refine ⟨fun q hqm => ?_, ⟨hPos.1, hPos.2.1, ?_, ?_, ?_, ?_⟩, ⟨hP.mono (hk.mono (fun q hq => by (try dsimp only at *); omega)), hC.mono (hk.mono (fun q hq => by (try dsimp only at *); omega)), hw, h99⟩, hH.mono (hk.mono (fun q hq => by (try dsimp only at *); omega)), ⟨hi0.mono (hk.mono (fun q hq => by (try dsimp only at *); omega)), hi1.mono (hk.mono (fun q hq => by (try dsimp only at *); omega))⟩, hT.mono (congrFun (hk 2 (by (try dsimp only); omega)).1 1) (hk 3 (by (try dsimp only); omega)).1, by rw [(hk 0 (by (try dsimp only); omega)).1]; exact hFk, hTm.mono (congrFun (hk 182 (by (try dsimp only); omega)).1 1) (hk 183 (by (try dsimp only); omega)).1⟩
  · rw [hR _ _ (tab_no q hqm)]
    exact hL q hqm
  · rw [hR _ _ (by omega)]; exact hPos.2.2.1
  · rw [hR _ _ (by omega)]; exact hPos.2.2.2.1
  · rw [hR _ _ (by omega)]; exact hPos.2.2.2.2.1
  · rw [hR _ _ (by omega)]; exact hPos.2.2.2.2.2
/-- a call of the class that asks for the table -/
def XT (μ μ2 : Mem) (G : Gh) (p pd c cd : Nat) : Prop := InX μ2 G p pd c cd ∧ Kp (fun a => 188 ≤ a) μ μ2 ∧ TabOK μ2 p c (gRow G)
theorem InX.xt {μ μ2 : Mem} {G : Gh} {p pd c cd : Nat} (h : InX μ G p pd c cd) (hq : MkQ μ μ2 p c (gRow G)) : XT μ μ2 G p pd c cd := ⟨h.tab hq, hq.1.mono (fun q hq => by (try dsimp only at *); omega), hq.2.2.2.1, Or.inr hq.2.2.2.2⟩
theorem RW.ext {μ μ2 : Mem} {N : Int} {L : List Ent} (h : RW μ N L) (hk : Kp (fun a => 172 ≤ a ∧ a < 176) μ μ2) : RW μ2 N L := by
  have q := fun a (h : 172 ≤ a ∧ a < 176) => (hk a h).1
  exact h.keep (by rw [q 172 (by omega)]) (fun i _ _ => by rw [q 173 (by omega), q 174 (by omega), q 175 (by omega)]; exact ⟨rfl, rfl, rfl⟩)
theorem TabOK.kept {μ μ2 : Mem} {ρ ρ' : Row} {p c : Nat} (h : TabOK μ p c ρ) (hw : WFP ρ) (hk : TabKept μ μ2 ρ ρ') (hR : μ2.2.2 = μ.2.2) : TabOK μ2 p c ρ' := by
  have kp := hk.kp
  obtain ⟨z, h⟩ := h
  refine ⟨⟨fun s s0 s1 => by rw [(kp 179 (by (try dsimp only); omega)).1]; exact z.1 s s0 s1, fun s s0 s1 => by rw [(kp 180 (by (try dsimp only); omega)).1]; exact z.2.1 s s0 s1, fun s s0 s1 => by rw [(kp 181 (by (try dsimp only); omega)).1]; exact z.2.2 s s0 s1⟩, ?_⟩
  rcases hk with ⟨k1, k2⟩ | ⟨k1, -⟩
  · have e := (k1 172 (by (try dsimp only); omega)).1
    rcases h with h | ⟨a, b, d, f⟩
    · left
      rw [e]; exact h
    · right
      refine ⟨by rw [e]; exact a, by rw [hR]; exact b, by rw [hR]; exact d, ?_⟩
      rw [TL_inv hw k2, k2 11 (by omega) (by omega) (by omega)]
      exact f.ext (k1.mono (fun q hq => by (try dsimp only at *); omega))
  · exact Or.inl k1
theorem x_freshTable {μ : Mem} {G : Gh} {p pd c cd : Nat} (hX : InX μ G p pd c cd) (hTO : TabOK μ p c (gRow G))  : OMet yX11_freshTable gX11_freshTable SH [vR 0] μ (vR 172) (fun μ2 => MkQ μ μ2 p c (gRow G)) := by
  obtain ⟨hL, hPos, ⟨hP, hC, hw, h99⟩, hH, ⟨hi0, hi1⟩, hT, hFk, hTm⟩ := id hX
  obtain ⟨hp0, hc0, r2, r3, r4, r5⟩ := id hPos
  have rr9 := hL.r0_9
  have x0 : SH[0]? = some (10, 11) := rfl
  have x172 : SH[172]? = some (7, 15) := rfl
  have hn := hw.1.1
  unfold WFn at hn
  have hc5 : c = 50 ∨ c = 56 := by omega
  have hp4 : p = 4 ∨ p = 27 := by omega
  refine AMet.of (by decide) rfl (by decide) rfl ?_
  refine r_aload_n dX11_freshTable_0 rfl ?_
  refine r_getR dX11_freshTable_1 fl_X11_56 rfl (by assumption) (by assumption) ?_
  refine r_aload_n dX11_freshTable_4 rfl ?_
  refine r_getR dX11_freshTable_5 fl_X11_19 rfl (by assumption) (by assumption) ?_
  refine r_aload_n dX11_freshTable_8 rfl ?_
  refine r_getR dX11_freshTable_9 fl_X11_29 rfl (by assumption) (by assumption) ?_
  refine r_cV2N dX11_freshTable_12 ml_X11_319 yl_X8_makeFor ⟨rfl, rfl⟩ (by assumption) ⟨_, rfl⟩ rfl rfl rfl rfl (c_makeFor hL hP hC hw hp4 hc5 hTO) ?_
  rintro μ3 hq
  have rr93 : μ3.2.2 0 9 = some 172 := by rw [hq.2.1 _ _ (by omega)]; exact rr9
  refine r_aload_n dX11_freshTable_15 rfl ?_
  refine r_getR dX11_freshTable_16 fl_X11_56 rfl (by assumption) (by assumption) ?_
  refine r_areturn dX11_freshTable_19 rfl rfl rfl ?_
  exact ⟨rfl, rfl, hq⟩
theorem x_loadings {μ : Mem} {G : Gh} {p pd c cd : Nat} (hX : InX μ G p pd c cd) (hTO : TabOK μ p c (gRow G))  : IMet yX11_loadings gX11_loadings SH [vR 0] μ (fun x μ2 => x = ((GL (gRow G)).length : Int) ∧ XT μ μ2 G p pd c cd) := by
  obtain ⟨hL, hPos, ⟨hP, hC, hw, h99⟩, hH, ⟨hi0, hi1⟩, hT, hFk, hTm⟩ := id hX
  obtain ⟨hp0, hc0, r2, r3, r4, r5⟩ := id hPos
  have rr9 := hL.r0_9
  have x0 : SH[0]? = some (10, 11) := rfl
  have x172 : SH[172]? = some (7, 15) := rfl
  have hn := hw.1.1
  unfold WFn at hn
  have hc5 : c = 50 ∨ c = 56 := by omega
  have hp4 : p = 4 ∨ p = 27 := by omega
  refine AMet.of (by decide) rfl (by decide) rfl ?_
  refine r_aload_n dX11_loadings_0 rfl ?_
  refine r_cV0O dX11_loadings_1 ml_X11_244 yl_X11_freshTable ⟨rfl, rfl⟩ (by assumption) ⟨_, rfl⟩ rfl rfl rfl rfl (x_freshTable hX hTO) ?_
  rintro μ3 hq
  have rr93 : μ3.2.2 0 9 = some 172 := by rw [hq.2.1 _ _ (by omega)]; exact rr9
  have r23 : μ3.2.2 0 2 = some p := by rw [hq.2.1 _ _ (by omega)]; exact r2
  have r43 : μ3.2.2 0 4 = some c := by rw [hq.2.1 _ _ (by omega)]; exact r4
  have hX3 := hX.tab hq
  have hP3 := hX3.2.2.1.1
  have hC3 := hX3.2.2.1.2.1
  have hIC3 := hC3.1
  have hx5 := hIC3.1
  have hxp := hP3.1.1
  have hT3 := hX3.1.tab
  have hM := hq.2.2.2.2
  have hW3 := hM.2.2.2
  have hXT := hX.xt hq
  refine r_cV0F1 dX11_loadings_4 ml_X11_248 yl_X8_total ⟨rfl, rfl⟩ (by assumption) ⟨_, rfl⟩ rfl rfl rfl rfl (c_total hT3 hW3) ?_
  refine r_ireturn dX11_loadings_7 rfl rfl rfl ?_
  refine ⟨rfl, _, rfl, ?_, hXT⟩
  rw [(TL_exp hw).1]
theorem x_loading {μ : Mem} {G : Gh} {p pd c cd : Nat} (hX : InX μ G p pd c cd) (hTO : TabOK μ p c (gRow G)) {i k : Int} (hi : -2147483648 ≤ i ∧ i < 2147483648) (hk : -2147483648 ≤ k ∧ k < 2147483648)  : IMet yX11_loading gX11_loading SH [vR 0, vI i, vI k] μ (fun x μ2 => x = loadF (gRow G) i k ∧ XT μ μ2 G p pd c cd) := by
  obtain ⟨hL, hPos, ⟨hP, hC, hw, h99⟩, hH, ⟨hi0, hi1⟩, hT, hFk, hTm⟩ := id hX
  obtain ⟨hp0, hc0, r2, r3, r4, r5⟩ := id hPos
  have rr9 := hL.r0_9
  have x0 : SH[0]? = some (10, 11) := rfl
  have x172 : SH[172]? = some (7, 15) := rfl
  have hn := hw.1.1
  unfold WFn at hn
  have hc5 : c = 50 ∨ c = 56 := by omega
  have hp4 : p = 4 ∨ p = 27 := by omega
  refine AMet.of (by decide) rfl (by decide) rfl ?_
  refine r_aload_n dX11_loading_0 rfl ?_
  refine r_cV0O dX11_loading_1 ml_X11_244 yl_X11_freshTable ⟨rfl, rfl⟩ (by assumption) ⟨_, rfl⟩ rfl rfl rfl rfl (x_freshTable hX hTO) ?_
  rintro μ3 hq
  have rr93 : μ3.2.2 0 9 = some 172 := by rw [hq.2.1 _ _ (by omega)]; exact rr9
  have r23 : μ3.2.2 0 2 = some p := by rw [hq.2.1 _ _ (by omega)]; exact r2
  have r43 : μ3.2.2 0 4 = some c := by rw [hq.2.1 _ _ (by omega)]; exact r4
  have hX3 := hX.tab hq
  have hP3 := hX3.2.2.1.1
  have hC3 := hX3.2.2.1.2.1
  have hIC3 := hC3.1
  have hx5 := hIC3.1
  have hxp := hP3.1.1
  have hT3 := hX3.1.tab
  have hM := hq.2.2.2.2
  have hW3 := hM.2.2.2
  have hXT := hX.xt hq
  refine r_iload_n dX11_loading_4 rfl ?_
  refine r_cV1F1 dX11_loading_5 ml_X11_251 yl_X8_rowOf ⟨rfl, rfl⟩ (by assumption) ⟨_, rfl⟩ rfl rfl rfl rfl (c_rowOf hT3 hW3 hi) ?_
  refine r_istore_n dX11_loading_8 rfl ?_
  rcases tab_at hw i with ⟨hr0, hng⟩ | ⟨r, e, hr0, he, hgi, hg1, hg2, hm, hr7⟩
  · refine r_iload_n dX11_loading_9 rfl ?_
    refine r_iconst dX11_loading_10 ?_
    refine q_icmp_eq (tgt := 25) dX11_loading_11 rfl (by omega) (by omega) (fun c11 => ?_) (fun c11 => ?_)
    · 
      refine r_iconst dX11_loading_25 ?_
      refine r_goto (tgt := 38) dX11_loading_26 rfl ?_
      refine r_ireturn dX11_loading_38 rfl rfl rfl ?_
      refine ⟨rfl, _, rfl, ?_, hXT⟩
      unfold loadF
      rw [if_neg (fun h => hng h.2)]
    · exact absurd hr0 c11
  · rw [hr0]
    refine r_iload_n dX11_loading_9 rfl ?_
    refine r_iconst dX11_loading_10 ?_
    refine q_icmp_eq (tgt := 25) dX11_loading_11 rfl (by omega) (by omega) (fun c11 => ?_) (fun c11 => ?_)
    · exact absurd c11 (by omega)
    · refine r_aload_n dX11_loading_14 rfl ?_
      refine r_getR dX11_loading_15 fl_X11_29 rfl (by assumption) (by assumption) ?_
      refine r_iload_n dX11_loading_18 rfl ?_
      refine r_cV1F1 dX11_loading_19 ml_X11_144 yl_X0_has ⟨rfl, rfl⟩ (by assumption) ⟨_, rfl⟩ rfl rfl rfl rfl (c_hasR hC3 (by omega) hk) ?_
      refine r_if_neB (tgt := 29) dX11_loading_22 rfl (fun c22 => ?_) (fun c22 => ?_)
      · have d22 := of_decide_eq_true c22
        refine r_aload_n dX11_loading_29 rfl ?_
        refine r_getR dX11_loading_30 fl_X11_56 rfl (by assumption) (by assumption) ?_
        refine r_iload_n dX11_loading_33 rfl ?_
        refine r_iload_n dX11_loading_34 rfl ?_
        refine r_cV2F1 dX11_loading_35 ml_X11_254 yl_X8_spotIn ⟨rfl, rfl⟩ (by assumption) ⟨_, rfl⟩ rfl rfl rfl rfl (c_spotIn hT3 hW3 (r := (r : Int)) (by omega) hk (by omega) (fun i e he => (TL_mem hw (List.mem_of_getElem? he)).2.2) (e := e) ⟨by omega, he⟩ d22) ?_
        refine r_ireturn dX11_loading_38 rfl rfl rfl ?_
        refine ⟨rfl, _, rfl, ?_, hXT⟩
        unfold loadF
        first
        | (rw [if_neg (fun h => d22 h.1)]; done)
        | (rw [if_pos ⟨d22, hgi⟩, hg1]; done)
      · have d22 := of_decide_eq_false c22
        refine r_iconst dX11_loading_25 ?_
        refine r_goto (tgt := 38) dX11_loading_26 rfl ?_
        refine r_ireturn dX11_loading_38 rfl rfl rfl ?_
        refine ⟨rfl, _, rfl, ?_, hXT⟩
        unfold loadF
        first
        | (rw [if_neg (fun h => d22 h.1)]; done)
        | (rw [if_pos ⟨d22, hgi⟩, hg1]; done)
theorem x_poured {μ : Mem} {G : Gh} {p pd c cd : Nat} (hX : InX μ G p pd c cd) (hTO : TabOK μ p c (gRow G)) {i b : Int} (hi : -2147483648 ≤ i ∧ i < 2147483648) (hb : -2147483648 ≤ b ∧ b < 2147483648)  : IMet yX11_poured gX11_poured SH [vR 0, vI i, vI b] μ (fun x μ2 => x = pourdF (gRow G) i b ∧ XT μ μ2 G p pd c cd) := by
  obtain ⟨hL, hPos, ⟨hP, hC, hw, h99⟩, hH, ⟨hi0, hi1⟩, hT, hFk, hTm⟩ := id hX
  obtain ⟨hp0, hc0, r2, r3, r4, r5⟩ := id hPos
  have rr9 := hL.r0_9
  have x0 : SH[0]? = some (10, 11) := rfl
  have x172 : SH[172]? = some (7, 15) := rfl
  have hn := hw.1.1
  unfold WFn at hn
  have hc5 : c = 50 ∨ c = 56 := by omega
  have hp4 : p = 4 ∨ p = 27 := by omega
  refine AMet.of (by decide) rfl (by decide) rfl ?_
  refine r_aload_n dX11_poured_0 rfl ?_
  refine r_cV0O dX11_poured_1 ml_X11_244 yl_X11_freshTable ⟨rfl, rfl⟩ (by assumption) ⟨_, rfl⟩ rfl rfl rfl rfl (x_freshTable hX hTO) ?_
  rintro μ3 hq
  have rr93 : μ3.2.2 0 9 = some 172 := by rw [hq.2.1 _ _ (by omega)]; exact rr9
  have r23 : μ3.2.2 0 2 = some p := by rw [hq.2.1 _ _ (by omega)]; exact r2
  have r43 : μ3.2.2 0 4 = some c := by rw [hq.2.1 _ _ (by omega)]; exact r4
  have hX3 := hX.tab hq
  have hP3 := hX3.2.2.1.1
  have hC3 := hX3.2.2.1.2.1
  have hIC3 := hC3.1
  have hx5 := hIC3.1
  have hxp := hP3.1.1
  have hT3 := hX3.1.tab
  have hM := hq.2.2.2.2
  have hW3 := hM.2.2.2
  have hXT := hX.xt hq
  refine r_iload_n dX11_poured_4 rfl ?_
  refine r_cV1F1 dX11_poured_5 ml_X11_251 yl_X8_rowOf ⟨rfl, rfl⟩ (by assumption) ⟨_, rfl⟩ rfl rfl rfl rfl (c_rowOf hT3 hW3 hi) ?_
  refine r_istore_n dX11_poured_8 rfl ?_
  rcases tab_at hw i with ⟨hr0, hng⟩ | ⟨r, e, hr0, he, hgi, hg1, hg2, hm, hr7⟩
  · refine r_iload_n dX11_poured_9 rfl ?_
    refine r_iconst dX11_poured_10 ?_
    refine q_icmp_eq (tgt := 25) dX11_poured_11 rfl (by omega) (by omega) (fun c11 => ?_) (fun c11 => ?_)
    · refine r_iconst dX11_poured_25 ?_
      refine r_goto (tgt := 39) dX11_poured_26 rfl ?_
      refine r_ireturn dX11_poured_39 rfl rfl rfl ?_
      refine ⟨rfl, _, rfl, ?_, hXT⟩
      unfold pourdF
      rw [if_neg (fun h => hng h.2)]
    · exact absurd hr0 c11
  · rw [hr0]
    refine r_iload_n dX11_poured_9 rfl ?_
    refine r_iconst dX11_poured_10 ?_
    refine q_icmp_eq (tgt := 25) dX11_poured_11 rfl (by omega) (by omega) (fun c11 => ?_) (fun c11 => ?_)
    · exact absurd c11 (by omega)
    · refine r_aload_n dX11_poured_14 rfl ?_
      refine r_getR dX11_poured_15 fl_X11_19 rfl (by assumption) (by assumption) ?_
      refine r_iload_n dX11_poured_18 rfl ?_
      refine r_cV1F1 dX11_poured_19 ml_X11_192 yl_X5_hasBin ⟨rfl, rfl⟩ (by assumption) ⟨_, rfl⟩ rfl rfl rfl rfl (c_hasBin hP3 hw.1.1 hb) ?_
      refine r_if_neB (tgt := 29) dX11_poured_22 rfl (fun c22 => ?_) (fun c22 => ?_)
      · have d22 := of_decide_eq_true c22
        refine r_aload_n dX11_poured_29 rfl ?_
        refine r_getR dX11_poured_30 fl_X11_56 rfl (by assumption) (by assumption) ?_
        refine r_iload_n dX11_poured_33 rfl ?_
        refine r_iload_n dX11_poured_34 rfl ?_
        refine r_iload_n dX11_poured_35 rfl ?_
        refine r_cV3F1 dX11_poured_36 ml_X11_258 yl_X8_amountIn ⟨rfl, rfl⟩ (by assumption) ⟨_, rfl⟩ rfl rfl rfl rfl (c_amountIn hT3 hW3 (r := (r : Int)) hi (by omega) hb hIC3 hM.2.2.1 (e := e) ⟨by omega, he⟩) ?_
        refine r_ireturn dX11_poured_39 rfl rfl rfl ?_
        refine ⟨rfl, _, rfl, ?_, hXT⟩
        unfold pourdF
        first
        | (rw [if_neg (fun h => d22 h.1)]; done)
        | (rw [if_pos (show (0 ≤ b ∧ b < gRow G 7) ∧ isG (gRow G) i from ⟨d22, hgi⟩), hg2, hC3.2.2.1]; rfl)
      · have d22 := of_decide_eq_false c22
        refine r_iconst dX11_poured_25 ?_
        refine r_goto (tgt := 39) dX11_poured_26 rfl ?_
        refine r_ireturn dX11_poured_39 rfl rfl rfl ?_
        refine ⟨rfl, _, rfl, ?_, hXT⟩
        unfold pourdF
        first
        | (rw [if_neg (fun h => d22 h.1)]; done)
        | (rw [if_pos (show (0 ≤ b ∧ b < gRow G 7) ∧ isG (gRow G) i from ⟨d22, hgi⟩), hg2, hC3.2.2.1]; rfl)

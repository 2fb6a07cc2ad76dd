/-! 83.refmend2: mend, move, mended: what they are, and in the reference (wip/whole/src/83_refmend2.py) -/
noncomputable def mendW (ρ : Row) : Option Wrd := @dite _ (∃ w, MendOK ρ w) (Classical.propDecidable _) (fun h => some (Classical.choose h)) (fun _ => none)
theorem mendW_some {ρ : Row} {w : Wrd} (h : MendOK ρ w) : mendW ρ = some w := by
  unfold mendW
  rw [dif_pos ⟨w, h⟩]
  congr 1
  exact mend_one (Classical.choose_spec (⟨w, h⟩ : ∃ w, MendOK ρ w)) h
theorem mendW_none {ρ : Row} (h : ∀ w, ¬ MendOK ρ w) : mendW ρ = none := by
  unfold mendW
  rw [dif_neg (fun ⟨w, e⟩ => h w e)]
abbrev setTld (G : Gh) (tm : List Int) : Gh := (G.1, G.2.1, G.2.2.1, G.2.2.2.1, G.2.2.2.2.1, G.2.2.2.2.2.1, G.2.2.2.2.2.2.1, tm)
noncomputable def mendF (G : Gh) : Int × Gh := match mendW (gRow G) with
  | some w => ((w.length : Int), setTld G w.reverse)
  | none => (-1, G)
def mvsR (ρ : Row) (p : List Int) : Row := p.foldl (fun σ l => rset σ (93 + l / 10) (l % 10)) ρ
noncomputable def mendedF (G : Gh) : Int × Gh := match mendW (gRow G) with
  | some w => ((w.length : Int), if w.length = 0 then G else setRow (keepG G) (mvsR (gRow G) w.reverse))
  | none => (-1, G)
def moveF (G : Gh) (i : Int) : Int := if 0 ≤ i ∧ i < (gTm G).length then (gTm G).getD i.toNat 0 else -1
theorem mvs_app (ρ : Row) (p : List Int) (l : Int) : mvsR ρ (p ++ [l]) = rset (mvsR ρ p) (93 + l / 10) (l % 10) := by
  unfold mvsR
  rw [List.foldl_append]
  rfl
theorem mvs_ne {ρ : Row} : ∀ {p : List Int}, (∀ l ∈ p, 0 ≤ l ∧ l < 60) → ∀ {j : Int}, ¬ (93 ≤ j ∧ j < 99) → mvsR ρ p j = ρ j := by
  intro p
  induction p generalizing ρ with
  | nil => intro _ j _; rfl
  | cons l t ih =>
    intro h j hj
    have hl := h l (List.mem_cons_self ..)
    have e : mvsR ρ (l :: t) = mvsR (rset ρ (93 + l / 10) (l % 10)) t := rfl
    rw [e, ih (fun x hx => h x (List.mem_cons_of_mem _ hx)) hj, rset_ne (by omega)]
theorem Pth.lab {E : Edg} (hE : LabOK E) : ∀ {p : List Int} {u c : Int}, Pth E u p c → ∀ l ∈ p, 0 ≤ l ∧ l < 60
  | [], _, _, _, l, h => absurd h (by simp)
  | l :: t, u, c, ⟨u', h1, h2⟩, x, hx => by
    rcases List.mem_cons.1 hx with e | hx
    · rw [e]; exact hE _ _ _ h1
    · exact Pth.lab hE h2 x hx
theorem mvs_pth {ρ : Row} : ∀ {p : List Int} {u c : Int}, Vc ρ u → Pth (mvE ρ) u p c → mvsR (layR ρ u) p = layR ρ c
  | [], u, c, _, h => by
    have h : c = u := h
    rw [h]; rfl
  | l :: t, u, c, hu, ⟨u', h1, h2⟩ => by
    have e := mv_edge hu h1
    have e2 : mvsR (layR ρ u) (l :: t) = mvsR (rset (layR ρ u) (93 + l / 10) (l % 10)) t := rfl
    rw [e2, ← e.2.2.2.2.2]
    exact mvs_pth e.2.2.2.2.1 h2
/-- what comes of mending -/
theorem mend_to {ρ : Row} (hw : WF ρ) {w : Wrd} (h : MendOK ρ w) : (∀ l ∈ w.reverse, 0 ≤ l ∧ l < 60) ∧ ∃ c, Vc ρ c ∧ mvsR ρ w.reverse = layR ρ c ∧ w.length ≤ 10 := by
  have h10 := mend_len hw h
  obtain ⟨c, h1, h2, -⟩ := h
  rw [rch_pth] at h1
  have q := mvs_pth hw.vc.1 h1
  rw [hw.vc.2] at q
  exact ⟨Pth.lab (mv_lab ρ) h1, c, h1.vc hw.vc.1, q, h10⟩
theorem InM.told {sh : Sh} {m : Nat} {μ μ2 : Mem} {G : Gh} {tm : List Int} (h : InM sh m μ G) (h2 : μ2.2 = μ.2) (hq : ∀ q : Nat, q ≠ m → q ≠ m + 14 → μ2.1 q = μ.1 q) (hm : ∀ j, j ≠ 33 → μ2.1 m j = μ.1 m j) (ht : TldM m μ2 tm) : InM sh m μ2 (setTld G tm) := by
  obtain ⟨a0, ⟨a1, a1'⟩, a2, ⟨a3, a4⟩, a5, a6, -⟩ := h
  exact ⟨by rw [h2]; exact a0, ⟨by rw [hq _ (by omega) (by omega)]; exact a1, a1'⟩, a2.mono (hm 5 (by decide)) (hq _ (by omega) (by omega)), ⟨a3.mono (hq _ (by omega) (by omega)) (hq _ (by omega) (by omega)), a4.mono (hq _ (by omega) (by omega)) (hq _ (by omega) (by omega))⟩, a5.mono (hm 7 (by decide)) (hq _ (by omega) (by omega)), (hm 14 (by decide)).trans a6, ht⟩
theorem m_mend {sh : Sh} {μ : Mem} {m : Nat} {G : Gh} (hI : InM sh m μ G) (hw : WF (gRow G))  : IMet yX12_mend gX12_mend sh [vR m] μ (fun x μ2 => x = (mendF G).1 ∧ MS sh m μ μ2 (mendF G).2) := by
  have hM := hI.1
  have hr := hI.2.1.1
  obtain ⟨g0, f1, z1, f2, z2, f3, z3, f4, z4, f5, z5, f6, z6, f7, z7, f8, z8, f9, z9, f10, z10, f11, z11, f12, z12, f13, z13, f14, z14⟩ := id hM
  refine AMet.of (by decide) rfl (by decide) rfl ?_
  refine r_aload_n dX12_mend_0 rfl ?_
  refine r_cV0I dX12_mend_1 ml_X12_327 yl_X12_mends ⟨rfl, rfl⟩ (by assumption) ⟨_, rfl⟩ rfl rfl rfl rfl (m_mends hM hr hw) ?_
  rintro x1 μ1 ⟨hF1, hr1, hdis⟩
  have x01 : x1 = 0 ∨ x1 = 1 := hdis.imp (fun q => q.1) (fun q => q.1)
  have hM1 : IsModel sh μ1.2.2 m := by rw [hF1.1]; exact hM
  have hS1 := hF1.ms hI (hr1.trans hr.symm)
  clear g0 f1 f2 f3 f4 f5 f6 f7 f8 f9 f10 f11 f12 f13 f14
  obtain ⟨g0, f1, z1, f2, z2, f3, z3, f4, z4, f5, z5, f6, z6, f7, z7, f8, z8, f9, z9, f10, z10, f11, z11, f12, z12, f13, z13, f14, z14⟩ := id hM1
  refine q_if_ne (tgt := 9) dX12_mend_4 rfl (by omega) (fun c4 => ?_) (fun c4 => ?_)
  · obtain ⟨w, hw1, hw10, h31, hpa⟩ : ∃ w, MendOK (gRow G) w ∧ w.length ≤ 10 ∧ μ1.1 m 31 = w.length ∧ ∀ (i : Nat) (x : Int), w.reverse[i]? = some x → μ1.1 (m + 13) i = x := by
      rcases hdis with ⟨q, -⟩ | ⟨-, q⟩
      · omega
      · exact q
    refine r_aload_n dX12_mend_9 rfl ?_
    refine r_aload_n dX12_mend_10 rfl ?_
    refine r_getI dX12_mend_11 fl_X12_324 rfl (by assumption) ?_
    (try rw [h31])
    refine r_putI dX12_mend_14 fl_X12_330 (by assumption) ?_
    refine r_iconst dX12_mend_17 ?_
    refine r_istore_n dX12_mend_18 rfl ?_
    have lT : ∀ (f n : Nat) (k : Int) (μ' : Mem), n < f → 0 ≤ k → k + n = (w.length : Int) → μ'.2 = μ1.2 → (∀ q : Nat, q ≠ m → q ≠ m + 14 → μ'.1 q = μ1.1 q) → (∀ j, j ≠ 33 → μ'.1 m j = μ1.1 m j) → μ'.1 m 33 = w.length → (∀ (j : Nat) (x : Int), (j : Int) < k → w.reverse[j]? = some x → μ'.1 (m + 14) j = x) → AW gX12_mend sh μ' 0 0 19 [some (vR m), some (vI k)] [] (fun r2 sh2 μ2 => sh2 = sh ∧ ∃ x, r2 = some (vI x) ∧ x = (mendF G).1 ∧ MS sh m μ μ2 (mendF G).2) := by
      intro f
      induction f with
      | zero => intro n; intros; omega
      | succ f ih =>
        intro n k μ' hf hk hn2 q2 qq qm q33 qt
        have hM2 : IsModel sh μ'.2.2 m := by rw [q2]; exact hM1
        have h31 : μ'.1 m 31 = w.length := (qm 31 (by decide)).trans h31
        clear g0 f1 f2 f3 f4 f5 f6 f7 f8 f9 f10 f11 f12 f13 f14
        obtain ⟨g0, f1, z1, f2, z2, f3, z3, f4, z4, f5, z5, f6, z6, f7, z7, f8, z8, f9, z9, f10, z10, f11, z11, f12, z12, f13, z13, f14, z14⟩ := id hM2
        refine r_iload_n dX12_mend_19 rfl ?_
        refine r_aload_n dX12_mend_20 rfl ?_
        refine r_getI dX12_mend_21 fl_X12_324 rfl (by assumption) ?_
        (try rw [h31])
        refine q_icmp_ge (tgt := 45) dX12_mend_24 rfl (by omega) (by omega) (fun c24 => ?_) (fun c24 => ?_)
        · refine r_aload_n dX12_mend_45 rfl ?_
          refine r_getI dX12_mend_46 fl_X12_324 rfl (by assumption) ?_
          (try rw [h31])
          refine r_ireturn dX12_mend_49 rfl rfl rfl ?_
          have hT : TldM m μ' w.reverse := ⟨by rw [q33, List.length_reverse], by rw [List.length_reverse]; exact hw10, fun i x hx => by
            have hl := (List.getElem?_eq_some_iff.1 hx).1
            rw [List.length_reverse] at hl
            exact qt i x (by omega) hx⟩
          have e : mendF G = ((w.length : Int), setTld G w.reverse) := by unfold mendF; rw [mendW_some hw1]
          refine ⟨rfl, _, rfl, by rw [e], ?_⟩
          rw [e]
          exact ⟨hS1.1.told q2 qq qm hT, hS1.2.1.tr (fun q hq => ⟨qq q (by (try dsimp only at hq); omega) (by (try dsimp only at hq); omega), by rw [q2], by rw [q2]⟩), q2.trans hS1.2.2⟩
        · refine r_aload_n dX12_mend_27 rfl ?_
          refine r_getR dX12_mend_28 fl_X12_52 rfl (by assumption) (by assumption) ?_
          refine r_iload_n dX12_mend_31 rfl ?_
          refine r_aload_n dX12_mend_32 rfl ?_
          refine r_getR dX12_mend_33 fl_X12_49 rfl (by assumption) (by assumption) ?_
          refine r_iload_n dX12_mend_36 rfl ?_
          refine r_iald dX12_mend_37 (by assumption) rfl (by omega) ?_
          refine r_iast dX12_mend_38 (by assumption) rfl (by omega) ?_
          refine r_iinc dX12_mend_39 rfl rfl ?_
          refine r_goto (tgt := 19) dX12_mend_42 rfl ?_
          refine ih (n - 1) (k + 1) _ (by omega) (by omega) (by omega) q2 (fun q a b => (setI_ne b).trans (qq q a b)) (fun j hj => (sI_ne (by omega)).trans (qm j hj)) ((sI_ne (by omega)).trans q33) (fun j x hj hx => ?_)
          by_cases e : (j : Int) = k
          · rw [e, sI_at, ← e, qq _ (by omega) (by omega)]
            exact hpa j x hx
          · rw [sI_nj e]
            exact qt j x (by omega) hx
    exact lT _ w.length 0 _ (Nat.lt_succ_self _) (Int.le_refl _) (by omega) rfl (fun q a _ => setI_ne a) (fun j hj => sI_nj hj) sI_at (fun j x hj _ => by omega)
  · refine r_iconst dX12_mend_7 ?_
    refine r_ireturn dX12_mend_8 rfl rfl rfl ?_
    have hno : ∀ w, ¬ MendOK (gRow G) w := by
      rcases hdis with ⟨-, q⟩ | ⟨q, -⟩
      · exact q
      · omega
    have e : mendF G = (-1, G) := by unfold mendF; rw [mendW_none hno]
    exact ⟨rfl, _, rfl, by rw [e], by rw [e]; exact hS1⟩
theorem m_move {sh : Sh} {μ : Mem} {m : Nat} {G : Gh} (hI : InM sh m μ G) {i : Int} (hi : -2147483648 ≤ i ∧ i < 2147483648)  : FMet yX12_move gX12_move sh [vR m, vI i] μ (some (vI (moveF G i))) μ := by
  have hM := hI.1
  obtain ⟨t33, t10, tx⟩ := hI.2.2.2.2.2.2
  obtain ⟨g0, f1, z1, f2, z2, f3, z3, f4, z4, f5, z5, f6, z6, f7, z7, f8, z8, f9, z9, f10, z10, f11, z11, f12, z12, f13, z13, f14, z14⟩ := id hM
  refine AMet.of (by decide) rfl (by decide) rfl ?_
  refine r_iload_n dX12_move_0 rfl ?_
  refine r_iconst dX12_move_1 ?_
  refine r_aload_n dX12_move_2 rfl ?_
  refine r_getI dX12_move_3 fl_X12_330 rfl (by assumption) ?_
  rw [t33]
  refine r_iconst dX12_move_6 ?_
  refine r_isub dX12_move_7 ?_
  refine r_cS3F1 dX12_move_8 ml_X12_73 yl_X12_isIn ⟨rfl, rfl⟩ rfl rfl rfl rfl (m_isIn hi (by omega) (by omega)) ?_
  refine r_if_eqB (tgt := 23) dX12_move_11 rfl (fun c11 => ?_) (fun c11 => ?_)
  · have c11 := of_decide_eq_false c11
    refine r_iconst dX12_move_23 ?_
    refine r_ireturn dX12_move_24 rfl rfl rfl ?_
    refine ⟨rI ?_, rfl, rfl⟩
    unfold moveF
    first
    | (rw [if_pos ⟨by omega, by omega⟩]
       have hx := tx i.toNat ((gTm G).getD i.toNat 0) (by rw [List.getD_eq_getElem?_getD, List.getElem?_eq_getElem (by omega), Option.getD_some])
       rw [show ((i.toNat : Nat) : Int) = i by omega] at hx
       exact hx)
    | rw [if_neg (fun q => c11 (by omega))]
  · have c11 := of_decide_eq_true c11
    refine r_aload_n dX12_move_14 rfl ?_
    refine r_getR dX12_move_15 fl_X12_52 rfl (by assumption) (by assumption) ?_
    refine r_iload_n dX12_move_18 rfl ?_
    refine r_iald dX12_move_19 (by assumption) rfl (by omega) ?_
    refine r_goto (tgt := 24) dX12_move_20 rfl ?_
    refine r_ireturn dX12_move_24 rfl rfl rfl ?_
    refine ⟨rI ?_, rfl, rfl⟩
    unfold moveF
    first
    | (rw [if_pos ⟨by omega, by omega⟩]
       have hx := tx i.toNat ((gTm G).getD i.toNat 0) (by rw [List.getD_eq_getElem?_getD, List.getElem?_eq_getElem (by omega), Option.getD_some])
       rw [show ((i.toNat : Nat) : Int) = i by omega] at hx
       exact hx)
    | rw [if_neg (fun q => c11 (by omega))]
set_option maxHeartbeats 2000000 in
theorem m_mended {sh : Sh} {μ : Mem} {m : Nat} {G : Gh} (hI : InM sh m μ G) (hw : WF (gRow G))  : IMet yX12_mended gX12_mended sh [vR m] μ (fun x μ2 => x = (mendedF G).1 ∧ MS sh m μ μ2 (mendedF G).2) := by
  have hM := hI.1
  have hr := hI.2.1.1
  obtain ⟨g0, f1, z1, f2, z2, f3, z3, f4, z4, f5, z5, f6, z6, f7, z7, f8, z8, f9, z9, f10, z10, f11, z11, f12, z12, f13, z13, f14, z14⟩ := id hM
  refine AMet.of (by decide) rfl (by decide) rfl ?_
  refine r_aload_n dX12_mended_0 rfl ?_
  refine r_cV0I dX12_mended_1 ml_X12_327 yl_X12_mends ⟨rfl, rfl⟩ (by assumption) ⟨_, rfl⟩ rfl rfl rfl rfl (m_mends hM hr hw) ?_
  rintro x1 μ1 ⟨hF1, hr1, hdis⟩
  have x01 : x1 = 0 ∨ x1 = 1 := hdis.imp (fun q => q.1) (fun q => q.1)
  have hM1 : IsModel sh μ1.2.2 m := by rw [hF1.1]; exact hM
  have hS1 := hF1.ms hI (hr1.trans hr.symm)
  clear g0 f1 f2 f3 f4 f5 f6 f7 f8 f9 f10 f11 f12 f13 f14
  obtain ⟨g0, f1, z1, f2, z2, f3, z3, f4, z4, f5, z5, f6, z6, f7, z7, f8, z8, f9, z9, f10, z10, f11, z11, f12, z12, f13, z13, f14, z14⟩ := id hM1
  refine q_if_ne (tgt := 9) dX12_mended_4 rfl (by omega) (fun c4 => ?_) (fun c4 => ?_)
  · obtain ⟨w, hw1, hw10, h31, hpa⟩ : ∃ w, MendOK (gRow G) w ∧ w.length ≤ 10 ∧ μ1.1 m 31 = w.length ∧ ∀ (i : Nat) (x : Int), w.reverse[i]? = some x → μ1.1 (m + 13) i = x := by
      rcases hdis with ⟨q, -⟩ | ⟨-, q⟩
      · omega
      · exact q
    have hlab := (mend_to hw hw1).1
    have lD : ∀ (μs : Mem), InM sh m μs (if w.length = 0 then G else keepG G) → μs.1 (m + 1) = gRow G → μs.2 = μ.2 → Kp (fun a => a < m) μ μs → μs.1 m 31 = w.length → (∀ (i : Nat) (x : Int), w.reverse[i]? = some x → μs.1 (m + 13) i = x) → ∀ (f n k : Nat), n < f → k + n = w.length → AW gX12_mended sh (wRow μs m (mvsR (gRow G) (w.reverse.take k))) 0 0 22 [some (vR m), some (vI (k : Int))] [] (fun r2 sh2 μ2 => sh2 = sh ∧ ∃ x, r2 = some (vI x) ∧ x = (mendedF G).1 ∧ MS sh m μ μ2 (mendedF G).2) := by
      intro μs hIs hrs h2s hks h31 hpa f
      induction f with
      | zero => intro n; intros; omega
      | succ f ih =>
        intro n k hf hn2
        have hMs : IsModel sh (wRow μs m (mvsR (gRow G) (w.reverse.take k))).2.2 m := hIs.1
        have g31 : (wRow μs m (mvsR (gRow G) (w.reverse.take k))).1 m 31 = w.length := (congrFun (wRow_ne (by omega)) 31).trans h31
        have gpa : ∀ (i : Nat) (x : Int), w.reverse[i]? = some x → (wRow μs m (mvsR (gRow G) (w.reverse.take k))).1 (m + 13) i = x := fun i x hx => (congrFun (wRow_ne (by omega)) i).trans (hpa i x hx)
        clear g0 f1 f2 f3 f4 f5 f6 f7 f8 f9 f10 f11 f12 f13 f14
        obtain ⟨g0, f1, z1, f2, z2, f3, z3, f4, z4, f5, z5, f6, z6, f7, z7, f8, z8, f9, z9, f10, z10, f11, z11, f12, z12, f13, z13, f14, z14⟩ := id hMs
        refine r_iload_n dX12_mended_22 rfl ?_
        refine r_aload_n dX12_mended_23 rfl ?_
        refine r_getI dX12_mended_24 fl_X12_324 rfl (by assumption) ?_
        rw [g31]
        refine q_icmp_ge (tgt := 62) dX12_mended_27 rfl (by omega) (by omega) (fun c27 => ?_) (fun c27 => ?_)
        · refine r_aload_n dX12_mended_62 rfl ?_
          refine r_getI dX12_mended_63 fl_X12_324 rfl (by assumption) ?_
          rw [g31]
          refine r_ireturn dX12_mended_66 rfl rfl rfl ?_
          obtain rfl : k = w.length := by omega
          have e : mendedF G = ((w.length : Int), if w.length = 0 then G else setRow (keepG G) (mvsR (gRow G) w.reverse)) := by unfold mendedF; rw [mendW_some hw1]
          refine ⟨rfl, _, rfl, by rw [e], ?_⟩
          rw [e, List.take_of_length_le (by rw [List.length_reverse]; exact Nat.le_refl _)]
          refine ⟨?_, hks.wr (by (try dsimp only); omega), h2s⟩
          have hz : ∀ j, ¬ (0 ≤ j ∧ j < 143) → mvsR (gRow G) w.reverse j = 0 := fun j hj => (mvs_ne hlab (by omega)).trans (hI.2.1.2 j hj)
          have q := hIs.wr hz
          by_cases c : w.length = 0
          · have hwn : w = [] := List.length_eq_zero_iff.1 c
            rw [if_pos c] at q ⊢
            subst hwn
            exact q
          · rw [if_neg c] at q ⊢
            exact q
        · obtain ⟨l, hkl⟩ : ∃ l, w.reverse[k]? = some l := ⟨_, List.getElem?_eq_getElem (by rw [List.length_reverse]; omega)⟩
          have hlr := hlab l (List.mem_of_getElem? hkl)
          refine r_aload_n dX12_mended_30 rfl ?_
          refine r_getR dX12_mended_31 fl_X12_7 rfl (by assumption) (by assumption) ?_
          refine r_bipush dX12_mended_34 (by decide) ?_
          refine r_aload_n dX12_mended_36 rfl ?_
          refine r_getR dX12_mended_37 fl_X12_49 rfl (by assumption) (by assumption) ?_
          refine r_iload_n dX12_mended_40 rfl ?_
          refine r_iald dX12_mended_41 (by assumption) rfl (by omega) ?_
          rw [gpa k l hkl]
          refine r_bipush dX12_mended_42 (by decide) ?_
          refine r_idiv dX12_mended_44 (by omega) (by omega) ?_
          rw [Int.tdiv_eq_ediv_of_nonneg hlr.1]
          refine r_iadd dX12_mended_45 ?_
          refine r_aload_n dX12_mended_46 rfl ?_
          refine r_getR dX12_mended_47 fl_X12_49 rfl (by assumption) (by assumption) ?_
          refine r_iload_n dX12_mended_50 rfl ?_
          refine r_iald dX12_mended_51 (by assumption) rfl (by omega) ?_
          rw [gpa k l hkl]
          refine r_bipush dX12_mended_52 (by decide) ?_
          refine r_irem dX12_mended_54 (by omega) (by omega) ?_
          rw [Int.tmod_eq_emod_of_nonneg hlr.1]
          refine r_iast dX12_mended_55 (by assumption) rfl (by omega) ?_
          rw [wRow_set, ← mvs_app]
          refine r_iinc dX12_mended_56 rfl rfl ?_
          refine r_goto (tgt := 22) dX12_mended_59 rfl ?_
          have et : w.reverse.take k ++ [l] = w.reverse.take (k + 1) := by
            have hlt : k < w.reverse.length := (List.getElem?_eq_some_iff.1 hkl).1
            rw [← (List.getElem?_eq_some_iff.1 hkl).2]
            exact List.take_append_getElem hlt
          rw [et, show (k : Int) + 1 = ((k + 1 : Nat) : Int) by omega]
          exact ih (n - 1) (k + 1) (by omega) (by omega)
    refine r_aload_n dX12_mended_9 rfl ?_
    refine r_getI dX12_mended_10 fl_X12_324 rfl (by assumption) ?_
    (try rw [h31])
    refine q_if_le (tgt := 20) dX12_mended_13 rfl (by omega) (fun c13 => ?_) (fun c13 => ?_)
    · refine r_iconst dX12_mended_20 ?_
      refine r_istore_n dX12_mended_21 rfl ?_
      first
      | (have hc0 : w.length = 0 := by omega
         have q := lD μ1 (by rw [if_pos hc0]; exact hS1.1) hr1 hS1.2.2 hS1.2.1 h31 hpa _ w.length 0 (Nat.lt_succ_self _) (Nat.zero_add _)
         rw [List.take_zero] at q
         have e0 : wRow μ1 m (mvsR (gRow G) []) = μ1 := wRow_id hr1
         rw [e0] at q
         exact q)
      | (have hc0 : ¬ w.length = 0 := by omega
         have hr2 : μ2.1 (m + 1) = gRow G := by rw [(hK2 (m + 1) (by (try dsimp only); omega)).1]; exact hr1
         have q := lD μ2 (by rw [if_neg hc0]; exact hS2.1) hr2 (hS2.2.2.trans hS1.2.2) (hS1.2.1.tr hS2.2.1) ((hj2 31 (by decide)).trans h31) (fun i x hx => by rw [(hK2 (m + 13) (by (try dsimp only); omega)).1]; exact hpa i x hx) _ w.length 0 (Nat.lt_succ_self _) (Nat.zero_add _)
         rw [List.take_zero] at q
         have e0 : wRow μ2 m (mvsR (gRow G) []) = μ2 := wRow_id hr2
         rw [e0] at q
         exact q)
    · refine r_aload_n dX12_mended_16 rfl ?_
      refine r_cV0N dX12_mended_17 ml_X12_228 yl_X12_keeps ⟨rfl, rfl⟩ (by assumption) ⟨_, rfl⟩ rfl rfl rfl rfl (m_keeps hS1.1) ?_
      rintro μ2 ⟨hS2, hK2, hj2⟩
      refine r_iconst dX12_mended_20 ?_
      refine r_istore_n dX12_mended_21 rfl ?_
      first
      | (have hc0 : w.length = 0 := by omega
         have q := lD μ1 (by rw [if_pos hc0]; exact hS1.1) hr1 hS1.2.2 hS1.2.1 h31 hpa _ w.length 0 (Nat.lt_succ_self _) (Nat.zero_add _)
         rw [List.take_zero] at q
         have e0 : wRow μ1 m (mvsR (gRow G) []) = μ1 := wRow_id hr1
         rw [e0] at q
         exact q)
      | (have hc0 : ¬ w.length = 0 := by omega
         have hr2 : μ2.1 (m + 1) = gRow G := by rw [(hK2 (m + 1) (by (try dsimp only); omega)).1]; exact hr1
         have q := lD μ2 (by rw [if_neg hc0]; exact hS2.1) hr2 (hS2.2.2.trans hS1.2.2) (hS1.2.1.tr hS2.2.1) ((hj2 31 (by decide)).trans h31) (fun i x hx => by rw [(hK2 (m + 13) (by (try dsimp only); omega)).1]; exact hpa i x hx) _ w.length 0 (Nat.lt_succ_self _) (Nat.zero_add _)
         rw [List.take_zero] at q
         have e0 : wRow μ2 m (mvsR (gRow G) []) = μ2 := wRow_id hr2
         rw [e0] at q
         exact q)
  · refine r_iconst dX12_mended_7 ?_
    refine r_ireturn dX12_mended_8 rfl rfl rfl ?_
    have hno : ∀ w, ¬ MendOK (gRow G) w := by
      rcases hdis with ⟨-, q⟩ | ⟨q, -⟩
      · exact q
      · omega
    have e : mendedF G = (-1, G) := by unfold mendedF; rw [mendW_none hno]
    exact ⟨rfl, _, rfl, by rw [e], by rw [e]; exact hS1⟩

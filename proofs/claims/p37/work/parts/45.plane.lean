/-! 45.plane: taken from whole (wip/p37/port.py) -/
variable {n_ : Sh}
/-! 45.plane: a plane is read, in the class (wip/whole/src/45_plane.py) -/
def E03 (ρ : Row) : Prop := (1 ≤ ρ 0 ∧ ρ 0 ≤ 999) ∧ (0 ≤ ρ 1 ∧ ρ 1 ≤ 99) ∧ 0 ≤ ρ 2 ∧ ρ 2 < ρ 3 ∧ ρ 3 ≤ 99
theorem E03.lo {ρ ρ' : Row} (h : E03 ρ) (e : ∀ j, 0 ≤ j → j ≤ 3 → ρ' j = ρ j) : E03 ρ' := by
  unfold E03 at *
  rw [e 0 (by omega) (by omega), e 1 (by omega) (by omega), e 2 (by omega) (by omega), e 3 (by omega) (by omega)]
  exact h
theorem lineP_E {T : Tq} {σ : Sg} {D : PD} (hD : DOK D) (h : E03 D.1) (h0 : sE (lineP T σ D).1 = 0) : E03 (lineP T σ D).2.1 := by
  have hc := hD.1
  unfold cntOK at hc
  unfold lineP at *
  by_cases e0 : tellsF T σ 0 = true
  · rw [if_pos e0] at h0 ⊢
    have f2 := num_0 (show sE (emptyS2 T σ D).2 = 0 from h0)
    have f1 := num_0 f2.1
    have g1 : 1 ≤ (emptyS1 T σ D).1 ∧ (emptyS1 T σ D).1 ≤ 999 := f1.2.2.2.1
    have g2 : 0 ≤ (emptyS2 T σ D).1 ∧ (emptyS2 T σ D).1 ≤ 99 := f2.2.2.2.1
    unfold E03 emptyL at *
    simp (disch := omega) only [rset_eq, rset_ne]
    exact ⟨g1, g2, h.2.2⟩
  rw [if_neg e0] at h0 ⊢
  by_cases e0 : tellsF T σ 1 = true
  · rw [if_pos e0] at h0 ⊢
    have f2 := num_0 (show sE (spanS2 T σ D).2 = 0 from h0)
    have f1 := num_0 f2.1
    have g1 : 0 ≤ (spanS1 T σ D).1 ∧ (spanS1 T σ D).1 ≤ 99 := f1.2.2.2.1
    have g2 : (spanS1 T σ D).1 + 1 ≤ (spanS2 T σ D).1 ∧ (spanS2 T σ D).1 ≤ 99 := f2.2.2.2.1
    unfold E03 spanL at *
    simp (disch := omega) only [rset_eq, rset_ne]
    exact ⟨h.1, h.2.1, by omega, by omega, by omega⟩
  rw [if_neg e0] at h0 ⊢
  by_cases e0 : tellsF T σ 2 = true
  · rw [if_pos e0]
    unfold holdL
    dsimp only
    split
    · exact h.lo fun j j0 j1 => by unfold addHold; simp (disch := omega) only [rset_eq, rset_ne]
    · exact h
  rw [if_neg e0]
  by_cases e0 : tellsF T σ 3 = true
  · rw [if_pos e0]
    unfold spotL
    dsimp only
    split
    · exact h.lo fun j j0 j1 => by unfold addSpot; simp (disch := omega) only [rset_eq, rset_ne]
    · exact h
  rw [if_neg e0]
  by_cases e0 : tellsF T σ 4 = true
  · rw [if_pos e0]
    unfold jointL
    dsimp only
    split
    · exact h.lo fun j j0 j1 => by unfold addJoint; simp (disch := omega) only [rset_eq, rset_ne]
    · exact h
  rw [if_neg e0]
  by_cases e0 : tellsF T σ 5 = true
  · rw [if_pos e0]
    unfold binL
    dsimp only
    split
    · exact h.lo fun j j0 j1 => by unfold addBin; simp (disch := omega) only [rset_eq, rset_ne]
    · exact h
  rw [if_neg e0]
  by_cases e0 : tellsF T σ 6 = true
  · rw [if_pos e0]
    unfold tankL
    dsimp only
    split
    · exact h.lo fun j j0 j1 => by unfold addTank; simp (disch := omega) only [rset_eq, rset_ne]
    · exact h
  rw [if_neg e0]
  by_cases e0 : tellsF T σ 7 = true
  · rw [if_pos e0]
    unfold burnL
    dsimp only
    split
    · exact h.lo fun j j0 j1 => by unfold addBurn; simp (disch := omega) only [rset_eq, rset_ne]
    · exact h
  rw [if_neg e0]
  by_cases e0 : tellsF T σ 8 = true
  · rw [if_pos e0]
    unfold stopL
    split
    · exact h
    · exact h.lo fun j j0 j1 => by unfold addStop; simp (disch := omega) only [rset_eq, rset_ne]
  rw [if_neg e0]
  exact h
theorem loopP_f {T : Tq} : ∀ (n : Nat) {σ : Sg} {D : PD}, sE (loopP T n σ D).1 = 0 → sE σ = 0
  | 0, σ, D, h => h
  | n + 1, σ, D, h => by
    rw [loopP] at h
    split at h
    · rename_i e
      rw [← nxt_E T σ]; exact e.1
    · rw [← nxt_E T σ]; exact h
theorem loopP_E {T : Tq} (hL : T.2 ≤ 540) : ∀ (n : Nat) {σ : Sg} {D : PD}, SgOK T σ → DOK D → E03 D.1 → sE (loopP T n σ D).1 = 0 → E03 (loopP T n σ D).2.1
  | 0, σ, D, _, _, h, _ => h
  | n + 1, σ, D, hs, hD, h, h0 => by
    rw [loopP] at h0 ⊢
    have h1 := (nxt_ok hL hs).1
    split
    · rename_i e
      rw [if_pos e] at h0
      exact loopP_E hL n (lend_ok hL (lineP_ok hL h1 D)) (lineP_D hL h1 hD) (lineP_E hD h (lend_0 (loopP_f n h0)).1) h0
    · exact h
theorem planeR_ok {T : Tq} (hL : 0 ≤ T.2 ∧ T.2 ≤ 540) : SgOK T (planeR T).1 ∧ DOK (planeR T).2 ∧ (sE (planeR T).1 = 0 → E03 (planeR T).2.1) := by
  have h1 := beginC_ok hL.1 (T := T) (n := 500) (by omega)
  have h2 := loopP_ok hL.2 500 h1 D0_ok
  exact ⟨h2.1, h2.2, loopP_E hL.2 500 h1 D0_ok (by unfold E03; decide)⟩
/-- plane's cells of one row, pallets' of another one, all out -/
def setlR (ρp ρc : Row) : Row := fun j => if 93 ≤ j ∧ j < 98 then -1 else if j = 51 ∨ j = 52 then 0 else if j = 11 ∨ j = 12 ∨ 83 ≤ j then ρc j else ρp j
theorem setl_p {ρp ρc : Row} {j : Int} (h : j < 83 ∧ j ≠ 11 ∧ j ≠ 12 ∧ j ≠ 51 ∧ j ≠ 52) : setlR ρp ρc j = ρp j := by
  unfold setlR; rw [if_neg (by omega), if_neg (by omega), if_neg (by omega)]
theorem setl_c {ρp ρc : Row} {j : Int} (h : j = 11 ∨ j = 12 ∨ (83 ≤ j ∧ ¬ (93 ≤ j ∧ j < 98))) : setlR ρp ρc j = ρc j := by
  unfold setlR; rw [if_neg (by omega), if_neg (by omega), if_pos (by omega)]
theorem setl_l {ρp ρc : Row} {j : Int} (h : 93 ≤ j ∧ j < 98) : setlR ρp ρc j = -1 := if_pos h
theorem setl_b {ρp ρc : Row} {j : Int} (h : j = 51 ∨ j = 52) : setlR ρp ρc j = 0 := by
  unfold setlR; rw [if_neg (by omega), if_pos h]
theorem setl_Pl (ρp ρc : Row) : PlEq ρp (setlR ρp ρc) := fun j hj => setl_p (by omega)
/-- what is settled is good -/
theorem WF.setl {ρp ρc : Row} (hp : WFP ρp) (hb : binsOK ρp) (h11 : 0 ≤ ρc 11 ∧ ρc 11 ≤ 5) (h12 : 0 ≤ ρc 12 ∧ ρc 12 ≤ 198) (hc : WFp ρc) : WF (setlR ρp ρc) := by
  have e11 : setlR ρp ρc 11 = ρc 11 := setl_c (by omega)
  have e12 : setlR ρp ρc 12 = ρc 12 := setl_c (by omega)
  have hn := hp.1
  unfold WFn at hn
  refine ⟨(setl_Pl ρp ρc).wfP hp (by rw [e11]; exact h11) (by rw [e12]; exact h12), fun b b0 b1 => ?_, fun k k0 k1 => ?_, fun i j i0 ij j1 _ => ?_⟩
  · rw [setl_p (j := 7) (by omega), setl_p (j := 47 + b) (by omega), setl_p (j := 49 + b) (by omega), setl_b (j := 51 + b) (by omega)]
    exact ⟨fun h => ⟨(hb b b0 h).1, (hb b b0 h).2, by have := (hb b b0 h).2; omega⟩, fun _ => rfl⟩
  · rw [e11] at k1
    obtain ⟨q1, q2, q3, q4, q5⟩ := hc k k0 k1
    rw [setl_c (j := 83 + k) (by omega), setl_c (j := 88 + k) (by omega), setl_l (j := 93 + k) (by omega), setl_c (j := 98 + k) (by omega), setl_p (j := 5) (by omega)]
    refine ⟨q1, q2, by omega, q4, fun i i0 i1 => ?_⟩
    rw [setl_c (j := 103 + 8 * k + i) (by omega)]
    exact q5 i i0 i1
  · rw [e11] at j1
    exact setl_l (by omega)
theorem W99.setl {ρp ρc : Row} (h : W99 ρc) (h11 : 0 ≤ ρc 11 ∧ ρc 11 ≤ 5) : W99 (setlR ρp ρc) := fun k k0 k1 => by
  rw [setl_c (j := 11) (by omega)] at k1
  rw [setl_c (by omega)]
  exact h k k0 k1
theorem DOK.wfP {D : PD} (h : DOK D) (he : E03 D.1) : WFP D.1 := by
  obtain ⟨a1, a2, a3, a4, a5, a6, a8, a9, a10, a11, a12, a13⟩ := h
  refine ⟨?_, a2, a3, a4, a5, a6⟩
  have h11 := a13 11 (by omega)
  have h12 := a13 12 (by omega)
  unfold cntOK at a1
  unfold E03 at he
  unfold WFn
  omega
abbrev setFl (G : Gh) (k : Int) : Gh := (G.1, G.2.1, G.2.2.1, G.2.2.2.1, G.2.2.2.2.1, 0, k, G.2.2.2.2.2.2.2)
abbrev setNew (G : Gh) (ρ : Row) : Gh := (ρ, [], G.2.2.1, G.2.2.2.1, G.2.2.2.2.1, 0, 0, G.2.2.2.2.2.2.2)
def planeF (G : Gh) : Int × Gh := if sE (planeR (gTp G, gTl G)).1 ≠ 0 then (-1000 - sP (planeR (gTp G, gTl G)).1, setFl G (sE (planeR (gTp G, gTl G)).1)) else ((planeR (gTp G, gTl G)).2.1 5, setNew G (setlR (planeR (gTp G, gTl G)).2.1 (gRow G)))
/-- the class behind a call that may change planes or cargoes -/
def XN (n_ : Sh) (μ μ2 : Mem) (G0 G : Gh) (p pd c cd : Nat) : Prop := ∃ p2 pd2 c2 cd2, InX n_ μ2 G p2 pd2 c2 cd2 ∧ Kp (fun a => 188 ≤ a) μ μ2 ∧ ((Kp (fun a => 172 ≤ a ∧ a < 182) μ μ2 ∧ SameT (gRow G0) (gRow G) ∧ p2 = p ∧ pd2 = pd ∧ c2 = c ∧ cd2 = cd) ∨ (μ2.1 172 0 = 0 ∧ Kp (fun a => 173 ≤ a ∧ a < 182) μ μ2))
theorem ref_no : ∀ q ∈ refL, ¬ (q.1 = 0 ∧ (q.2.1 = 2 ∨ q.2.1 = 3 ∨ q.2.1 = 4 ∨ q.2.1 = 5)) := by decide +kernel
theorem Lay.setR {μ : Mem} {j : Int} {r : Option Nat} (h : Lay μ.2.2) (hj : j = 2 ∨ j = 3 ∨ j = 4 ∨ j = 5) : Lay (setR μ 0 j r).2.2 := fun q hq => by
  have e := ref_no q hq
  show (if q.1 = 0 ∧ q.2.1 = j then r else μ.2.2 q.1 q.2.1) = _
  rw [if_neg (by omega)]
  exact h q hq
/-- all is out, in a cargo that is settled -/
theorem RelC.setl {sh : Sh} {μ : Mem} {c : Nat} {ρp ρc : Row} (h : RelC sh μ c ρc) (h11 : 0 ≤ ρc 11 ∧ ρc 11 ≤ 5) : RelC sh (clrPl μ c) c (setlR ρp ρc) := by
  obtain ⟨hC, e0, e5, e51, e52, eC⟩ := h
  have f4 : ∀ q : Nat, q ≠ c + 4 → q ≠ c + 5 → ∀ j, (clrPl μ c).1 q j = μ.1 q j := fun q h1 h2 j => by
    unfold clrPl fillI
    dsimp only
    rw [if_neg (by omega), if_neg (by omega)]
  refine ⟨hC, ?_, ?_, ?_, ?_, fun k k0 k1 => ?_⟩
  · rw [f4 c (by omega) (by omega), setl_c (by omega)]; exact e0
  · rw [f4 c (by omega) (by omega), setl_c (by omega)]; exact e5
  · rw [setl_b (by omega)]; unfold clrPl fillI; dsimp only; rw [if_pos (by omega)]
  · rw [setl_b (by omega)]; unfold clrPl fillI; dsimp only; rw [if_pos (by omega)]
  · rw [setl_c (by omega)] at k1
    have q := eC k k0 k1
    rw [f4 (c + 2) (by omega) (by omega), f4 (c + 3) (by omega) (by omega), setl_c (by omega), setl_c (by omega), setl_l (by omega)]
    refine ⟨q.1, q.2.1, ?_, ?_⟩
    · unfold clrPl fillI; dsimp only; rw [if_neg (by omega), if_pos (by omega)]
    · rw [show (clrPl μ c).2.1 (c + 1) k = μ.2.1 (c + 1) k from rfl, q.2.2.2]
      unfold pkF
      rw [setl_c (by omega)]
      unfold pkN
      exact fld_congr _ _ _ fun i a i0 i1 => by dsimp only; rw [setl_c (by omega)]
theorem x_startAnew {μ : Mem} {c : Nat} (hL : Lay μ.2.2) (hc : μ.2.2 0 4 = some c) (hC : IsCargo (SH n_) μ.2.2 c)  : FMet yX11_startAnew gX11_startAnew (SH n_) [vR 0] μ none (setI (setI (clrPl μ c) 62 2 0) 172 0 0) := by
  have rr6 := hL.r0_6
  have rr9 := hL.r0_9
  have x0 : (SH n_)[0]? = some (10, 11) := rfl
  have x62 : (SH n_)[62]? = some (2, 3) := rfl
  have x172 : (SH n_)[172]? = some (7, 15) := rfl
  obtain ⟨h0, -⟩ := id hC
  refine AMet.of (by decide) rfl (by decide) rfl ?_
  refine r_aload_n dX11_startAnew_0 rfl ?_
  refine r_getR dX11_startAnew_1 fl_X11_29 rfl (by assumption) (by assumption) ?_
  refine r_cV0F0 dX11_startAnew_4 ml_X11_316 yl_X0_clearPlaces ⟨rfl, rfl⟩ (by assumption) ⟨_, rfl⟩ rfl rfl rfl rfl (c_clearPlaces hC) ?_
  refine r_aload_n dX11_startAnew_7 rfl ?_
  refine r_getR dX11_startAnew_8 fl_X11_39 rfl (by assumption) (by assumption) ?_
  refine r_iconst dX11_startAnew_11 ?_
  refine r_putI dX11_startAnew_12 fl_X11_293 (by assumption) ?_
  refine r_aload_n dX11_startAnew_15 rfl ?_
  refine r_getR dX11_startAnew_16 fl_X11_56 rfl (by assumption) (by assumption) ?_
  refine r_cV0F0 dX11_startAnew_19 ml_X11_283 yl_X8_forget ⟨rfl, rfl⟩ (by assumption) ⟨_, rfl⟩ rfl rfl rfl rfl (c_forget) ?_
  refine r_return dX11_startAnew_22 rfl rfl rfl ?_
  exact ⟨rfl, rfl, rfl⟩
theorem x_plane {μ : Mem} {G : Gh} {p pd c cd : Nat} (hX : InX n_ μ G p pd c cd)  : IMet yX11_plane gX11_plane (SH n_) [vR 0] μ (fun x μ2 => x = (planeF G).1 ∧ XN n_ μ μ2 G (planeF G).2 p pd c cd) := by
  obtain ⟨hL, hPos, ⟨hP, hC, hw, h99⟩, hH, ⟨hi0, hi1⟩, hT, hFk, hTm⟩ := id hX
  obtain ⟨hp0, hc0, r2, r3, r4, r5⟩ := id hPos
  have rr0 := hL.r0_0
  have rr6 := hL.r0_6
  have rr7 := hL.r0_7
  have rr8 := hL.r0_8
  have rr9 := hL.r0_9
  have rr10 := hL.r0_10
  have rt := hL.r1_0
  have x0 : (SH n_)[0]? = some (10, 11) := rfl
  have x1 : (SH n_)[1]? = some (6, 4) := rfl
  have x2 : (SH n_)[2]? = some (8, 7) := rfl
  have x62 : (SH n_)[62]? = some (2, 3) := rfl
  have x172 : (SH n_)[172]? = some (7, 15) := rfl
  obtain ⟨hIC, e0, e5, e51, e52, eC⟩ := id hC
  obtain ⟨h0, h1, h2, h3, h4, h6, s1, s2, s3, s4, s5⟩ := id hIC
  have hn := hw.1.1
  unfold WFn at hn
  have hwl := hw.wl
  have hc5 : c = 50 ∨ c = 56 := by omega
  have x3 : (SH n_)[3]? = some (20, 540) := rfl
  have hpd : pd = 4 ∨ pd = 27 := by omega
  have hPd : IsPlane (SH n_) μ.2.2 pd := by
    rcases hpd with rfl | rfl
    · exact hL.p4
    · exact hL.p27
  have hrp := x_readPlane (n_ := n_) (T := (gTp G, gTl G)) hL hT hpd hPd
  obtain ⟨ok1, ok2, ok3⟩ := planeR_ok (T := (gTp G, gTl G)) hT.2.1
  have hN : planeF G = if sE (planeR (gTp G, gTl G)).1 ≠ 0 then (-1000 - sP (planeR (gTp G, gTl G)).1, setFl G (sE (planeR (gTp G, gTl G)).1)) else ((planeR (gTp G, gTl G)).2.1 5, setNew G (setlR (planeR (gTp G, gTl G)).2.1 (gRow G))) := rfl
  generalize planeR (gTp G, gTl G) = r at *
  have ok1e := ok1
  unfold SgOK at ok1e
  rw [hN]
  refine AMet.of (by decide) rfl (by decide) rfl ?_
  refine r_aload_n dX11_plane_0 rfl ?_
  refine r_getR dX11_plane_1 fl_X11_10 rfl (by assumption) (by assumption) ?_
  refine r_aload_n dX11_plane_4 rfl ?_
  refine r_getR dX11_plane_5 fl_X11_23 rfl (by assumption) (by assumption) ?_
  refine r_cV1N dX11_plane_8 ml_X11_81 yl_X6_readPlane ⟨rfl, rfl⟩ (by assumption) ⟨_, rfl⟩ rfl rfl rfl rfl (hrp) ?_
  rintro μ4 ⟨μ3, rfl, ⟨-, hP3⟩, hk3, hR3⟩
  have rr6 : μ3.2.2 0 6 = some 62 := by rw [hR3]; exact rr6
  have rr9 : μ3.2.2 0 9 = some 172 := by rw [hR3]; exact rr9
  have rr0 : μ3.2.2 0 0 = some 1 := by rw [hR3]; exact rr0
  have rt : μ3.2.2 1 0 = some 2 := by rw [hR3]; exact rt
  have r2 : μ3.2.2 0 2 = some p := by rw [hR3]; exact r2
  have r3 : μ3.2.2 0 3 = some pd := by rw [hR3]; exact r3
  have r4 : μ3.2.2 0 4 = some c := by rw [hR3]; exact r4
  have hb0 : Kp (fun q => q ≠ 1 ∧ ¬ (pd ≤ q ∧ q < pd + 23) ∧ q ≠ 2 ∧ q ≠ 0) μ (setI (setI (wTok μ3 r.1) 2 1 0) 0 1 (sE r.1)) := (((hk3.mono (fun q hq => by (try dsimp only at *); omega)).wt (by (try dsimp only); omega)).sI (by (try dsimp only); omega)).sI (by (try dsimp only); omega)
  refine r_aload_n dX11_plane_11 rfl ?_
  refine r_aload_n dX11_plane_12 rfl ?_
  refine r_getR dX11_plane_13 fl_X11_10 rfl (by assumption) (by assumption) ?_
  refine r_getR dX11_plane_16 fl_X11_67 rfl (by assumption) (by assumption) ?_
  refine r_getI dX11_plane_19 fl_X11_85 rfl (by assumption) ?_
  (try simp (disch := omega) only [sI_at, sI_ne, sI_nj, wt2, wt3, mkE, mkP])
  refine r_putI dX11_plane_22 fl_X11_88 (by assumption) ?_
  refine r_aload_n dX11_plane_25 rfl ?_
  refine r_getI dX11_plane_26 fl_X11_88 rfl (by assumption) ?_
  (try simp (disch := omega) only [sI_at, sI_ne, sI_nj, wt2, wt3, mkE, mkP])
  refine q_if_eq (tgt := 47) dX11_plane_29 rfl (by omega) (fun c29 => ?_) (fun c29 => ?_)
  · have hL3 : Lay (setI (setI (wTok μ3 r.1) 2 1 0) 0 1 (sE r.1)).2.2 := by show Lay μ3.2.2; rw [hR3]; exact hL
    have hLn := (hL3.setR (r := some pd) (Or.inl rfl)).setR (r := some p) (Or.inr (Or.inl rfl))
    have hIC3 : IsCargo (SH n_) (setR (setR (setI (setI (wTok μ3 r.1) 2 1 0) 0 1 (sE r.1)) 0 2 (some pd)) 0 3 (some p)).2.2 c := by
      rcases hc5 with h | h
      · rw [h]; exact hLn.c50
      · rw [h]; exact hLn.c56
    have hIPn : IsPlane (SH n_) (setR (setR (setI (setI (wTok μ3 r.1) 2 1 0) 0 1 (sE r.1)) 0 2 (some pd)) 0 3 (some p)).2.2 pd := by
      rcases hpd with h | h
      · rw [h]; exact hLn.p4
      · rw [h]; exact hLn.p27
    obtain ⟨n0, n5, n6, n7, n8, k1, k2, hIFn, hIVn⟩ := id hIPn
    have hIFn0 := hIFn.1
    have r2n : (setR (setR (setI (setI (wTok μ3 r.1) 2 1 0) 0 1 (sE r.1)) 0 2 (some pd)) 0 3 (some p)).2.2 0 2 = some pd := by
      show (if (0 : Nat) = 0 ∧ (2 : Int) = 3 then some p else if (0 : Nat) = 0 ∧ (2 : Int) = 2 then some pd else μ3.2.2 0 2) = some pd
      rw [if_neg (by omega), if_pos ⟨rfl, rfl⟩]
    refine r_aload_n dX11_plane_47 rfl ?_
    refine r_getR dX11_plane_48 fl_X11_19 rfl (by assumption) (by assumption) ?_
    refine r_astore_n dX11_plane_51 rfl ?_
    refine r_aload_n dX11_plane_52 rfl ?_
    refine r_aload_n dX11_plane_53 rfl ?_
    refine r_getR dX11_plane_54 fl_X11_23 rfl (by assumption) (by assumption) ?_
    refine r_putR dX11_plane_57 fl_X11_19 rfl (by assumption) ?_
    refine r_aload_n dX11_plane_60 rfl ?_
    refine r_aload_n dX11_plane_61 rfl ?_
    refine r_putR dX11_plane_62 fl_X11_23 rfl (by assumption) ?_
    refine r_aload_n dX11_plane_65 rfl ?_
    refine r_cV0F0 dX11_plane_66 ml_X11_94 yl_X11_startAnew ⟨rfl, rfl⟩ (by assumption) ⟨_, rfl⟩ rfl rfl rfl rfl (x_startAnew (c := c) ((hL3.setR (Or.inl rfl)).setR (Or.inr (Or.inl rfl))) (by show (if (0 : Nat) = 0 ∧ (4 : Int) = 3 then some p else if (0 : Nat) = 0 ∧ (4 : Int) = 2 then some pd else μ3.2.2 0 4) = some c; rw [if_neg (by omega), if_neg (by omega)]; exact r4) hIC3) ?_
    have rr7x : True := trivial
    refine r_aload_n dX11_plane_69 rfl ?_
    refine r_getR dX11_plane_70 fl_X11_19 rfl (by assumption) (by assumption) ?_
    refine r_getR dX11_plane_73 fl_X11_97 rfl (by assumption) (by assumption) ?_
    refine r_getI dX11_plane_76 fl_X11_101 rfl (by assumption) ?_
    (try simp (disch := omega) only [sI_at, sI_ne, sI_nj, wt2, wt3, mkE, mkP])
    refine r_ireturn dX11_plane_79 rfl rfl rfl ?_
    refine ⟨rfl, _, rfl, ?_⟩
    rw [if_neg (show ¬ sE r.1 ≠ 0 by omega)]
    have hE := ok3 (by omega)
    have hwP := ok2.wfP hE
    have hb2 : Kp (fun q => q ≠ 1 ∧ ¬ (pd ≤ q ∧ q < pd + 23) ∧ q ≠ 2 ∧ q ≠ 0 ∧ ¬ (c + 4 ≤ q ∧ q < c + 6) ∧ q ≠ 62 ∧ q ≠ 172) μ (setI (setI (clrPl (setR (setR (setI (setI (wTok μ3 r.1) 2 1 0) 0 1 (sE r.1)) 0 2 (some pd)) 0 3 (some p)) c) 62 2 0) 172 0 0) := ((((((hb0.mono (fun q hq => by (try dsimp only at *); omega)).sR (by (try dsimp only); omega)).sR (by (try dsimp only); omega)).sF (by (try dsimp only); omega)).sF (by (try dsimp only); omega)).sI (by (try dsimp only); omega)).sI (by (try dsimp only); omega)
    have hb3 : Kp (fun q => pd ≤ q ∧ q < pd + 23) μ3 (setI (setI (clrPl (setR (setR (setI (setI (wTok μ3 r.1) 2 1 0) 0 1 (sE r.1)) 0 2 (some pd)) 0 3 (some p)) c) 62 2 0) 172 0 0) := (((((((((Kp.rf _ μ3).wt (by (try dsimp only); omega)).sI (by (try dsimp only); omega)).sI (by (try dsimp only); omega)).sR (by (try dsimp only); omega)).sR (by (try dsimp only); omega)).sF (by (try dsimp only); omega)).sF (by (try dsimp only); omega)).sI (by (try dsimp only); omega)).sI (by (try dsimp only); omega)
    have hRC : RelC (SH n_) (setI (setI (clrPl (setR (setR (setI (setI (wTok μ3 r.1) 2 1 0) 0 1 (sE r.1)) 0 2 (some pd)) 0 3 (some p)) c) 62 2 0) 172 0 0) c (setlR r.2.1 (gRow G)) := by
      have h1 : RelC (SH n_) (setR (setR (setI (setI (wTok μ3 r.1) 2 1 0) 0 1 (sE r.1)) 0 2 (some pd)) 0 3 (some p)) c (gRow G) := hC.mono ((((hb0.mono (fun q hq => by (try dsimp only at *); omega)).sR (by (try dsimp only); omega)).sR (by (try dsimp only); omega)))
      exact (h1.setl (by omega)).mono (((Kp.rf _ _).sI (by (try dsimp only); omega)).sI (by (try dsimp only); omega))
    refine ⟨?_, pd, p, c, cd, ⟨(hL3.setR (Or.inl rfl)).setR (Or.inr (Or.inl rfl)), ⟨by omega, hPos.2.1, ?_, ?_, ?_, ?_⟩, ⟨(hP3.mono hb3).row hwP (setl_Pl _ _), hRC, WF.setl hwP ok2.2.2.2.2.2.2.2.1 (by omega) (by omega) hw.2.2.1, h99.setl (by omega)⟩, ⟨Nat.zero_le _, ?_, ?_, fun t u h => absurd h (by show ¬ ([] : List Row)[t]? = some u; simp)⟩, ⟨hi0.mono (hb2.mono (fun q hq => by (try dsimp only at *); omega)), hi1.mono (hb2.mono (fun q hq => by (try dsimp only at *); omega))⟩, ⟨?_, ⟨Int.le_refl _, by show (0 : Int) ≤ 540; omega⟩, fun i i0 i1 => ?_⟩, ⟨?_, by show (0 : Int) ≤ 0; omega, by show (0 : Int) ≤ 5; omega⟩, hTm.mono (congrFun (hb2 182 (by (try dsimp only); omega)).1 1) (hb2 183 (by (try dsimp only); omega)).1⟩, hb2.mono (fun q hq => by (try dsimp only at *); omega), Or.inr ?_⟩
    · have q := (hP3.2.2.2.2.2.2.2.1).2.2.2.1
      have q2 := congrFun (hb3 (pd + 3) (by (try dsimp only); omega)).1 4
      simp (disch := omega) only [sI_ne] at q2
      exact q2.trans q
    · show (if (0 : Nat) = 0 ∧ (2 : Int) = 3 then some p else if (0 : Nat) = 0 ∧ (2 : Int) = 2 then some pd else μ3.2.2 0 2) = some pd
      rw [if_neg (by omega), if_pos ⟨rfl, rfl⟩]
    · show (if (0 : Nat) = 0 ∧ (3 : Int) = 3 then some p else if (0 : Nat) = 0 ∧ (3 : Int) = 2 then some pd else μ3.2.2 0 3) = some p
      rw [if_pos ⟨rfl, rfl⟩]
    · show (if (0 : Nat) = 0 ∧ (4 : Int) = 3 then some p else if (0 : Nat) = 0 ∧ (4 : Int) = 2 then some pd else μ3.2.2 0 4) = some c
      rw [if_neg (by omega), if_neg (by omega)]
      exact r4
    · show (if (0 : Nat) = 0 ∧ (5 : Int) = 3 then some p else if (0 : Nat) = 0 ∧ (5 : Int) = 2 then some pd else μ3.2.2 0 5) = some cd
      rw [if_neg (by omega), if_neg (by omega), hR3]
      exact r5
    · rw [sI_ne (by omega), sI_at]; rfl
    · have q : ((setI (setI (clrPl (setR (setR (setI (setI (wTok μ3 r.1) 2 1 0) 0 1 (sE r.1)) 0 2 (some pd)) 0 3 (some p)) c) 62 2 0) 172 0 0)).1 62 1 = μ.1 62 1 := by
        have h0 := congrFun (hb0 62 (by (try dsimp only); omega)).1 1
        rw [sI_ne (by omega), sI_nj (by omega), ← h0]
        unfold clrPl fillI
        dsimp only
        rw [if_neg (by omega), if_neg (by omega)]
        rfl
      rw [q]
      exact hH.2.2.1
    · rw [sI_ne (by omega), sI_ne (by omega)]
      unfold clrPl fillI
      dsimp only
      rw [if_neg (by omega), if_neg (by omega)]
      show (setI (setI (wTok μ3 r.1) 2 1 0) 0 1 (sE r.1)).1 2 1 = 0
      simp (disch := omega) only [sI_at, sI_ne, sI_nj, sI_L, sL_at, sL_ne, sL_nj, sL_I]
    · exact absurd i1 (by show ¬ i < (0 : Int); omega)
    · rw [sI_ne (by omega), sI_ne (by omega)]
      unfold clrPl fillI
      dsimp only
      rw [if_neg (by omega), if_neg (by omega)]
      show (setI (setI (wTok μ3 r.1) 2 1 0) 0 1 (sE r.1)).1 0 1 = 0
      rw [sI_at]
      omega
    · exact ⟨sI_at, hb2.mono (fun q hq => by (try dsimp only at *); omega)⟩
  · refine r_sipush dX11_plane_32 (by decide) ?_
    refine r_aload_n dX11_plane_35 rfl ?_
    refine r_getR dX11_plane_36 fl_X11_10 rfl (by assumption) (by assumption) ?_
    refine r_getR dX11_plane_39 fl_X11_67 rfl (by assumption) (by assumption) ?_
    refine r_getI dX11_plane_42 fl_X11_91 rfl (by assumption) ?_
    (try simp (disch := omega) only [sI_at, sI_ne, sI_nj, wt2, wt3, mkE, mkP])
    refine r_isub dX11_plane_45 ?_
    refine r_ireturn dX11_plane_46 rfl rfl rfl ?_
    refine ⟨rfl, _, rfl, ?_⟩
    rw [if_pos (show sE r.1 ≠ 0 by omega)]
    refine ⟨rfl, p, pd, c, cd, ⟨by show Lay μ3.2.2; rw [hR3]; exact hL, by show PosX μ3.2.2 p pd c cd; rw [hR3]; exact hPos, ⟨hP.mono (hb0.mono (fun q hq => by (try dsimp only at *); omega)), hC.mono (hb0.mono (fun q hq => by (try dsimp only at *); omega)), hw, h99⟩, hH.mono (hb0.mono (fun q hq => by (try dsimp only at *); omega)), ⟨hi0.mono (hb0.mono (fun q hq => by (try dsimp only at *); omega)), hi1.mono (hb0.mono (fun q hq => by (try dsimp only at *); omega))⟩, ⟨?_, ⟨Int.le_refl _, by show (0 : Int) ≤ 540; omega⟩, fun i i0 i1 => ?_⟩, ⟨sI_at, by show (0 : Int) ≤ sE r.1; omega, by show sE r.1 ≤ (5 : Int); omega⟩, hTm.mono (congrFun (hb0 182 (by (try dsimp only); omega)).1 1) (hb0 183 (by (try dsimp only); omega)).1⟩, hb0.mono (fun q hq => by (try dsimp only at *); omega), Or.inl ⟨hb0.mono (fun q hq => by (try dsimp only at *); omega), fun _ _ _ _ => rfl, rfl, rfl, rfl, rfl⟩⟩
    · simp (disch := omega) only [sI_at, sI_ne, sI_nj, sI_L, sL_at, sL_ne, sL_nj, sL_I]
    · exact absurd i1 (by show ¬ i < (0 : Int); omega)


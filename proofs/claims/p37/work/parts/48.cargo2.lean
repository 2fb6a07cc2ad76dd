/-! 48.cargo2: taken from whole (wip/p37/port.py) -/
variable {n_ : Sh}
/-! 48.cargo2: a cargo is read, in the class (wip/whole/src/48_cargo2.py) -/
theorem x_cargo {μ : Mem} {G : Gh} {p pd c cd : Nat} (hX : InX n_ μ G p pd c cd)  : IMet yX11_cargo gX11_cargo (SH n_) [vR 0] μ (fun x μ2 => x = (cargoF G).1 ∧ XN n_ μ μ2 G (cargoF G).2 p pd c cd) := by
  obtain ⟨hL, hPos, ⟨hP, hC, hw, h99⟩, hH, ⟨hi0, hi1⟩, hT, hFk, hTm⟩ := id hX
  obtain ⟨hp0, hc0, r2, r3, r4, r5⟩ := id hPos
  have rr0 := hL.r0_0
  have rr6 := hL.r0_6
  have rr7 := hL.r0_7
  have rr8 := hL.r0_8
  have rr9 := hL.r0_9
  have rr10 := hL.r0_10
  have rt := hL.r1_0
  have x0 : (SH n_)[0]? = some (10, 11) := rfl
  have x1 : (SH n_)[1]? = some (6, 4) := rfl
  have x2 : (SH n_)[2]? = some (8, 7) := rfl
  have x62 : (SH n_)[62]? = some (2, 3) := rfl
  have x172 : (SH n_)[172]? = some (7, 15) := rfl
  have hn := hw.1.1
  unfold WFn at hn
  have hwl := hw.wl
  have hc5 : c = 50 ∨ c = 56 := by omega
  have x3 : (SH n_)[3]? = some (20, 540) := rfl
  have hcd : cd = 50 ∨ cd = 56 := by omega
  have hpc := hPos.pc
  have hCd : IsCargo (SH n_) μ.2.2 cd := by
    rcases hcd with rfl | rfl
    · exact hL.c50
    · exact hL.c56
  have hrp := x_readCargo (n_ := n_) (T := (gTp G, gTl G)) hL hT hcd hCd
  obtain ⟨ok1, ok2, ok3⟩ := cargoR_ok (T := (gTp G, gTl G)) hT.2.1
  have hN : cargoF G = if sE (cargoR (gTp G, gTl G)).1 ≠ 0 then (-1000 - sP (cargoR (gTp G, gTl G)).1, setFl G (sE (cargoR (gTp G, gTl G)).1)) else ((cargoR (gTp G, gTl G)).2.1 11, setNew G (setlR (gRow G) (cargoR (gTp G, gTl G)).2.1)) := rfl
  generalize cargoR (gTp G, gTl G) = r at *
  have ok1e := ok1
  unfold SgOK at ok1e
  rw [hN]
  refine AMet.of (by decide) rfl (by decide) rfl ?_
  refine r_aload_n dX11_cargo_0 rfl ?_
  refine r_getR dX11_cargo_1 fl_X11_10 rfl (by assumption) (by assumption) ?_
  refine r_aload_n dX11_cargo_4 rfl ?_
  refine r_getR dX11_cargo_5 fl_X11_33 rfl (by assumption) (by assumption) ?_
  refine r_cV1N dX11_cargo_8 ml_X11_106 yl_X6_readCargo ⟨rfl, rfl⟩ (by assumption) ⟨_, rfl⟩ rfl rfl rfl rfl (hrp) ?_
  rintro μ4 ⟨μ3, rfl, hP3, hk3, hR3⟩
  have rr6 : μ3.2.2 0 6 = some 62 := by rw [hR3]; exact rr6
  have rr9 : μ3.2.2 0 9 = some 172 := by rw [hR3]; exact rr9
  have rr0 : μ3.2.2 0 0 = some 1 := by rw [hR3]; exact rr0
  have rt : μ3.2.2 1 0 = some 2 := by rw [hR3]; exact rt
  have r2 : μ3.2.2 0 2 = some p := by rw [hR3]; exact r2
  have r3 : μ3.2.2 0 3 = some pd := by rw [hR3]; exact r3
  have r4 : μ3.2.2 0 4 = some c := by rw [hR3]; exact r4
  have r5 : μ3.2.2 0 5 = some cd := by rw [hR3]; exact r5
  have hb0 : Kp (fun q => q ≠ 1 ∧ ¬ (cd ≤ q ∧ q < cd + 6) ∧ q ≠ 2 ∧ q ≠ 0) μ (setI (setI (wTok μ3 r.1) 2 1 0) 0 1 (sE r.1)) := (((hk3.mono (fun q hq => by (try dsimp only at *); omega)).wt (by (try dsimp only); omega)).sI (by (try dsimp only); omega)).sI (by (try dsimp only); omega)
  refine r_aload_n dX11_cargo_11 rfl ?_
  refine r_aload_n dX11_cargo_12 rfl ?_
  refine r_getR dX11_cargo_13 fl_X11_10 rfl (by assumption) (by assumption) ?_
  refine r_getR dX11_cargo_16 fl_X11_67 rfl (by assumption) (by assumption) ?_
  refine r_getI dX11_cargo_19 fl_X11_85 rfl (by assumption) ?_
  (try simp (disch := omega) only [sI_at, sI_ne, sI_nj, wt2, wt3, mkE, mkP])
  refine r_putI dX11_cargo_22 fl_X11_88 (by assumption) ?_
  refine r_aload_n dX11_cargo_25 rfl ?_
  refine r_getI dX11_cargo_26 fl_X11_88 rfl (by assumption) ?_
  (try simp (disch := omega) only [sI_at, sI_ne, sI_nj, wt2, wt3, mkE, mkP])
  refine q_if_eq (tgt := 47) dX11_cargo_29 rfl (by omega) (fun c29 => ?_) (fun c29 => ?_)
  · have hL3 : Lay (setI (setI (wTok μ3 r.1) 2 1 0) 0 1 (sE r.1)).2.2 := by show Lay μ3.2.2; rw [hR3]; exact hL
    have hLn := (hL3.setR (r := some cd) (Or.inr (Or.inr (Or.inl rfl)))).setR (r := some c) (Or.inr (Or.inr (Or.inr rfl)))
    have hIC3 : IsCargo (SH n_) (setR (setR (setI (setI (wTok μ3 r.1) 2 1 0) 0 1 (sE r.1)) 0 4 (some cd)) 0 5 (some c)).2.2 cd := by
      rcases hcd with h | h
      · rw [h]; exact hLn.c50
      · rw [h]; exact hLn.c56
    obtain ⟨n0, -⟩ := id hIC3
    have r4n : (setR (setR (setI (setI (wTok μ3 r.1) 2 1 0) 0 1 (sE r.1)) 0 4 (some cd)) 0 5 (some c)).2.2 0 4 = some cd := by
      show (if (0 : Nat) = 0 ∧ (4 : Int) = 5 then some c else if (0 : Nat) = 0 ∧ (4 : Int) = 4 then some cd else μ3.2.2 0 4) = some cd
      rw [if_neg (by omega), if_pos ⟨rfl, rfl⟩]
    refine r_aload_n dX11_cargo_47 rfl ?_
    refine r_getR dX11_cargo_48 fl_X11_29 rfl (by assumption) (by assumption) ?_
    refine r_astore_n dX11_cargo_51 rfl ?_
    refine r_aload_n dX11_cargo_52 rfl ?_
    refine r_aload_n dX11_cargo_53 rfl ?_
    refine r_getR dX11_cargo_54 fl_X11_33 rfl (by assumption) (by assumption) ?_
    refine r_putR dX11_cargo_57 fl_X11_29 rfl (by assumption) ?_
    refine r_aload_n dX11_cargo_60 rfl ?_
    refine r_aload_n dX11_cargo_61 rfl ?_
    refine r_putR dX11_cargo_62 fl_X11_33 rfl (by assumption) ?_
    refine r_aload_n dX11_cargo_65 rfl ?_
    refine r_cV0F0 dX11_cargo_66 ml_X11_94 yl_X11_startAnew ⟨rfl, rfl⟩ (by assumption) ⟨_, rfl⟩ rfl rfl rfl rfl (x_startAnew (c := cd) hLn r4n hIC3) ?_
    refine r_aload_n dX11_cargo_69 rfl ?_
    refine r_getR dX11_cargo_70 fl_X11_29 rfl (by assumption) (by assumption) ?_
    refine r_getI dX11_cargo_73 fl_X11_110 rfl (by assumption) ?_
    (try simp (disch := omega) only [sI_at, sI_ne, sI_nj, wt2, wt3, mkE, mkP])
    refine r_ireturn dX11_cargo_76 rfl rfl rfl ?_
    refine ⟨rfl, _, rfl, ?_⟩
    rw [if_neg (show ¬ sE r.1 ≠ 0 by omega)]
    have h198 := ok3 (by omega)
    obtain ⟨k11, k12, k5, k93, kp, k99, -, -⟩ := ok2
    have hb2 : Kp (fun q => q ≠ 1 ∧ ¬ (cd ≤ q ∧ q < cd + 6) ∧ q ≠ 2 ∧ q ≠ 0 ∧ q ≠ 62 ∧ q ≠ 172) μ (setI (setI (clrPl (setR (setR (setI (setI (wTok μ3 r.1) 2 1 0) 0 1 (sE r.1)) 0 4 (some cd)) 0 5 (some c)) cd) 62 2 0) 172 0 0) := ((((((hb0.mono (fun q hq => by (try dsimp only at *); omega)).sR (by (try dsimp only); omega)).sR (by (try dsimp only); omega)).sF (by (try dsimp only); omega)).sF (by (try dsimp only); omega)).sI (by (try dsimp only); omega)).sI (by (try dsimp only); omega)
    have hRC : RelC (SH n_) (setI (setI (clrPl (setR (setR (setI (setI (wTok μ3 r.1) 2 1 0) 0 1 (sE r.1)) 0 4 (some cd)) 0 5 (some c)) cd) 62 2 0) 172 0 0) cd (setlR (gRow G) r.2.1) := by
      have h1 : RelC (SH n_) (setR (setR (setI (setI (wTok μ3 r.1) 2 1 0) 0 1 (sE r.1)) 0 4 (some cd)) 0 5 (some c)) cd r.2.1 := hP3.1.mono ((((((Kp.rf _ μ3).wt (by (try dsimp only); omega)).sI (by (try dsimp only); omega)).sI (by (try dsimp only); omega)).sR (by (try dsimp only); omega)).sR (by (try dsimp only); omega))
      exact (h1.setl (by omega)).mono (((Kp.rf _ _).sI (by (try dsimp only); omega)).sI (by (try dsimp only); omega))
    have hbn : binsOK (gRow G) := fun b b0 b1 => ⟨((hw.2.1 b b0 (by omega)).1 b1).1, ((hw.2.1 b b0 (by omega)).1 b1).2.1⟩
    refine ⟨?_, p, pd, cd, c, ⟨hLn, ⟨hPos.1, by omega, ?_, ?_, ?_, ?_⟩, ⟨(hP.mono (hb2.mono (fun q hq => by (try dsimp only at *); omega))).row hw.1 (setl_Pl _ _), hRC, WF.setl hw.1 hbn k11 (by omega) kp, W99.setl k99 k11⟩, ⟨Nat.zero_le _, ?_, ?_, fun t u h => absurd h (by show ¬ ([] : List Row)[t]? = some u; simp)⟩, ⟨hi0.mono (hb2.mono (fun q hq => by (try dsimp only at *); omega)), hi1.mono (hb2.mono (fun q hq => by (try dsimp only at *); omega))⟩, ⟨?_, ⟨Int.le_refl _, by show (0 : Int) ≤ 540; omega⟩, fun i i0 i1 => ?_⟩, ⟨?_, by show (0 : Int) ≤ 0; omega, by show (0 : Int) ≤ 5; omega⟩, hTm.mono (congrFun (hb2 182 (by (try dsimp only); omega)).1 1) (hb2 183 (by (try dsimp only); omega)).1⟩, hb2.mono (fun q hq => by (try dsimp only at *); omega), Or.inr ?_⟩
    · have q := hRC.2.1
      rw [setl_c (by omega)] at q
      simp (disch := omega) only [sI_ne] at q
      exact q
    · show (if (0 : Nat) = 0 ∧ (2 : Int) = 5 then some c else if (0 : Nat) = 0 ∧ (2 : Int) = 4 then some cd else μ3.2.2 0 2) = some p
      rw [if_neg (by omega), if_neg (by omega)]
      exact r2
    · show (if (0 : Nat) = 0 ∧ (3 : Int) = 5 then some c else if (0 : Nat) = 0 ∧ (3 : Int) = 4 then some cd else μ3.2.2 0 3) = some pd
      rw [if_neg (by omega), if_neg (by omega)]
      exact r3
    · exact r4n
    · show (if (0 : Nat) = 0 ∧ (5 : Int) = 5 then some c else if (0 : Nat) = 0 ∧ (5 : Int) = 4 then some cd else μ3.2.2 0 5) = some c
      rw [if_pos ⟨rfl, rfl⟩]
    · rw [sI_ne (by omega), sI_at]; rfl
    · have q : ((setI (setI (clrPl (setR (setR (setI (setI (wTok μ3 r.1) 2 1 0) 0 1 (sE r.1)) 0 4 (some cd)) 0 5 (some c)) cd) 62 2 0) 172 0 0)).1 62 1 = μ.1 62 1 := by
        have h0 := congrFun (hb0 62 (by (try dsimp only); omega)).1 1
        rw [sI_ne (by omega), sI_nj (by omega), ← h0]
        unfold clrPl fillI
        dsimp only
        rw [if_neg (by omega), if_neg (by omega)]
        rfl
      rw [q]
      exact hH.2.2.1
    · rw [sI_ne (by omega), sI_ne (by omega)]
      unfold clrPl fillI
      dsimp only
      rw [if_neg (by omega), if_neg (by omega)]
      show (setI (setI (wTok μ3 r.1) 2 1 0) 0 1 (sE r.1)).1 2 1 = 0
      simp (disch := omega) only [sI_at, sI_ne, sI_nj, sI_L, sL_at, sL_ne, sL_nj, sL_I]
    · exact absurd i1 (by show ¬ i < (0 : Int); omega)
    · rw [sI_ne (by omega), sI_ne (by omega)]
      unfold clrPl fillI
      dsimp only
      rw [if_neg (by omega), if_neg (by omega)]
      show (setI (setI (wTok μ3 r.1) 2 1 0) 0 1 (sE r.1)).1 0 1 = 0
      rw [sI_at]
      omega
    · exact ⟨sI_at, hb2.mono (fun q hq => by (try dsimp only at *); omega)⟩
  · refine r_sipush dX11_cargo_32 (by decide) ?_
    refine r_aload_n dX11_cargo_35 rfl ?_
    refine r_getR dX11_cargo_36 fl_X11_10 rfl (by assumption) (by assumption) ?_
    refine r_getR dX11_cargo_39 fl_X11_67 rfl (by assumption) (by assumption) ?_
    refine r_getI dX11_cargo_42 fl_X11_91 rfl (by assumption) ?_
    (try simp (disch := omega) only [sI_at, sI_ne, sI_nj, wt2, wt3, mkE, mkP])
    refine r_isub dX11_cargo_45 ?_
    refine r_ireturn dX11_cargo_46 rfl rfl rfl ?_
    refine ⟨rfl, _, rfl, ?_⟩
    rw [if_pos (show sE r.1 ≠ 0 by omega)]
    refine ⟨rfl, p, pd, c, cd, ⟨by show Lay μ3.2.2; rw [hR3]; exact hL, by show PosX μ3.2.2 p pd c cd; rw [hR3]; exact hPos, ⟨hP.mono (hb0.mono (fun q hq => by (try dsimp only at *); omega)), hC.mono (hb0.mono (fun q hq => by (try dsimp only at *); omega)), hw, h99⟩, hH.mono (hb0.mono (fun q hq => by (try dsimp only at *); omega)), ⟨hi0.mono (hb0.mono (fun q hq => by (try dsimp only at *); omega)), hi1.mono (hb0.mono (fun q hq => by (try dsimp only at *); omega))⟩, ⟨?_, ⟨Int.le_refl _, by show (0 : Int) ≤ 540; omega⟩, fun i i0 i1 => ?_⟩, ⟨sI_at, by show (0 : Int) ≤ sE r.1; omega, by show sE r.1 ≤ (5 : Int); omega⟩, hTm.mono (congrFun (hb0 182 (by (try dsimp only); omega)).1 1) (hb0 183 (by (try dsimp only); omega)).1⟩, hb0.mono (fun q hq => by (try dsimp only at *); omega), Or.inl ⟨hb0.mono (fun q hq => by (try dsimp only at *); omega), fun _ _ _ _ => rfl, rfl, rfl, rfl, rfl⟩⟩
    · simp (disch := omega) only [sI_at, sI_ne, sI_nj, sI_L, sL_at, sL_ne, sL_nj, sL_I]
    · exact absurd i1 (by show ¬ i < (0 : Int); omega)


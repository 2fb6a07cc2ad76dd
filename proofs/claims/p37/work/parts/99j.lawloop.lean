/-! 99j.lawloop: the law's loop, its start (wip/p37/src/99j.py) -/
section LAWLOOP
variable {tl : Sh} {μ : Mem} {G : Gh} {cs ss : Nat} {po acts i : Int}
theorem ble {a b : Nat} (h : a ≤ b) : Nat.ble a b = true := Nat.ble_eq_true_of_le h
set_option maxRecDepth 100000 in
set_option maxHeartbeats 4000000 in
theorem la_423 (hSB : SB tl μ G po) (hU : UI (μ.1 190 11) G acts) (hi : 4 ≤ i ∧ i < 16) (hcs : cs + 2 ≤ 216) (hss : ss + 8 ≤ 4819) (K : ∀ (tl2 : Sh) (μ2 : Mem) (cs2 ss2 : Nat), SB tl2 μ2 G po → UI (μ2.1 190 11) G acts → cs2 ≤ cs + 2 → ss2 ≤ ss + 8 → AL gL_law (SH (TL tl2)) μ2 cs2 ss2 73 [some (vX 62), some (vR 0), some (vR 188), some (vR 189), some (vR 190), some (vR 191), some (vI po), some (vI acts), some (vI (i + 1)), none, none, none, none, none, none, none, none, none, none, none] [] PL) : AL gL_law (SH (TL tl)) μ cs ss 423 [some (vX 62), some (vR 0), some (vR 188), some (vR 189), some (vR 190), some (vR 191), some (vI po), some (vI acts), some (vI i), none, none, none, none, none, none, none, none, none, none, none] [] PL := by
  have x0 : (SH (TL tl))[0]? = some (10, 11) := rfl
  have a188 : (SH (TL tl))[188]? = some (20, 160) := rfl
  have a189 : (SH (TL tl))[189]? = some (20, 23) := rfl
  have a190 : (SH (TL tl))[190]? = some (20, 12) := rfl
  have a191 : (SH (TL tl))[191]? = some (20, 3) := rfl
  obtain ⟨⟨p, pd, c, cd, hX⟩, hL⟩ := id hSB
  have hB := hL.2.2.2.2
  refine l_aload_n dL_law_423 rfl ?_
  refine l_aload dL_law_424 rfl ?_
  refine l_aload dL_law_426 rfl ?_
  refine l_iload dL_law_428 rfl ?_
  rcases fnd_spec (p := fun k => decide (μ.1 191 k < 0)) (μ.1 190 11).toNat 0 with ⟨-, hno⟩ | ⟨ha, hb, hd, hlo⟩
  · have hin : ∀ j, 0 ≤ j → j < μ.1 190 11 → 0 ≤ μ.1 191 j := fun j j0 j1 => by
      have := hno j j0 (by omega)
      simp only [decide_eq_false_iff_not] at this
      omega
    refine l_callS (vs := [vR 189, vR 190, vR 191, vI po]) dL_law_430 ml_L_122 yl_L_broken (c_brokenB a189 a190 a191 hL hin) rfl rfl rfl (ble (by have h : gM gL_law = 216 := rfl; have h2 : gM gL_broken = 2 := rfl; omega)) (ble (by have h : gS gL_law = 4819 := rfl; have h2 : gS gL_broken = 8 := rfl; omega)) ?_
    rintro r sh2 μ2 ⟨rfl, rfl, hKp⟩
    show AL gL_law (SH (TL ((tl ++ [(20, 4)]) ++ [(20, 4)]))) μ2 (cs + 2) (ss + 8) 433 _ [vI (codeF (gRow G))] PL
    have hk188 : Kp (fun a => a < 188) μ μ2 := hKp.mono (fun q hq => by rw [SH_len]; (try dsimp only at *); omega)
    have hlen := SH_len (TL tl)
    have e189 : μ2.1 189 = μ.1 189 := (hKp 189 (by (try dsimp only); rw [hlen]; simp only [List.length_cons]; omega)).1
    have e190 : μ2.1 190 = μ.1 190 := (hKp 190 (by (try dsimp only); rw [hlen]; simp only [List.length_cons]; omega)).1
    have e191 : μ2.1 191 = μ.1 191 := (hKp 191 (by (try dsimp only); rw [hlen]; simp only [List.length_cons]; omega)).1
    have hSB2 : SB ((tl ++ [(20, 4)]) ++ [(20, 4)]) μ2 G po := by
      refine ⟨⟨p, pd, c, cd, hX.grow (fun i x h => ap (ap h)) hk188⟩, ?_⟩
      rw [e189, e190, e191]
      exact hL
    have hU2 : UI (μ2.1 190 11) G acts := by rw [e190]; exact hU
    have hC2 : Nat.ble (cs + 2) (gM gL_law) = true := ble (by have h : gM gL_law = 216 := rfl; omega)
    have hS2 : Nat.ble (ss + 8) (gS gL_law) = true := ble (by have h : gS gL_law = 4819 := rfl; omega)
    have hn2 : 0 ≤ μ2.1 190 11 ∧ μ2.1 190 11 ≤ 3 := by rw [e190]; exact hL.2.2.2.2.1
    refine l_istore dL_law_433 rfl ?_
    refine AL.lw (la_why hC2 hS2 hSB2 (AL.lw (la_pals hC2 hS2 hSB2 (AL.lw (la_stage hC2 hS2 hSB2 hi rfl (K _ μ2 _ _ hSB2 hU2 (by omega) (by omega)) 5 0 (by omega) (by omega)) (by repeat first | exact trivial | refine And.intro rfl ?_)) (μ2.1 190 11).toNat 0 (by omega) (by omega)) (by repeat first | exact trivial | refine And.intro rfl ?_))) (by repeat first | exact trivial | refine And.intro rfl ?_)
  · generalize fnd (fun k => decide (μ.1 191 k < 0)) (μ.1 190 11).toNat 0 = k0 at ha hb hd hlo
    simp only [decide_eq_true_eq] at hd
    have hlo2 : ∀ j, 0 ≤ j → j < k0 → 0 ≤ μ.1 191 j := fun j j0 j1 => by
      have := hlo j j0 j1
      simp only [decide_eq_false_iff_not] at this
      omega
    have hn3 := hB.1
    have hcode : codeF (gRow G) = 100 + k0 := by
      have hrow := hL.2.1.2.2.2
      have hat : atF (gRow G) 1 = k0 := at_is (by rw [plc1, hL.2.1.1]; omega) (by rw [brk1, (hrow k0 ha (by omega)).2.2]; simpa using hd) (fun j j0 j1 => by
        rw [brk1, (hrow j j0 (by omega)).2.2]
        have := hlo2 j j0 j1
        simp only [decide_eq_false_iff_not]
        omega)
      have := code_is (ρ := gRow G) (r := 1) (k := k0) (by omega) ha (fun q q0 q1 => by omega) hat
      omega
    refine l_callS (vs := [vR 189, vR 190, vR 191, vI po]) dL_law_430 ml_L_122 yl_brokA (c_brokenA a189 a190 a191 hB ⟨ha, by omega⟩ hd hlo2) rfl rfl rfl (ble (by have h : gM gL_law = 216 := rfl; have h2 : gM gBrokA = 1 := rfl; omega)) (ble (by have h : gS gL_law = 4819 := rfl; have h2 : gS gBrokA = 4 := rfl; omega)) ?_
    rintro r sh2 μ2 ⟨rfl, rfl, hKp⟩
    rw [← hcode]
    show AL gL_law (SH (TL (tl ++ [(20, 4)]))) μ2 (cs + 1) (ss + 4) 433 _ [vI (codeF (gRow G))] PL
    have hk188 : Kp (fun a => a < 188) μ μ2 := hKp.mono (fun q hq => by rw [SH_len]; (try dsimp only at *); omega)
    have hlen := SH_len (TL tl)
    have e189 : μ2.1 189 = μ.1 189 := (hKp 189 (by (try dsimp only); rw [hlen]; simp only [List.length_cons]; omega)).1
    have e190 : μ2.1 190 = μ.1 190 := (hKp 190 (by (try dsimp only); rw [hlen]; simp only [List.length_cons]; omega)).1
    have e191 : μ2.1 191 = μ.1 191 := (hKp 191 (by (try dsimp only); rw [hlen]; simp only [List.length_cons]; omega)).1
    have hSB2 : SB (tl ++ [(20, 4)]) μ2 G po := by
      refine ⟨⟨p, pd, c, cd, hX.grow (fun i x h => ap h) hk188⟩, ?_⟩
      rw [e189, e190, e191]
      exact hL
    have hU2 : UI (μ2.1 190 11) G acts := by rw [e190]; exact hU
    have hC2 : Nat.ble (cs + 1) (gM gL_law) = true := ble (by have h : gM gL_law = 216 := rfl; omega)
    have hS2 : Nat.ble (ss + 4) (gS gL_law) = true := ble (by have h : gS gL_law = 4819 := rfl; omega)
    have hn2 : 0 ≤ μ2.1 190 11 ∧ μ2.1 190 11 ≤ 3 := by rw [e190]; exact hL.2.2.2.2.1
    refine l_istore dL_law_433 rfl ?_
    refine AL.lw (la_why hC2 hS2 hSB2 (AL.lw (la_pals hC2 hS2 hSB2 (AL.lw (la_stage hC2 hS2 hSB2 hi rfl (K _ μ2 _ _ hSB2 hU2 (by omega) (by omega)) 5 0 (by omega) (by omega)) (by repeat first | exact trivial | refine And.intro rfl ?_)) (μ2.1 190 11).toNat 0 (by omega) (by omega)) (by repeat first | exact trivial | refine And.intro rfl ?_))) (by repeat first | exact trivial | refine And.intro rfl ?_)

set_option maxRecDepth 100000 in
set_option maxHeartbeats 4000000 in
theorem la_415 {due : Int} (hSB : SB tl μ G po) (hU : UI (μ.1 190 11) G (if due = 0 then acts + 1 else acts)) (hd : -1 ≤ due ∧ due ≤ 3) (hi : 4 ≤ i ∧ i < 16) (hcs : cs + 2 ≤ 216) (hss : ss + 8 ≤ 4819) (K : ∀ (tl2 : Sh) (μ2 : Mem) (cs2 ss2 : Nat), SB tl2 μ2 G po → UI (μ2.1 190 11) G (if due = 0 then acts + 1 else acts) → cs2 ≤ cs + 2 → ss2 ≤ ss + 8 → AL gL_law (SH (TL tl2)) μ2 cs2 ss2 73 [some (vX 62), some (vR 0), some (vR 188), some (vR 189), some (vR 190), some (vR 191), some (vI po), some (vI (if due = 0 then acts + 1 else acts)), some (vI (i + 1)), none, none, none, none, none, none, none, none, none, none, none] [] PL) : AL gL_law (SH (TL tl)) μ cs ss 415 [some (vX 62), some (vR 0), some (vR 188), some (vR 189), some (vR 190), some (vR 191), some (vI po), some (vI acts), some (vI i), none, none, none, none, some (vI due), none, none, none, none, none, none] [] PL := by
  refine l_iload dL_law_415 rfl ?_
  refine lq_if_ne (tgt := 423) dL_law_417 rfl (by omega) (fun c417 => ?_) (fun c417 => ?_)
  · first
      | (rw [if_neg (by omega)] at hU
         refine AL.lw (la_423 (acts := acts) hSB hU hi hcs hss (fun tl2 μ2 cs2 ss2 h1 h2 h3 h4 => ?_)) (by repeat first | exact trivial | refine And.intro rfl ?_)
         have q := K tl2 μ2 cs2 ss2 h1 (by rw [if_neg (by omega)]; exact h2) h3 h4
         rw [if_neg (by omega)] at q
         exact q)
      | (rw [if_pos (by omega)] at hU
         refine AL.lw (la_423 (acts := acts + 1) hSB hU hi hcs hss (fun tl2 μ2 cs2 ss2 h1 h2 h3 h4 => ?_)) (by repeat first | exact trivial | refine And.intro rfl ?_)
         have q := K tl2 μ2 cs2 ss2 h1 (by rw [if_pos (by omega)]; exact h2) h3 h4
         rw [if_pos (by omega)] at q
         exact q)
  · refine l_iinc dL_law_420 rfl rfl ?_
    first
      | (rw [if_neg (by omega)] at hU
         refine AL.lw (la_423 (acts := acts) hSB hU hi hcs hss (fun tl2 μ2 cs2 ss2 h1 h2 h3 h4 => ?_)) (by repeat first | exact trivial | refine And.intro rfl ?_)
         have q := K tl2 μ2 cs2 ss2 h1 (by rw [if_neg (by omega)]; exact h2) h3 h4
         rw [if_neg (by omega)] at q
         exact q)
      | (rw [if_pos (by omega)] at hU
         refine AL.lw (la_423 (acts := acts + 1) hSB hU hi hcs hss (fun tl2 μ2 cs2 ss2 h1 h2 h3 h4 => ?_)) (by repeat first | exact trivial | refine And.intro rfl ?_)
         have q := K tl2 μ2 cs2 ss2 h1 (by rw [if_pos (by omega)]; exact h2) h3 h4
         rw [if_pos (by omega)] at q
         exact q)
set_option maxRecDepth 100000 in
set_option maxHeartbeats 4000000 in
theorem la_on (hC : Nat.ble cs (gM gL_law) = true) (hS : Nat.ble ss (gS gL_law) = true) (hSB : SB tl μ G po) {x k s : Int} (hs : 0 ≤ s ∧ s < 4) (K : AL gL_law (SH (TL tl)) μ cs ss 160 [some (vX 62), some (vR 0), some (vR 188), some (vR 189), some (vR 190), some (vR 191), some (vI po), some (vI acts), some (vI i), some (vI x), some (vI k), some (vI s), some (vI (if k < μ.1 190 11 then 1 else 0)), some (vI (-1)), some (vI (onF (gRow G) s)), none, none, none, none, none] [] PL) : ∀ (n : Nat) (q on : Int), 0 ≤ q → q + n = μ.1 190 11 → ((on = -1 ∧ ∀ j, 0 ≤ j → j < q → μ.1 191 j ≠ s) ∨ ((0 ≤ on ∧ on < q) ∧ μ.1 191 on = s)) → AL gL_law (SH (TL tl)) μ cs ss 130 [some (vX 62), some (vR 0), some (vR 188), some (vR 189), some (vR 190), some (vR 191), some (vI po), some (vI acts), some (vI i), some (vI x), some (vI k), some (vI s), some (vI (if k < μ.1 190 11 then 1 else 0)), some (vI (-1)), some (vI on), some (vI q), none, none, none, none] [] PL := by
  have x0 : (SH (TL tl))[0]? = some (10, 11) := rfl
  have a188 : (SH (TL tl))[188]? = some (20, 160) := rfl
  have a189 : (SH (TL tl))[189]? = some (20, 23) := rfl
  have a190 : (SH (TL tl))[190]? = some (20, 12) := rfl
  have a191 : (SH (TL tl))[191]? = some (20, 3) := rfl
  obtain ⟨-, hL⟩ := id hSB
  obtain ⟨⟨n0, n3⟩, hcb, -⟩ := hL.2.2.2.2
  intro n
  induction n with
  | zero =>
    intro q on q0 q1 ho
    have e : on = onF (gRow G) s := by
      refine on_is hL hs.1 ?_
      rcases ho with h | h
      · exact Or.inl ⟨h.1, fun j j0 j1 => h.2 j j0 (by omega)⟩
      · exact Or.inr ⟨by omega, h.2⟩
    subst e
    refine l_iload dL_law_130 rfl ?_
    refine l_aload dL_law_132 rfl ?_
    refine l_bipush dL_law_134 (by decide) ?_
    refine l_iald dL_law_136 (by assumption) rfl (by omega) ?_
    refine lq_icmp_ge (tgt := 160) dL_law_137 rfl (by omega) (by omega) (fun c137 => ?_) (fun c137 => ?_)
    · exact AL.lw K (by repeat first | exact trivial | refine And.intro rfl ?_)
    · exfalso; omega
  | succ n ih =>
    intro q on q0 q1 ho
    have cq := hcb q q0 (by omega)
    refine l_iload dL_law_130 rfl ?_
    refine l_aload dL_law_132 rfl ?_
    refine l_bipush dL_law_134 (by decide) ?_
    refine l_iald dL_law_136 (by assumption) rfl (by omega) ?_
    refine lq_icmp_ge (tgt := 160) dL_law_137 rfl (by omega) (by omega) (fun c137 => ?_) (fun c137 => ?_)
    · exfalso; omega
    · refine l_aload dL_law_140 rfl ?_
      refine l_iload dL_law_142 rfl ?_
      refine l_iald dL_law_144 (by assumption) rfl (by omega) ?_
      refine l_iload dL_law_145 rfl ?_
      refine lq_icmp_ne (tgt := 154) dL_law_147 rfl (by omega) (by omega) (fun c147 => ?_) (fun c147 => ?_)
      · refine l_iinc dL_law_154 rfl rfl ?_
        refine l_goto (tgt := 130) dL_law_157 rfl ?_
        first
          | (refine ih (q + 1) on (by omega) (by omega) ?_
             rcases ho with h | h
             · refine Or.inl ⟨h.1, fun j j0 j1 => ?_⟩
               by_cases e : j = q
               · subst e
                 omega
               · exact h.2 j j0 (by omega)
             · exact Or.inr ⟨by omega, h.2⟩)
          | (refine ih (q + 1) q (by omega) (by omega) ?_
             exact Or.inr ⟨by omega, by omega⟩)
      · refine l_iload dL_law_150 rfl ?_
        refine l_istore dL_law_152 rfl ?_
        refine l_iinc dL_law_154 rfl rfl ?_
        refine l_goto (tgt := 130) dL_law_157 rfl ?_
        first
          | (refine ih (q + 1) on (by omega) (by omega) ?_
             rcases ho with h | h
             · refine Or.inl ⟨h.1, fun j j0 j1 => ?_⟩
               by_cases e : j = q
               · subst e
                 omega
               · exact h.2 j j0 (by omega)
             · exact Or.inr ⟨by omega, h.2⟩)
          | (refine ih (q + 1) q (by omega) (by omega) ?_
             exact Or.inr ⟨by omega, by omega⟩)
set_option maxRecDepth 100000 in
set_option maxHeartbeats 4000000 in
theorem la_loop : ∀ (n : Nat) (tl : Sh) (μ : Mem) (G : Gh) (cs ss : Nat) (po acts i : Int), 4 ≤ i → i + n = 16 → SB tl μ G po → UI (μ.1 190 11) G acts → acts ≤ i - 4 → (cs : Int) ≤ 192 + 2 * (i - 4) → (ss : Int) ≤ 4723 + 8 * (i - 4) → AL gL_law (SH (TL tl)) μ cs ss 73 [some (vX 62), some (vR 0), some (vR 188), some (vR 189), some (vR 190), some (vR 191), some (vI po), some (vI acts), some (vI i), none, none, none, none, none, none, none, none, none, none, none] [] PL := by
  intro n
  induction n with
  | zero =>
    intro tl μ G cs ss po acts i hi0 hi1 hSB hU ha hcs hss
    have hC : Nat.ble cs (gM gL_law) = true := ble (by have h : gM gL_law = 216 := rfl; omega)
    have hS : Nat.ble ss (gS gL_law) = true := ble (by have h : gS gL_law = 4819 := rfl; omega)
    refine l_iload dL_law_73 rfl ?_
    refine l_bipush dL_law_75 (by decide) ?_
    refine lq_icmp_ge (tgt := 796) dL_law_77 rfl (by omega) (by omega) (fun c77 => ?_) (fun c77 => ?_)
    · exact AL.lw (le_end hC hS hSB.1 hU hSB.2.2.2.2.2.1) (by repeat first | exact trivial | refine And.intro rfl ?_)
    · exfalso; omega
  | succ n ih =>
    intro tl μ G cs ss po acts i hi0 hi1 hSB hU ha hcs hss
    have hC : Nat.ble cs (gM gL_law) = true := ble (by have h : gM gL_law = 216 := rfl; omega)
    have hS : Nat.ble ss (gS gL_law) = true := ble (by have h : gS gL_law = 4819 := rfl; omega)
    have x0 : (SH (TL tl))[0]? = some (10, 11) := rfl
    have a188 : (SH (TL tl))[188]? = some (20, 160) := rfl
    have a189 : (SH (TL tl))[189]? = some (20, 23) := rfl
    have a190 : (SH (TL tl))[190]? = some (20, 12) := rfl
    have a191 : (SH (TL tl))[191]? = some (20, 3) := rfl
    have n3 := hSB.2.2.2.2.2.1
    refine l_iload dL_law_73 rfl ?_
    refine l_bipush dL_law_75 (by decide) ?_
    refine lq_icmp_ge (tgt := 796) dL_law_77 rfl (by omega) (by omega) (fun c77 => ?_) (fun c77 => ?_)
    · exfalso; omega
    · refine l_aload_nX dL_law_80 rfl ?_
      refine l_iload dL_law_81 rfl ?_
      refine l_cS2I dL_law_83 ml_L_28 yl_L_cell ⟨rfl, rfl⟩ rfl rfl hC hS (c_cell (by omega)) ?_
      rintro x m0 ⟨hx, rfl⟩
      refine l_istore dL_law_86 rfl ?_
      refine l_iload dL_law_88 rfl ?_
      refine l_iconst dL_law_90 ?_
      refine l_ishr dL_law_91 ?_
      refine l_iconst dL_law_92 ?_
      refine l_iand dL_law_93 ?_
      obtain ⟨k, hk⟩ : ∃ k, k = iand (ishr x 2) 3 := ⟨_, rfl⟩
      have kr := mask (ishr x 2) (m := 3) (by omega)
      rw [← hk] at kr ⊢
      refine l_istore dL_law_94 rfl ?_
      refine l_iload dL_law_96 rfl ?_
      refine l_iconst dL_law_98 ?_
      refine l_ishr dL_law_99 ?_
      refine l_iconst dL_law_100 ?_
      refine l_iand dL_law_101 ?_
      obtain ⟨s, hs⟩ : ∃ s, s = iand (ishr x 4) 3 := ⟨_, rfl⟩
      have sr := mask (ishr x 4) (m := 3) (by omega)
      rw [← hs] at sr ⊢
      refine l_istore dL_law_102 rfl ?_
      refine l_iload dL_law_104 rfl ?_
      refine l_aload dL_law_106 rfl ?_
      refine l_bipush dL_law_108 (by decide) ?_
      refine l_iald dL_law_110 (by assumption) rfl (by omega) ?_
      refine lq_icmp_ge (tgt := 118) dL_law_111 rfl (by omega) (by omega) (fun c111 => ?_) (fun c111 => ?_)
      · refine l_iconst dL_law_118 ?_
        refine l_istore dL_law_119 rfl ?_
        refine l_iconst dL_law_121 ?_
        refine l_istore dL_law_122 rfl ?_
        refine l_iconst dL_law_124 ?_
        refine l_istore dL_law_125 rfl ?_
        refine l_iconst dL_law_127 ?_
        refine l_istore dL_law_128 rfl ?_
        have hnx := fun (μ2 : Mem) (G2 : Gh) (po2 due : Int) (h1 : SB tl μ2 G2 po2) (h2 : UI (μ2.1 190 11) G2 (if due = 0 then acts + 1 else acts)) (h3 : -1 ≤ due ∧ due ≤ 3) => la_415 (tl := tl) (cs := cs) (ss := ss) (i := i) h1 h2 h3 (by omega) (by omega) (by omega) (fun tl2 μ3 cs2 ss2 g1 g2 g3 g4 => ih tl2 μ3 G2 cs2 ss2 po2 (if due = 0 then acts + 1 else acts) (i + 1) (by omega) (by omega) g1 g2 (by split <;> omega) (by omega) (by omega))
        have hact := la_act hC hS hSB hU (by omega) hx (k := k) (s := s) (by omega) (by omega) hnx
        have hon := la_on hC hS hSB (s := s) (by omega) hact (m0.1 190 11).toNat 0 (-1) (by omega) (by omega) (Or.inl ⟨rfl, fun j j0 j1 => by omega⟩)
        first
          | (rw [if_pos (by omega)] at hon; exact AL.lw hon (by repeat first | exact trivial | refine And.intro rfl ?_))
          | (rw [if_neg (by omega)] at hon; exact AL.lw hon (by repeat first | exact trivial | refine And.intro rfl ?_))
      · refine l_iconst dL_law_114 ?_
        refine l_goto (tgt := 119) dL_law_115 rfl ?_
        refine l_istore dL_law_119 rfl ?_
        refine l_iconst dL_law_121 ?_
        refine l_istore dL_law_122 rfl ?_
        refine l_iconst dL_law_124 ?_
        refine l_istore dL_law_125 rfl ?_
        refine l_iconst dL_law_127 ?_
        refine l_istore dL_law_128 rfl ?_
        have hnx := fun (μ2 : Mem) (G2 : Gh) (po2 due : Int) (h1 : SB tl μ2 G2 po2) (h2 : UI (μ2.1 190 11) G2 (if due = 0 then acts + 1 else acts)) (h3 : -1 ≤ due ∧ due ≤ 3) => la_415 (tl := tl) (cs := cs) (ss := ss) (i := i) h1 h2 h3 (by omega) (by omega) (by omega) (fun tl2 μ3 cs2 ss2 g1 g2 g3 g4 => ih tl2 μ3 G2 cs2 ss2 po2 (if due = 0 then acts + 1 else acts) (i + 1) (by omega) (by omega) g1 g2 (by split <;> omega) (by omega) (by omega))
        have hact := la_act hC hS hSB hU (by omega) hx (k := k) (s := s) (by omega) (by omega) hnx
        have hon := la_on hC hS hSB (s := s) (by omega) hact (m0.1 190 11).toNat 0 (-1) (by omega) (by omega) (Or.inl ⟨rfl, fun j j0 j1 => by omega⟩)
        first
          | (rw [if_pos (by omega)] at hon; exact AL.lw hon (by repeat first | exact trivial | refine And.intro rfl ?_))
          | (rw [if_neg (by omega)] at hon; exact AL.lw hon (by repeat first | exact trivial | refine And.intro rfl ?_))
end LAWLOOP

/-! 99a.told: plane and cargo are told to the class (wip/p37/src/99a.py) -/
variable {n_ : Sh}
theorem lappC {a : Nat} {bs w : List Int} {μ μ2 : Mem} {n m : Nat} (_ : TM a (bs ++ w) μ μ2) (h : bs.length ≤ n) (hb : w.length ≤ m) : (bs ++ w).length ≤ n + m := lapp h hb
/-- a new text has been taken: the row, nothing to undo, no fault, an empty tape -/
def Told (n_ : Sh) (R : Row → Prop) (μ μ2 : Mem) : Prop := ∃ (p pd c cd : Nat) (G : Gh), InX n_ μ2 G p pd c cd ∧ R (gRow G) ∧ gTl G = 0 ∧ gUnd G = [] ∧ TB (μ2.1 188) [] ∧ Kp (fun a => 188 < a) μ μ2
set_option maxRecDepth 100000 in
set_option maxHeartbeats 4000000 in
theorem c_isPlane {μ : Mem} {G : Gh} {p pd c cd : Nat} (hX : InX n_ μ G p pd c cd) (ha : (SH n_)[188]? = some (20, 160)) (hb : (SH n_)[189]? = some (20, 23)) (hT : TB (μ.1 188) []) (hz : ZOK (μ.1 189)) (h0 : gTl G = 0) (hR : gRow G = bareR) :
    IMet yL_isPlane gL_isPlane (SH n_) [vR 0, vR 188, vR 189] μ (fun x μ2 => x = 1 ∧ Told n_ (fun ρ => ρ = setlR (lk (endL (μ.1 189))) bareR) μ μ2) := by
  have x0 : (SH n_)[0]? = some (10, 11) := rfl
  have h99 := hz.le99
  have hC : TM 188 [] μ μ := TM.rf hT
  have hn : ([] : List Int).length ≤ 0 := Nat.le_refl 0
  have ez : μ.1 189 = μ.1 189 := rfl
  refine AMet.of (by decide) rfl (by decide) rfl ?_
  refine r_aload_n dL_isPlane_0 rfl ?_
  refine r_ldc2 (x := 7308621415840743424) dL_isPlane_1 kL_L_40 (by decide +kernel) ?_
  refine r_cS2N dL_isPlane_4 ml_L_34 yl_L_text ⟨rfl, rfl⟩ rfl rfl rfl rfl (c_tx40 ha hC.1 (Nat.lt_of_le_of_lt hn (by decide))) ?_
  intro m1 h1
  replace hC := hC.tr h1
  replace ez : m1.1 189 = μ.1 189 := (hC.2.1 189 (by decide)).1
  replace hn := lappC hC hn (Nat.le_refl _)
  refine r_aload_n dL_isPlane_7 rfl ?_
  refine r_aload_n dL_isPlane_8 rfl ?_
  refine r_iconst dL_isPlane_9 ?_
  refine r_iald dL_isPlane_10 (by assumption) rfl (by omega) ?_
  rw [ez]
  refine r_aload_n dL_isPlane_11 rfl ?_
  refine r_iconst dL_isPlane_12 ?_
  refine r_iald dL_isPlane_13 (by assumption) rfl (by omega) ?_
  rw [ez]
  refine r_cS3N dL_isPlane_14 ml_L_42 yl_L_two ⟨rfl, rfl⟩ rfl rfl rfl rfl (c_two ha hC.1 (Nat.lt_of_le_of_lt hn (by decide)) (h99 _ (by omega) (by omega)) (h99 _ (by omega) (by omega))) ?_
  intro m1 h1
  replace hC := hC.tr h1
  replace ez : m1.1 189 = μ.1 189 := (hC.2.1 189 (by decide)).1
  replace hn := lappC hC hn (two_len _ _)
  refine r_aload_n dL_isPlane_17 rfl ?_
  refine r_ldc2 (x := 8318255636827602944) dL_isPlane_18 kL_L_46 (by decide +kernel) ?_
  refine r_cS2N dL_isPlane_21 ml_L_34 yl_L_text ⟨rfl, rfl⟩ rfl rfl rfl rfl (c_tx46 ha hC.1 (Nat.lt_of_le_of_lt hn (by decide))) ?_
  intro m1 h1
  replace hC := hC.tr h1
  replace ez : m1.1 189 = μ.1 189 := (hC.2.1 189 (by decide)).1
  replace hn := lappC hC hn (Nat.le_refl _)
  refine r_aload_n dL_isPlane_24 rfl ?_
  refine r_aload_n dL_isPlane_25 rfl ?_
  refine r_iconst dL_isPlane_26 ?_
  refine r_iald dL_isPlane_27 (by assumption) rfl (by omega) ?_
  rw [ez]
  refine r_aload_n dL_isPlane_28 rfl ?_
  refine r_iconst dL_isPlane_29 ?_
  refine r_iald dL_isPlane_30 (by assumption) rfl (by omega) ?_
  rw [ez]
  refine r_cS3N dL_isPlane_31 ml_L_42 yl_L_two ⟨rfl, rfl⟩ rfl rfl rfl rfl (c_two ha hC.1 (Nat.lt_of_le_of_lt hn (by decide)) (h99 _ (by omega) (by omega)) (h99 _ (by omega) (by omega))) ?_
  intro m1 h1
  replace hC := hC.tr h1
  replace ez : m1.1 189 = μ.1 189 := (hC.2.1 189 (by decide)).1
  replace hn := lappC hC hn (two_len _ _)
  refine r_iconst dL_isPlane_34 ?_
  refine r_istore_n dL_isPlane_35 rfl ?_
  refine r_iload_n dL_isPlane_36 rfl ?_
  refine r_iconst dL_isPlane_37 ?_
  refine q_icmp_ge (tgt := 158) dL_isPlane_38 rfl (by omega) (by omega) (fun c38 => ?_) (fun c38 => ?_)
  · exfalso; omega
  · refine r_aload_n dL_isPlane_41 rfl ?_
    refine r_ldc2 (x := 7525352679648788480) dL_isPlane_42 kL_L_48 (by decide +kernel) ?_
    refine r_cS2N dL_isPlane_45 ml_L_34 yl_L_text ⟨rfl, rfl⟩ rfl rfl rfl rfl (c_tx48 ha hC.1 (Nat.lt_of_le_of_lt hn (by decide))) ?_
    intro m1 h1
    replace hC := hC.tr h1
    replace ez : m1.1 189 = μ.1 189 := (hC.2.1 189 (by decide)).1
    replace hn := lappC hC hn (Nat.le_refl _)
    refine r_aload_n dL_isPlane_48 rfl ?_
    refine r_bipush dL_isPlane_49 (by decide) ?_
    refine r_iload_n dL_isPlane_51 rfl ?_
    refine r_iadd dL_isPlane_52 ?_
    refine r_cS2N dL_isPlane_53 ml_L_9 yl_L_sign ⟨rfl, rfl⟩ rfl rfl rfl rfl (c_sign ha hC.1 (Nat.lt_of_le_of_lt hn (by decide)) (by omega)) ?_
    intro m1 h1
    replace hC := hC.tr h1
    replace ez : m1.1 189 = μ.1 189 := (hC.2.1 189 (by decide)).1
    replace hn := lappC hC hn ((Nat.le_refl 1 : _ ≤ 1))
    refine r_aload_n dL_isPlane_56 rfl ?_
    refine r_bipush dL_isPlane_57 (by decide) ?_
    refine r_cS2N dL_isPlane_59 ml_L_9 yl_L_sign ⟨rfl, rfl⟩ rfl rfl rfl rfl (c_sign ha hC.1 (Nat.lt_of_le_of_lt hn (by decide)) (by omega)) ?_
    intro m1 h1
    replace hC := hC.tr h1
    replace ez : m1.1 189 = μ.1 189 := (hC.2.1 189 (by decide)).1
    replace hn := lappC hC hn ((Nat.le_refl 1 : _ ≤ 1))
    refine r_aload_n dL_isPlane_62 rfl ?_
    refine r_aload_n dL_isPlane_63 rfl ?_
    refine r_iconst dL_isPlane_64 ?_
    refine r_iload_n dL_isPlane_65 rfl ?_
    refine r_iadd dL_isPlane_66 ?_
    refine r_iald dL_isPlane_67 (by assumption) rfl (by omega) ?_
    rw [ez]
    refine r_cS2N dL_isPlane_68 ml_L_25 yl_L_number ⟨rfl, rfl⟩ rfl rfl rfl rfl (c_number ha hC.1 (Nat.lt_of_le_of_lt hn (by decide)) (h99 _ (by omega) (by omega))) ?_
    intro m1 h1
    replace hC := hC.tr h1
    replace ez : m1.1 189 = μ.1 189 := (hC.2.1 189 (by decide)).1
    replace hn := lappC hC hn (dig_len _)
    refine r_aload_n dL_isPlane_71 rfl ?_
    refine r_aload_n dL_isPlane_72 rfl ?_
    refine r_bipush dL_isPlane_73 (by decide) ?_
    refine r_iload_n dL_isPlane_75 rfl ?_
    refine r_iadd dL_isPlane_76 ?_
    refine r_iald dL_isPlane_77 (by assumption) rfl (by omega) ?_
    rw [ez]
    refine r_cS2N dL_isPlane_78 ml_L_50 yl_L_door ⟨rfl, rfl⟩ rfl rfl rfl rfl (c_door ha hC.1 (Nat.lt_of_le_of_lt hn (by decide)) (hz.door _ (by omega) (by omega))) ?_
    intro m1 h1
    replace hC := hC.tr h1
    replace ez : m1.1 189 = μ.1 189 := (hC.2.1 189 (by decide)).1
    replace hn := lappC hC hn (doorB_len _)
    refine r_iconst dL_isPlane_81 ?_
    refine r_iload_n dL_isPlane_82 rfl ?_
    refine r_imul dL_isPlane_83 ?_
    refine r_istore dL_isPlane_84 rfl ?_
    refine r_iload dL_isPlane_86 rfl ?_
    refine r_iconst dL_isPlane_88 ?_
    refine r_iload_n dL_isPlane_89 rfl ?_
    refine r_imul dL_isPlane_90 ?_
    refine r_iconst dL_isPlane_91 ?_
    refine r_iadd dL_isPlane_92 ?_
    refine q_icmp_ge (tgt := 127) dL_isPlane_93 rfl (by omega) (by omega) (fun c93 => ?_) (fun c93 => ?_)
    · exfalso; omega
    · refine r_aload_n dL_isPlane_96 rfl ?_
      refine r_ldc2 (x := 8318271055760195584) dL_isPlane_97 kL_L_53 (by decide +kernel) ?_
      refine r_cS2N dL_isPlane_100 ml_L_34 yl_L_text ⟨rfl, rfl⟩ rfl rfl rfl rfl (c_tx53 ha hC.1 (Nat.lt_of_le_of_lt hn (by decide))) ?_
      intro m1 h1
      replace hC := hC.tr h1
      replace ez : m1.1 189 = μ.1 189 := (hC.2.1 189 (by decide)).1
      replace hn := lappC hC hn (Nat.le_refl _)
      refine r_aload_n dL_isPlane_103 rfl ?_
      refine r_aload_n dL_isPlane_104 rfl ?_
      refine r_bipush dL_isPlane_105 (by decide) ?_
      refine r_iload dL_isPlane_107 rfl ?_
      refine r_iadd dL_isPlane_109 ?_
      refine r_iald dL_isPlane_110 (by assumption) rfl (by omega) ?_
      rw [ez]
      refine r_aload_n dL_isPlane_111 rfl ?_
      refine r_bipush dL_isPlane_112 (by decide) ?_
      refine r_iload dL_isPlane_114 rfl ?_
      refine r_iadd dL_isPlane_116 ?_
      refine r_iald dL_isPlane_117 (by assumption) rfl (by omega) ?_
      rw [ez]
      refine r_cS3N dL_isPlane_118 ml_L_42 yl_L_two ⟨rfl, rfl⟩ rfl rfl rfl rfl (c_two ha hC.1 (Nat.lt_of_le_of_lt hn (by decide)) (h99 _ (by omega) (by omega)) (h99 _ (by omega) (by omega))) ?_
      intro m1 h1
      replace hC := hC.tr h1
      replace ez : m1.1 189 = μ.1 189 := (hC.2.1 189 (by decide)).1
      replace hn := lappC hC hn (two_len _ _)
      refine r_iinc dL_isPlane_121 rfl rfl ?_
      refine r_goto (tgt := 86) dL_isPlane_124 rfl ?_
      refine r_iload dL_isPlane_86 rfl ?_
      refine r_iconst dL_isPlane_88 ?_
      refine r_iload_n dL_isPlane_89 rfl ?_
      refine r_imul dL_isPlane_90 ?_
      refine r_iconst dL_isPlane_91 ?_
      refine r_iadd dL_isPlane_92 ?_
      refine q_icmp_ge (tgt := 127) dL_isPlane_93 rfl (by omega) (by omega) (fun c93 => ?_) (fun c93 => ?_)
      · exfalso; omega
      · refine r_aload_n dL_isPlane_96 rfl ?_
        refine r_ldc2 (x := 8318271055760195584) dL_isPlane_97 kL_L_53 (by decide +kernel) ?_
        refine r_cS2N dL_isPlane_100 ml_L_34 yl_L_text ⟨rfl, rfl⟩ rfl rfl rfl rfl (c_tx53 ha hC.1 (Nat.lt_of_le_of_lt hn (by decide))) ?_
        intro m1 h1
        replace hC := hC.tr h1
        replace ez : m1.1 189 = μ.1 189 := (hC.2.1 189 (by decide)).1
        replace hn := lappC hC hn (Nat.le_refl _)
        refine r_aload_n dL_isPlane_103 rfl ?_
        refine r_aload_n dL_isPlane_104 rfl ?_
        refine r_bipush dL_isPlane_105 (by decide) ?_
        refine r_iload dL_isPlane_107 rfl ?_
        refine r_iadd dL_isPlane_109 ?_
        refine r_iald dL_isPlane_110 (by assumption) rfl (by omega) ?_
        rw [ez]
        refine r_aload_n dL_isPlane_111 rfl ?_
        refine r_bipush dL_isPlane_112 (by decide) ?_
        refine r_iload dL_isPlane_114 rfl ?_
        refine r_iadd dL_isPlane_116 ?_
        refine r_iald dL_isPlane_117 (by assumption) rfl (by omega) ?_
        rw [ez]
        refine r_cS3N dL_isPlane_118 ml_L_42 yl_L_two ⟨rfl, rfl⟩ rfl rfl rfl rfl (c_two ha hC.1 (Nat.lt_of_le_of_lt hn (by decide)) (h99 _ (by omega) (by omega)) (h99 _ (by omega) (by omega))) ?_
        intro m1 h1
        replace hC := hC.tr h1
        replace ez : m1.1 189 = μ.1 189 := (hC.2.1 189 (by decide)).1
        replace hn := lappC hC hn (two_len _ _)
        refine r_iinc dL_isPlane_121 rfl rfl ?_
        refine r_goto (tgt := 86) dL_isPlane_124 rfl ?_
        refine r_iload dL_isPlane_86 rfl ?_
        refine r_iconst dL_isPlane_88 ?_
        refine r_iload_n dL_isPlane_89 rfl ?_
        refine r_imul dL_isPlane_90 ?_
        refine r_iconst dL_isPlane_91 ?_
        refine r_iadd dL_isPlane_92 ?_
        refine q_icmp_ge (tgt := 127) dL_isPlane_93 rfl (by omega) (by omega) (fun c93 => ?_) (fun c93 => ?_)
        · refine r_iload_n dL_isPlane_127 rfl ?_
          refine q_if_ne (tgt := 152) dL_isPlane_128 rfl (by omega) (fun c128 => ?_) (fun c128 => ?_)
          · exfalso; omega
          · refine r_aload_n dL_isPlane_131 rfl ?_
            refine r_ldc2 (x := 7669464613550817280) dL_isPlane_132 kL_L_55 (by decide +kernel) ?_
            refine r_cS2N dL_isPlane_135 ml_L_34 yl_L_text ⟨rfl, rfl⟩ rfl rfl rfl rfl (c_tx55 ha hC.1 (Nat.lt_of_le_of_lt hn (by decide))) ?_
            intro m1 h1
            replace hC := hC.tr h1
            replace ez : m1.1 189 = μ.1 189 := (hC.2.1 189 (by decide)).1
            replace hn := lappC hC hn (Nat.le_refl _)
            refine r_aload_n dL_isPlane_138 rfl ?_
            refine r_aload_n dL_isPlane_139 rfl ?_
            refine r_bipush dL_isPlane_140 (by decide) ?_
            refine r_iald dL_isPlane_142 (by assumption) rfl (by omega) ?_
            rw [ez]
            refine r_cS2N dL_isPlane_143 ml_L_25 yl_L_number ⟨rfl, rfl⟩ rfl rfl rfl rfl (c_number ha hC.1 (Nat.lt_of_le_of_lt hn (by decide)) (h99 _ (by omega) (by omega))) ?_
            intro m1 h1
            replace hC := hC.tr h1
            replace ez : m1.1 189 = μ.1 189 := (hC.2.1 189 (by decide)).1
            replace hn := lappC hC hn (dig_len _)
            refine r_aload_n dL_isPlane_146 rfl ?_
            refine r_bipush dL_isPlane_147 (by decide) ?_
            refine r_cS2N dL_isPlane_149 ml_L_9 yl_L_sign ⟨rfl, rfl⟩ rfl rfl rfl rfl (c_sign ha hC.1 (Nat.lt_of_le_of_lt hn (by decide)) (by omega)) ?_
            intro m1 h1
            replace hC := hC.tr h1
            replace ez : m1.1 189 = μ.1 189 := (hC.2.1 189 (by decide)).1
            replace hn := lappC hC hn ((Nat.le_refl 1 : _ ≤ 1))
            refine r_iinc dL_isPlane_152 rfl rfl ?_
            refine r_goto (tgt := 36) dL_isPlane_155 rfl ?_
            refine r_iload_n dL_isPlane_36 rfl ?_
            refine r_iconst dL_isPlane_37 ?_
            refine q_icmp_ge (tgt := 158) dL_isPlane_38 rfl (by omega) (by omega) (fun c38 => ?_) (fun c38 => ?_)
            · exfalso; omega
            · refine r_aload_n dL_isPlane_41 rfl ?_
              refine r_ldc2 (x := 7525352679648788480) dL_isPlane_42 kL_L_48 (by decide +kernel) ?_
              refine r_cS2N dL_isPlane_45 ml_L_34 yl_L_text ⟨rfl, rfl⟩ rfl rfl rfl rfl (c_tx48 ha hC.1 (Nat.lt_of_le_of_lt hn (by decide))) ?_
              intro m1 h1
              replace hC := hC.tr h1
              replace ez : m1.1 189 = μ.1 189 := (hC.2.1 189 (by decide)).1
              replace hn := lappC hC hn (Nat.le_refl _)
              refine r_aload_n dL_isPlane_48 rfl ?_
              refine r_bipush dL_isPlane_49 (by decide) ?_
              refine r_iload_n dL_isPlane_51 rfl ?_
              refine r_iadd dL_isPlane_52 ?_
              refine r_cS2N dL_isPlane_53 ml_L_9 yl_L_sign ⟨rfl, rfl⟩ rfl rfl rfl rfl (c_sign ha hC.1 (Nat.lt_of_le_of_lt hn (by decide)) (by omega)) ?_
              intro m1 h1
              replace hC := hC.tr h1
              replace ez : m1.1 189 = μ.1 189 := (hC.2.1 189 (by decide)).1
              replace hn := lappC hC hn ((Nat.le_refl 1 : _ ≤ 1))
              refine r_aload_n dL_isPlane_56 rfl ?_
              refine r_bipush dL_isPlane_57 (by decide) ?_
              refine r_cS2N dL_isPlane_59 ml_L_9 yl_L_sign ⟨rfl, rfl⟩ rfl rfl rfl rfl (c_sign ha hC.1 (Nat.lt_of_le_of_lt hn (by decide)) (by omega)) ?_
              intro m1 h1
              replace hC := hC.tr h1
              replace ez : m1.1 189 = μ.1 189 := (hC.2.1 189 (by decide)).1
              replace hn := lappC hC hn ((Nat.le_refl 1 : _ ≤ 1))
              refine r_aload_n dL_isPlane_62 rfl ?_
              refine r_aload_n dL_isPlane_63 rfl ?_
              refine r_iconst dL_isPlane_64 ?_
              refine r_iload_n dL_isPlane_65 rfl ?_
              refine r_iadd dL_isPlane_66 ?_
              refine r_iald dL_isPlane_67 (by assumption) rfl (by omega) ?_
              rw [ez]
              refine r_cS2N dL_isPlane_68 ml_L_25 yl_L_number ⟨rfl, rfl⟩ rfl rfl rfl rfl (c_number ha hC.1 (Nat.lt_of_le_of_lt hn (by decide)) (h99 _ (by omega) (by omega))) ?_
              intro m1 h1
              replace hC := hC.tr h1
              replace ez : m1.1 189 = μ.1 189 := (hC.2.1 189 (by decide)).1
              replace hn := lappC hC hn (dig_len _)
              refine r_aload_n dL_isPlane_71 rfl ?_
              refine r_aload_n dL_isPlane_72 rfl ?_
              refine r_bipush dL_isPlane_73 (by decide) ?_
              refine r_iload_n dL_isPlane_75 rfl ?_
              refine r_iadd dL_isPlane_76 ?_
              refine r_iald dL_isPlane_77 (by assumption) rfl (by omega) ?_
              rw [ez]
              refine r_cS2N dL_isPlane_78 ml_L_50 yl_L_door ⟨rfl, rfl⟩ rfl rfl rfl rfl (c_door ha hC.1 (Nat.lt_of_le_of_lt hn (by decide)) (hz.door _ (by omega) (by omega))) ?_
              intro m1 h1
              replace hC := hC.tr h1
              replace ez : m1.1 189 = μ.1 189 := (hC.2.1 189 (by decide)).1
              replace hn := lappC hC hn (doorB_len _)
              refine r_iconst dL_isPlane_81 ?_
              refine r_iload_n dL_isPlane_82 rfl ?_
              refine r_imul dL_isPlane_83 ?_
              refine r_istore dL_isPlane_84 rfl ?_
              refine r_iload dL_isPlane_86 rfl ?_
              refine r_iconst dL_isPlane_88 ?_
              refine r_iload_n dL_isPlane_89 rfl ?_
              refine r_imul dL_isPlane_90 ?_
              refine r_iconst dL_isPlane_91 ?_
              refine r_iadd dL_isPlane_92 ?_
              refine q_icmp_ge (tgt := 127) dL_isPlane_93 rfl (by omega) (by omega) (fun c93 => ?_) (fun c93 => ?_)
              · exfalso; omega
              · refine r_aload_n dL_isPlane_96 rfl ?_
                refine r_ldc2 (x := 8318271055760195584) dL_isPlane_97 kL_L_53 (by decide +kernel) ?_
                refine r_cS2N dL_isPlane_100 ml_L_34 yl_L_text ⟨rfl, rfl⟩ rfl rfl rfl rfl (c_tx53 ha hC.1 (Nat.lt_of_le_of_lt hn (by decide))) ?_
                intro m1 h1
                replace hC := hC.tr h1
                replace ez : m1.1 189 = μ.1 189 := (hC.2.1 189 (by decide)).1
                replace hn := lappC hC hn (Nat.le_refl _)
                refine r_aload_n dL_isPlane_103 rfl ?_
                refine r_aload_n dL_isPlane_104 rfl ?_
                refine r_bipush dL_isPlane_105 (by decide) ?_
                refine r_iload dL_isPlane_107 rfl ?_
                refine r_iadd dL_isPlane_109 ?_
                refine r_iald dL_isPlane_110 (by assumption) rfl (by omega) ?_
                rw [ez]
                refine r_aload_n dL_isPlane_111 rfl ?_
                refine r_bipush dL_isPlane_112 (by decide) ?_
                refine r_iload dL_isPlane_114 rfl ?_
                refine r_iadd dL_isPlane_116 ?_
                refine r_iald dL_isPlane_117 (by assumption) rfl (by omega) ?_
                rw [ez]
                refine r_cS3N dL_isPlane_118 ml_L_42 yl_L_two ⟨rfl, rfl⟩ rfl rfl rfl rfl (c_two ha hC.1 (Nat.lt_of_le_of_lt hn (by decide)) (h99 _ (by omega) (by omega)) (h99 _ (by omega) (by omega))) ?_
                intro m1 h1
                replace hC := hC.tr h1
                replace ez : m1.1 189 = μ.1 189 := (hC.2.1 189 (by decide)).1
                replace hn := lappC hC hn (two_len _ _)
                refine r_iinc dL_isPlane_121 rfl rfl ?_
                refine r_goto (tgt := 86) dL_isPlane_124 rfl ?_
                refine r_iload dL_isPlane_86 rfl ?_
                refine r_iconst dL_isPlane_88 ?_
                refine r_iload_n dL_isPlane_89 rfl ?_
                refine r_imul dL_isPlane_90 ?_
                refine r_iconst dL_isPlane_91 ?_
                refine r_iadd dL_isPlane_92 ?_
                refine q_icmp_ge (tgt := 127) dL_isPlane_93 rfl (by omega) (by omega) (fun c93 => ?_) (fun c93 => ?_)
                · exfalso; omega
                · refine r_aload_n dL_isPlane_96 rfl ?_
                  refine r_ldc2 (x := 8318271055760195584) dL_isPlane_97 kL_L_53 (by decide +kernel) ?_
                  refine r_cS2N dL_isPlane_100 ml_L_34 yl_L_text ⟨rfl, rfl⟩ rfl rfl rfl rfl (c_tx53 ha hC.1 (Nat.lt_of_le_of_lt hn (by decide))) ?_
                  intro m1 h1
                  replace hC := hC.tr h1
                  replace ez : m1.1 189 = μ.1 189 := (hC.2.1 189 (by decide)).1
                  replace hn := lappC hC hn (Nat.le_refl _)
                  refine r_aload_n dL_isPlane_103 rfl ?_
                  refine r_aload_n dL_isPlane_104 rfl ?_
                  refine r_bipush dL_isPlane_105 (by decide) ?_
                  refine r_iload dL_isPlane_107 rfl ?_
                  refine r_iadd dL_isPlane_109 ?_
                  refine r_iald dL_isPlane_110 (by assumption) rfl (by omega) ?_
                  rw [ez]
                  refine r_aload_n dL_isPlane_111 rfl ?_
                  refine r_bipush dL_isPlane_112 (by decide) ?_
                  refine r_iload dL_isPlane_114 rfl ?_
                  refine r_iadd dL_isPlane_116 ?_
                  refine r_iald dL_isPlane_117 (by assumption) rfl (by omega) ?_
                  rw [ez]
                  refine r_cS3N dL_isPlane_118 ml_L_42 yl_L_two ⟨rfl, rfl⟩ rfl rfl rfl rfl (c_two ha hC.1 (Nat.lt_of_le_of_lt hn (by decide)) (h99 _ (by omega) (by omega)) (h99 _ (by omega) (by omega))) ?_
                  intro m1 h1
                  replace hC := hC.tr h1
                  replace ez : m1.1 189 = μ.1 189 := (hC.2.1 189 (by decide)).1
                  replace hn := lappC hC hn (two_len _ _)
                  refine r_iinc dL_isPlane_121 rfl rfl ?_
                  refine r_goto (tgt := 86) dL_isPlane_124 rfl ?_
                  refine r_iload dL_isPlane_86 rfl ?_
                  refine r_iconst dL_isPlane_88 ?_
                  refine r_iload_n dL_isPlane_89 rfl ?_
                  refine r_imul dL_isPlane_90 ?_
                  refine r_iconst dL_isPlane_91 ?_
                  refine r_iadd dL_isPlane_92 ?_
                  refine q_icmp_ge (tgt := 127) dL_isPlane_93 rfl (by omega) (by omega) (fun c93 => ?_) (fun c93 => ?_)
                  · refine r_iload_n dL_isPlane_127 rfl ?_
                    refine q_if_ne (tgt := 152) dL_isPlane_128 rfl (by omega) (fun c128 => ?_) (fun c128 => ?_)
                    · refine r_iinc dL_isPlane_152 rfl rfl ?_
                      refine r_goto (tgt := 36) dL_isPlane_155 rfl ?_
                      refine r_iload_n dL_isPlane_36 rfl ?_
                      refine r_iconst dL_isPlane_37 ?_
                      refine q_icmp_ge (tgt := 158) dL_isPlane_38 rfl (by omega) (by omega) (fun c38 => ?_) (fun c38 => ?_)
                      · refine r_aload_n dL_isPlane_158 rfl ?_
                        refine r_ldc2 (x := 7091320034550611968) dL_isPlane_159 kL_L_57 (by decide +kernel) ?_
                        refine r_cS2N dL_isPlane_162 ml_L_34 yl_L_text ⟨rfl, rfl⟩ rfl rfl rfl rfl (c_tx57 ha hC.1 (Nat.lt_of_le_of_lt hn (by decide))) ?_
                        intro m1 h1
                        replace hC := hC.tr h1
                        replace ez : m1.1 189 = μ.1 189 := (hC.2.1 189 (by decide)).1
                        replace hn := lappC hC hn (Nat.le_refl _)
                        refine r_aload_n dL_isPlane_165 rfl ?_
                        refine r_aload_n dL_isPlane_166 rfl ?_
                        refine r_bipush dL_isPlane_167 (by decide) ?_
                        refine r_iald dL_isPlane_169 (by assumption) rfl (by omega) ?_
                        rw [ez]
                        refine r_aload_n dL_isPlane_170 rfl ?_
                        refine r_bipush dL_isPlane_171 (by decide) ?_
                        refine r_iald dL_isPlane_173 (by assumption) rfl (by omega) ?_
                        rw [ez]
                        refine r_cS3N dL_isPlane_174 ml_L_42 yl_L_two ⟨rfl, rfl⟩ rfl rfl rfl rfl (c_two ha hC.1 (Nat.lt_of_le_of_lt hn (by decide)) (h99 _ (by omega) (by omega)) (h99 _ (by omega) (by omega))) ?_
                        intro m1 h1
                        replace hC := hC.tr h1
                        replace ez : m1.1 189 = μ.1 189 := (hC.2.1 189 (by decide)).1
                        replace hn := lappC hC hn (two_len _ _)
                        refine r_aload_n dL_isPlane_177 rfl ?_
                        refine r_ldc2 (x := 8386105387525603328) dL_isPlane_178 kL_L_59 (by decide +kernel) ?_
                        refine r_cS2N dL_isPlane_181 ml_L_34 yl_L_text ⟨rfl, rfl⟩ rfl rfl rfl rfl (c_tx59 ha hC.1 (Nat.lt_of_le_of_lt hn (by decide))) ?_
                        intro m1 h1
                        replace hC := hC.tr h1
                        replace ez : m1.1 189 = μ.1 189 := (hC.2.1 189 (by decide)).1
                        replace hn := lappC hC hn (Nat.le_refl _)
                        refine r_aload_n dL_isPlane_184 rfl ?_
                        refine r_aload_n dL_isPlane_185 rfl ?_
                        refine r_bipush dL_isPlane_186 (by decide) ?_
                        refine r_iald dL_isPlane_188 (by assumption) rfl (by omega) ?_
                        rw [ez]
                        refine r_aload_n dL_isPlane_189 rfl ?_
                        refine r_bipush dL_isPlane_190 (by decide) ?_
                        refine r_iald dL_isPlane_192 (by assumption) rfl (by omega) ?_
                        rw [ez]
                        refine r_cS3N dL_isPlane_193 ml_L_42 yl_L_two ⟨rfl, rfl⟩ rfl rfl rfl rfl (c_two ha hC.1 (Nat.lt_of_le_of_lt hn (by decide)) (h99 _ (by omega) (by omega)) (h99 _ (by omega) (by omega))) ?_
                        intro m1 h1
                        replace hC := hC.tr h1
                        replace ez : m1.1 189 = μ.1 189 := (hC.2.1 189 (by decide)).1
                        replace hn := lappC hC hn (two_len _ _)
                        refine r_aload_n dL_isPlane_196 rfl ?_
                        refine r_ldc2 (x := 7094702605308534784) dL_isPlane_197 kL_L_61 (by decide +kernel) ?_
                        refine r_cS2N dL_isPlane_200 ml_L_34 yl_L_text ⟨rfl, rfl⟩ rfl rfl rfl rfl (c_tx61 ha hC.1 (Nat.lt_of_le_of_lt hn (by decide))) ?_
                        intro m1 h1
                        replace hC := hC.tr h1
                        replace ez : m1.1 189 = μ.1 189 := (hC.2.1 189 (by decide)).1
                        replace hn := lappC hC hn (Nat.le_refl _)
                        refine r_aload_n dL_isPlane_203 rfl ?_
                        refine r_aload_n dL_isPlane_204 rfl ?_
                        refine r_bipush dL_isPlane_205 (by decide) ?_
                        refine r_iald dL_isPlane_207 (by assumption) rfl (by omega) ?_
                        rw [ez]
                        refine r_cS2N dL_isPlane_208 ml_L_25 yl_L_number ⟨rfl, rfl⟩ rfl rfl rfl rfl (c_number ha hC.1 (Nat.lt_of_le_of_lt hn (by decide)) (h99 _ (by omega) (by omega))) ?_
                        intro m1 h1
                        replace hC := hC.tr h1
                        replace ez : m1.1 189 = μ.1 189 := (hC.2.1 189 (by decide)).1
                        replace hn := lappC hC hn (dig_len _)
                        refine r_aload_n dL_isPlane_211 rfl ?_
                        refine r_ldc2 (x := 4283895692532605557) dL_isPlane_212 kL_L_63 (by decide +kernel) ?_
                        refine r_cS2N dL_isPlane_215 ml_L_34 yl_L_text ⟨rfl, rfl⟩ rfl rfl rfl rfl (c_tx63 ha hC.1 (Nat.lt_of_le_of_lt hn (by decide))) ?_
                        intro m1 h1
                        replace hC := hC.tr h1
                        replace ez : m1.1 189 = μ.1 189 := (hC.2.1 189 (by decide)).1
                        replace hn := lappC hC hn (Nat.le_refl _)
                        refine r_aload_n dL_isPlane_218 rfl ?_
                        refine r_ldc2 (x := 8245563650887122944) dL_isPlane_219 kL_L_65 (by decide +kernel) ?_
                        refine r_cS2N dL_isPlane_222 ml_L_34 yl_L_text ⟨rfl, rfl⟩ rfl rfl rfl rfl (c_tx65 ha hC.1 (Nat.lt_of_le_of_lt hn (by decide))) ?_
                        intro m1 h1
                        replace hC := hC.tr h1
                        replace ez : m1.1 189 = μ.1 189 := (hC.2.1 189 (by decide)).1
                        replace hn := lappC hC hn (Nat.le_refl _)
                        refine r_aload_n dL_isPlane_225 rfl ?_
                        refine r_aload_n dL_isPlane_226 rfl ?_
                        refine r_bipush dL_isPlane_227 (by decide) ?_
                        refine r_iald dL_isPlane_229 (by assumption) rfl (by omega) ?_
                        rw [ez]
                        refine r_cS2N dL_isPlane_230 ml_L_25 yl_L_number ⟨rfl, rfl⟩ rfl rfl rfl rfl (c_number ha hC.1 (Nat.lt_of_le_of_lt hn (by decide)) (h99 _ (by omega) (by omega))) ?_
                        intro m1 h1
                        replace hC := hC.tr h1
                        replace ez : m1.1 189 = μ.1 189 := (hC.2.1 189 (by decide)).1
                        replace hn := lappC hC hn (dig_len _)
                        refine r_aload_n dL_isPlane_233 rfl ?_
                        refine r_ldc2 (x := 4283895692532580352) dL_isPlane_234 kL_L_67 (by decide +kernel) ?_
                        refine r_cS2N dL_isPlane_237 ml_L_34 yl_L_text ⟨rfl, rfl⟩ rfl rfl rfl rfl (c_tx67 ha hC.1 (Nat.lt_of_le_of_lt hn (by decide))) ?_
                        intro m1 h1
                        replace hC := hC.tr h1
                        replace ez : m1.1 189 = μ.1 189 := (hC.2.1 189 (by decide)).1
                        replace hn := lappC hC hn (Nat.le_refl _)
                        refine r_aload_n dL_isPlane_240 rfl ?_
                        refine r_aload_n dL_isPlane_241 rfl ?_
                        have hX2 : InX n_ m1 G p pd c cd := hX.grow (fun i x h => h) (hC.2.1.mono (fun q hq => by (try dsimp only at *); omega))
                        have hC1 : TB (m1.1 188) (planeTx (μ.1 189)) := by
                          have hB := hC.1
                          simp only [List.append_assoc, List.cons_append, List.nil_append, Int.reduceAdd, Int.reduceMul] at hB
                          unfold planeTx
                          simp only [List.append_assoc, List.cons_append, List.nil_append]
                          exact hB
                        have hl := plane_len (μ.1 189)
                        refine r_cS2N dL_isPlane_242 ml_L_69 yl_L_send ⟨rfl, rfl⟩ rfl rfl rfl rfl (c_send hX2 ha hC1 (by omega) h0) ?_
                        rintro m2 ⟨q, hq1, hq2, hq3, hq4, hq5⟩
                        obtain ⟨r1, r2⟩ := plane_read hz (by omega) (sent_at hq2 hq3)
                        have hP : planeF (setTap G q) = (4, setNew (setTap G q) (setlR (lk (endL (μ.1 189))) (gRow G))) := by
                          unfold planeF
                          have r1' : sE (planeR (q.1, q.2)).1 = 0 := r1
                          have r2' : (planeR (q.1, q.2)).2 = (lk (endL (μ.1 189)), nk endN, 1, 1) := r2
                          show (if sE (planeR (q.1, q.2)).1 ≠ 0 then _ else ((planeR (q.1, q.2)).2.1 5, setNew (setTap G q) (setlR (planeR (q.1, q.2)).2.1 (gRow G)))) = _
                          rw [if_neg (by omega), r2']
                          rfl
                        refine r_aload_n dL_isPlane_245 rfl ?_
                        refine r_cV0I dL_isPlane_246 ml_L_73 yl_X11_plane ⟨rfl, rfl⟩ (by assumption) ⟨_, rfl⟩ rfl rfl rfl rfl (x_plane (n_ := n_) hq1) ?_
                        rintro x m3 ⟨hx, p2, pd2, c2, cd2, hX3, hK3, -⟩
                        rw [hP] at hx hX3
                        dsimp only at hx hX3
                        subst hx
                        have hfx : FMet yX11_fault gX11_fault (SH n_) [vR 0] m3 (some (vI 0)) m3 := x_fault (n_ := n_) hX3
                        refine r_iconst dL_isPlane_249 ?_
                        refine q_icmp_ne (tgt := 264) dL_isPlane_250 rfl (by omega) (by omega) (fun c250 => ?_) (fun c250 => ?_)
                        · exfalso; omega
                        · refine r_aload_n dL_isPlane_253 rfl ?_
                          refine r_cV0F1 dL_isPlane_254 ml_L_77 yl_X11_fault ⟨rfl, rfl⟩ (by assumption) ⟨_, rfl⟩ rfl rfl rfl rfl (hfx) ?_
                          refine q_if_ne (tgt := 264) dL_isPlane_257 rfl (by omega) (fun c257 => ?_) (fun c257 => ?_)
                          · exfalso; omega
                          · refine r_iconst dL_isPlane_260 ?_
                            refine r_goto (tgt := 265) dL_isPlane_261 rfl ?_
                            refine r_zreturn dL_isPlane_265 (by first | exact Or.inl rfl | exact Or.inr rfl | exact b2i_01 _ | omega) rfl rfl rfl ?_
                            refine ⟨rfl, 1, rfl, rfl, p2, pd2, c2, cd2, _, hX3, ?_, rfl, rfl, ?_, ?_⟩
                            · show setlR (lk (endL (μ.1 189))) (gRow G) = _
                              rw [hR]
                            · rw [(hK3 188 (by (try dsimp only); omega)).1]
                              exact hq4
                            · exact ((hC.2.1.mono (fun q hq => by (try dsimp only at *); omega)).tr hq5).tr (hK3.mono (fun q hq => by (try dsimp only at *); omega))
                      · exfalso; omega
                    · exfalso; omega
                  · exfalso; omega
        · exfalso; omega
set_option maxRecDepth 100000 in
set_option maxHeartbeats 4000000 in
theorem c_isCargo {μ : Mem} {G : Gh} {p pd c cd : Nat} {z : Int → Int} (hX : InX n_ μ G p pd c cd) (ha : (SH n_)[188]? = some (20, 160)) (hb : (SH n_)[190]? = some (20, 12)) (hT : TB (μ.1 188) []) (hz : ZOK z) (hc : COK2 z (μ.1 190)) (h0 : gTl G = 0) :
    IMet yL_isCargo gL_isCargo (SH n_) [vR 0, vR 188, vR 190] μ (fun x μ2 => x = 1 ∧ Told n_ (fun ρ => ∃ ρc, CF (μ.1 190) ρc ∧ ρ = setlR (gRow G) ρc) μ μ2) := by
  have x0 : (SH n_)[0]? = some (10, 11) := rfl
  obtain ⟨⟨n0, n3⟩, hp, b0, b1⟩ := id hc
  have z18 := hz.2.2.2.2.2.2.2.2.2.2.2.1
  have loop : ∀ (s : Nat) (k : Int) (m : Mem), 0 ≤ k → k + s = μ.1 190 11 → TM 188 (palsTx (μ.1 190) k.toNat 0) μ m → AW gL_isCargo (SH n_) m 0 0 2 [some (vR 0), some (vR 188), some (vR 190), some (vI k)] [] (fun r2 sh2 μ2 => sh2 = (SH n_) ∧ ∃ x, r2 = some (vI x) ∧ x = 1 ∧ Told n_ (fun ρ => ∃ ρc, CF (μ.1 190) ρc ∧ ρ = setlR (gRow G) ρc) μ μ2) := by
    intro s
    induction s with
    | zero =>
      intro k m hk0 hk hC
      replace hk : k = μ.1 190 11 := by omega
      subst hk
      have hk : (μ.1 190 11).toNat = (μ.1 190 11).toNat := rfl
      have ez : m.1 190 = μ.1 190 := (hC.2.1 190 (by decide)).1
      have hn : (palsTx (μ.1 190) (μ.1 190 11).toNat 0).length ≤ 100 := by
        have h1 := palsTx_len (μ.1 190) (μ.1 190 11).toNat 0
        omega
      refine r_iload_n dL_isCargo_2 rfl ?_
      refine r_aload_n dL_isCargo_3 rfl ?_
      refine r_bipush dL_isCargo_4 (by decide) ?_
      refine r_iald dL_isCargo_6 (by assumption) rfl (by omega) ?_
      rw [ez]
      refine q_icmp_ge (tgt := 47) dL_isCargo_7 rfl (by omega) (by omega) (fun c7 => ?_) (fun c7 => ?_)
      · refine r_aload_n dL_isCargo_47 rfl ?_
        refine r_ldc2 (x := 7094695995346255872) dL_isCargo_48 kL_L_82 (by decide +kernel) ?_
        refine r_cS2N dL_isCargo_51 ml_L_34 yl_L_text ⟨rfl, rfl⟩ rfl rfl rfl rfl (c_tx82 ha hC.1 (Nat.lt_of_le_of_lt hn (by decide))) ?_
        intro m1 h1
        replace hC := hC.tr h1
        replace ez : m1.1 190 = μ.1 190 := (hC.2.1 190 (by decide)).1
        replace hn := lappC hC hn (Nat.le_refl _)
        refine r_aload_n dL_isCargo_54 rfl ?_
        refine r_aload_n dL_isCargo_55 rfl ?_
        refine r_bipush dL_isCargo_56 (by decide) ?_
        refine r_iald dL_isCargo_58 (by assumption) rfl (by omega) ?_
        rw [ez]
        refine r_cS2N dL_isCargo_59 ml_L_25 yl_L_number ⟨rfl, rfl⟩ rfl rfl rfl rfl (c_number ha hC.1 (Nat.lt_of_le_of_lt hn (by decide)) (by omega)) ?_
        intro m1 h1
        replace hC := hC.tr h1
        replace ez : m1.1 190 = μ.1 190 := (hC.2.1 190 (by decide)).1
        replace hn := lappC hC hn (dig_len _)
        refine r_aload_n dL_isCargo_62 rfl ?_
        refine r_bipush dL_isCargo_63 (by decide) ?_
        refine r_cS2N dL_isCargo_65 ml_L_9 yl_L_sign ⟨rfl, rfl⟩ rfl rfl rfl rfl (c_sign ha hC.1 (Nat.lt_of_le_of_lt hn (by decide)) (by omega)) ?_
        intro m1 h1
        replace hC := hC.tr h1
        replace ez : m1.1 190 = μ.1 190 := (hC.2.1 190 (by decide)).1
        replace hn := lappC hC hn ((Nat.le_refl 1 : _ ≤ 1))
        refine r_aload_n dL_isCargo_68 rfl ?_
        refine r_aload_n dL_isCargo_69 rfl ?_
        have hX2 : InX n_ m1 G p pd c cd := hX.grow (fun i x h => h) (hC.2.1.mono (fun q hq => by (try dsimp only at *); omega))
        have hC1 : TB (m1.1 188) (cargoTx (μ.1 190)) := by
          have hB := hC.1
          unfold cargoTx
          rw [← hk]
          simp only [List.append_assoc, List.cons_append, List.nil_append] at hB ⊢
          exact hB
        have hl : (cargoTx (μ.1 190)).length ≤ 200 := by
          have h1 := palsTx_len (μ.1 190) ((μ.1 190) 11).toNat 0
          have h2 := dig_len (μ.1 190 10)
          unfold cargoTx
          simp only [List.length_append, List.length_cons, List.length_nil]
          omega
        refine r_cS2N dL_isCargo_70 ml_L_69 yl_L_send ⟨rfl, rfl⟩ rfl rfl rfl rfl (c_send hX2 ha hC1 (by omega) h0) ?_
        rintro m2 ⟨q, hq1, hq2, hq3, hq4, hq5⟩
        obtain ⟨r1, r2⟩ := cargo_read hz hc (by omega) (sent_at hq2 hq3)
        have r1' : sE (cargoR (q.1, q.2)).1 = 0 := r1
        have r2' : CF (μ.1 190) (cargoR (q.1, q.2)).2.1 := r2
        have hP : cargoF (setTap G q) = (μ.1 190 11, setNew (setTap G q) (setlR (gRow G) (cargoR (q.1, q.2)).2.1)) := by
          unfold cargoF
          show (if sE (cargoR (q.1, q.2)).1 ≠ 0 then _ else ((cargoR (q.1, q.2)).2.1 11, setNew (setTap G q) (setlR (gRow G) (cargoR (q.1, q.2)).2.1))) = _
          rw [if_neg (by omega), r2'.1]
        refine r_aload_n dL_isCargo_73 rfl ?_
        refine r_cV0I dL_isCargo_74 ml_L_84 yl_X11_cargo ⟨rfl, rfl⟩ (by assumption) ⟨_, rfl⟩ rfl rfl rfl rfl (x_cargo (n_ := n_) hq1) ?_
        rintro x m3 ⟨hx, p2, pd2, c2, cd2, hX3, hK3, -⟩
        rw [hP] at hx hX3
        dsimp only at hx hX3
        subst hx
        have hfx : FMet yX11_fault gX11_fault (SH n_) [vR 0] m3 (some (vI 0)) m3 := x_fault (n_ := n_) hX3
        replace ez : m3.1 190 = μ.1 190 := by
          rw [(hK3 190 (by (try dsimp only); omega)).1, (hq5 190 (by (try dsimp only); omega)).1, ez]
        refine r_aload_n dL_isCargo_77 rfl ?_
        refine r_bipush dL_isCargo_78 (by decide) ?_
        refine r_iald dL_isCargo_80 (by assumption) rfl (by omega) ?_
        rw [ez]
        refine q_icmp_ne (tgt := 95) dL_isCargo_81 rfl (by omega) (by omega) (fun c81 => ?_) (fun c81 => ?_)
        · exfalso; omega
        · refine r_aload_n dL_isCargo_84 rfl ?_
          refine r_cV0F1 dL_isCargo_85 ml_L_77 yl_X11_fault ⟨rfl, rfl⟩ (by assumption) ⟨_, rfl⟩ rfl rfl rfl rfl (hfx) ?_
          refine q_if_ne (tgt := 95) dL_isCargo_88 rfl (by omega) (fun c88 => ?_) (fun c88 => ?_)
          · exfalso; omega
          · refine r_iconst dL_isCargo_91 ?_
            refine r_goto (tgt := 96) dL_isCargo_92 rfl ?_
            refine r_zreturn dL_isCargo_96 (by first | exact Or.inl rfl | exact Or.inr rfl | exact b2i_01 _ | omega) rfl rfl rfl ?_
            refine ⟨rfl, 1, rfl, rfl, p2, pd2, c2, cd2, _, hX3, ⟨_, r2', ?_⟩, rfl, rfl, ?_, ?_⟩
            · show setlR (gRow G) (cargoR (q.1, q.2)).2.1 = _
              rfl
            · rw [(hK3 188 (by (try dsimp only); omega)).1]
              exact hq4
            · exact ((hC.2.1.mono (fun q hq => by (try dsimp only at *); omega)).tr hq5).tr (hK3.mono (fun q hq => by (try dsimp only at *); omega))
      · exfalso; omega
    | succ s ih =>
      intro k m hk0 hk hC
      have ez : m.1 190 = μ.1 190 := (hC.2.1 190 (by decide)).1
      have hn : (palsTx (μ.1 190) k.toNat 0).length ≤ 100 := by
        have h1 := palsTx_len (μ.1 190) k.toNat 0
        omega
      refine r_iload_n dL_isCargo_2 rfl ?_
      refine r_aload_n dL_isCargo_3 rfl ?_
      refine r_bipush dL_isCargo_4 (by decide) ?_
      refine r_iald dL_isCargo_6 (by assumption) rfl (by omega) ?_
      rw [ez]
      refine q_icmp_ge (tgt := 47) dL_isCargo_7 rfl (by omega) (by omega) (fun c7 => ?_) (fun c7 => ?_)
      · exfalso; omega
      · refine r_aload_n dL_isCargo_10 rfl ?_
        refine r_ldc2 (x := 8097872817803239424) dL_isCargo_11 kL_L_80 (by decide +kernel) ?_
        refine r_cS2N dL_isCargo_14 ml_L_34 yl_L_text ⟨rfl, rfl⟩ rfl rfl rfl rfl (c_tx80 ha hC.1 (Nat.lt_of_le_of_lt hn (by decide))) ?_
        intro m1 h1
        replace hC := hC.tr h1
        replace ez : m1.1 190 = μ.1 190 := (hC.2.1 190 (by decide)).1
        replace hn := lappC hC hn (Nat.le_refl _)
        refine r_aload_n dL_isCargo_17 rfl ?_
        refine r_bipush dL_isCargo_18 (by decide) ?_
        refine r_iload_n dL_isCargo_20 rfl ?_
        refine r_iadd dL_isCargo_21 ?_
        refine r_cS2N dL_isCargo_22 ml_L_9 yl_L_sign ⟨rfl, rfl⟩ rfl rfl rfl rfl (c_sign ha hC.1 (Nat.lt_of_le_of_lt hn (by decide)) (by omega)) ?_
        intro m1 h1
        replace hC := hC.tr h1
        replace ez : m1.1 190 = μ.1 190 := (hC.2.1 190 (by decide)).1
        replace hn := lappC hC hn ((Nat.le_refl 1 : _ ≤ 1))
        refine r_aload_n dL_isCargo_25 rfl ?_
        refine r_aload_n dL_isCargo_26 rfl ?_
        refine r_iconst dL_isCargo_27 ?_
        refine r_iload_n dL_isCargo_28 rfl ?_
        refine r_imul dL_isCargo_29 ?_
        refine r_iald dL_isCargo_30 (by assumption) rfl (by omega) ?_
        rw [ez]
        refine r_aload_n dL_isCargo_31 rfl ?_
        refine r_iconst dL_isCargo_32 ?_
        refine r_iload_n dL_isCargo_33 rfl ?_
        refine r_imul dL_isCargo_34 ?_
        refine r_iconst dL_isCargo_35 ?_
        refine r_iadd dL_isCargo_36 ?_
        refine r_iald dL_isCargo_37 (by assumption) rfl (by omega) ?_
        rw [ez]
        refine r_cS3N dL_isCargo_38 ml_L_42 yl_L_two ⟨rfl, rfl⟩ rfl rfl rfl rfl (c_two ha hC.1 (Nat.lt_of_le_of_lt hn (by decide)) ⟨by have := hp k hk0 (by omega); omega, by have := hp k hk0 (by omega); omega⟩ ⟨by have := hp k hk0 (by omega); omega, by have := hp k hk0 (by omega); omega⟩) ?_
        intro m1 h1
        replace hC := hC.tr h1
        replace ez : m1.1 190 = μ.1 190 := (hC.2.1 190 (by decide)).1
        replace hn := lappC hC hn (two_len _ _)
        refine r_iinc dL_isCargo_41 rfl rfl ?_
        refine r_goto (tgt := 2) dL_isCargo_44 rfl ?_
        refine ih (k + 1) m1 (by omega) (by omega) ?_
        have e : (k + 1).toNat = k.toNat + 1 := by omega
        rw [e, palsTx_snoc]
        have e2 : (0 : Int) + (k.toNat : Int) = k := by omega
        rw [e2]
        unfold palTx
        simp only [List.append_assoc, List.cons_append, List.nil_append] at hC ⊢
        exact hC
  refine AMet.of (by decide) rfl (by decide) rfl ?_
  refine r_iconst dL_isCargo_0 ?_
  refine r_istore_n dL_isCargo_1 rfl ?_
  exact loop (μ.1 190 11).toNat 0 μ (by omega) (by omega) (TM.rf hT)

/-! 85.mender: what is asked on the way of the moves, in the class (wip/whole/src/85_mender.py) -/
def IsMd (R : IX) : Prop := R 182 0 = some 183 ∧ R 182 2 = some 184 ∧ R 182 3 = some 185 ∧ R 182 4 = some 186 ∧ R 182 5 = some 187 ∧ R 182 9 = some 172
def LTG (ρ : Row) (L : List Ent) : Prop := ∀ e ∈ L, TG (tgF ρ e.1) (ρ 11) (ρ 5)
def MdC (μ : Mem) (ρ σ : Row) (L : List Ent) : Prop := IsMd μ.2.2 ∧ (IsTab μ.2.2 ∧ RW μ (ρ 11) L ∧ LTG ρ L) ∧ (μ.1 182 7 = ρ 11 ∧ μ.1 182 8 = ρ 5) ∧ (∀ k, 0 ≤ k → k < ρ 11 → μ.1 185 k = σ (93 + k)) ∧ (∀ s, 0 ≤ s → s < 6 → μ.1 186 s = onF σ s) ∧ Dst σ (ρ 5) ∧ σ 11 = ρ 11
theorem LTG.dg {ρ : Row} {L : List Ent} (h : LTG ρ L) : ∀ (i : Nat) (e : Ent), L[i]? = some e → ∀ j, 0 ≤ j → j < ρ 11 → 1 ≤ dg (ρ 11) e.1 j := fun i e he j j0 j1 => by
  have := (h e (List.mem_of_getElem? he)).1 j j0 j1
  rw [tg_dg ⟨j0, j1⟩] at this
  omega
theorem c_mLying {μ : Mem} {ρ σ : Row} {L : List Ent} (hD : MdC μ ρ σ L) {s : Int} (hs : 0 ≤ s ∧ s < 6)  : FMet yX4_lyingOn gX4_lyingOn SH [vR 182, vI s] μ (some (vI (onF σ s))) μ := by
  obtain ⟨⟨m0, m2, m3, m4, m5, m9⟩, ⟨hT, hW, hLT⟩, ⟨e7, e8⟩, hsp, hon, hDst, h11⟩ := id hD
  have hN : 0 ≤ ρ 11 ∧ ρ 11 ≤ 5 := by rw [← h11]; exact hDst.1
  have hS : 0 ≤ ρ 5 ∧ ρ 5 ≤ 6 := hDst.2.1
  have x172 : SH[172]? = some (7, 15) := rfl
  have x182 : SH[182]? = some (4, 10) := rfl
  have x184 : SH[184]? = some (20, 10) := rfl
  have x185 : SH[185]? = some (20, 5) := rfl
  have x186 : SH[186]? = some (20, 6) := rfl
  have x187 : SH[187]? = some (20, 720) := rfl
  have honr : ∀ s, -1 ≤ onF σ s ∧ onF σ s < ρ 11 ∨ onF σ s = -1 := fun s => by
    rcases on_spec σ s with ⟨a, -⟩ | ⟨a, -⟩ <;> omega
  refine AMet.of (by decide) rfl (by decide) rfl ?_
  refine r_iload_n dX4_lyingOn_0 rfl ?_
  refine q_if_lt (tgt := 19) dX4_lyingOn_1 rfl (by omega) (fun c1 => ?_) (fun c1 => ?_)
  · exact absurd c1 (by omega)
  · refine r_iload_n dX4_lyingOn_4 rfl ?_
    refine r_bipush dX4_lyingOn_5 (by decide) ?_
    refine q_icmp_ge (tgt := 19) dX4_lyingOn_7 rfl (by omega) (by omega) (fun c7 => ?_) (fun c7 => ?_)
    · exact absurd c7 (by omega)
    · refine r_aload_n dX4_lyingOn_10 rfl ?_
      refine r_getR dX4_lyingOn_11 fl_X4_21 rfl (by assumption) (by assumption) ?_
      refine r_iload_n dX4_lyingOn_14 rfl ?_
      refine r_iald dX4_lyingOn_15 (by assumption) rfl (by omega) ?_
      rw [hon s hs.1 hs.2]
      refine r_goto (tgt := 20) dX4_lyingOn_16 rfl ?_
      refine r_ireturn dX4_lyingOn_20 rfl rfl rfl ?_
      exact ⟨rfl, rfl, rfl⟩
theorem c_emptySpot {μ : Mem} {ρ σ : Row} {L : List Ent} (hD : MdC μ ρ σ L)  : FMet yX4_emptySpot gX4_emptySpot SH [vR 182] μ (some (vI (empF σ (ρ 5)))) μ := by
  obtain ⟨⟨m0, m2, m3, m4, m5, m9⟩, ⟨hT, hW, hLT⟩, ⟨e7, e8⟩, hsp, hon, hDst, h11⟩ := id hD
  have hN : 0 ≤ ρ 11 ∧ ρ 11 ≤ 5 := by rw [← h11]; exact hDst.1
  have hS : 0 ≤ ρ 5 ∧ ρ 5 ≤ 6 := hDst.2.1
  have x172 : SH[172]? = some (7, 15) := rfl
  have x182 : SH[182]? = some (4, 10) := rfl
  have x184 : SH[184]? = some (20, 10) := rfl
  have x185 : SH[185]? = some (20, 5) := rfl
  have x186 : SH[186]? = some (20, 6) := rfl
  have x187 : SH[187]? = some (20, 720) := rfl
  have honr : ∀ s, -1 ≤ onF σ s ∧ onF σ s < ρ 11 ∨ onF σ s = -1 := fun s => by
    rcases on_spec σ s with ⟨a, -⟩ | ⟨a, -⟩ <;> omega
  have lB : ∀ (f n : Nat) (k : Int), n < f → 0 ≤ k → k + n = ρ 5 → AW gX4_emptySpot SH μ 0 0 2 [some (vR 182), some (vI k)] [] (fun r2 sh2 μ2 => r2 = some (vI (fnd (fun s => decide (onF σ s < 0)) n k)) ∧ sh2 = SH ∧ μ2 = μ) := by
    intro f
    induction f with
    | zero => intro n; intros; omega
    | succ f ih =>
      intro n k hf hk hn2
      refine r_iload_n dX4_emptySpot_2 rfl ?_
      refine r_aload_n dX4_emptySpot_3 rfl ?_
      refine r_getI dX4_emptySpot_4 fl_X4_58 rfl (by assumption) ?_
      rw [e8]
      refine q_icmp_ge (tgt := 28) dX4_emptySpot_7 rfl (by omega) (by omega) (fun c7 => ?_) (fun c7 => ?_)
      · refine r_iconst dX4_emptySpot_28 ?_
        refine r_ireturn dX4_emptySpot_29 rfl rfl rfl ?_
        obtain rfl : n = 0 := by omega
        exact ⟨rfl, rfl, rfl⟩
      · obtain ⟨q, rfl⟩ : ∃ q, n = q + 1 := ⟨n - 1, by omega⟩
        have ok := hon k (by omega) (by omega)
        have or := honr k
        refine r_aload_n dX4_emptySpot_10 rfl ?_
        refine r_getR dX4_emptySpot_11 fl_X4_21 rfl (by assumption) (by assumption) ?_
        refine r_iload_n dX4_emptySpot_14 rfl ?_
        refine r_iald dX4_emptySpot_15 (by assumption) rfl (by omega) ?_
        rw [ok]
        refine r_iconst dX4_emptySpot_16 ?_
        refine q_icmp_ne (tgt := 22) dX4_emptySpot_17 rfl (by omega) (by omega) (fun c17 => ?_) (fun c17 => ?_)
        · refine r_iinc dX4_emptySpot_22 rfl rfl ?_
          refine r_goto (tgt := 2) dX4_emptySpot_25 rfl ?_
          rw [fnd, if_neg (by rw [decide_eq_true_eq]; omega)]
          exact ih q (k + 1) (by omega) (by omega) (by omega)
        · refine r_iload_n dX4_emptySpot_20 rfl ?_
          refine r_ireturn dX4_emptySpot_21 rfl rfl rfl ?_
          exact ⟨by rw [fnd, if_pos (decide_eq_true (by omega))], rfl, rfl⟩
  refine AMet.of (by decide) rfl (by decide) rfl ?_
  refine r_iconst dX4_emptySpot_0 ?_
  refine r_istore_n dX4_emptySpot_1 rfl ?_
  exact lB _ (ρ 5).toNat 0 (Nat.lt_succ_self _) (by omega) (by omega)
theorem c_emptySpots {μ : Mem} {ρ σ : Row} {L : List Ent} (hD : MdC μ ρ σ L)  : FMet yX4_emptySpots gX4_emptySpots SH [vR 182] μ (some (vI (numE σ (ρ 5)))) μ := by
  obtain ⟨⟨m0, m2, m3, m4, m5, m9⟩, ⟨hT, hW, hLT⟩, ⟨e7, e8⟩, hsp, hon, hDst, h11⟩ := id hD
  have hN : 0 ≤ ρ 11 ∧ ρ 11 ≤ 5 := by rw [← h11]; exact hDst.1
  have hS : 0 ≤ ρ 5 ∧ ρ 5 ≤ 6 := hDst.2.1
  have x172 : SH[172]? = some (7, 15) := rfl
  have x182 : SH[182]? = some (4, 10) := rfl
  have x184 : SH[184]? = some (20, 10) := rfl
  have x185 : SH[185]? = some (20, 5) := rfl
  have x186 : SH[186]? = some (20, 6) := rfl
  have x187 : SH[187]? = some (20, 720) := rfl
  have honr : ∀ s, -1 ≤ onF σ s ∧ onF σ s < ρ 11 ∨ onF σ s = -1 := fun s => by
    rcases on_spec σ s with ⟨a, -⟩ | ⟨a, -⟩ <;> omega
  have lB : ∀ (f n : Nat) (k : Int) (v : Int), n < f → 0 ≤ k → k + n = ρ 5 → AW gX4_emptySpots SH μ 0 0 4 [some (vR 182), some (vI v), some (vI k)] [] (fun r2 sh2 μ2 => r2 = some (vI (v + sumF (fun s => if onF σ s < 0 then 1 else 0) n k)) ∧ sh2 = SH ∧ μ2 = μ) := by
    intro f
    induction f with
    | zero => intro n; intros; omega
    | succ f ih =>
      intro n k v hf hk hn2
      refine r_iload_n dX4_emptySpots_4 rfl ?_
      refine r_aload_n dX4_emptySpots_5 rfl ?_
      refine r_getI dX4_emptySpots_6 fl_X4_58 rfl (by assumption) ?_
      rw [e8]
      refine q_icmp_ge (tgt := 36) dX4_emptySpots_9 rfl (by omega) (by omega) (fun c9 => ?_) (fun c9 => ?_)
      · refine r_iload_n dX4_emptySpots_36 rfl ?_
        refine r_ireturn dX4_emptySpots_37 rfl rfl rfl ?_
        obtain rfl : n = 0 := by omega
        exact ⟨rI (by rw [sumF]; omega), rfl, rfl⟩
      · obtain ⟨q, rfl⟩ : ∃ q, n = q + 1 := ⟨n - 1, by omega⟩
        have ok := hon k (by omega) (by omega)
        have or := honr k
        rw [sumF]
        refine r_iload_n dX4_emptySpots_12 rfl ?_
        refine r_aload_n dX4_emptySpots_13 rfl ?_
        refine r_getR dX4_emptySpots_14 fl_X4_21 rfl (by assumption) (by assumption) ?_
        refine r_iload_n dX4_emptySpots_17 rfl ?_
        refine r_iald dX4_emptySpots_18 (by assumption) rfl (by omega) ?_
        rw [ok]
        refine r_iconst dX4_emptySpots_19 ?_
        refine q_icmp_ne (tgt := 27) dX4_emptySpots_20 rfl (by omega) (by omega) (fun c20 => ?_) (fun c20 => ?_)
        · refine r_iconst dX4_emptySpots_27 ?_
          refine r_iadd dX4_emptySpots_28 ?_
          refine r_istore_n dX4_emptySpots_29 rfl ?_
          refine r_iinc dX4_emptySpots_30 rfl rfl ?_
          refine r_goto (tgt := 4) dX4_emptySpots_33 rfl ?_
          first
          | (rw [if_pos (by omega), ← Int.add_assoc]; exact ih q (k + 1) _ (by omega) (by omega) (by omega))
          | (rw [if_neg (by omega), ← Int.add_assoc]; exact ih q (k + 1) _ (by omega) (by omega) (by omega))
        · refine r_iconst dX4_emptySpots_23 ?_
          refine r_goto (tgt := 28) dX4_emptySpots_24 rfl ?_
          refine r_iadd dX4_emptySpots_28 ?_
          refine r_istore_n dX4_emptySpots_29 rfl ?_
          refine r_iinc dX4_emptySpots_30 rfl rfl ?_
          refine r_goto (tgt := 4) dX4_emptySpots_33 rfl ?_
          first
          | (rw [if_pos (by omega), ← Int.add_assoc]; exact ih q (k + 1) _ (by omega) (by omega) (by omega))
          | (rw [if_neg (by omega), ← Int.add_assoc]; exact ih q (k + 1) _ (by omega) (by omega) (by omega))
  refine AMet.of (by decide) rfl (by decide) rfl ?_
  refine r_iconst dX4_emptySpots_0 ?_
  refine r_istore_n dX4_emptySpots_1 rfl ?_
  refine r_iconst dX4_emptySpots_2 ?_
  refine r_istore_n dX4_emptySpots_3 rfl ?_
  have h := lB _ (ρ 5).toNat 0 0 (Nat.lt_succ_self _) (by omega) (by omega)
  rw [Int.zero_add] at h
  exact h
theorem numE_rng (σ : Row) {S : Int} (hS : 0 ≤ S ∧ S ≤ 6) : 0 ≤ numE σ S ∧ numE σ S ≤ 6 := by
  have := sumF_bound (f := fun s => if onF σ s < 0 then (1 : Int) else 0) (lo := 0) (hi := 1) S.toNat 0 (fun j _ _ => by (try dsimp only); split <;> omega) (by omega) (by omega)
  unfold numE
  omega
theorem c_shuts {μ : Mem} {ρ σ : Row} {L : List Ent} (hD : MdC μ ρ σ L) {k away : Int} (hk : 0 ≤ k ∧ k < ρ 11) (ha : -2147483648 ≤ away ∧ away < 2147483648)  : FMet yX4_shutsLastGap gX4_shutsLastGap SH [vR 182, vI k, vI away] μ (some (vI (b2i (shtB σ (ρ 5) k away)))) μ := by
  obtain ⟨⟨m0, m2, m3, m4, m5, m9⟩, ⟨hT, hW, hLT⟩, ⟨e7, e8⟩, hsp, hon, hDst, h11⟩ := id hD
  have hN : 0 ≤ ρ 11 ∧ ρ 11 ≤ 5 := by rw [← h11]; exact hDst.1
  have hS : 0 ≤ ρ 5 ∧ ρ 5 ≤ 6 := hDst.2.1
  have x172 : SH[172]? = some (7, 15) := rfl
  have x182 : SH[182]? = some (4, 10) := rfl
  have x184 : SH[184]? = some (20, 10) := rfl
  have x185 : SH[185]? = some (20, 5) := rfl
  have x186 : SH[186]? = some (20, 6) := rfl
  have x187 : SH[187]? = some (20, 720) := rfl
  have honr : ∀ s, -1 ≤ onF σ s ∧ onF σ s < ρ 11 ∨ onF σ s = -1 := fun s => by
    rcases on_spec σ s with ⟨a, -⟩ | ⟨a, -⟩ <;> omega
  have hkr := hDst.2.2.1 k hk.1 (by omega)
  have hnr := numE_rng σ hS
  refine AMet.of (by decide) rfl (by decide) rfl ?_
  refine r_aload_n dX4_shutsLastGap_0 rfl ?_
  refine r_getR dX4_shutsLastGap_1 fl_X4_18 rfl (by assumption) (by assumption) ?_
  refine r_iload_n dX4_shutsLastGap_4 rfl ?_
  refine r_iald dX4_shutsLastGap_5 (by assumption) rfl (by omega) ?_
  rw [hsp k hk.1 hk.2]
  refine r_iconst dX4_shutsLastGap_6 ?_
  refine q_icmp_ne (tgt := 27) dX4_shutsLastGap_7 rfl (by omega) (by omega) (fun c7 => ?_) (fun c7 => ?_)
  · refine r_iconst dX4_shutsLastGap_27 ?_
    refine r_zreturn dX4_shutsLastGap_28 (by first | exact Or.inl rfl | exact Or.inr rfl | exact b2i_01 _ | omega) rfl rfl rfl ?_
    refine ⟨rI ?_, rfl, rfl⟩
    unfold shtB
    first
    | (rw [decide_eq_true ⟨by omega, by omega, by omega⟩]; rfl)
    | (rw [decide_eq_false (fun q => by omega)]; rfl)
  · refine r_iload_n dX4_shutsLastGap_10 rfl ?_
    refine r_iconst dX4_shutsLastGap_11 ?_
    refine q_icmp_le (tgt := 27) dX4_shutsLastGap_12 rfl (by omega) (by omega) (fun c12 => ?_) (fun c12 => ?_)
    · refine r_iconst dX4_shutsLastGap_27 ?_
      refine r_zreturn dX4_shutsLastGap_28 (by first | exact Or.inl rfl | exact Or.inr rfl | exact b2i_01 _ | omega) rfl rfl rfl ?_
      refine ⟨rI ?_, rfl, rfl⟩
      unfold shtB
      first
      | (rw [decide_eq_true ⟨by omega, by omega, by omega⟩]; rfl)
      | (rw [decide_eq_false (fun q => by omega)]; rfl)
    · refine r_aload_n dX4_shutsLastGap_15 rfl ?_
      refine r_cV0F1 dX4_shutsLastGap_16 ml_X4_127 yl_X4_emptySpots ⟨rfl, rfl⟩ (by assumption) ⟨_, rfl⟩ rfl rfl rfl rfl (c_emptySpots hD) ?_
      refine r_iconst dX4_shutsLastGap_19 ?_
      refine q_icmp_ne (tgt := 27) dX4_shutsLastGap_20 rfl (by omega) (by omega) (fun c20 => ?_) (fun c20 => ?_)
      · refine r_iconst dX4_shutsLastGap_27 ?_
        refine r_zreturn dX4_shutsLastGap_28 (by first | exact Or.inl rfl | exact Or.inr rfl | exact b2i_01 _ | omega) rfl rfl rfl ?_
        refine ⟨rI ?_, rfl, rfl⟩
        unfold shtB
        first
        | (rw [decide_eq_true ⟨by omega, by omega, by omega⟩]; rfl)
        | (rw [decide_eq_false (fun q => by omega)]; rfl)
      · refine r_iconst dX4_shutsLastGap_23 ?_
        refine r_goto (tgt := 28) dX4_shutsLastGap_24 rfl ?_
        refine r_zreturn dX4_shutsLastGap_28 (by first | exact Or.inl rfl | exact Or.inr rfl | exact b2i_01 _ | omega) rfl rfl rfl ?_
        refine ⟨rI ?_, rfl, rfl⟩
        unfold shtB
        first
        | (rw [decide_eq_true ⟨by omega, by omega, by omega⟩]; rfl)
        | (rw [decide_eq_false (fun q => by omega)]; rfl)
theorem c_ring {μ : Mem} {ρ σ : Row} {L : List Ent} (hD : MdC μ ρ σ L) {r : Int} {e : Ent} (he : 0 ≤ r ∧ L[r.toNat]? = some e) {k0 : Int} (hk : 0 ≤ k0 ∧ k0 < ρ 11)  : FMet yX4_leastOfRing gX4_leastOfRing SH [vR 182, vI r, vI k0] μ (some (vI (lorF (fT σ (tgF ρ e.1)) k0 (ρ 11).toNat k0 k0))) μ := by
  obtain ⟨⟨m0, m2, m3, m4, m5, m9⟩, ⟨hT, hW, hLT⟩, ⟨e7, e8⟩, hsp, hon, hDst, h11⟩ := id hD
  have hN : 0 ≤ ρ 11 ∧ ρ 11 ≤ 5 := by rw [← h11]; exact hDst.1
  have hS : 0 ≤ ρ 5 ∧ ρ 5 ≤ 6 := hDst.2.1
  have x172 : SH[172]? = some (7, 15) := rfl
  have x182 : SH[182]? = some (4, 10) := rfl
  have x184 : SH[184]? = some (20, 10) := rfl
  have x185 : SH[185]? = some (20, 5) := rfl
  have x186 : SH[186]? = some (20, 6) := rfl
  have x187 : SH[187]? = some (20, 720) := rfl
  have honr : ∀ s, -1 ≤ onF σ s ∧ onF σ s < ρ 11 ∨ onF σ s = -1 := fun s => by
    rcases on_spec σ s with ⟨a, -⟩ | ⟨a, -⟩ <;> omega
  have hrl : r.toNat < L.length := (List.getElem?_eq_some_iff.1 he.2).1
  have hr32 : -2147483648 ≤ r ∧ r < 2147483648 := by have := hW.2.1; omega
  have htg := hLT e (List.mem_of_getElem? he.2)
  have htg2 : TG (tgF ρ e.1) (σ 11) (ρ 5) := by rw [h11]; exact htg
  have hpi := fT_pi hDst htg2
  rw [h11] at hpi
  have lB : ∀ (f n : Nat) (k : Int) (le nx : Int), n < f → 0 ≤ k → k + n = ρ 11 → (0 ≤ le ∧ le < ρ 11) → (0 ≤ nx ∧ nx < ρ 11) → AW gX4_leastOfRing SH μ 0 0 8 [some (vR 182), some (vI r), some (vI k0), some (vI le), some (vI nx), some (vI k)] [] (fun r2 sh2 μ2 => r2 = some (vI (lorF (fT σ (tgF ρ e.1)) k0 n le nx)) ∧ sh2 = SH ∧ μ2 = μ) := by
    intro f
    induction f with
    | zero => intro n; intros; omega
    | succ f ih =>
      intro n k le nx hf hk hn2 hle hnx
      refine r_iload dX4_leastOfRing_8 rfl ?_
      refine r_aload_n dX4_leastOfRing_10 rfl ?_
      refine r_getI dX4_leastOfRing_11 fl_X4_46 rfl (by assumption) ?_
      rw [e7]
      refine q_icmp_ge (tgt := 62) dX4_leastOfRing_14 rfl (by omega) (by omega) (fun c14 => ?_) (fun c14 => ?_)
      · refine r_iconst dX4_leastOfRing_62 ?_
        refine r_ireturn dX4_leastOfRing_63 rfl rfl rfl ?_
        obtain rfl : n = 0 := by omega
        exact ⟨rfl, rfl, rfl⟩
      · obtain ⟨q, rfl⟩ : ∃ q, n = q + 1 := ⟨n - 1, by omega⟩
        have tk := tg_dg (ρ := ρ) (g := e.1) (k := nx) hnx
        have tr := htg.1 nx hnx.1 hnx.2
        have fr := hpi.1 nx hnx.1 hnx.2
        have fe : fT σ (tgF ρ e.1) nx = onF σ (dg (ρ 11) e.1 nx - 1) := by rw [← tk]; rfl
        rw [tk] at tr
        rw [fe] at fr
        rw [lorF, fe]
        refine r_aload_n dX4_leastOfRing_17 rfl ?_
        refine r_aload_n dX4_leastOfRing_18 rfl ?_
        refine r_getR dX4_leastOfRing_19 fl_X4_39 rfl (by assumption) (by assumption) ?_
        refine r_iload_n dX4_leastOfRing_22 rfl ?_
        refine r_iload dX4_leastOfRing_23 rfl ?_
        refine r_cV2F1 dX4_leastOfRing_25 ml_X4_111 yl_X8_spotIn ⟨rfl, rfl⟩ (by assumption) ⟨_, rfl⟩ rfl rfl rfl rfl (c_spotIn hT hW hr32 (by omega) hN.2 hLT.dg he ⟨by omega, by omega⟩) ?_
        refine r_cV1F1 dX4_leastOfRing_28 ml_X4_123 yl_X4_lyingOn ⟨rfl, rfl⟩ (by assumption) ⟨_, rfl⟩ rfl rfl rfl rfl (c_mLying hD (s := dg (ρ 11) e.1 nx - 1) ⟨by omega, by omega⟩) ?_
        refine r_istore dX4_leastOfRing_31 rfl ?_
        refine r_iload dX4_leastOfRing_33 rfl ?_
        refine r_iconst dX4_leastOfRing_35 ?_
        refine q_icmp_ne (tgt := 41) dX4_leastOfRing_36 rfl (by omega) (by omega) (fun c36 => ?_) (fun c36 => ?_)
        · refine r_iload_n dX4_leastOfRing_41 rfl ?_
          refine r_iload dX4_leastOfRing_42 rfl ?_
          refine r_cS2F1 dX4_leastOfRing_44 ml_X4_89 yl_J9_min_7cf53 ⟨rfl, rfl⟩ rfl rfl rfl rfl (j_min (by omega) (by omega)) ?_
          refine r_istore_n dX4_leastOfRing_47 rfl ?_
          refine r_iload dX4_leastOfRing_48 rfl ?_
          refine r_iload_n dX4_leastOfRing_50 rfl ?_
          refine q_icmp_ne (tgt := 56) dX4_leastOfRing_51 rfl (by omega) (by omega) (fun c51 => ?_) (fun c51 => ?_)
          · refine r_iinc dX4_leastOfRing_56 rfl rfl ?_
            refine r_goto (tgt := 8) dX4_leastOfRing_59 rfl ?_
            rw [if_neg (by omega), if_neg (by omega)]
            exact ih q (k + 1) _ _ (by omega) (by omega) (by omega) ⟨by omega, by omega⟩ ⟨by omega, by omega⟩
          · refine r_iload_n dX4_leastOfRing_54 rfl ?_
            refine r_ireturn dX4_leastOfRing_55 rfl rfl rfl ?_
            exact ⟨by rw [if_neg (by omega), if_pos (by omega)], rfl, rfl⟩
        · refine r_iconst dX4_leastOfRing_39 ?_
          refine r_ireturn dX4_leastOfRing_40 rfl rfl rfl ?_
          exact ⟨by rw [if_pos (by omega)], rfl, rfl⟩
  refine AMet.of (by decide) rfl (by decide) rfl ?_
  refine r_iload_n dX4_leastOfRing_0 rfl ?_
  refine r_istore_n dX4_leastOfRing_1 rfl ?_
  refine r_iload_n dX4_leastOfRing_2 rfl ?_
  refine r_istore dX4_leastOfRing_3 rfl ?_
  refine r_iconst dX4_leastOfRing_5 ?_
  refine r_istore dX4_leastOfRing_6 rfl ?_
  exact lB _ (ρ 11).toNat 0 k0 k0 (Nat.lt_succ_self _) (by omega) (by omega) hk hk
theorem lor_rng {f : Int → Int} {N k : Int} (hf : ∀ i, 0 ≤ i → i < N → -1 ≤ f i ∧ f i < N) : ∀ (n : Nat) (le nx : Int), (0 ≤ le ∧ le < N) → (0 ≤ nx ∧ nx < N) → -1 ≤ lorF f k n le nx ∧ lorF f k n le nx < N
  | 0, le, nx, h1, h2 => by rw [lorF]; omega
  | n + 1, le, nx, h1, h2 => by
    have := hf nx h2.1 h2.2
    rw [lorF]
    split
    · omega
    · split
      · omega
      · exact lor_rng hf n _ _ ⟨by omega, by omega⟩ ⟨by omega, by omega⟩
theorem c_movesTo {μ : Mem} {ρ σ : Row} {L : List Ent} (hD : MdC μ ρ σ L) {r : Int} {e : Ent} (he : 0 ≤ r ∧ L[r.toNat]? = some e)  : FMet yX4_movesTo gX4_movesTo SH [vR 182, vI r] μ (some (vI (dmF σ (tgF ρ e.1) (ρ 5)))) μ := by
  obtain ⟨⟨m0, m2, m3, m4, m5, m9⟩, ⟨hT, hW, hLT⟩, ⟨e7, e8⟩, hsp, hon, hDst, h11⟩ := id hD
  have hN : 0 ≤ ρ 11 ∧ ρ 11 ≤ 5 := by rw [← h11]; exact hDst.1
  have hS : 0 ≤ ρ 5 ∧ ρ 5 ≤ 6 := hDst.2.1
  have x172 : SH[172]? = some (7, 15) := rfl
  have x182 : SH[182]? = some (4, 10) := rfl
  have x184 : SH[184]? = some (20, 10) := rfl
  have x185 : SH[185]? = some (20, 5) := rfl
  have x186 : SH[186]? = some (20, 6) := rfl
  have x187 : SH[187]? = some (20, 720) := rfl
  have honr : ∀ s, -1 ≤ onF σ s ∧ onF σ s < ρ 11 ∨ onF σ s = -1 := fun s => by
    rcases on_spec σ s with ⟨a, -⟩ | ⟨a, -⟩ <;> omega
  have hrl : r.toNat < L.length := (List.getElem?_eq_some_iff.1 he.2).1
  have hr32 : -2147483648 ≤ r ∧ r < 2147483648 := by have := hW.2.1; omega
  have htg := hLT e (List.mem_of_getElem? he.2)
  have htg2 : TG (tgF ρ e.1) (σ 11) (ρ 5) := by rw [h11]; exact htg
  have hpi := fT_pi hDst htg2
  rw [h11] at hpi
  have lB : ∀ (f n : Nat) (k : Int) (v : Int), n < f → 0 ≤ k → k + n = ρ 11 → v + sumF (fun k => if fT σ (tgF ρ e.1) k = k then (0 : Int) else if lorF (fT σ (tgF ρ e.1)) k (ρ 11).toNat k k = k then 2 else 1) n k = awF (fT σ (tgF ρ e.1)) (ρ 11) → (0 ≤ v ∧ v ≤ 2 * k) → AW gX4_movesTo SH μ 0 0 4 [some (vR 182), some (vI r), some (vI v), some (vI k)] [] (fun r2 sh2 μ2 => r2 = some (vI (dmF σ (tgF ρ e.1) (ρ 5))) ∧ sh2 = SH ∧ μ2 = μ) := by
    intro f
    induction f with
    | zero => intro n; intros; omega
    | succ f ih =>
      intro n k v hf hk hn2 hv hv0
      refine r_iload_n dX4_movesTo_4 rfl ?_
      refine r_aload_n dX4_movesTo_5 rfl ?_
      refine r_getI dX4_movesTo_6 fl_X4_46 rfl (by assumption) ?_
      rw [e7]
      refine q_icmp_ge (tgt := 54) dX4_movesTo_9 rfl (by omega) (by omega) (fun c9 => ?_) (fun c9 => ?_)
      · refine r_iload_n dX4_movesTo_54 rfl ?_
        refine q_if_le (tgt := 70) dX4_movesTo_55 rfl (by omega) (fun c55 => ?_) (fun c55 => ?_)
        · refine r_iload_n dX4_movesTo_70 rfl ?_
          refine r_ireturn dX4_movesTo_71 rfl rfl rfl ?_
          obtain rfl : n = 0 := by omega
          rw [sumF] at hv
          refine ⟨rI ?_, rfl, rfl⟩
          unfold dmF
          rw [h11]
          first
          | (rw [if_pos ⟨by omega, by omega⟩]; done)
          | (rw [if_neg (fun z => by have := emp_spec (σ := σ) (S := ρ 5); omega)]; omega)
        · refine r_aload_n dX4_movesTo_58 rfl ?_
          refine r_cV0F1 dX4_movesTo_59 ml_X4_117 yl_X4_emptySpot ⟨rfl, rfl⟩ (by assumption) ⟨_, rfl⟩ rfl rfl rfl rfl (c_emptySpot hD) ?_
          refine r_iconst dX4_movesTo_62 ?_
          refine q_icmp_ne (tgt := 70) dX4_movesTo_63 rfl (by have := emp_spec (σ := σ) (S := ρ 5); omega) (by omega) (fun c63 => ?_) (fun c63 => ?_)
          · refine r_iload_n dX4_movesTo_70 rfl ?_
            refine r_ireturn dX4_movesTo_71 rfl rfl rfl ?_
            obtain rfl : n = 0 := by omega
            rw [sumF] at hv
            refine ⟨rI ?_, rfl, rfl⟩
            unfold dmF
            rw [h11]
            first
            | (rw [if_pos ⟨by omega, by omega⟩]; done)
            | (rw [if_neg (fun z => by have := emp_spec (σ := σ) (S := ρ 5); omega)]; omega)
          · refine r_iconst dX4_movesTo_66 ?_
            refine r_goto (tgt := 71) dX4_movesTo_67 rfl ?_
            refine r_ireturn dX4_movesTo_71 rfl rfl rfl ?_
            obtain rfl : n = 0 := by omega
            rw [sumF] at hv
            refine ⟨rI ?_, rfl, rfl⟩
            unfold dmF
            rw [h11]
            first
            | (rw [if_pos ⟨by omega, by omega⟩]; done)
            | (rw [if_neg (fun z => by have := emp_spec (σ := σ) (S := ρ 5); omega)]; omega)
      · obtain ⟨q, rfl⟩ : ∃ q, n = q + 1 := ⟨n - 1, by omega⟩
        have tk := tg_dg (ρ := ρ) (g := e.1) (k := k) ⟨hk, by omega⟩
        have tr := htg.1 k hk (by omega)
        have hh := fT_home hDst htg2 (k := k) ⟨hk, by omega⟩
        have skr := hDst.2.2.1 k hk (by omega)
        have dkr := dg_rng (ρ 11) e.1 k
        have lr := lor_rng (k := k) hpi.1 (ρ 11).toNat k k ⟨hk, by omega⟩ ⟨hk, by omega⟩
        rw [tk] at hh
        rw [sumF] at hv
        refine r_aload_n dX4_movesTo_12 rfl ?_
        refine r_getR dX4_movesTo_13 fl_X4_18 rfl (by assumption) (by assumption) ?_
        refine r_iload_n dX4_movesTo_16 rfl ?_
        refine r_iald dX4_movesTo_17 (by assumption) rfl (by omega) ?_
        rw [hsp k hk (by omega)]
        refine r_aload_n dX4_movesTo_18 rfl ?_
        refine r_getR dX4_movesTo_19 fl_X4_39 rfl (by assumption) (by assumption) ?_
        refine r_iload_n dX4_movesTo_22 rfl ?_
        refine r_iload_n dX4_movesTo_23 rfl ?_
        refine r_cV2F1 dX4_movesTo_24 ml_X4_111 yl_X8_spotIn ⟨rfl, rfl⟩ (by assumption) ⟨_, rfl⟩ rfl rfl rfl rfl (c_spotIn hT hW hr32 (by omega) hN.2 hLT.dg he ⟨by omega, by omega⟩) ?_
        refine q_icmp_eq (tgt := 48) dX4_movesTo_27 rfl (by omega) (by omega) (fun c27 => ?_) (fun c27 => ?_)
        · refine r_iinc dX4_movesTo_48 rfl rfl ?_
          refine r_goto (tgt := 4) dX4_movesTo_51 rfl ?_
          refine ih q (k + 1) _ (by omega) (by omega) (by omega) ?_ ⟨by omega, by omega⟩
          first
          | (rw [if_pos (hh.2 c27)] at hv; omega)
          | (rw [if_neg (fun z => c27 (hh.1 z)), if_pos c38] at hv; omega)
          | (rw [if_neg (fun z => c27 (hh.1 z)), if_neg c38] at hv; omega)
        · refine r_iload_n dX4_movesTo_30 rfl ?_
          refine r_aload_n dX4_movesTo_31 rfl ?_
          refine r_iload_n dX4_movesTo_32 rfl ?_
          refine r_iload_n dX4_movesTo_33 rfl ?_
          refine r_cV2F1 dX4_movesTo_34 ml_X4_114 yl_X4_leastOfRing ⟨rfl, rfl⟩ (by assumption) ⟨_, rfl⟩ rfl rfl rfl rfl (c_ring hD he ⟨hk, by omega⟩) ?_
          refine r_iload_n dX4_movesTo_37 rfl ?_
          refine q_icmp_ne (tgt := 45) dX4_movesTo_38 rfl (by omega) (by omega) (fun c38 => ?_) (fun c38 => ?_)
          · refine r_iconst dX4_movesTo_45 ?_
            refine r_iadd dX4_movesTo_46 ?_
            refine r_istore_n dX4_movesTo_47 rfl ?_
            refine r_iinc dX4_movesTo_48 rfl rfl ?_
            refine r_goto (tgt := 4) dX4_movesTo_51 rfl ?_
            refine ih q (k + 1) _ (by omega) (by omega) (by omega) ?_ ⟨by omega, by omega⟩
            first
            | (rw [if_pos (hh.2 c27)] at hv; omega)
            | (rw [if_neg (fun z => c27 (hh.1 z)), if_pos c38] at hv; omega)
            | (rw [if_neg (fun z => c27 (hh.1 z)), if_neg c38] at hv; omega)
          · refine r_iconst dX4_movesTo_41 ?_
            refine r_goto (tgt := 46) dX4_movesTo_42 rfl ?_
            refine r_iadd dX4_movesTo_46 ?_
            refine r_istore_n dX4_movesTo_47 rfl ?_
            refine r_iinc dX4_movesTo_48 rfl rfl ?_
            refine r_goto (tgt := 4) dX4_movesTo_51 rfl ?_
            refine ih q (k + 1) _ (by omega) (by omega) (by omega) ?_ ⟨by omega, by omega⟩
            first
            | (rw [if_pos (hh.2 c27)] at hv; omega)
            | (rw [if_neg (fun z => c27 (hh.1 z)), if_pos c38] at hv; omega)
            | (rw [if_neg (fun z => c27 (hh.1 z)), if_neg c38] at hv; omega)
  refine AMet.of (by decide) rfl (by decide) rfl ?_
  refine r_iconst dX4_movesTo_0 ?_
  refine r_istore_n dX4_movesTo_1 rfl ?_
  refine r_iconst dX4_movesTo_2 ?_
  refine r_istore_n dX4_movesTo_3 rfl ?_
  exact lB _ (ρ 11).toNat 0 0 (Nat.lt_succ_self _) (by omega) (by omega) (by rw [Int.zero_add]; rfl) ⟨by omega, by omega⟩
set_option maxRecDepth 100000 in
set_option maxHeartbeats 4000000 in
theorem c_leastMoveTo {μ : Mem} {ρ σ : Row} {L : List Ent} (hD : MdC μ ρ σ L) {r : Int} {e : Ent} (he : 0 ≤ r ∧ L[r.toNat]? = some e) {away : Int} (ha : -2147483648 ≤ away ∧ away < 2147483648)  : FMet yX4_leastMoveTo gX4_leastMoveTo SH [vR 182, vI r, vI away] μ (some (vI (lmF σ (tgF ρ e.1) (ρ 5) away))) μ := by
  obtain ⟨⟨m0, m2, m3, m4, m5, m9⟩, ⟨hT, hW, hLT⟩, ⟨e7, e8⟩, hsp, hon, hDst, h11⟩ := id hD
  have hN : 0 ≤ ρ 11 ∧ ρ 11 ≤ 5 := by rw [← h11]; exact hDst.1
  have hS : 0 ≤ ρ 5 ∧ ρ 5 ≤ 6 := hDst.2.1
  have x172 : SH[172]? = some (7, 15) := rfl
  have x182 : SH[182]? = some (4, 10) := rfl
  have x184 : SH[184]? = some (20, 10) := rfl
  have x185 : SH[185]? = some (20, 5) := rfl
  have x186 : SH[186]? = some (20, 6) := rfl
  have x187 : SH[187]? = some (20, 720) := rfl
  have honr : ∀ s, -1 ≤ onF σ s ∧ onF σ s < ρ 11 ∨ onF σ s = -1 := fun s => by
    rcases on_spec σ s with ⟨a, -⟩ | ⟨a, -⟩ <;> omega
  have hrl : r.toNat < L.length := (List.getElem?_eq_some_iff.1 he.2).1
  have hr32 : -2147483648 ≤ r ∧ r < 2147483648 := by have := hW.2.1; omega
  have htg := hLT e (List.mem_of_getElem? he.2)
  have htg2 : TG (tgF ρ e.1) (σ 11) (ρ 5) := by rw [h11]; exact htg
  have hpi := fT_pi hDst htg2
  rw [h11] at hpi
  have lB : ∀ (f n : Nat) (k : Int) (o4 : Option AV), n < f → 0 ≤ k → k + n = ρ 11 → fnd (fun k => lmA σ (tgF ρ e.1) (ρ 5) away k || lmB σ (tgF ρ e.1) (ρ 5) k) n k = lmK σ (tgF ρ e.1) (ρ 5) away → AW gX4_leastMoveTo SH μ 0 0 2 [some (vR 182), some (vI r), some (vI away), some (vI k), o4] [] (fun r2 sh2 μ2 => r2 = some (vI (lmF σ (tgF ρ e.1) (ρ 5) away)) ∧ sh2 = SH ∧ μ2 = μ) := by
    intro f
    induction f with
    | zero => intro n; intros; omega
    | succ f ih =>
      intro n k o4 hf hk hn2 hfn
      refine r_iload_n dX4_leastMoveTo_2 rfl ?_
      refine r_aload_n dX4_leastMoveTo_3 rfl ?_
      refine r_getI dX4_leastMoveTo_4 fl_X4_46 rfl (by assumption) ?_
      rw [e7]
      refine q_icmp_ge (tgt := 96) dX4_leastMoveTo_7 rfl (by omega) (by omega) (fun c7 => ?_) (fun c7 => ?_)
      · refine r_iconst dX4_leastMoveTo_96 ?_
        refine r_ireturn dX4_leastMoveTo_97 rfl rfl rfl ?_
        obtain rfl : n = 0 := by omega
        rw [fnd] at hfn
        refine ⟨rI ?_, rfl, rfl⟩
        unfold lmF
        rw [if_pos (by omega)]
      · obtain ⟨q, rfl⟩ : ∃ q, n = q + 1 := ⟨n - 1, by omega⟩
        have tk := tg_dg (ρ := ρ) (g := e.1) (k := k) ⟨hk, by omega⟩
        have tr := htg.1 k hk (by omega)
        have skr := hDst.2.2.1 k hk (by omega)
        have dkr := dg_rng (ρ 11) e.1 k
        have lr := lor_rng (k := k) hpi.1 (ρ 11).toNat k k ⟨hk, by omega⟩ ⟨hk, by omega⟩
        have hem := emp_spec (σ := σ) (S := ρ 5)
        have hor := honr (dg (ρ 11) e.1 k - 1)
        have hA : lmA σ (tgF ρ e.1) (ρ 5) away k = (decide (σ (93 + k) ≠ dg (ρ 11) e.1 k - 1) && (decide (onF σ (dg (ρ 11) e.1 k - 1) < 0) && !shtB σ (ρ 5) k away)) := by unfold lmA; rw [tk]
        have hB : lmB σ (tgF ρ e.1) (ρ 5) k = decide (σ (93 + k) ≠ dg (ρ 11) e.1 k - 1 ∧ lorF (fT σ (tgF ρ e.1)) k (ρ 11).toNat k k ≠ -1 ∧ 0 ≤ empF σ (ρ 5)) := by unfold lmB; rw [tk, h11]
        rw [fnd] at hfn
        have hyes : (lmA σ (tgF ρ e.1) (ρ 5) away k || lmB σ (tgF ρ e.1) (ρ 5) k) = true → lmK σ (tgF ρ e.1) (ρ 5) away = k := fun z => by rw [if_pos z] at hfn; exact hfn.symm
        have hno : lmA σ (tgF ρ e.1) (ρ 5) away k = false → lmB σ (tgF ρ e.1) (ρ 5) k = false → fnd (fun k => lmA σ (tgF ρ e.1) (ρ 5) away k || lmB σ (tgF ρ e.1) (ρ 5) k) q (k + 1) = lmK σ (tgF ρ e.1) (ρ 5) away := fun z1 z2 => by rw [if_neg (by rw [z1, z2]; decide)] at hfn; exact hfn
        refine r_aload_n dX4_leastMoveTo_10 rfl ?_
        refine r_getR dX4_leastMoveTo_11 fl_X4_39 rfl (by assumption) (by assumption) ?_
        refine r_iload_n dX4_leastMoveTo_14 rfl ?_
        refine r_iload_n dX4_leastMoveTo_15 rfl ?_
        refine r_cV2F1 dX4_leastMoveTo_16 ml_X4_111 yl_X8_spotIn ⟨rfl, rfl⟩ (by assumption) ⟨_, rfl⟩ rfl rfl rfl rfl (c_spotIn hT hW hr32 (by omega) hN.2 hLT.dg he ⟨by omega, by omega⟩) ?_
        refine r_istore dX4_leastMoveTo_19 rfl ?_
        refine r_aload_n dX4_leastMoveTo_21 rfl ?_
        refine r_getR dX4_leastMoveTo_22 fl_X4_18 rfl (by assumption) (by assumption) ?_
        refine r_iload_n dX4_leastMoveTo_25 rfl ?_
        refine r_iald dX4_leastMoveTo_26 (by assumption) rfl (by omega) ?_
        rw [hsp k hk (by omega)]
        refine r_iload dX4_leastMoveTo_27 rfl ?_
        refine q_icmp_ne (tgt := 35) dX4_leastMoveTo_29 rfl (by omega) (by omega) (fun c29 => ?_) (fun c29 => ?_)
        · refine r_aload_n dX4_leastMoveTo_35 rfl ?_
          refine r_iload dX4_leastMoveTo_36 rfl ?_
          refine r_cV1F1 dX4_leastMoveTo_38 ml_X4_123 yl_X4_lyingOn ⟨rfl, rfl⟩ (by assumption) ⟨_, rfl⟩ rfl rfl rfl rfl (c_mLying hD (s := dg (ρ 11) e.1 k - 1) ⟨by omega, by omega⟩) ?_
          refine r_iconst dX4_leastMoveTo_41 ?_
          refine q_icmp_ne (tgt := 62) dX4_leastMoveTo_42 rfl (by omega) (by omega) (fun c42 => ?_) (fun c42 => ?_)
          · refine r_aload_n dX4_leastMoveTo_62 rfl ?_
            refine r_iload_n dX4_leastMoveTo_63 rfl ?_
            refine r_iload_n dX4_leastMoveTo_64 rfl ?_
            refine r_cV2F1 dX4_leastMoveTo_65 ml_X4_114 yl_X4_leastOfRing ⟨rfl, rfl⟩ (by assumption) ⟨_, rfl⟩ rfl rfl rfl rfl (c_ring hD he ⟨hk, by omega⟩) ?_
            refine r_iconst dX4_leastMoveTo_68 ?_
            refine q_icmp_eq (tgt := 90) dX4_leastMoveTo_69 rfl (by omega) (by omega) (fun c69 => ?_) (fun c69 => ?_)
            · refine r_iinc dX4_leastMoveTo_90 rfl rfl ?_
              refine r_goto (tgt := 2) dX4_leastMoveTo_93 rfl ?_
              refine ih q (k + 1) _ (by omega) (by omega) (by omega) (hno ?_ ?_)
              · rw [hA]
                first
                | (have z : ¬ (σ (93 + k) ≠ dg (ρ 11) e.1 k - 1) := by omega
                   rw [decide_eq_false z]; rfl)
                | (have z : ¬ (onF σ (dg (ρ 11) e.1 k - 1) < 0) := by omega
                   rw [decide_eq_false z, Bool.false_and, Bool.and_false])
                | (rw [c51]; simp)
              · rw [hB]
                have z : ¬ (σ (93 + k) ≠ dg (ρ 11) e.1 k - 1 ∧ lorF (fT σ (tgF ρ e.1)) k (ρ 11).toNat k k ≠ -1 ∧ 0 ≤ empF σ (ρ 5)) := by omega
                exact decide_eq_false z
            · refine r_aload_n dX4_leastMoveTo_72 rfl ?_
              refine r_cV0F1 dX4_leastMoveTo_73 ml_X4_117 yl_X4_emptySpot ⟨rfl, rfl⟩ (by assumption) ⟨_, rfl⟩ rfl rfl rfl rfl (c_emptySpot hD) ?_
              refine r_iconst dX4_leastMoveTo_76 ?_
              refine q_icmp_eq (tgt := 90) dX4_leastMoveTo_77 rfl (by omega) (by omega) (fun c77 => ?_) (fun c77 => ?_)
              · refine r_iinc dX4_leastMoveTo_90 rfl rfl ?_
                refine r_goto (tgt := 2) dX4_leastMoveTo_93 rfl ?_
                refine ih q (k + 1) _ (by omega) (by omega) (by omega) (hno ?_ ?_)
                · rw [hA]
                  first
                  | (have z : ¬ (σ (93 + k) ≠ dg (ρ 11) e.1 k - 1) := by omega
                     rw [decide_eq_false z]; rfl)
                  | (have z : ¬ (onF σ (dg (ρ 11) e.1 k - 1) < 0) := by omega
                     rw [decide_eq_false z, Bool.false_and, Bool.and_false])
                  | (rw [c51]; simp)
                · rw [hB]
                  have z : ¬ (σ (93 + k) ≠ dg (ρ 11) e.1 k - 1 ∧ lorF (fT σ (tgF ρ e.1)) k (ρ 11).toNat k k ≠ -1 ∧ 0 ≤ empF σ (ρ 5)) := by omega
                  exact decide_eq_false z
              · refine r_bipush dX4_leastMoveTo_80 (by decide) ?_
                refine r_iload_n dX4_leastMoveTo_82 rfl ?_
                refine r_imul dX4_leastMoveTo_83 ?_
                refine r_aload_n dX4_leastMoveTo_84 rfl ?_
                refine r_cV0F1 dX4_leastMoveTo_85 ml_X4_117 yl_X4_emptySpot ⟨rfl, rfl⟩ (by assumption) ⟨_, rfl⟩ rfl rfl rfl rfl (c_emptySpot hD) ?_
                refine r_iadd dX4_leastMoveTo_88 ?_
                refine r_ireturn dX4_leastMoveTo_89 rfl rfl rfl ?_
                have hAf : lmA σ (tgF ρ e.1) (ρ 5) away k = false := by
                  rw [hA]
                  first
                  | (have z : ¬ (onF σ (dg (ρ 11) e.1 k - 1) < 0) := by omega
                     rw [decide_eq_false z, Bool.false_and, Bool.and_false])
                  | (rw [c51]; simp)
                have hBt : lmB σ (tgF ρ e.1) (ρ 5) k = true := by
                  rw [hB]
                  exact decide_eq_true ⟨c29, by omega, by omega⟩
                refine ⟨rI ?_, rfl, rfl⟩
                unfold lmF
                rw [hyes (by rw [hBt, Bool.or_true]), if_neg (by omega), if_neg (by rw [hAf]; decide)]
          · refine r_aload_n dX4_leastMoveTo_45 rfl ?_
            refine r_iload_n dX4_leastMoveTo_46 rfl ?_
            refine r_iload_n dX4_leastMoveTo_47 rfl ?_
            refine r_cV2F1 dX4_leastMoveTo_48 ml_X4_124 yl_X4_shutsLastGap ⟨rfl, rfl⟩ (by assumption) ⟨_, rfl⟩ rfl rfl rfl rfl (c_shuts hD ⟨hk, by omega⟩ ha) ?_
            refine r_if_neB (tgt := 62) dX4_leastMoveTo_51 rfl (fun c51 => ?_) (fun c51 => ?_)
            · refine r_aload_n dX4_leastMoveTo_62 rfl ?_
              refine r_iload_n dX4_leastMoveTo_63 rfl ?_
              refine r_iload_n dX4_leastMoveTo_64 rfl ?_
              refine r_cV2F1 dX4_leastMoveTo_65 ml_X4_114 yl_X4_leastOfRing ⟨rfl, rfl⟩ (by assumption) ⟨_, rfl⟩ rfl rfl rfl rfl (c_ring hD he ⟨hk, by omega⟩) ?_
              refine r_iconst dX4_leastMoveTo_68 ?_
              refine q_icmp_eq (tgt := 90) dX4_leastMoveTo_69 rfl (by omega) (by omega) (fun c69 => ?_) (fun c69 => ?_)
              · refine r_iinc dX4_leastMoveTo_90 rfl rfl ?_
                refine r_goto (tgt := 2) dX4_leastMoveTo_93 rfl ?_
                refine ih q (k + 1) _ (by omega) (by omega) (by omega) (hno ?_ ?_)
                · rw [hA]
                  first
                  | (have z : ¬ (σ (93 + k) ≠ dg (ρ 11) e.1 k - 1) := by omega
                     rw [decide_eq_false z]; rfl)
                  | (have z : ¬ (onF σ (dg (ρ 11) e.1 k - 1) < 0) := by omega
                     rw [decide_eq_false z, Bool.false_and, Bool.and_false])
                  | (rw [c51]; simp)
                · rw [hB]
                  have z : ¬ (σ (93 + k) ≠ dg (ρ 11) e.1 k - 1 ∧ lorF (fT σ (tgF ρ e.1)) k (ρ 11).toNat k k ≠ -1 ∧ 0 ≤ empF σ (ρ 5)) := by omega
                  exact decide_eq_false z
              · refine r_aload_n dX4_leastMoveTo_72 rfl ?_
                refine r_cV0F1 dX4_leastMoveTo_73 ml_X4_117 yl_X4_emptySpot ⟨rfl, rfl⟩ (by assumption) ⟨_, rfl⟩ rfl rfl rfl rfl (c_emptySpot hD) ?_
                refine r_iconst dX4_leastMoveTo_76 ?_
                refine q_icmp_eq (tgt := 90) dX4_leastMoveTo_77 rfl (by omega) (by omega) (fun c77 => ?_) (fun c77 => ?_)
                · refine r_iinc dX4_leastMoveTo_90 rfl rfl ?_
                  refine r_goto (tgt := 2) dX4_leastMoveTo_93 rfl ?_
                  refine ih q (k + 1) _ (by omega) (by omega) (by omega) (hno ?_ ?_)
                  · rw [hA]
                    first
                    | (have z : ¬ (σ (93 + k) ≠ dg (ρ 11) e.1 k - 1) := by omega
                       rw [decide_eq_false z]; rfl)
                    | (have z : ¬ (onF σ (dg (ρ 11) e.1 k - 1) < 0) := by omega
                       rw [decide_eq_false z, Bool.false_and, Bool.and_false])
                    | (rw [c51]; simp)
                  · rw [hB]
                    have z : ¬ (σ (93 + k) ≠ dg (ρ 11) e.1 k - 1 ∧ lorF (fT σ (tgF ρ e.1)) k (ρ 11).toNat k k ≠ -1 ∧ 0 ≤ empF σ (ρ 5)) := by omega
                    exact decide_eq_false z
                · refine r_bipush dX4_leastMoveTo_80 (by decide) ?_
                  refine r_iload_n dX4_leastMoveTo_82 rfl ?_
                  refine r_imul dX4_leastMoveTo_83 ?_
                  refine r_aload_n dX4_leastMoveTo_84 rfl ?_
                  refine r_cV0F1 dX4_leastMoveTo_85 ml_X4_117 yl_X4_emptySpot ⟨rfl, rfl⟩ (by assumption) ⟨_, rfl⟩ rfl rfl rfl rfl (c_emptySpot hD) ?_
                  refine r_iadd dX4_leastMoveTo_88 ?_
                  refine r_ireturn dX4_leastMoveTo_89 rfl rfl rfl ?_
                  have hAf : lmA σ (tgF ρ e.1) (ρ 5) away k = false := by
                    rw [hA]
                    first
                    | (have z : ¬ (onF σ (dg (ρ 11) e.1 k - 1) < 0) := by omega
                       rw [decide_eq_false z, Bool.false_and, Bool.and_false])
                    | (rw [c51]; simp)
                  have hBt : lmB σ (tgF ρ e.1) (ρ 5) k = true := by
                    rw [hB]
                    exact decide_eq_true ⟨c29, by omega, by omega⟩
                  refine ⟨rI ?_, rfl, rfl⟩
                  unfold lmF
                  rw [hyes (by rw [hBt, Bool.or_true]), if_neg (by omega), if_neg (by rw [hAf]; decide)]
            · refine r_bipush dX4_leastMoveTo_54 (by decide) ?_
              refine r_iload_n dX4_leastMoveTo_56 rfl ?_
              refine r_imul dX4_leastMoveTo_57 ?_
              refine r_iload dX4_leastMoveTo_58 rfl ?_
              refine r_iadd dX4_leastMoveTo_60 ?_
              refine r_ireturn dX4_leastMoveTo_61 rfl rfl rfl ?_
              have hAt : lmA σ (tgF ρ e.1) (ρ 5) away k = true := by
                rw [hA, decide_eq_true c29, decide_eq_true (show onF σ (dg (ρ 11) e.1 k - 1) < 0 by omega), c51]
                rfl
              refine ⟨rI ?_, rfl, rfl⟩
              unfold lmF
              rw [hyes (by rw [hAt, Bool.true_or]), if_neg (by omega), if_pos hAt, tk]
        · refine r_goto (tgt := 90) dX4_leastMoveTo_32 rfl ?_
          refine r_iinc dX4_leastMoveTo_90 rfl rfl ?_
          refine r_goto (tgt := 2) dX4_leastMoveTo_93 rfl ?_
          refine ih q (k + 1) _ (by omega) (by omega) (by omega) (hno ?_ ?_)
          · rw [hA]
            first
            | (have z : ¬ (σ (93 + k) ≠ dg (ρ 11) e.1 k - 1) := by omega
               rw [decide_eq_false z]; rfl)
            | (have z : ¬ (onF σ (dg (ρ 11) e.1 k - 1) < 0) := by omega
               rw [decide_eq_false z, Bool.false_and, Bool.and_false])
            | (rw [c51]; simp)
          · rw [hB]
            have z : ¬ (σ (93 + k) ≠ dg (ρ 11) e.1 k - 1 ∧ lorF (fT σ (tgF ρ e.1)) k (ρ 11).toNat k k ≠ -1 ∧ 0 ≤ empF σ (ρ 5)) := by omega
            exact decide_eq_false z
  refine AMet.of (by decide) rfl (by decide) rfl ?_
  refine r_iconst dX4_leastMoveTo_0 ?_
  refine r_istore_n dX4_leastMoveTo_1 rfl ?_
  exact lB _ (ρ 11).toNat 0 _ (Nat.lt_succ_self _) (by omega) (by omega) (by unfold lmK; rw [h11])
def DmQ (μ μ2 : Mem) : Prop := Kp (fun a => a ≠ 185 ∧ a ≠ 186) μ μ2 ∧ μ2.2 = μ.2
theorem MdC.moved {μ μ2 : Mem} {ρ σ : Row} {L : List Ent} {k s : Int} (hD : MdC μ ρ σ L) (hk : 0 ≤ k ∧ k < ρ 11) (hs : 0 ≤ s ∧ s < ρ 5) (ho : onF σ s < 0) (hq : DmQ μ μ2) (h5 : ∀ j, μ2.1 185 j = if j = k then s else μ.1 185 j) (h6 : ∀ j, 0 ≤ j → j < 6 → μ2.1 186 j = if j = s then k else if j = σ (93 + k) then -1 else μ.1 186 j) : MdC μ2 ρ (rset σ (93 + k) s) L := by
  obtain ⟨h1, ⟨hT, hW, hLT⟩, ⟨e7, e8⟩, hsp, hon, hDst, h11⟩ := hD
  have e182 := (hq.1 182 (by (try dsimp only); omega)).1
  refine ⟨by rw [hq.2]; exact h1, ⟨by rw [hq.2]; exact hT, hW.ext (hq.1.mono (fun q hq => by (try dsimp only at *); omega)), hLT⟩, ⟨by rw [e182]; exact e7, by rw [e182]; exact e8⟩, fun j j0 j1 => ?_, fun j j0 j1 => ?_, hDst.set (by rw [h11]; exact hk) (Or.inr ⟨hs, ho⟩), by rw [rset_ne (by omega)]; exact h11⟩
  · rw [h5]
    by_cases c : j = k
    · rw [if_pos c, c, rset_eq]
    · rw [if_neg c, rset_ne (by omega)]; exact hsp j j0 j1
  · rw [h6 j j0 j1, on_move hDst (by rw [h11]; exact hk) hs ho j0, hon j j0 j1]
    by_cases c : j = s
    · rw [if_pos c, if_pos c]
    · rw [if_neg c, if_neg c]
      by_cases c2 : j = σ (93 + k)
      · rw [if_pos c2, if_pos (on_at hDst (by rw [h11]; exact hk) j0 c2.symm)]
      · rw [if_neg c2]
        rw [if_neg (fun z => by
          rcases on_spec σ j with ⟨a, -⟩ | ⟨-, a⟩
          · omega
          · rw [z] at a; exact c2 a.symm)]
theorem c_doMove {μ : Mem} {ρ σ : Row} {L : List Ent} (hD : MdC μ ρ σ L) {k s : Int} (hk : 0 ≤ k ∧ k < ρ 11) (hs : 0 ≤ s ∧ s < ρ 5) (ho : onF σ s < 0)  : VMet yX4_doMove gX4_doMove SH [vR 182, vI k, vI s] μ (fun μ2 => DmQ μ μ2 ∧ MdC μ2 ρ (rset σ (93 + k) s) L) := by
  obtain ⟨⟨m0, m2, m3, m4, m5, m9⟩, ⟨hT, hW, hLT⟩, ⟨e7, e8⟩, hsp, hon, hDst, h11⟩ := id hD
  have hN : 0 ≤ ρ 11 ∧ ρ 11 ≤ 5 := by rw [← h11]; exact hDst.1
  have hS : 0 ≤ ρ 5 ∧ ρ 5 ≤ 6 := hDst.2.1
  have x172 : SH[172]? = some (7, 15) := rfl
  have x182 : SH[182]? = some (4, 10) := rfl
  have x184 : SH[184]? = some (20, 10) := rfl
  have x185 : SH[185]? = some (20, 5) := rfl
  have x186 : SH[186]? = some (20, 6) := rfl
  have x187 : SH[187]? = some (20, 720) := rfl
  have honr : ∀ s, -1 ≤ onF σ s ∧ onF σ s < ρ 11 ∨ onF σ s = -1 := fun s => by
    rcases on_spec σ s with ⟨a, -⟩ | ⟨a, -⟩ <;> omega
  have skr := hDst.2.2.1 k hk.1 (by omega)
  refine AMet.of (by decide) rfl (by decide) rfl ?_
  refine r_iload_n dX4_doMove_0 rfl ?_
  refine q_if_lt (tgt := 19) dX4_doMove_1 rfl (by omega) (fun c1 => ?_) (fun c1 => ?_)
  · exact absurd c1 (by omega)
  · refine r_iload_n dX4_doMove_4 rfl ?_
    refine r_iconst dX4_doMove_5 ?_
    refine q_icmp_ge (tgt := 19) dX4_doMove_6 rfl (by omega) (by omega) (fun c6 => ?_) (fun c6 => ?_)
    · exact absurd c6 (by omega)
    · refine r_iload_n dX4_doMove_9 rfl ?_
      refine q_if_lt (tgt := 19) dX4_doMove_10 rfl (by omega) (fun c10 => ?_) (fun c10 => ?_)
      · exact absurd c10 (by omega)
      · refine r_iload_n dX4_doMove_13 rfl ?_
        refine r_bipush dX4_doMove_14 (by decide) ?_
        refine q_icmp_lt (tgt := 20) dX4_doMove_16 rfl (by omega) (by omega) (fun c16 => ?_) (fun c16 => ?_)
        · refine r_aload_n dX4_doMove_20 rfl ?_
          refine r_getR dX4_doMove_21 fl_X4_18 rfl (by assumption) (by assumption) ?_
          refine r_iload_n dX4_doMove_24 rfl ?_
          refine r_iald dX4_doMove_25 (by assumption) rfl (by omega) ?_
          rw [hsp k hk.1 hk.2]
          refine r_istore_n dX4_doMove_26 rfl ?_
          refine r_iload_n dX4_doMove_27 rfl ?_
          refine q_if_lt (tgt := 44) dX4_doMove_28 rfl (by omega) (fun c28 => ?_) (fun c28 => ?_)
          · refine r_aload_n dX4_doMove_44 rfl ?_
            refine r_getR dX4_doMove_45 fl_X4_18 rfl (by assumption) (by assumption) ?_
            refine r_iload_n dX4_doMove_48 rfl ?_
            refine r_iload_n dX4_doMove_49 rfl ?_
            refine r_iast dX4_doMove_50 (by assumption) rfl (by omega) ?_
            refine r_aload_n dX4_doMove_51 rfl ?_
            refine r_getR dX4_doMove_52 fl_X4_21 rfl (by assumption) (by assumption) ?_
            refine r_iload_n dX4_doMove_55 rfl ?_
            refine r_iload_n dX4_doMove_56 rfl ?_
            refine r_iast dX4_doMove_57 (by assumption) rfl (by omega) ?_
            refine r_return dX4_doMove_58 rfl rfl rfl ?_
            first
            | (have hq : DmQ μ (setI (setI (setI μ 186 (σ (93 + k)) (-1)) 185 k s) 186 s k) := ⟨(((Kp.rf _ μ).sI (by omega)).sI (by omega)).sI (by omega), rfl⟩
               refine ⟨rfl, rfl, hq, hD.moved hk hs ho hq (fun j => ?_) (fun j j0 j1 => ?_)⟩
               · rw [sI_ne (by omega)]
                 by_cases c : j = k
                 · rw [if_pos c, c, sI_at]
                 · rw [if_neg c, sI_nj c, sI_ne (by omega)]
               · by_cases c : j = s
                 · rw [if_pos c, c, sI_at]
                 · rw [if_neg c, sI_nj c, sI_ne (by omega)]
                   by_cases c2 : j = σ (93 + k)
                   · rw [if_pos c2, c2, sI_at]
                   · rw [if_neg c2, sI_nj c2])
            | (have hq : DmQ μ (setI (setI μ 185 k s) 186 s k) := ⟨((Kp.rf _ μ).sI (by omega)).sI (by omega), rfl⟩
               refine ⟨rfl, rfl, hq, hD.moved hk hs ho hq (fun j => ?_) (fun j j0 j1 => ?_)⟩
               · rw [sI_ne (by omega)]
                 by_cases c : j = k
                 · rw [if_pos c, c, sI_at]
                 · rw [if_neg c, sI_nj c]
               · by_cases c : j = s
                 · rw [if_pos c, c, sI_at]
                 · rw [if_neg c, sI_nj c, sI_ne (by omega), if_neg (by omega)])
          · refine r_iload_n dX4_doMove_31 rfl ?_
            refine r_bipush dX4_doMove_32 (by decide) ?_
            refine q_icmp_ge (tgt := 44) dX4_doMove_34 rfl (by omega) (by omega) (fun c34 => ?_) (fun c34 => ?_)
            · exact absurd c34 (by omega)
            · refine r_aload_n dX4_doMove_37 rfl ?_
              refine r_getR dX4_doMove_38 fl_X4_21 rfl (by assumption) (by assumption) ?_
              refine r_iload_n dX4_doMove_41 rfl ?_
              refine r_iconst dX4_doMove_42 ?_
              refine r_iast dX4_doMove_43 (by assumption) rfl (by omega) ?_
              refine r_aload_n dX4_doMove_44 rfl ?_
              refine r_getR dX4_doMove_45 fl_X4_18 rfl (by assumption) (by assumption) ?_
              refine r_iload_n dX4_doMove_48 rfl ?_
              refine r_iload_n dX4_doMove_49 rfl ?_
              refine r_iast dX4_doMove_50 (by assumption) rfl (by omega) ?_
              refine r_aload_n dX4_doMove_51 rfl ?_
              refine r_getR dX4_doMove_52 fl_X4_21 rfl (by assumption) (by assumption) ?_
              refine r_iload_n dX4_doMove_55 rfl ?_
              refine r_iload_n dX4_doMove_56 rfl ?_
              refine r_iast dX4_doMove_57 (by assumption) rfl (by omega) ?_
              refine r_return dX4_doMove_58 rfl rfl rfl ?_
              first
              | (have hq : DmQ μ (setI (setI (setI μ 186 (σ (93 + k)) (-1)) 185 k s) 186 s k) := ⟨(((Kp.rf _ μ).sI (by omega)).sI (by omega)).sI (by omega), rfl⟩
                 refine ⟨rfl, rfl, hq, hD.moved hk hs ho hq (fun j => ?_) (fun j j0 j1 => ?_)⟩
                 · rw [sI_ne (by omega)]
                   by_cases c : j = k
                   · rw [if_pos c, c, sI_at]
                   · rw [if_neg c, sI_nj c, sI_ne (by omega)]
                 · by_cases c : j = s
                   · rw [if_pos c, c, sI_at]
                   · rw [if_neg c, sI_nj c, sI_ne (by omega)]
                     by_cases c2 : j = σ (93 + k)
                     · rw [if_pos c2, c2, sI_at]
                     · rw [if_neg c2, sI_nj c2])
              | (have hq : DmQ μ (setI (setI μ 185 k s) 186 s k) := ⟨((Kp.rf _ μ).sI (by omega)).sI (by omega), rfl⟩
                 refine ⟨rfl, rfl, hq, hD.moved hk hs ho hq (fun j => ?_) (fun j j0 j1 => ?_)⟩
                 · rw [sI_ne (by omega)]
                   by_cases c : j = k
                   · rw [if_pos c, c, sI_at]
                   · rw [if_neg c, sI_nj c]
                 · by_cases c : j = s
                   · rw [if_pos c, c, sI_at]
                   · rw [if_neg c, sI_nj c, sI_ne (by omega), if_neg (by omega)])
        · exact absurd c16 (by omega)

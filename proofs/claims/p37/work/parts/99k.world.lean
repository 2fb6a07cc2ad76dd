/-! 95.world: the world that the law begins in, out of the premises (wip/p37/src/99k.py) -/
abbrev gvC : Cond := Cond.and given_1 narrow_1
theorem gv_in {args : Array Value} {s : State} {k : Nat} {w : Cond} (hg : gvC.before args s = true) (h : (flatC gvC)[k]? = some w) : w.before args s = true := flat_of_before _ hg _ (List.mem_of_getElem? h)
def sxP : List Nat := [9, 18, 26, 164, 173, 183, 191, 200, 209, 218, 229, 145, 155, 34, 44, 53, 62, 71, 79, 87, 96, 103, 111, 119, 127, 137]
abbrev sxTm (i : Nat) : Term := .string (sxO i) (sxI i)
theorem gP_ex : ∀ i : Fin 26, (flatC gvC)[sxP.getD i.val 0]? = some (Cond.exactly (sxTm i.val) "java/lang/String") := by decide +kernel
theorem gP_co : ∀ i : Fin 26, (flatC gvC)[sxP.getD i.val 0 + 1]? = some (Cond.eq (.field (sxTm i.val) "java/lang/String" "coder" "B") (.int 0)) := by decide +kernel
theorem gP_ar : ∀ i : Fin 26, (flatC gvC)[sxP.getD i.val 0 + 2]? = some (Cond.arrayOf (.field (sxTm i.val) "java/lang/String" "value" "[B") .byte) := by decide +kernel
theorem gP_le : ∀ i : Fin 26, (flatC gvC)[sxP.getD i.val 0 + 3]? = some (Cond.eq (.length (.field (sxTm i.val) "java/lang/String" "value" "[B")) (.int (Int32.ofNat (sxB i.val).length))) := by decide +kernel
theorem gP_el : ∀ i : Fin 26, ∀ j : Fin 6, j.val < (sxB i.val).length → (flatC gvC)[sxP.getD i.val 0 + 4 + j.val]? = some (Cond.eq (.elem (.field (sxTm i.val) "java/lang/String" "value" "[B") (.int (Int32.ofNat j.val))) (.int (Int32.ofInt ((sxB i.val).getD j.val 0)))) := by decide +kernel
theorem gP_len : ∀ i : Fin 26, (sxB i.val).length ≤ 6 := by decide +kernel
theorem gP_sr : ∀ i : Fin 26, Cond.stringRef (sxO i.val) (sxI i.val) (sxX i.val) ∈ lw_tbl := by decide +kernel
theorem gC_cs : (flatC gvC)[4]? = some (Cond.eq (.static "java/lang/String" "COMPACT_STRINGS" "Z") (.int 1)) := by decide +kernel
theorem gC_si : (flatC gvC)[5]? = some (Cond.isRef (.static "jdk/internal/util/Preconditions" "SIOOBE_FORMATTER" "Ljava/util/function/BiFunction;")) := by decide +kernel
theorem gT_ns : ∀ q ∈ nestL, Cond.methodLinkNest q.1 q.2.1 q.2.2.1 q.2.2.2 ∈ lw_tbl := by decide +kernel
theorem gT_ao : Cond.arrayOver (.object "LoadSpans$Cargo") ∈ lw_tbl := by decide +kernel
theorem gT_cs : Cond.laysStatic "java/lang/String" "COMPACT_STRINGS" "Z" ∈ lw_tbl ∧ Cond.initialized "java/lang/String" ∈ lw_tbl := by decide +kernel
theorem gT_si : Cond.laysStatic "jdk/internal/util/Preconditions" "SIOOBE_FORMATTER" "Ljava/util/function/BiFunction;" ∈ lw_tbl ∧ Cond.initialized "jdk/internal/util/Preconditions" ∈ lw_tbl := by decide +kernel
section WORLD
variable {args : Array Value} {s : State}
theorem wd_arr {ty : FieldType} (h : (Cond.arrayClass ty).before args s = true) (hty : ∀ C, ty ≠ .object C) : ∃ cA : ClassId, ArrOfT s cA ty ∧ va_RA s cA ty := by
  obtain ⟨cA, kA, comp, h1, h2, h3⟩ := Cond.arrayClass_spec (args := args) (first := s) (o := none) (idx := []) h
  refine ⟨cA, ?_, ?_⟩
  · cases ty with
    | object C => exact absurd rfl (hty C)
    | _ => exact fun n z => ⟨fun k h => (by cases h), kA, h2, comp, h3⟩
  · cases ty with
    | object C => exact absurd rfl (hty C)
    | _ => exact h1
theorem wd_arrO {C : String} (h : (Cond.arrayOver (.object C)).before args s = true) : ∃ cA : ClassId, ArrOfT s cA (.object C) ∧ va_RA s cA (.object C) := by
  obtain ⟨comp, cA, kA, f2, -, hk, hkind, hn⟩ := Cond.arrayOver_spec (args := args) (first := s) (o := none) (idx := []) h
  exact ⟨cA, fun n z => ⟨fun k h => (by cases h), kA, hk, comp, hkind⟩, kA, comp, hk, hkind, f2, hn⟩
theorem wd_str {tm : Term} {bs : List Int} {Q : Nat → Prop} (hN : bs.length < 2 ^ 31) (hex : (Cond.exactly tm "java/lang/String").before args s = true) (hco : (Cond.eq (.field tm "java/lang/String" "coder" "B") (.int 0)).before args s = true) (har : (Cond.arrayOf (.field tm "java/lang/String" "value" "[B") .byte).before args s = true)
    (hle : (Cond.eq (.length (.field tm "java/lang/String" "value" "[B")) (.int (Int32.ofNat bs.length))).before args s = true) (hel : ∀ j : Nat, j < bs.length → (Cond.eq (.elem (.field tm "java/lang/String" "value" "[B") (.int (Int32.ofNat j))) (.int (Int32.ofInt (bs.getD j 0)))).before args s = true) (hA : ∀ a : Nat, a < s.heap.size → ¬ Q a) :
    ∃ q : Nat × Nat, tm.eval args s none [] s = some (.ref q.1) ∧ va_O "java/lang/String" q.1 Q s s.heap ∧ va_OF "java/lang/String" "coder" "B" (.int 0) q.1 Q s s.heap ∧ va_OF "java/lang/String" "value" "[B" (.ref q.2) q.1 Q s s.heap ∧ va_T .byte q.2 bs.length (fun j => .int (Int32.ofInt (bs.getD j 0))) Q s s.heap := by
  obtain ⟨a, -, -, -, q1, -⟩ := Cond.exactly_spec (args := args) (first := s) (o := none) (s := s) (idx := []) (t := tm) (cls := "java/lang/String") hex
  obtain ⟨t, ht, hT⟩ := va_Tof (f := fun j => .int (Int32.ofInt (bs.getD j 0))) (A := Q) hN har (va_eqt hle) (fun j hj => va_eqt (hel j hj)) hA
  exact ⟨(a, t), q1, va_Oof hex q1 hA, vk_OFof q1 (va_eqt hco) hA, vk_OFof q1 ht hA, hT⟩
theorem wd_strs {Q : Nat → Prop} (hg : gvC.before args s = true) (hA : ∀ a : Nat, a < s.heap.size → ¬ Q a) : ∃ ad : Nat → Nat × Nat, ∀ i : Nat, i < 26 → (sxTm i).eval args s none [] s = some (.ref (ad i).1) ∧ va_O "java/lang/String" (ad i).1 Q s s.heap ∧ va_OF "java/lang/String" "coder" "B" (.int 0) (ad i).1 Q s s.heap ∧ va_OF "java/lang/String" "value" "[B" (.ref (ad i).2) (ad i).1 Q s s.heap ∧ va_T .byte (ad i).2 (sxB i).length (fun j => .int (Int32.ofInt ((sxB i).getD j 0))) Q s s.heap := by
  have h0 : ∀ i : Nat, ∃ q : Nat × Nat, i < 26 → (sxTm i).eval args s none [] s = some (.ref q.1) ∧ va_O "java/lang/String" q.1 Q s s.heap ∧ va_OF "java/lang/String" "coder" "B" (.int 0) q.1 Q s s.heap ∧ va_OF "java/lang/String" "value" "[B" (.ref q.2) q.1 Q s s.heap ∧ va_T .byte q.2 (sxB i).length (fun j => .int (Int32.ofInt ((sxB i).getD j 0))) Q s s.heap := by
    intro i
    by_cases hi : i < 26
    · have hl := gP_len ⟨i, hi⟩
      obtain ⟨q, h⟩ := wd_str (tm := sxTm i) (bs := sxB i) (Nat.lt_of_le_of_lt hl (by decide)) (gv_in hg (gP_ex ⟨i, hi⟩)) (gv_in hg (gP_co ⟨i, hi⟩)) (gv_in hg (gP_ar ⟨i, hi⟩)) (gv_in hg (gP_le ⟨i, hi⟩)) (fun j hj => gv_in hg (gP_el ⟨i, hi⟩ ⟨j, Nat.lt_of_lt_of_le hj hl⟩ hj)) hA
      exact ⟨q, fun _ => h⟩
    · exact ⟨(0, 0), fun h => absurd h hi⟩
  exact Classical.axiomOfChoice h0
theorem wd_cls (hts : ∀ w ∈ lw_tbl, w.before args s = true) : ∃ D : va_G, ∀ (k : Nat) (q : vw_C), vwCl[k]? = some q → u_Kn s q.1 q.2.1 q.2.2 (D.1 k) (D.2 k) := by
  have ht : ∀ w ∈ GW, w.before args s = true := fun w hw => hts w (List.mem_filter.mp hw).1
  have h : ∀ k : Nat, ∃ z : ClassId × (Nat → Nat), ∀ q : vw_C, vwCl[k]? = some q → u_Kn s q.1 q.2.1 q.2.2 z.1 z.2 := by
    intro k
    match k with
    | 0 =>
      obtain ⟨cC, iS, h⟩ := u_known (C := RX0) (T := TX0) (N := 7) (n := 7) ht gwX0 (hts (.instantiable RX0 7) (by decide +kernel))
      exact ⟨(cC, iS), fun q hq => by cases hq; exact h⟩
    | 1 =>
      obtain ⟨cC, iS, h⟩ := u_known (C := RX1) (T := TX1) (N := 12) (n := 12) ht gwX1 (hts (.instantiable RX1 12) (by decide +kernel))
      exact ⟨(cC, iS), fun q hq => by cases hq; exact h⟩
    | 2 =>
      obtain ⟨cC, iS, h⟩ := u_known (C := RX2) (T := TX2) (N := 3) (n := 3) ht gwX2 (hts (.instantiable RX2 3) (by decide +kernel))
      exact ⟨(cC, iS), fun q hq => by cases hq; exact h⟩
    | 3 =>
      obtain ⟨cC, iS, h⟩ := u_known (C := RX3) (T := TX3) (N := 3) (n := 3) ht gwX3 (hts (.instantiable RX3 3) (by decide +kernel))
      exact ⟨(cC, iS), fun q hq => by cases hq; exact h⟩
    | 4 =>
      obtain ⟨cC, iS, h⟩ := u_known (C := RX4) (T := TX4) (N := 10) (n := 10) ht gwX4 (hts (.instantiable RX4 10) (by decide +kernel))
      exact ⟨(cC, iS), fun q hq => by cases hq; exact h⟩
    | 5 =>
      obtain ⟨cC, iS, h⟩ := u_known (C := RX5) (T := TX5) (N := 9) (n := 9) ht gwX5 (hts (.instantiable RX5 9) (by decide +kernel))
      exact ⟨(cC, iS), fun q hq => by cases hq; exact h⟩
    | 6 =>
      obtain ⟨cC, iS, h⟩ := u_known (C := RX6) (T := TX6) (N := 4) (n := 4) ht gwX6 (hts (.instantiable RX6 4) (by decide +kernel))
      exact ⟨(cC, iS), fun q hq => by cases hq; exact h⟩
    | 7 =>
      obtain ⟨cC, iS, h⟩ := u_known (C := RX8) (T := TX8) (N := 15) (n := 15) ht gwX8 (hts (.instantiable RX8 15) (by decide +kernel))
      exact ⟨(cC, iS), fun q hq => by cases hq; exact h⟩
    | 8 =>
      obtain ⟨cC, iS, h⟩ := u_known (C := RX9) (T := TX9) (N := 7) (n := 7) ht gwX9 (hts (.instantiable RX9 7) (by decide +kernel))
      exact ⟨(cC, iS), fun q hq => by cases hq; exact h⟩
    | 9 =>
      obtain ⟨cC, iS, h⟩ := u_known (C := RX10) (T := TX10) (N := 12) (n := 12) ht gwX10 (hts (.instantiable RX10 12) (by decide +kernel))
      exact ⟨(cC, iS), fun q hq => by cases hq; exact h⟩
    | 10 =>
      obtain ⟨cC, iS, h⟩ := u_known (C := RX11) (T := TX11) (N := 11) (n := 11) ht gwX11 (hts (.instantiable RX11 11) (by decide +kernel))
      exact ⟨(cC, iS), fun q hq => by cases hq; exact h⟩
    | k + 11 =>
      obtain ⟨cC, iS, -⟩ := u_known (C := RX0) (T := TX0) (N := 7) (n := 7) ht gwX0 (hts (.instantiable RX0 7) (by decide +kernel))
      exact ⟨(cC, iS), fun q hq => by simp at hq⟩
  obtain ⟨z, hz⟩ := Classical.axiomOfChoice h
  exact ⟨(fun k => (z k).1, fun k => (z k).2), hz⟩
theorem wd_of {b L : Nat} {xs : Nat → Int32} (hts : ∀ w ∈ lw_tbl, w.before args s = true) (hg : gvC.before args s = true) (hX : va_X b L xs s s.heap) (hb : b < s.heap.size) (hL : L ≤ 260) :
    ∃ w : Wd, wB w = s.heap.size ∧ wE w 62 = b ∧ (wE w 62 = wS w ∧ wL w = L ∧ wXs w = xs) ∧ va_K (wG w) vwCl (tysW w) s ∧ ExtOK w s s.heap := by
  have ht : ∀ w ∈ GW, w.before args s = true := fun w hw => hts w (List.mem_filter.mp hw).1
  have hA : ∀ a : Nat, a < s.heap.size → ¬ (fun q : Nat => s.heap.size ≤ q) a := fun a h => Nat.not_le.mpr h
  obtain ⟨D, hD⟩ := wd_cls hts
  obtain ⟨cI, i1, i2⟩ := wd_arr (ht _ ac_I) (fun C h => by cases h)
  obtain ⟨cL, l1, l2⟩ := wd_arr (ht _ ac_L) (fun C h => by cases h)
  obtain ⟨cB, b1, b2⟩ := wd_arr (ht _ ac_B) (fun C h => by cases h)
  obtain ⟨cZ, z1, z2⟩ := wd_arr (ht _ ac_Z) (fun C h => by cases h)
  obtain ⟨cC, c1, c2⟩ := wd_arrO (hts _ gT_ao)
  obtain ⟨ad, had⟩ := wd_strs hg hA
  have hcs := va_Zof (hts _ gT_cs.1) (hts _ gT_cs.2) (va_eqt (gv_in hg gC_cs)) hA
  have hsi := va_Zqof (hts _ gT_si.1) (hts _ gT_si.2) (gv_in hg gC_si) hA
  obtain ⟨f, hf⟩ : ∃ f : Nat, ∃ v : Value, (v = .null ∨ v = .ref f) ∧ va_Z "jdk/internal/util/Preconditions" "SIOOBE_FORMATTER" "Ljava/util/function/BiFunction;" v (fun q : Nat => s.heap.size ≤ q) s s.heap := by
    rcases hsi with h | ⟨t, h⟩
    · exact ⟨0, _, Or.inl rfl, h⟩
    · exact ⟨t, _, Or.inr rfl, h⟩
  let E : Nat → Nat := fun i => if i < 26 then (ad i).1 else if i < 52 then (ad (i - 26)).2 else if i = 61 then f else b
  have E1 : ∀ i : Nat, i < 26 → E i = (ad i).1 := fun i hi => if_pos hi
  have E2 : ∀ i : Nat, i < 26 → E (26 + i) = (ad i).2 := fun i hi => by
    show (if 26 + i < 26 then (ad (26 + i)).1 else if 26 + i < 52 then (ad (26 + i - 26)).2 else if 26 + i = 61 then f else b) = _
    rw [if_neg (by omega), if_pos (by omega), show 26 + i - 26 = i by omega]
  refine ⟨(s.heap.size, D.1, D.2, fun k => if k = 0 then cI else if k = 1 then cL else if k = 2 then cB else if k = 3 then cZ else cC, E, b, L, xs), rfl, rfl, ⟨rfl, rfl, rfl⟩, ⟨hD, fun k q hq => ?_⟩, ⟨⟨hb, rfl, hL⟩, hX⟩, ⟨hcs, hcs, hcs, hf.choose, hf.choose_spec.1, hf.choose_spec.2⟩, fun i hi => ?_, fun i hi => ?_, fun q hq => va_Nw.of rfl (hts _ (gT_ns q hq)), va_AO.of (hts _ gT_ao)⟩
  · match k, hq with
    | 0, hq => cases hq; exact ⟨i1, i2⟩
    | 1, hq => cases hq; exact ⟨l1, l2⟩
    | 2, hq => cases hq; exact ⟨b1, b2⟩
    | 3, hq => cases hq; exact ⟨z1, z2⟩
    | 4, hq => cases hq; exact ⟨c1, c2⟩
    | k + 5, hq => simp [tysW] at hq
  · obtain ⟨-, q2, q3, q4, q5⟩ := had i hi
    show va_O _ (E i) _ _ _ ∧ va_OF _ _ _ _ (E i) _ _ _ ∧ va_OF _ _ _ (.ref (E (26 + i))) (E i) _ _ _ ∧ va_T _ (E (26 + i)) _ _ _ _ _
    rw [E1 i hi, E2 i hi]
    exact ⟨q2, q3, q4, q5⟩
  · show vk_R _ _ _ (E i) _
    rw [E1 i hi]
    exact vk_R.of (hts _ (gP_sr ⟨i, hi⟩)) (had i hi).1
end WORLD

/-! 29.ext: taken from whole (wip/p37/port.py) -/
section EXT
variable {g : Gm} {sh : Sh} {μ : Mem} {cs ss pc : Nat} {ls : Ls} {st : List AV} {P : Option AV → Sh → Mem → Prop}
theorem r_callVX {idx n a : Nat} {y : MethodName} {g2 : Gm} {vs : List AV} {P2 : Option AV → Sh → Mem → Prop} (hd : decode (gC g) pc = .ok (.invokevirtual idx, 3)) (hk : Cond.methodLink (gO g) idx y ∈ GW ∧ Cond.instanceMethod y ∈ GW ∧ Cond.selects y.cls y y ∈ GW) (hy : YL y g2 n)
    (hm : AMet y g2 sh (vX a :: vs) μ P2) (hn : vs.length = n) (ha : a < 26) (hcl : y.cls = "java/lang/String") (hr : Nat.ble (gD g2 + 1) (gD g) = true) (hcs : Nat.ble (catSum st) 8 = true) (hc1 : Nat.ble (cs + gM g2) (gM g) = true) (hs1 : Nat.ble (ss + gS g2) (gS g) = true)
    (kk : ∀ r sh' μ', P2 r sh' μ' → AW g sh' μ' (cs + gM g2) (ss + gS g2) (pc + 3) ls (r.toList ++ st) P) : AW g sh μ cs ss pc ls (vs.reverse ++ vX a :: st) P := by
  intro w p l e s m args below meth c H locs la cx hP hz hS hl
  refine withSize hP hS hz cx.2.2.2.2.2.2.2.2.2.2 (fun hzH => ?_)
  have hst := sub_start cx hP hS hzH
  have hm := hm w l
  have cx0 := cx
  obtain ⟨hx, hb, -, hml, -, hts, hown, -, hK, hE, hbs⟩ := cx
  obtain ⟨cell, q1, q2, q3, q4⟩ := (hE.2.2.1 a ha).1.kept hS.2.1
  have hr := Nat.le_of_ble_eq_true hr
  have h45 := Nat.le_of_ble_eq_true hy.2.2.2.2.2
  refine call_core (st := st) cx0 hz hS hl hzH (va_runV (C := y.cls) (b := wE w a) (As := vs.map (cv w)) (rest := st.map (cv w)) (n := n) (Ts := GW) ⟨hx, hb, hml, hown, hts⟩ hm (cwV (ws' := GW) n hts ?_ rfl rfl rfl ⟨rfl, hy.2.2.1, hy.2.2.2.1, hy.2.2.2.2.1⟩ ⟨?_, ?_⟩) ⟨st_blind, ⟨cell, q1, q2, by rw [hcl]; exact q3⟩, fun U hU hW => ⟨rfl, hst U hU hW⟩⟩ rfl ?_ hl.1 ?_ (lv_room (by rw [catSum_eq]; exact Nat.le_of_ble_eq_true hcs)) hd ⟨Nat.le_of_ble_eq_true hc1, Nat.le_of_ble_eq_true hs1⟩) kk
  · intro x hx
    rcases List.mem_append.mp hx with h | h
    · have : x ∈ GW := by
        simp only [List.mem_cons, List.not_mem_nil, or_false] at h
        rcases h with rfl | rfl | rfl | rfl
        · exact hk.1
        · exact hk.2.1
        · exact hk.2.2
        · exact hy.2.1
      exact ⟨this, gw_good this⟩
    · exact ws_good hy x h
  · exact hr
  · show 8 + (gL g2 + 11) + gD g2 * 36 ≤ gD g * 36
    omega
  · simpa using hn
  · simp only [List.map_append, List.map_reverse, List.map_cons]; rfl
theorem r_getsC {idx : Nat} (hd : decode (gC g) pc = .ok (.getstatic idx, 3)) (hw : Cond.fieldLink (gO g) idx "java/lang/String" "COMPACT_STRINGS" "Z" ∈ GW)
    (kk : AW g sh μ cs ss (pc + 3) ls (vI 1 :: st) P) : AW g sh μ cs ss pc ls st P := by
  intro w p l e s m args below meth c H locs la cx hP hz hS hl
  have kk := kk w p l e s m args below meth c H locs la cx hP hz hS hl
  obtain ⟨hx, hb, -, hml, -, hts, hown, -, hK, hE, hbs⟩ := cx
  exact va_gets hx hb hE.2.1.2.2.1 hS hown (hts _ hw) (fun x h => h) hd kk
theorem r_getsS {idx : Nat} (hd : decode (gC g) pc = .ok (.getstatic idx, 3)) (hw : Cond.fieldLink (gO g) idx "jdk/internal/util/Preconditions" "SIOOBE_FORMATTER" "Ljava/util/function/BiFunction;" ∈ GW)
    (k1 : AW g sh μ cs ss (pc + 3) ls (vN :: st) P) (k2 : AW g sh μ cs ss (pc + 3) ls (vX 61 :: st) P) : AW g sh μ cs ss pc ls st P := by
  intro w p l e s m args below meth c H locs la cx hP hz hS hl
  have k1 := k1 w p l e s m args below meth c H locs la cx hP hz hS hl
  have k2 := k2 w p l e s m args below meth c H locs la cx hP hz hS hl
  obtain ⟨hx, hb, -, hml, -, hts, hown, -, hK, hE, hbs⟩ := cx
  obtain ⟨v, hv, hZ⟩ := hE.2.1.2.2.2
  rcases hv with rfl | rfl
  · exact va_gets hx hb hZ hS hown (hts _ hw) (fun x h => h) hd k1
  · exact va_gets hx hb hZ hS hown (hts _ hw) (fun x h => h) hd k2
theorem r_ldcX {idx : Nat} (i : Nat) (hd : decode (gC g) pc = .ok (.ldc idx, 2)) (hi : i < 26) (h1 : sxO i = gO g) (h2 : sxI i = idx)
    (kk : AW g sh μ cs ss (pc + 2) ls (vX i :: st) P) : AW g sh μ cs ss pc ls st P := by
  intro w p l e s m args below meth c H locs la cx hP hz hS hl
  have kk := kk w p l e s m args below meth c H locs la cx hP hz hS hl
  obtain ⟨hx, hb, -, hml, -, hts, hown, -, hK, hE, hbs⟩ := cx
  have hr := hE.2.2.2.1 i hi
  rw [h1, h2] at hr
  exact va_ldcS hx hb hown hr hd kk
theorem r_xvalue {idx i : Nat} (hd : decode (gC g) pc = .ok (.getfield idx, 3)) (hw : Cond.fieldLink (gO g) idx "java/lang/String" "value" "[B" ∈ GW) (hi : i < 26)
    (kk : AW g sh μ cs ss (pc + 3) ls (vX (26 + i) :: st) P) : AW g sh μ cs ss pc ls (vX i :: st) P := by
  intro w p l e s m args below meth c H locs la cx hP hz hS hl
  have kk := kk w p l e s m args below meth c H locs la cx hP hz hS hl
  obtain ⟨hx, hb, -, hml, -, hts, hown, -, hK, hE, hbs⟩ := cx
  exact vk_getf hx hb (hE.2.2.1 i hi).2.2.1 hS hown (hts _ hw) (fun x h => h) hd kk
theorem r_xcoder {idx i : Nat} (hd : decode (gC g) pc = .ok (.getfield idx, 3)) (hw : Cond.fieldLink (gO g) idx "java/lang/String" "coder" "B" ∈ GW) (hi : i < 26)
    (kk : AW g sh μ cs ss (pc + 3) ls (vI 0 :: st) P) : AW g sh μ cs ss pc ls (vX i :: st) P := by
  intro w p l e s m args below meth c H locs la cx hP hz hS hl
  have kk := kk w p l e s m args below meth c H locs la cx hP hz hS hl
  obtain ⟨hx, hb, -, hml, -, hts, hown, -, hK, hE, hbs⟩ := cx
  exact vk_getf hx hb (hE.2.2.1 i hi).2.1 hS hown (hts _ hw) (fun x h => h) hd kk
theorem r_xlen {i : Nat} (hd : decode (gC g) pc = .ok (.arraylength, 1)) (hi : i < 26)
    (kk : AW g sh μ cs ss (pc + 1) ls (vI ((sxB i).length : Nat) :: st) P) : AW g sh μ cs ss pc ls (vX (26 + i) :: st) P := by
  intro w p l e s m args below meth c H locs la cx hP hz hS hl
  have kk := kk w p l e s m args below meth c H locs la cx hP hz hS hl
  obtain ⟨hx, hb, -, hml, -, hts, hown, -, hK, hE, hbs⟩ := cx
  refine va_tlen hx hb (hE.2.2.1 i hi).2.2.2 hS (v := Int32.ofInt ((sxB i).length : Nat)) ?_ hd kk
  exact (Int32.ofInt_eq_ofNat).symm
theorem r_xald {i : Nat} {j : Int} (hd : decode (gC g) pc = .ok (.baload, 1)) (hi : i < 26) (hn : Nat.ble (sxB i).length 2147483647 = true) (hj : 0 ≤ j ∧ j < ((sxB i).length : Nat))
    (kk : AW g sh μ cs ss (pc + 1) ls (vI ((sxB i).getD j.toNat 0) :: st) P) : AW g sh μ cs ss pc ls (vI j :: vX (26 + i) :: st) P := by
  intro w p l e s m args below meth c H locs la cx hP hz hS hl
  have kk := kk w p l e s m args below meth c H locs la cx hP hz hS hl
  obtain ⟨hx, hb, -, hml, -, hts, hown, -, hK, hE, hbs⟩ := cx
  refine va_tb hx hb (hE.2.2.1 i hi).2.2.2 hS (ixIn hj hn) (v := .int (Int32.ofInt ((sxB i).getD j.toNat 0))) ?_ hd kk
  rw [ixN hj hn]
theorem r_cX0F1 {y : MethodName} {g2 : Gm} {idx a : Nat} {μ' : Mem} {v : AV} (hd : decode (gC g) pc = .ok (.invokevirtual idx, 3)) (hk : Cond.methodLink (gO g) idx y ∈ GW ∧ Cond.instanceMethod y ∈ GW ∧ Cond.selects y.cls y y ∈ GW) (hy : YL y g2 0) (h0 : gM g2 = 0 ∧ gS g2 = 0) (ha : a < 26) (hcl : y.cls = "java/lang/String") (hr : Nat.ble (gD g2 + 1) (gD g) = true) (hcs : Nat.ble (catSum st) 8 = true) (hc1 : Nat.ble cs (gM g) = true) (hs1 : Nat.ble ss (gS g) = true)
    (hm : FMet y g2 sh [vX a] μ (some v) μ') (kk : AW g sh μ' cs ss (pc + 3) ls (v :: st) P) : AW g sh μ cs ss pc ls (vX a :: st) P := by
  exact r_callVX (vs := []) hd hk hy hm rfl ha hcl hr hcs (le0 h0.1 hc1) (le0 h0.2 hs1) (fun r sh2 μ2 h => by obtain ⟨rfl, rfl, rfl⟩ := h; exact up0 h0.1 h0.2 kk)
theorem r_cX1F1 {y : MethodName} {g2 : Gm} {idx a : Nat} {v1 : AV} {μ' : Mem} {v : AV} (hd : decode (gC g) pc = .ok (.invokevirtual idx, 3)) (hk : Cond.methodLink (gO g) idx y ∈ GW ∧ Cond.instanceMethod y ∈ GW ∧ Cond.selects y.cls y y ∈ GW) (hy : YL y g2 1) (h0 : gM g2 = 0 ∧ gS g2 = 0) (ha : a < 26) (hcl : y.cls = "java/lang/String") (hr : Nat.ble (gD g2 + 1) (gD g) = true) (hcs : Nat.ble (catSum st) 8 = true) (hc1 : Nat.ble cs (gM g) = true) (hs1 : Nat.ble ss (gS g) = true)
    (hm : FMet y g2 sh [vX a, v1] μ (some v) μ') (kk : AW g sh μ' cs ss (pc + 3) ls (v :: st) P) : AW g sh μ cs ss pc ls (v1 :: vX a :: st) P := by
  exact r_callVX (vs := [v1]) hd hk hy hm rfl ha hcl hr hcs (le0 h0.1 hc1) (le0 h0.2 hs1) (fun r sh2 μ2 h => by obtain ⟨rfl, rfl, rfl⟩ := h; exact up0 h0.1 h0.2 kk)
end EXT
theorem sx_rng : ∀ i : Nat, i < 26 → ((sxB i).length ≤ 6 ∧ 3 ≤ (sxB i).length) ∧ ∀ j : Nat, j < (sxB i).length → 97 ≤ (sxB i).getD j 0 ∧ (sxB i).getD j 0 ≤ 122 := by decide +kernel
theorem asc_i2c : ∀ v : Nat, v < 128 → i2c (iand (v : Int) 255) = (v : Int) := by decide +kernel
theorem asc_ch0 : ∀ v : Nat, v < 128 → (Int32.ofInt (v : Int)).toUInt32.toUInt16.toUInt32.toInt32 = Int32.ofInt (v : Int) := by decide +kernel
theorem asc_ch {v : Int} (h : 0 ≤ v ∧ v < 128) : (Int32.ofInt v).toUInt32.toUInt16.toUInt32.toInt32 = Int32.ofInt v := by
  obtain ⟨n, rfl⟩ : ∃ n : Nat, v = n := ⟨v.toNat, by omega⟩
  exact asc_ch0 n (by omega)
theorem asc_i2c' {v : Int} (h : 0 ≤ v ∧ v < 128) : i2c (iand v 255) = v := by
  obtain ⟨n, rfl⟩ : ∃ n : Nat, v = n := ⟨v.toNat, by omega⟩
  exact asc_i2c n (by omega)
theorem s_coder {sh : Sh} {μ : Mem} {i : Nat} (hi : i < 26)  : FMet yJ0_coder_7d493 gJ0_coder_7d493 sh [vX i] μ (some (vI 0)) μ := by
  refine AMet.ofF (by decide +kernel) rfl (by decide) rfl ?_
  refine r_getsC dJ0_coder_7d493_0 (gw_in (i := 741) (by decide +kernel) rfl) ?_
  refine q_if_eq (tgt := 13) dJ0_coder_7d493_3 rfl (by omega) (fun c3 => absurd c3 (by decide)) (fun c3 => ?_)
  refine r_aload_nX dJ0_coder_7d493_6 rfl ?_
  refine r_xcoder dJ0_coder_7d493_7 (gw_in (i := 985) (by decide +kernel) rfl) hi ?_
  refine r_goto (tgt := 14) dJ0_coder_7d493_10 rfl ?_
  refine r_breturn dJ0_coder_7d493_14 (by decide) rfl rfl rfl ?_
  exact ⟨rfl, rfl, rfl⟩
theorem s_isLatin1 {sh : Sh} {μ : Mem} {i : Nat} (hi : i < 26)  : FMet yJ0_isLatin1_aae02 gJ0_isLatin1_aae02 sh [vX i] μ (some (vI 1)) μ := by
  refine AMet.ofF (by decide +kernel) rfl (by decide) rfl ?_
  refine r_getsC dJ0_isLatin1_aae02_0 (gw_in (i := 741) (by decide +kernel) rfl) ?_
  refine q_if_eq (tgt := 17) dJ0_isLatin1_aae02_3 rfl (by omega) (fun c3 => absurd c3 (by decide)) (fun c3 => ?_)
  refine r_aload_nX dJ0_isLatin1_aae02_6 rfl ?_
  refine r_xcoder dJ0_isLatin1_aae02_7 (gw_in (i := 985) (by decide +kernel) rfl) hi ?_
  refine q_if_ne (tgt := 17) dJ0_isLatin1_aae02_10 rfl (by omega) (fun c3 => absurd rfl c3) (fun c3 => ?_)
  refine r_iconst dJ0_isLatin1_aae02_13 ?_
  refine r_goto (tgt := 18) dJ0_isLatin1_aae02_14 rfl ?_
  refine r_zreturn dJ0_isLatin1_aae02_18 (Or.inr rfl) rfl rfl rfl ?_
  exact ⟨rfl, rfl, rfl⟩
theorem s_length {sh : Sh} {μ : Mem} {i : Nat} (hi : i < 26)  : FMet yJ0_length_8abf5 gJ0_length_8abf5 sh [vX i] μ (some (vI ((sxB i).length : Nat))) μ := by
  have hq := (sx_rng i hi).1
  refine AMet.ofF (by decide +kernel) rfl (by decide) rfl ?_
  refine r_aload_nX dJ0_length_8abf5_0 rfl ?_
  refine r_xvalue dJ0_length_8abf5_1 (gw_in (i := 984) (by decide +kernel) rfl) hi ?_
  refine r_xlen dJ0_length_8abf5_4 hi ?_
  refine r_aload_nX dJ0_length_8abf5_5 rfl ?_
  refine r_cX0F1 dJ0_length_8abf5_6 ml_J0_335 yl_J0_coder_7d493 ⟨rfl, rfl⟩ hi rfl rfl rfl rfl rfl (s_coder hi) ?_
  refine r_ishr dJ0_length_8abf5_9 ?_
  refine r_ireturn dJ0_length_8abf5_10 rfl rfl rfl ?_
  refine ⟨rI ?_, rfl, rfl⟩
  have e : ∀ n : Nat, n ≤ 6 → ishr (n : Int) 0 = (n : Int) := by decide +kernel
  exact e _ hq.1
theorem s_check3 {sh : Sh} {μ : Mem} {j n : Int} (hj : 0 ≤ j ∧ j < n) (hn : n < 100) (f : AV) (hf : f = vN ∨ f = vX 61) : FMet yJ3_checkIndex_8e157 gJ3_checkIndex_8e157 sh [vI j, vI n, f] μ (some (vI j)) μ := by
  rcases hf with rfl | rfl
  · refine AMet.ofF (by decide +kernel) rfl (by decide) rfl ?_
    refine r_iload_n dJ3_checkIndex_8e157_0 rfl ?_
    refine q_if_lt (tgt := 9) dJ3_checkIndex_8e157_1 rfl (by omega) (fun c1 => ?_) (fun c1 => ?_)
    · exact absurd c1 (by omega)
    · refine r_iload_n dJ3_checkIndex_8e157_4 rfl ?_
      refine r_iload_n dJ3_checkIndex_8e157_5 rfl ?_
      refine q_icmp_lt (tgt := 16) dJ3_checkIndex_8e157_6 rfl (by omega) (by omega) (fun c6 => ?_) (fun c6 => ?_)
      · refine r_iload_n dJ3_checkIndex_8e157_16 rfl ?_
        refine r_ireturn dJ3_checkIndex_8e157_17 rfl rfl rfl ?_
        exact ⟨rfl, rfl, rfl⟩
      · exact absurd c6 (by omega)
  · refine AMet.ofF (by decide +kernel) rfl (by decide) rfl ?_
    refine r_iload_n dJ3_checkIndex_8e157_0 rfl ?_
    refine q_if_lt (tgt := 9) dJ3_checkIndex_8e157_1 rfl (by omega) (fun c1 => ?_) (fun c1 => ?_)
    · exact absurd c1 (by omega)
    · refine r_iload_n dJ3_checkIndex_8e157_4 rfl ?_
      refine r_iload_n dJ3_checkIndex_8e157_5 rfl ?_
      refine q_icmp_lt (tgt := 16) dJ3_checkIndex_8e157_6 rfl (by omega) (by omega) (fun c6 => ?_) (fun c6 => ?_)
      · refine r_iload_n dJ3_checkIndex_8e157_16 rfl ?_
        refine r_ireturn dJ3_checkIndex_8e157_17 rfl rfl rfl ?_
        exact ⟨rfl, rfl, rfl⟩
      · exact absurd c6 (by omega)
theorem s_check {sh : Sh} {μ : Mem} {j n : Int} (hj : 0 ≤ j ∧ j < n) (hn : n < 100) : FMet yJ0_checkIndex_df160 gJ0_checkIndex_df160 sh [vI j, vI n] μ none μ := by
  refine AMet.ofF (by decide +kernel) rfl (by decide) rfl ?_
  refine r_iload_n dJ0_checkIndex_df160_0 rfl ?_
  refine r_iload_n dJ0_checkIndex_df160_1 rfl ?_
  refine r_getsS dJ0_checkIndex_df160_2 (gw_in (i := 757) (by decide +kernel) rfl) ?_ ?_
  · skip
    refine r_cS3F1 dJ0_checkIndex_df160_5 ml_J0_1059 yl_J3_checkIndex_8e157 ⟨rfl, rfl⟩ rfl rfl rfl rfl (s_check3 hj hn _ (Or.inl rfl)) ?_
    refine r_pop dJ0_checkIndex_df160_8 rfl ?_
    refine r_return dJ0_checkIndex_df160_9 rfl rfl rfl ?_
    exact ⟨rfl, rfl, rfl⟩
  · skip
    refine r_cS3F1 dJ0_checkIndex_df160_5 ml_J0_1059 yl_J3_checkIndex_8e157 ⟨rfl, rfl⟩ rfl rfl rfl rfl (s_check3 hj hn _ (Or.inr rfl)) ?_
    refine r_pop dJ0_checkIndex_df160_8 rfl ?_
    refine r_return dJ0_checkIndex_df160_9 rfl rfl rfl ?_
    exact ⟨rfl, rfl, rfl⟩
theorem s_charAt1 {sh : Sh} {μ : Mem} {i : Nat} (hi : i < 26) {j : Int} (hj : 0 ≤ j ∧ j < ((sxB i).length : Nat))  : FMet yJ1_charAt_3b067 gJ1_charAt_3b067 sh [vX (26 + i), vI j] μ (some (vI ((sxB i).getD j.toNat 0))) μ := by
  have hq := sx_rng i hi
  have hq2 := hq.2 j.toNat (by omega)
  refine AMet.ofF (by decide +kernel) rfl (by decide) rfl ?_
  refine r_iload_n dJ1_charAt_3b067_0 rfl ?_
  refine r_aload_nX dJ1_charAt_3b067_1 rfl ?_
  refine r_xlen dJ1_charAt_3b067_2 hi ?_
  refine r_cS2F0 dJ1_charAt_3b067_3 ml_J1_9 yl_J0_checkIndex_df160 ⟨rfl, rfl⟩ rfl rfl rfl rfl (s_check hj (by omega)) ?_
  refine r_aload_nX dJ1_charAt_3b067_6 rfl ?_
  refine r_iload_n dJ1_charAt_3b067_7 rfl ?_
  refine r_xald dJ1_charAt_3b067_8 hi (by exact Nat.ble_eq_true_of_le (by omega)) hj ?_
  refine r_sipush dJ1_charAt_3b067_9 (by decide) ?_
  refine r_iand dJ1_charAt_3b067_12 ?_
  refine r_i2c dJ1_charAt_3b067_13 ?_
  rw [asc_i2c' (by omega)]
  refine r_creturn dJ1_charAt_3b067_14 (asc_ch (by omega)) rfl rfl rfl ?_
  exact ⟨rfl, rfl, rfl⟩
theorem s_charAt {sh : Sh} {μ : Mem} {i : Nat} (hi : i < 26) {j : Int} (hj : 0 ≤ j ∧ j < ((sxB i).length : Nat))  : FMet yJ0_charAt_5068e gJ0_charAt_5068e sh [vX i, vI j] μ (some (vI ((sxB i).getD j.toNat 0))) μ := by
  have hq := sx_rng i hi
  have hq2 := hq.2 j.toNat (by omega)
  refine AMet.ofF (by decide +kernel) rfl (by decide) rfl ?_
  refine r_aload_nX dJ0_charAt_5068e_0 rfl ?_
  refine r_cX0F1 dJ0_charAt_5068e_1 ml_J0_492 yl_J0_isLatin1_aae02 ⟨rfl, rfl⟩ hi rfl rfl rfl rfl rfl (s_isLatin1 hi) ?_
  refine q_if_eq (tgt := 16) dJ0_charAt_5068e_4 rfl (by omega) (fun c3 => absurd c3 (by decide)) (fun c3 => ?_)
  refine r_aload_nX dJ0_charAt_5068e_7 rfl ?_
  refine r_xvalue dJ0_charAt_5068e_8 (gw_in (i := 984) (by decide +kernel) rfl) hi ?_
  refine r_iload_n dJ0_charAt_5068e_11 rfl ?_
  refine r_cS2F1 dJ0_charAt_5068e_12 ml_J0_495 yl_J1_charAt_3b067 ⟨rfl, rfl⟩ rfl rfl rfl rfl (s_charAt1 hi hj) ?_
  refine r_creturn dJ0_charAt_5068e_15 (asc_ch (by omega)) rfl rfl rfl ?_
  exact ⟨rfl, rfl, rfl⟩


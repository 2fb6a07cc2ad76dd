/-! 08.rows4: taken from whole (wip/p37/port.py) -/
variable {n_ : Sh}
/-! 08.rows4: new cells, calls, what lies outside -/
/-- a class that can be made -/
def NL (own : String) (idx ci N : Nat) : Prop := ∃ (C : String) (T : u_T), vwCl[ci]? = some (C, T, N) ∧ Cond.classLink own idx C ∈ GW ∧ Cond.instantiable C N ∈ GW ∧ Cond.initialized C ∈ GW ∧ (∀ w ∈ u_ws C T N, w ∈ GW) ∧
  (∀ j, j < N → parseFieldDescriptor (T j).2.2.1 = some (tyOf ci j)) ∧ (∀ j, j < N → defaultValue (tyOf ci j) = if (tyOf ci j).isReference then .null else .int 0) ∧ ci < 12
section ROWS4
variable {g : Gm} {sh : Sh} {μ : Mem} {cs ss pc : Nat} {ls : Ls} {st : List AV} {P : Option AV → Sh → Mem → Prop}
theorem push_addr {w : Wd} {sh : Sh} {μ : Mem} {q : Nat} {e : va_E} {H1 : Heap} (hD : va_D (wO w) (wsOf w sh μ ++ [(q, e)])) (hq : q < H1.size) (hz : H1.size ≤ wB w + sh.length + 1) : q = wB w + sh.length := by
  have hlen : (wsOf w sh μ).length = sh.length := by simp [wsOf]
  have hqat : (wsOf w sh μ ++ [(q, e)])[sh.length]? = some (q, e) := by rw [List.getElem?_append_right (by omega), hlen]; simp
  have h1 : wB w ≤ q := hD.2 sh.length (q, e) hqat
  by_cases h : q = wB w + sh.length
  · exact h
  · exfalso
    have hlt : q - wB w < sh.length := by omega
    have h2 : (wsOf w sh μ ++ [(q, e)])[q - wB w]? = some (wB w + (q - wB w), cellOf w μ (q - wB w) sh[q - wB w]) := by
      rw [List.getElem?_append_left (by omega)]
      exact ws_get (List.getElem?_eq_getElem hlt)
    have := hD.1 _ _ _ _ h2 hqat (by simp only; omega)
    omega
theorem push_lt {w : Wd} {sh : Sh} {μ : Mem} {q : Nat} {e : va_E} {H1 : Heap} (hP : va_P (wG w) vwCl (wsOf w sh μ ++ [(q, e)]) H1) : q < H1.size := by
  have hlen : (wsOf w sh μ).length = sh.length := by simp [wsOf]
  have hqat : (wsOf w sh μ ++ [(q, e)])[sh.length]? = some (q, e) := by rw [List.getElem?_append_right (by omega), hlen]; simp
  exact (hP _ _ hqat).lt
theorem r_new {idx ci N : Nat} (hd : decode (gC g) pc = .ok (.new idx, 3)) (hk : NL (gO g) idx ci N) (hc1 : Nat.ble (cs + 1) (gM g) = true) (hs1 : Nat.ble (ss + N) (gS g) = true)
    (kk : AW g (sh ++ [(ci, N)]) (born μ sh.length) (cs + 1) (ss + N) (pc + 3) ls (vR sh.length :: st) P) : AW g sh μ cs ss pc ls st P := by
  intro w p l e s m args below meth c H locs la cx hP hz hS hl
  have kk := fun H locs => kk w p l e s m args below meth c H locs la cx
  obtain ⟨C, T, hc, hcl, hins, hini, hin, hpd, hdef, h12⟩ := hk
  obtain ⟨hx, hb, -, hml, -, hts, hown, -, hK, -, hbs⟩ := cx
  refine va_new (D := wG w) (fs := (List.range N).map (fieldV w (born μ sh.length) sh.length ci)) hx hb hts hin (tyOf ci) hpd hown (hts _ hcl) (hts _ hins) (hts _ hini) hK hP (ws_apart w sh μ) hS (fun q h => Nat.le_trans hbs h) hc ?_ (Nat.le_of_ble_eq_true hc1) (Nat.le_of_ble_eq_true hs1) hd (fun q H1 hP1 hD1 hS1 => ?_)
  · intro j hj
    rw [hdef j hj]
    simp only [vp_V, List.getD_eq_getElem?_getD, List.getElem?_map, List.getElem?_range hj, Option.map_some, Option.getD_some, fieldV, born]
    split <;> simp [rv]
  · intro T hT X
    have h1 : T.heap.size ≤ s.heap.size + (cs + 1) := X.same.2.2.1
    rw [hT] at h1
    have hq : q < H1.size := push_lt hP1
    have e := push_addr hD1 hq (by omega)
    subst e
    have e2 := ws_push (w := w) (sh := sh) (μ := μ) (μ' := born μ sh.length) (k := (ci, N)) (fun b hb k => cell_born (by omega) k)
    rw [cell_obj h12] at e2
    rw [← e2] at hP1
    exact kk H1 locs hP1 (by rw [List.length_append]; simp only [List.length_cons, List.length_nil]; omega) hS1 hl T hT X
theorem newa_core {atype : ArrayType} {ty : FieldType} {kd ti n : Nat} (a0 : Nat → vp_A) (hd : decode (gC g) pc = .ok (.newarray atype, 2)) (hac : Cond.arrayClass (newarray.typeOf atype) ∈ GW) (hty : newarray.typeOf atype = ty) (hpr : refKind ty = false) (hti : ∀ w, (tysW w)[ti]? = some (wA w ti, ty))
    (hcell : ∀ w a, cellOf w (born μ a) a (kd, n) = .inl (wA w ti, a0 n)) (ha : ∀ cA : ClassId, vp_cell cA (a0 n) = arrV cA n (fun _ => defaultValue ty)) (hcb : componentBytes ty ≤ 8)
    (hn : Nat.ble n 1000000 = true) (hc1 : Nat.ble (cs + 1) (gM g) = true) (hs1 : Nat.ble (ss + n) (gS g) = true)
    (kk : AW g (sh ++ [(kd, n)]) (born μ sh.length) (cs + 1) (ss + n) (pc + 2) ls (vR sh.length :: st) P) : AW g sh μ cs ss pc ls (vI n :: st) P := by
  intro w p l e s m args below meth c H locs la cx hP hz hS hl
  have kk := fun H locs => kk w p l e s m args below meth c H locs la cx
  obtain ⟨hx, hb, -, hml, -, hts, hown, -, hK, -, hbs⟩ := cx
  have hn := Nat.le_of_ble_eq_true hn
  have hnn : (Int32.ofInt (n : Int)).toNatClampNeg = n := by show (Int32.ofInt (n : Int)).toInt.toNat = n; rw [toI (by omega)]; simp
  refine va_newa (D := wG w) (a0 := a0 n) hx hb (hts _ hac) hty hK hP (ws_apart w sh μ) hS (fun q h => Nat.le_trans hbs h) ha (by rw [Int32.lt_iff_toInt_lt, toI (by omega)]; simp) hnn ?_ (Nat.le_of_ble_eq_true hc1) (Nat.le_of_ble_eq_true hs1) hd (fun q cA H1 hK1 hP1 hD1 hS1 => ?_)
  · have := Nat.mul_le_mul hn hcb
    omega
  · intro T hT X
    have h1 : T.heap.size ≤ s.heap.size + (cs + 1) := X.same.2.2.1
    rw [hT] at h1
    have hq : q < H1.size := push_lt hP1
    have e := push_addr hD1 hq (by omega)
    subst e
    have r1 : va_RA s (wA w ti) ty := (hK.2 ti _ (hti w)).2
    have r2 : va_RA s cA ty := (hK1.2 5 (cA, ty) (by rw [List.getElem?_append_right (by simp [tysW])]; simp [tysW])).2
    have hcA : cA = wA w ti := by
      cases ty <;> first | exact Option.some.inj (r2.symm.trans r1) | exact absurd hpr (by simp [refKind])
    subst hcA
    have e2 := ws_push (w := w) (sh := sh) (μ := μ) (μ' := born μ sh.length) (k := (kd, n)) (fun b hb k => cell_born (by omega) k)
    rw [hcell] at e2
    rw [← e2] at hP1
    exact kk H1 locs hP1 (by rw [List.length_append]; simp only [List.length_cons, List.length_nil]; omega) hS1 hl T hT X
theorem born_self1 (μ : Mem) (a : Nat) (j : Int) : (born μ a).1 a j = 0 := by simp [born]
theorem born_self2 (μ : Mem) (a : Nat) (j : Int) : (born μ a).2.1 a j = 0 := by simp [born]
theorem born_self3 (μ : Mem) (a : Nat) (j : Int) : (born μ a).2.2 a j = none := by simp [born]
theorem r_newaI {n : Nat} {nI : Int} (hd : decode (gC g) pc = .ok (.newarray .int, 2)) (hac : Cond.arrayClass .int ∈ GW) (hnI : (n : Int) = nI) (hn : Nat.ble n 1000000 = true) (hc1 : Nat.ble (cs + 1) (gM g) = true) (hs1 : Nat.ble (ss + n) (gS g) = true)
    (kk : AW g (sh ++ [(20, n)]) (born μ sh.length) (cs + 1) (ss + n) (pc + 2) ls (vR sh.length :: st) P) : AW g sh μ cs ss pc ls (vI nI :: st) P := by
  subst hnI
  exact newa_core (atype := .int) (ty := .int) (ti := 0) (fun n => (n, .inl fun _ => 0)) hd hac rfl rfl (fun w => rfl) (fun w a => by rw [cell_20]; simp only [born_self1]; rfl) (fun cA => by rw [vp_cell_i]; rfl) (by decide) hn hc1 hs1 kk
theorem r_newaB {n : Nat} {nI : Int} (hd : decode (gC g) pc = .ok (.newarray .byte, 2)) (hac : Cond.arrayClass .byte ∈ GW) (hnI : (n : Int) = nI) (hn : Nat.ble n 1000000 = true) (hc1 : Nat.ble (cs + 1) (gM g) = true) (hs1 : Nat.ble (ss + n) (gS g) = true)
    (kk : AW g (sh ++ [(22, n)]) (born μ sh.length) (cs + 1) (ss + n) (pc + 2) ls (vR sh.length :: st) P) : AW g sh μ cs ss pc ls (vI nI :: st) P := by
  subst hnI
  exact newa_core (atype := .byte) (ty := .byte) (ti := 2) (fun n => (n, .inl fun _ => 0)) hd hac rfl rfl (fun w => rfl) (fun w a => by rw [cell_22]; simp only [born_self1]; rfl) (fun cA => by rw [vp_cell_i]; rfl) (by decide) hn hc1 hs1 kk
theorem r_newaZ {n : Nat} {nI : Int} (hd : decode (gC g) pc = .ok (.newarray .boolean, 2)) (hac : Cond.arrayClass .boolean ∈ GW) (hnI : (n : Int) = nI) (hn : Nat.ble n 1000000 = true) (hc1 : Nat.ble (cs + 1) (gM g) = true) (hs1 : Nat.ble (ss + n) (gS g) = true)
    (kk : AW g (sh ++ [(23, n)]) (born μ sh.length) (cs + 1) (ss + n) (pc + 2) ls (vR sh.length :: st) P) : AW g sh μ cs ss pc ls (vI nI :: st) P := by
  subst hnI
  exact newa_core (atype := .boolean) (ty := .boolean) (ti := 3) (fun n => (n, .inl fun _ => 0)) hd hac rfl rfl (fun w => rfl) (fun w a => by rw [cell_23]; simp only [born_self1]; rfl) (fun cA => by rw [vp_cell_i]; rfl) (by decide) hn hc1 hs1 kk
theorem r_newaL {n : Nat} {nI : Int} (hd : decode (gC g) pc = .ok (.newarray .long, 2)) (hac : Cond.arrayClass .long ∈ GW) (hnI : (n : Int) = nI) (hn : Nat.ble n 1000000 = true) (hc1 : Nat.ble (cs + 1) (gM g) = true) (hs1 : Nat.ble (ss + n) (gS g) = true)
    (kk : AW g (sh ++ [(21, n)]) (born μ sh.length) (cs + 1) (ss + n) (pc + 2) ls (vR sh.length :: st) P) : AW g sh μ cs ss pc ls (vI nI :: st) P := by
  subst hnI
  exact newa_core (atype := .long) (ty := .long) (ti := 1) (fun n => (n, .inr (.inl fun _ => 0))) hd hac rfl rfl (fun w => rfl) (fun w a => by rw [cell_21]; simp only [born_self2]; rfl) (fun cA => by rw [vp_cell_l]; rfl) (by decide) hn hc1 hs1 kk
theorem r_newq {idx n : Nat} {nI : Int} (hd : decode (gC g) pc = .ok (.anewarray idx, 3)) (hcl : Cond.classLink (gO g) idx "LoadSpans$Cargo" ∈ GW) (hnI : (n : Int) = nI) (hn : Nat.ble n 1000000 = true) (hc1 : Nat.ble (cs + 1) (gM g) = true) (hs1 : Nat.ble (ss + n) (gS g) = true)
    (kk : AW g (sh ++ [(24, n)]) (born μ sh.length) (cs + 1) (ss + n) (pc + 3) ls (vR sh.length :: st) P) : AW g sh μ cs ss pc ls (vI nI :: st) P := by
  subst hnI
  intro w p l e s m args below meth c H locs la cx hP hz hS hl
  have kk := fun H locs => kk w p l e s m args below meth c H locs la cx
  obtain ⟨hx, hb, -, hml, -, hts, hown, -, hK, hE, hbs⟩ := cx
  have hn := Nat.le_of_ble_eq_true hn
  have hnn : (Int32.ofInt (n : Int)).toNatClampNeg = n := by show (Int32.ofInt (n : Int)).toInt.toNat = n; rw [toI (by omega)]; simp
  refine va_newq (D := wG w) hx hb hown (hts _ hcl) hE.2.2.2.2.2 hK hP (ws_apart w sh μ) hS (fun q h => Nat.le_trans hbs h) (by rw [Int32.lt_iff_toInt_lt, toI (by omega)]; simp) hnn (by omega) (Nat.le_of_ble_eq_true hc1) (Nat.le_of_ble_eq_true hs1) hd (fun q cA H1 hK1 hP1 hD1 hS1 => ?_)
  intro T hT X
  have h1 : T.heap.size ≤ s.heap.size + (cs + 1) := X.same.2.2.1
  rw [hT] at h1
  have hq : q < H1.size := push_lt hP1
  have e := push_addr hD1 hq (by omega)
  subst e
  have r1 : va_RA s (wA w 4) (.object "LoadSpans$Cargo") := (hK.2 4 (wA w 4, .object "LoadSpans$Cargo") rfl).2
  have r2 : va_RA s cA (.object "LoadSpans$Cargo") := (hK1.2 5 (cA, .object "LoadSpans$Cargo") (by rw [List.getElem?_append_right (by simp [tysW])]; simp [tysW])).2
  have hcA : cA = wA w 4 := by
    obtain ⟨_, _, _, _, _, r2⟩ := r2
    obtain ⟨_, _, _, _, _, r1⟩ := r1
    exact Option.some.inj (r2.symm.trans r1)
  subst hcA
  have e2 := ws_push (w := w) (sh := sh) (μ := μ) (μ' := born μ sh.length) (k := (24, n)) (fun b hb k => cell_born (by omega) k)
  have e3 : cellOf w (born μ sh.length) sh.length (24, n) = .inl (wA w 4, n, .inr (.inr (.inr (.inr fun _ => none)))) := by rw [cell_24]; simp only [born_self3]; rfl
  rw [e3] at e2
  rw [← e2] at hP1
  exact kk H1 locs hP1 (by rw [List.length_append]; simp only [List.length_cons, List.length_nil]; omega) hS1 hl T hT X
/-! calls -/
theorem gw_good {w : Cond} (h : w ∈ GW) : (w.onTables && w.keeps) = true ∨ ∃ ty, w = .arrayClass ty := good_of_word (List.mem_filter.mp h).2
theorem st_blind {w : Wd} {vs : List Value} {sh : Sh} {μ : Mem} : FrameBlind (va_Pc vs (StW w sh μ)) := by
  intro a U f mk h
  obtain ⟨h0, h1, h2, h3, h4⟩ := h
  exact ⟨h0, h1, h2, va_K.moved (u := U) (U := U.calling f mk a) (Vm.Alike.refl U.vm) h3, ext_same (u := U) (U := U.calling f mk a) rfl h4⟩
theorem call_core {g2 : Gm} {w : Wd} {p : Program} {l : Launch} {e : Env} {s : State} {m : MethodId} {args : Array Value} {below : List Frame} {meth : Method} {c : Code} {H : Heap} {locs : List Loc} {la : Array Slot} {stk : List Value} {P2 : Option AV → Sh → Mem → Prop} {a2 : Array Value}
    (cx : Cx g w p s m args meth c) (hz : s.heap.size + cs = wB w + sh.length) (hS : va_S (wO w) s.heap H locs) (hl : lvr w la (gL g) ls) (hzH : H.size = wB w + sh.length)
    (hrun : va_Run p l e (rmOf g) s m args below meth c H locs cs ss (gM g2) (gS g2) (F0 m pc la stk) (st.map (cv w)) (QcG w (gM g2) P2 a2) (wO w))
    (kk : ∀ r sh' μ', P2 r sh' μ' → AW g sh' μ' (cs + gM g2) (ss + gS g2) (pc + 3) ls (r.toList ++ st) P) :
    W p l e (rmOf g) s m args below meth c H locs cs ss (MQ below (QcG w (gM g) P) args s (gM g) (gS g) (wO w)) (F0 m pc la stk) := by
  intro T hT X
  obtain ⟨v, st₀, t, T', L, h0, X', hL, e1, e2, ⟨⟨r, sh', μ', hv, hp2, hP', hz', -⟩, hF⟩, stp⟩ := hrun T hT X
  have hv : v = r.map (cv w) := by injection hv
  subst hv
  subst h0
  have hS' : va_S (wO w) s.heap T'.heap (locs ++ L) := by
    refine ⟨Nat.le_trans hS.1 (by rw [e1]; exact hF.1), fun q h1 h2 => ?_, fun q hq => ?_⟩
    · rw [e1, hF.2 q (Nat.lt_of_lt_of_le h1 hS.1) h2]
      exact hS.2.1 q h1 h2
    · rcases List.mem_append.mp hq with h | h
      · exact hS.2.2 q h
      · exact hL q h
  obtain ⟨t2, a1, b1⟩ := kk r sh' μ' hp2 w p l e s m args below meth c T'.heap (locs ++ L) la cx (by rw [e1]; exact hP') (by omega) hS' hl T' rfl X'
  refine ⟨t2, stp t2 ?_, b1⟩
  have es : (r.toList ++ st).map (cv w) = (r.map (cv w)).toList ++ st.map (cv w) := by cases r <;> simp
  rw [es] at a1
  exact a1
theorem sub_start {w : Wd} {p : Program} {s : State} {m : MethodId} {args : Array Value} {meth : Method} {c : Code} {H : Heap} {locs : List Loc} (cx : Cx g w p s m args meth c) (hP : va_P (wG w) vwCl (wsOf w sh μ) H) (hS : va_S (wO w) s.heap H locs) (hzH : H.size = wB w + sh.length) :
    ∀ U : State, U.heap = H → s.WarmedH U.vm → StW w sh μ U := by
  intro U hU hW
  obtain ⟨hx, hb, -, hml, -, hts, hown, -, hK, hE, hbs⟩ := cx
  refine ⟨by rw [hU]; exact hzH, by rw [hU]; exact hP, hK.moved hW.alike, ext_warm hW ?_⟩
  rw [hU]
  exact ext_kept hE (fun a h1 h2 => hS.2.1 a h1 h2)
/-- a callee by its words: code, initialised, how many arguments -/
def YL (y : MethodName) (g2 : Gm) (n : Nat) : Prop := Cond.code y (gC g2) (gL g2) (gR g2) ∈ GW ∧ Cond.initialized y.cls ∈ GW ∧ y.cls ≠ "java/lang/invoke/MethodHandle" ∧ y.cls ≠ "java/lang/invoke/VarHandle" ∧ (parseMethodDescriptor y.desc).map (fun d => d.parameters.length) = some n ∧ Nat.ble (gL g2) 17 = true
theorem ws_good {y : MethodName} {g2 : Gm} {n : Nat} (h : YL y g2 n) : GoodIn GW (wsm y g2) := by
  intro w hw
  rcases List.mem_cons.mp hw with rfl | hw
  · exact ⟨h.1, gw_good h.1⟩
  · exact ⟨hw, gw_good hw⟩
theorem r_callV {idx n a ci N : Nat} {y : MethodName} {g2 : Gm} {vs : List AV} {P2 : Option AV → Sh → Mem → Prop} (hd : decode (gC g) pc = .ok (.invokevirtual idx, 3)) (hk : Cond.methodLink (gO g) idx y ∈ GW ∧ Cond.instanceMethod y ∈ GW ∧ Cond.selects y.cls y y ∈ GW) (hy : YL y g2 n)
    (hm : AMet y g2 sh (vR a :: vs) μ P2) (hn : vs.length = n) (ha : sh[a]? = some (ci, N)) (hcl : ∃ T, vwCl[ci]? = some (y.cls, T, N)) (hr : Nat.ble (gD g2 + 1) (gD g) = true) (hcs : Nat.ble (catSum st) 8 = true) (hc1 : Nat.ble (cs + gM g2) (gM g) = true) (hs1 : Nat.ble (ss + gS g2) (gS g) = true)
    (kk : ∀ r sh' μ', P2 r sh' μ' → AW g sh' μ' (cs + gM g2) (ss + gS g2) (pc + 3) ls (r.toList ++ st) P) : AW g sh μ cs ss pc ls (vs.reverse ++ vR a :: st) P := by
  intro w p l e s m args below meth c H locs la cx hP hz hS hl
  refine withSize hP hS hz cx.2.2.2.2.2.2.2.2.2.2 (fun hzH => ?_)
  have hst := sub_start cx hP hS hzH
  have hm := hm w l
  have cx0 := cx
  obtain ⟨hx, hb, -, hml, -, hts, hown, -, hK, hE, hbs⟩ := cx
  obtain ⟨T, hcl⟩ := hcl
  have h12 : ci < 12 := Nat.lt_of_lt_of_le (List.getElem?_eq_some_iff.mp hcl).1 (by decide)
  have he := ws_get (w := w) (μ := μ) ha
  rw [cell_obj h12] at he
  have hr := Nat.le_of_ble_eq_true hr
  have h45 := Nat.le_of_ble_eq_true hy.2.2.2.2.2
  refine call_core (st := st) cx0 hz hS hl hzH (va_runV (C := y.cls) (b := wB w + a) (As := vs.map (cv w)) (rest := st.map (cv w)) (n := n) (Ts := GW) ⟨hx, hb, hml, hown, hts⟩ hm (cwV (ws' := GW) n hts ?_ rfl rfl rfl ⟨rfl, hy.2.2.1, hy.2.2.2.1, hy.2.2.2.2.1⟩ ⟨?_, ?_⟩) ⟨st_blind, va_recv hK hP (ci := ci) (q0 := a) hcl he, fun U hU hW => ⟨rfl, hst U hU hW⟩⟩ rfl ?_ hl.1 ?_ (lv_room (by rw [catSum_eq]; exact Nat.le_of_ble_eq_true hcs)) hd ⟨Nat.le_of_ble_eq_true hc1, Nat.le_of_ble_eq_true hs1⟩) kk
  · intro x hx
    rcases List.mem_append.mp hx with h | h
    · have : x ∈ GW := by
        simp only [List.mem_cons, List.not_mem_nil, or_false] at h
        rcases h with rfl | rfl | rfl | rfl
        · exact hk.1
        · exact hk.2.1
        · exact hk.2.2
        · exact hy.2.1
      exact ⟨this, gw_good this⟩
    · exact ws_good hy x h
  · exact hr
  · show 8 + (gL g2 + 11) + gD g2 * 36 ≤ gD g * 36
    omega
  · simpa using hn
  · simp only [List.map_append, List.map_reverse, List.map_cons]; rfl
theorem r_callS {idx n : Nat} {y : MethodName} {g2 : Gm} {vs : List AV} {P2 : Option AV → Sh → Mem → Prop} (hd : decode (gC g) pc = .ok (.invokestatic idx, 3)) (hk : Cond.methodLink (gO g) idx y ∈ GW ∧ Cond.static y ∈ GW) (hy : YL y g2 n)
    (hm : AMet y g2 sh vs μ P2) (hn : vs.length = n) (hr : Nat.ble (gD g2 + 1) (gD g) = true) (hcs : Nat.ble (catSum st) 8 = true) (hc1 : Nat.ble (cs + gM g2) (gM g) = true) (hs1 : Nat.ble (ss + gS g2) (gS g) = true)
    (kk : ∀ r sh' μ', P2 r sh' μ' → AW g sh' μ' (cs + gM g2) (ss + gS g2) (pc + 3) ls (r.toList ++ st) P) : AW g sh μ cs ss pc ls (vs.reverse ++ st) P := by
  intro w p l e s m args below meth c H locs la cx hP hz hS hl
  refine withSize hP hS hz cx.2.2.2.2.2.2.2.2.2.2 (fun hzH => ?_)
  have hst := sub_start cx hP hS hzH
  have hm := hm w l
  have cx0 := cx
  obtain ⟨hx, hb, -, hml, -, hts, hown, -, hK, hE, hbs⟩ := cx
  have hr := Nat.le_of_ble_eq_true hr
  have h45 := Nat.le_of_ble_eq_true hy.2.2.2.2.2
  refine call_core (st := st) cx0 hz hS hl hzH (va_runS (As := vs.map (cv w)) (rest := st.map (cv w)) (n := n) (Ts := GW) ⟨hx, hb, hml, hown, hts⟩ hm ⟨callB_of (ws' := GW) n hts (ws_good hy) rfl rfl rfl (hts _ hy.2.1) (hts _ hk.1) ⟨hy.2.2.1, hy.2.2.2.1, hy.2.2.2.2.1⟩ ⟨?_, ?_⟩, hts _ hk.2⟩ ⟨st_blind, fun U hU hW => ⟨rfl, hst U hU hW⟩⟩ rfl ?_ hl.1 ?_ (lv_room (by rw [catSum_eq]; exact Nat.le_of_ble_eq_true hcs)) hd ⟨Nat.le_of_ble_eq_true hc1, Nat.le_of_ble_eq_true hs1⟩) kk
  · exact hr
  · show 8 + (gL g2 + 11) + gD g2 * 36 ≤ gD g * 36
    omega
  · simpa using hn
  · simp only [List.map_append, List.map_reverse]
theorem r_callI {idx a n : Nat} {y : MethodName} {g2 : Gm} {vs : List AV} {P2 : Option AV → Sh → Mem → Prop} (hd : decode (gC g) pc = .ok (.invokespecial idx, 3)) (hk : Cond.methodLink (gO g) idx y ∈ GW ∧ Cond.instanceMethod y ∈ GW ∧ y.name = "<init>") (hy : YL y g2 n) (hret : gR g2 = none)
    (hm : AMet y g2 sh (vR a :: vs) μ P2) (hn : vs.length = n) (hr : Nat.ble (gD g2 + 1) (gD g) = true) (hcs : Nat.ble (catSum st) 8 = true) (hc1 : Nat.ble (cs + gM g2) (gM g) = true) (hs1 : Nat.ble (ss + gS g2) (gS g) = true)
    (kk : ∀ r sh' μ', P2 r sh' μ' → AW g sh' μ' (cs + gM g2) (ss + gS g2) (pc + 3) ls (r.toList ++ st) P) : AW g sh μ cs ss pc ls (vs.reverse ++ vR a :: st) P := by
  intro w p l e s m args below meth c H locs la cx hP hz hS hl
  refine withSize hP hS hz cx.2.2.2.2.2.2.2.2.2.2 (fun hzH => ?_)
  have hst := sub_start cx hP hS hzH
  have hm := hm w l
  have cx0 := cx
  obtain ⟨hx, hb, -, hml, -, hts, hown, -, hK, hE, hbs⟩ := cx
  have hr := Nat.le_of_ble_eq_true hr
  have h45 := Nat.le_of_ble_eq_true hy.2.2.2.2.2
  refine call_core (st := st) cx0 hz hS hl hzH (va_runI (bytes := gC g2) (maxL := gL g2) (b := wB w + a) (As := vs.map (cv w)) (rest := st.map (cv w)) (n := n) (Ts := GW) ⟨hx, hb, hml, hown, hts⟩ hm (cwI (ws' := GW) n hts (ws_good hy) (by rw [wsm, hret]) rfl rfl (hts _ hy.2.1) (hts _ hk.1) (hts _ hk.2.1) hk.2.2 ⟨hy.2.2.1, hy.2.2.2.1, hy.2.2.2.2.1⟩ ⟨?_, ?_⟩) ⟨st_blind, fun U hU hW => ⟨rfl, hst U hU hW⟩⟩ rfl ?_ hl.1 ?_ (lv_room (by rw [catSum_eq]; exact Nat.le_of_ble_eq_true hcs)) hd ⟨Nat.le_of_ble_eq_true hc1, Nat.le_of_ble_eq_true hs1⟩) kk
  · exact hr
  · show 8 + (gL g2 + 11) + gD g2 * 36 ≤ gD g * 36
    omega
  · simpa using hn
  · simp only [List.map_append, List.map_reverse, List.map_cons]; rfl
/-- a private constructor of a nest mate -/
theorem r_callN {idx a n : Nat} {y : MethodName} {g2 : Gm} {vs : List AV} {host : String} {P2 : Option AV → Sh → Mem → Prop} (hd : decode (gC g) pc = .ok (.invokespecial idx, 3)) (hk : (gO g, idx, y, host) ∈ nestL) (hki : Cond.instanceMethod y ∈ GW ∧ y.name = "<init>") (hy : YL y g2 n) (hret : gR g2 = none)
    (hm : AMet y g2 sh (vR a :: vs) μ P2) (hn : vs.length = n) (hr : Nat.ble (gD g2 + 1) (gD g) = true) (hcs : Nat.ble (catSum st) 8 = true) (hc1 : Nat.ble (cs + gM g2) (gM g) = true) (hs1 : Nat.ble (ss + gS g2) (gS g) = true)
    (kk : ∀ r sh' μ', P2 r sh' μ' → AW g sh' μ' (cs + gM g2) (ss + gS g2) (pc + 3) ls (r.toList ++ st) P) : AW g sh μ cs ss pc ls (vs.reverse ++ vR a :: st) P := by
  intro w p l e s m args below meth c H locs la cx hP hz hS hl
  refine withSize hP hS hz cx.2.2.2.2.2.2.2.2.2.2 (fun hzH => ?_)
  have hst := sub_start cx hP hS hzH
  have hm := hm w l
  have cx0 := cx
  obtain ⟨hx, hb, -, hml, -, hts, hown, -, hK, hE, hbs⟩ := cx
  have hr := Nat.le_of_ble_eq_true hr
  have h45 := Nat.le_of_ble_eq_true hy.2.2.2.2.2
  refine call_core (st := st) cx0 hz hS hl hzH (va_runIN (host := host) (bytes := gC g2) (maxL := gL g2) (b := wB w + a) (As := vs.map (cv w)) (rest := st.map (cv w)) (n := n) (Ts := GW) ⟨hx, hb, hml, hown, hts⟩ hm ⟨va_cnB (ws' := GW) n hts (ws_good hy) (by rw [wsm, hret]) rfl rfl (hE.2.2.2.2.1 _ hk) (hts _ hy.2.1) ⟨hy.2.2.1, hy.2.2.2.1, hy.2.2.2.2.1⟩ ⟨?_, ?_⟩, hki.2, hts _ hki.1⟩ ⟨st_blind, fun U hU hW => ⟨rfl, hst U hU hW⟩⟩ rfl ?_ hl.1 ?_ (lv_room (by rw [catSum_eq]; exact Nat.le_of_ble_eq_true hcs)) hd ⟨Nat.le_of_ble_eq_true hc1, Nat.le_of_ble_eq_true hs1⟩) kk
  · exact hr
  · show 8 + (gL g2 + 11) + gD g2 * 36 ≤ gD g * 36
    omega
  · simpa using hn
  · simp only [List.map_append, List.map_reverse, List.map_cons]; rfl
theorem r_objInit {idx a : Nat} (hd : decode (gC g) pc = .ok (.invokespecial idx, 3)) (hk : Cond.methodLink (gO g) idx objectInit ∈ GW ∧ Cond.instanceMethod objectInit ∈ GW ∧ Cond.code objectInit ⟨#[0xb1]⟩ 1 none ∈ GW) (hr : Nat.ble 1 (gD g) = true) (hcs : Nat.ble (catSum st) 8 = true)
    (kk : AW g sh μ cs ss (pc + 3) ls st P) : AW g sh μ cs ss pc ls (vR a :: st) P := by
  intro w p l e s m args below meth c H locs la cx hP hz hS hl
  have kk := kk w p l e s m args below meth c H locs la cx hP hz hS hl
  obtain ⟨hx, hb, -, hml, -, hts, hown, -, hK, hE, hbs⟩ := cx
  have hr := Nat.le_of_ble_eq_true hr
  have hcs := Nat.le_of_ble_eq_true hcs
  refine W.objInit hx hb hown (hts _ hk.1) (hts _ hk.2.1) (hts _ hk.2.2) rfl (by rw [hml]; exact hl.1) (rest := st.map (cv w)) rfl hd hr ?_ kk
  show 2 * 0 + ((st.map (cv w)).map fun v => v.category).sum + 12 ≤ gD g * 36
  rw [catSum_eq]
  omega
end ROWS4


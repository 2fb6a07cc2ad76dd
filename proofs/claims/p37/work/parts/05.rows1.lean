/-! 05.rows1: taken from whole (wip/p37/port.py) -/
variable {n_ : Sh}
/-! 05.rows1: AW row by row: constants, locals, stack, arithmetic, branches, ends (wip/whole/mk_rows1.py) -/
def i32 (x : Int) : Prop := -2147483648 ≤ x ∧ x < 2147483648
def i64 (x : Int) : Prop := -9223372036854775808 ≤ x ∧ x < 9223372036854775808
theorem toI {x : Int} (h : -2147483648 ≤ x ∧ x < 2147483648) : (Int32.ofInt x).toInt = x := Int32.toInt_ofInt_of_le (by omega) (by omega)
theorem toL {x : Int} (h : -9223372036854775808 ≤ x ∧ x < 9223372036854775808) : (Int64.ofInt x).toInt = x := Int64.toInt_ofInt_of_le (by omega) (by omega)
theorem ofI_eq {x y : Int} (hx : -2147483648 ≤ x ∧ x < 2147483648) (hy : -2147483648 ≤ y ∧ y < 2147483648) : Int32.ofInt x = Int32.ofInt y ↔ x = y :=
  ⟨fun h => by rw [← toI hx, h, toI hy], fun h => by rw [h]⟩
theorem ofI_lt {x y : Int} (hx : -2147483648 ≤ x ∧ x < 2147483648) (hy : -2147483648 ≤ y ∧ y < 2147483648) : Int32.ofInt x < Int32.ofInt y ↔ x < y := by rw [Int32.lt_iff_toInt_lt, toI hx, toI hy]
theorem ofI_le {x y : Int} (hx : -2147483648 ≤ x ∧ x < 2147483648) (hy : -2147483648 ≤ y ∧ y < 2147483648) : Int32.ofInt x ≤ Int32.ofInt y ↔ x ≤ y := by rw [Int32.le_iff_toInt_le, toI hx, toI hy]
theorem ofI_0 : Int32.ofInt 0 = 0 := rfl
def iand (x y : Int) : Int := (Int32.ofInt x &&& Int32.ofInt y).toInt
def ior (x y : Int) : Int := (Int32.ofInt x ||| Int32.ofInt y).toInt
def ixor (x y : Int) : Int := (Int32.ofInt x ^^^ Int32.ofInt y).toInt
def ishl (x y : Int) : Int := (Int32.ofInt x <<< (Int32.ofInt y &&& 31)).toInt
def ishr (x y : Int) : Int := (Int32.ofInt x >>> (Int32.ofInt y &&& 31)).toInt
def iushr (x y : Int) : Int := ((Int32.ofInt x).toUInt32 >>> ((Int32.ofInt y).toUInt32 &&& Int32.toUInt32 31)).toInt32.toInt
def lshl (x y : Int) : Int := (Int64.ofInt x <<< ((Int32.ofInt y).toInt64 &&& 63)).toInt
def lushr (x y : Int) : Int := ((Int64.ofInt x).toUInt64 >>> ((Int32.ofInt y).toInt64.toUInt64 &&& Int64.toUInt64 63)).toInt64.toInt
def i2b (x : Int) : Int := (Int32.ofInt x).toInt8.toInt32.toInt
def i2c (x : Int) : Int := (Int32.ofInt x).toUInt32.toUInt16.toUInt32.toInt32.toInt
def icmpL (x y : Int) : Int := if x < y then -1 else if x = y then 0 else 1
def b2i (b : Bool) : Int := if b then 1 else 0
theorem lg_cmp_ofI {x y : Int} (hx : -9223372036854775808 ≤ x ∧ x < 9223372036854775808) (hy : -9223372036854775808 ≤ y ∧ y < 9223372036854775808) : lg_cmp (Int64.ofInt x) (Int64.ofInt y) = Int32.ofInt (icmpL x y) := by
  have e1 : Int64.ofInt x = Int64.ofInt y ↔ x = y := ⟨fun h => by rw [← toL hx, h, toL hy], fun h => by rw [h]⟩
  have e2 : Int64.ofInt x < Int64.ofInt y ↔ x < y := by rw [Int64.lt_iff_toInt_lt, toL hx, toL hy]
  have e3 : Int64.ofInt y < Int64.ofInt x ↔ y < x := by rw [Int64.lt_iff_toInt_lt, toL hx, toL hy]
  unfold icmpL lg_cmp
  by_cases h1 : x < y
  · simp [h1, e2, e1, e3, Int.ne_of_lt h1]
    try omega
  · by_cases h2 : x = y
    · subst h2; simp
    · have h3 : y < x := by omega
      simp [h1, h2, e2, e1, e3, h3]

theorem prs_args {w : Wd} : ∀ (vs : List AV) (i : Nat), prs w i (argsL vs) = lv_args i (vs.map (cv w))
  | [], i => rfl
  | .inl x :: t, i => by
    show (i, cv w (.inl x)) :: prs w (i + 1) (argsL t) = _
    rw [prs_args t (i + 1)]; rfl
  | .inr (.inl x) :: t, i => by
    show (i, cv w (vL x)) :: prs w (i + 1 + 1) (argsL t) = _
    rw [prs_args t (i + 1 + 1)]; rfl
  | .inr (.inr (.inl none)) :: t, i => by
    show (i, cv w vN) :: prs w (i + 1) (argsL t) = _
    rw [prs_args t (i + 1)]; rfl
  | .inr (.inr (.inl (some r))) :: t, i => by
    show (i, cv w (vR r)) :: prs w (i + 1) (argsL t) = _
    rw [prs_args t (i + 1)]; rfl
  | .inr (.inr (.inr j)) :: t, i => by
    show (i, cv w (vX j)) :: prs w (i + 1) (argsL t) = _
    rw [prs_args t (i + 1)]; rfl
theorem prs_pad {w : Wd} : ∀ (n i : Nat) (ls : Ls), prs w i (padL n ls) = prs w i ls
  | 0, i, ls => rfl
  | n + 1, i, [] => by show prs w (i + 1) (padL n []) = _; rw [prs_pad n (i + 1) []]; rfl
  | n + 1, i, none :: t => by show prs w (i + 1) (padL n t) = prs w (i + 1) t; exact prs_pad n (i + 1) t
  | n + 1, i, some v :: t => by show (i, cv w v) :: prs w (i + 1) (padL n t) = _; rw [prs_pad n (i + 1) t]; rfl
theorem lg_len {w : Wd} : ∀ (vs : List AV), (lg_sl (vs.map (cv w))).length = (argsL vs).length
  | [] => rfl
  | v :: t => by
    have h := lg_len (w := w) t
    have h2 : (lg_sl ((v :: t).map (cv w))).length = (if (cv w v).category = 2 then 2 else 1) + (lg_sl (t.map (cv w))).length := by
      unfold lg_sl
      rw [List.map_cons, List.flatMap_cons, List.length_append]
      by_cases hc : (cv w v).category = 2 <;> simp [hc]
    rw [h2, h]
    match v with
    | .inl x => simp [cv, Value.category, argsL]; omega
    | .inr (.inl x) => simp [cv, Value.category, argsL]; omega
    | .inr (.inr (.inl none)) => simp [cv, rv, Value.category, argsL]; omega
    | .inr (.inr (.inl (some r))) => simp [cv, rv, Value.category, argsL]; omega
    | .inr (.inr (.inr j)) => simp [cv, Value.category, argsL]; omega
theorem AMet.of {y : MethodName} {g : Gm} {sh : Sh} {vs : List AV} {μ : Mem} {P : Option AV → Sh → Mem → Prop} (hpn : plainName y.cls = true) (hy : y.cls = gO g) (hin : gI g = true → y.name = "<init>") (hlen : Nat.ble (argsL vs).length (gL g) = true)
    (h : AW g sh μ 0 0 0 (entL g vs) [] P) : AMet y g sh vs μ P := by
  intro w l
  refine Met.ofW (cc := gC g) (maxL := gL g) (ret := gR g) hpn rfl ?_
  intro p e s m args below meth c s₁ B hml hv
  obtain ⟨rfl, hsz, hP, hK, hE⟩ := hv
  have hts := atoms_spec (ws := wsm y g) B.pre
  have hown : s.vm.findClass (gO g) = some m.cls := by rw [← hy]; exact findClass_of_methodNamed B.named
  have cx : Cx g w p s m (vs.map (cv w)).toArray meth c := ⟨B.exec, B.bytes, B.returns, hml, B.notSynchronized, fun x hx => hts x (List.mem_cons_of_mem _ hx), hown, fun hi => (name_of_methodNamed B.named B.method).1.trans (hin hi), hK, hE, by omega⟩
  rw [lg_entry_eq]
  have hl := lv_entry (vs.map (cv w)) (n := gL g) (by rw [lg_len]; exact Nat.le_of_ble_eq_true hlen)
  have hl2 : lvr w (lg_sl (vs.map (cv w)) ++ List.replicate (gL g - (lg_sl (vs.map (cv w))).length) Slot.unset).toArray (gL g) (entL g vs) := by
    unfold lvr entL
    rw [prs_pad, prs_args]
    exact hl
  exact h w p l e s m _ below meth c s.heap [] _ cx hP hsz va_S.rf hl2

section ROWS1
variable {g : Gm} {sh : Sh} {μ : Mem} {cs ss pc : Nat} {ls : Ls} {st : List AV} {P : Option AV → Sh → Mem → Prop}
theorem r_iconst {n : Int} (hd : decode (gC g) pc = .ok (.iconst n, 1)) (k : AW g sh μ cs ss (pc + 1) ls (vI n :: st) P) : AW g sh μ cs ss pc ls (st) P := by
  intro w p l e s m args below meth c H locs la cx hP hz hS hl
  have k := k w p l e s m args below meth c H locs la cx hP hz hS hl
  exact lv_iconst cx.1 cx.2.1 hd rfl k
theorem r_bipush {n : Int} (hd : decode (gC g) pc = .ok (.bipush n, 2)) (hn : (Int8.ofInt n).toInt32 = Int32.ofInt n) (k : AW g sh μ cs ss (pc + 2) ls (vI n :: st) P) : AW g sh μ cs ss pc ls (st) P := by
  intro w p l e s m args below meth c H locs la cx hP hz hS hl
  have k := k w p l e s m args below meth c H locs la cx hP hz hS hl
  exact lv_bipush cx.1 cx.2.1 hd hn k
theorem r_sipush {n : Int} (hd : decode (gC g) pc = .ok (.sipush n, 3)) (hn : (Int16.ofInt n).toInt32 = Int32.ofInt n) (k : AW g sh μ cs ss (pc + 3) ls (vI n :: st) P) : AW g sh μ cs ss pc ls (st) P := by
  intro w p l e s m args below meth c H locs la cx hP hz hS hl
  have k := k w p l e s m args below meth c H locs la cx hP hz hS hl
  exact lv_sipush cx.1 cx.2.1 hd hn k
theorem r_lconst {n : Fin 2} {x : Int} (hd : decode (gC g) pc = .ok (.lconst n, 1)) (hn : Int64.ofNat (n : Nat) = Int64.ofInt x) (k : AW g sh μ cs ss (pc + 1) ls (vL x :: st) P) : AW g sh μ cs ss pc ls (st) P := by
  intro w p l e s m args below meth c H locs la cx hP hz hS hl
  have k := k w p l e s m args below meth c H locs la cx hP hz hS hl
  exact lv_lconst cx.1 cx.2.1 hd hn k
theorem r_null (hd : decode (gC g) pc = .ok (.aconst_null, 1)) (k : AW g sh μ cs ss (pc + 1) ls (vN :: st) P) : AW g sh μ cs ss pc ls (st) P := by
  intro w p l e s m args below meth c H locs la cx hP hz hS hl
  have k := k w p l e s m args below meth c H locs la cx hP hz hS hl
  exact lv_null cx.1 cx.2.1 hd k
theorem r_ldc {i : Nat} {v : Int32} {x : Int} (hd : decode (gC g) pc = .ok (.ldc i, 2)) (hc : Cond.constant (gO g) i v ∈ GW) (hv : v = Int32.ofInt x) (k : AW g sh μ cs ss (pc + 2) ls (vI x :: st) P) : AW g sh μ cs ss pc ls (st) P := by
  intro w p l e s m args below meth c H locs la cx hP hz hS hl
  have k := k w p l e s m args below meth c H locs la cx hP hz hS hl
  subst hv
  exact lv_ldc cx.1 cx.2.1 cx.2.2.2.2.2.2.1 (cx.2.2.2.2.2.1 _ hc) hd k
theorem r_ldcw {i : Nat} {v : Int32} {x : Int} (hd : decode (gC g) pc = .ok (.ldc_w i, 3)) (hc : Cond.constant (gO g) i v ∈ GW) (hv : v = Int32.ofInt x) (k : AW g sh μ cs ss (pc + 3) ls (vI x :: st) P) : AW g sh μ cs ss pc ls (st) P := by
  intro w p l e s m args below meth c H locs la cx hP hz hS hl
  have k := k w p l e s m args below meth c H locs la cx hP hz hS hl
  subst hv
  exact lv_ldcw cx.1 cx.2.1 cx.2.2.2.2.2.2.1 (cx.2.2.2.2.2.1 _ hc) hd k
theorem r_iload_n {k0 : Fin 4} {x : Int} (hd : decode (gC g) pc = .ok (.iload_n k0, 1)) (hv : lget ls (k0 : Nat) = some (vI x)) (k : AW g sh μ cs ss (pc + 1) ls (vI x :: st) P) : AW g sh μ cs ss pc ls (st) P := by
  intro w p l e s m args below meth c H locs la cx hP hz hS hl
  have k := k w p l e s m args below meth c H locs la cx hP hz hS hl
  exact lv_iload_n cx.1 cx.2.1 hd rfl (lvr_get hl hv) k
theorem r_iload {i : Nat} {x : Int} (hd : decode (gC g) pc = .ok (.iload i, 2)) (hv : lget ls i = some (vI x)) (k : AW g sh μ cs ss (pc + 2) ls (vI x :: st) P) : AW g sh μ cs ss pc ls (st) P := by
  intro w p l e s m args below meth c H locs la cx hP hz hS hl
  have k := k w p l e s m args below meth c H locs la cx hP hz hS hl
  exact lv_iload cx.1 cx.2.1 hd (lvr_get hl hv) k
theorem r_lload_n {k0 : Fin 4} {x : Int} (hd : decode (gC g) pc = .ok (.lload_n k0, 1)) (hv : lget ls (k0 : Nat) = some (vL x)) (k : AW g sh μ cs ss (pc + 1) ls (vL x :: st) P) : AW g sh μ cs ss pc ls (st) P := by
  intro w p l e s m args below meth c H locs la cx hP hz hS hl
  have k := k w p l e s m args below meth c H locs la cx hP hz hS hl
  exact lv_lload_n cx.1 cx.2.1 hd rfl (lvr_get hl hv) k
theorem r_lload {i : Nat} {x : Int} (hd : decode (gC g) pc = .ok (.lload i, 2)) (hv : lget ls i = some (vL x)) (k : AW g sh μ cs ss (pc + 2) ls (vL x :: st) P) : AW g sh μ cs ss pc ls (st) P := by
  intro w p l e s m args below meth c H locs la cx hP hz hS hl
  have k := k w p l e s m args below meth c H locs la cx hP hz hS hl
  exact lv_lload cx.1 cx.2.1 hd (lvr_get hl hv) k
theorem r_aload_n {k0 : Fin 4} {r : Nat} (hd : decode (gC g) pc = .ok (.aload_n k0, 1)) (hv : lget ls (k0 : Nat) = some (vR r)) (k : AW g sh μ cs ss (pc + 1) ls (vR r :: st) P) : AW g sh μ cs ss pc ls (st) P := by
  intro w p l e s m args below meth c H locs la cx hP hz hS hl
  have k := k w p l e s m args below meth c H locs la cx hP hz hS hl
  exact lv_aload_n cx.1 cx.2.1 hd rfl (lvr_get hl hv) k
theorem r_aload {i : Nat} {r : Nat} (hd : decode (gC g) pc = .ok (.aload i, 2)) (hv : lget ls i = some (vR r)) (k : AW g sh μ cs ss (pc + 2) ls (vR r :: st) P) : AW g sh μ cs ss pc ls (st) P := by
  intro w p l e s m args below meth c H locs la cx hP hz hS hl
  have k := k w p l e s m args below meth c H locs la cx hP hz hS hl
  exact lv_aload cx.1 cx.2.1 hd (lvr_get hl hv) k
theorem r_aload_nX {k0 : Fin 4} {j : Nat} (hd : decode (gC g) pc = .ok (.aload_n k0, 1)) (hv : lget ls (k0 : Nat) = some (vX j)) (k : AW g sh μ cs ss (pc + 1) ls (vX j :: st) P) : AW g sh μ cs ss pc ls (st) P := by
  intro w p l e s m args below meth c H locs la cx hP hz hS hl
  have k := k w p l e s m args below meth c H locs la cx hP hz hS hl
  exact lv_aload_n cx.1 cx.2.1 hd rfl (lvr_get hl hv) k
theorem r_aload_nN {k0 : Fin 4} (hd : decode (gC g) pc = .ok (.aload_n k0, 1)) (hv : lget ls (k0 : Nat) = some vN) (k : AW g sh μ cs ss (pc + 1) ls (vN :: st) P) : AW g sh μ cs ss pc ls (st) P := by
  intro w p l e s m args below meth c H locs la cx hP hz hS hl
  have k := k w p l e s m args below meth c H locs la cx hP hz hS hl
  exact lv_aload_nN cx.1 cx.2.1 hd rfl (lvr_get hl hv) k
theorem r_aloadN {i : Nat} (hd : decode (gC g) pc = .ok (.aload i, 2)) (hv : lget ls i = some vN) (k : AW g sh μ cs ss (pc + 2) ls (vN :: st) P) : AW g sh μ cs ss pc ls (st) P := by
  intro w p l e s m args below meth c H locs la cx hP hz hS hl
  have k := k w p l e s m args below meth c H locs la cx hP hz hS hl
  exact lv_aloadN cx.1 cx.2.1 hd (lvr_get hl hv) k
theorem r_istore_n {k0 : Fin 4} {x : Int} (hd : decode (gC g) pc = .ok (.istore_n k0, 1)) (hi : Nat.ble ((k0 : Nat) + 1) (gL g) = true) (k : AW g sh μ cs ss (pc + 1) (lset1 ls (k0 : Nat) (vI x)) st P) : AW g sh μ cs ss pc ls (vI x :: st) P := by
  intro w p l e s m args below meth c H locs la cx hP hz hS hl
  obtain ⟨la2, e2, hl2⟩ := lvr_set1 (i := (k0 : Nat)) (v := vI x) hl (by have := Nat.le_of_ble_eq_true hi; omega) rfl
  have k := k w p l e s m args below meth c H locs la2 cx hP hz hS hl2
  obtain ⟨hx, hb, -⟩ := cx
  intro T hT X
  obtain ⟨t, a, b⟩ := k T hT X
  refine ⟨t, ?_, b⟩
  have e2 : storeLocals la (k0 : Nat) (Value.int (Int32.ofInt x)) = some la2 := e2
  show Steps p.tables e below (T.setTop (F0 m pc la (Value.int (Int32.ofInt x) :: st.map (cv w)))) t
  jvm_step X.here [X.here.top, ↓top_set X.here.top, hx, hb, hd, e2]
  exact a
theorem r_istore {i : Nat} {x : Int} (hd : decode (gC g) pc = .ok (.istore i, 2)) (hi : Nat.ble (i + 1) (gL g) = true) (k : AW g sh μ cs ss (pc + 2) (lset1 ls i (vI x)) st P) : AW g sh μ cs ss pc ls (vI x :: st) P := by
  intro w p l e s m args below meth c H locs la cx hP hz hS hl
  obtain ⟨la2, e2, hl2⟩ := lvr_set1 (i := i) (v := vI x) hl (by have := Nat.le_of_ble_eq_true hi; omega) rfl
  have k := k w p l e s m args below meth c H locs la2 cx hP hz hS hl2
  obtain ⟨hx, hb, -⟩ := cx
  intro T hT X
  obtain ⟨t, a, b⟩ := k T hT X
  refine ⟨t, ?_, b⟩
  have e2 : storeLocals la i (Value.int (Int32.ofInt x)) = some la2 := e2
  show Steps p.tables e below (T.setTop (F0 m pc la (Value.int (Int32.ofInt x) :: st.map (cv w)))) t
  jvm_step X.here [X.here.top, ↓top_set X.here.top, hx, hb, hd, e2]
  exact a
theorem r_lstore_n {k0 : Fin 4} {x : Int} (hd : decode (gC g) pc = .ok (.lstore_n k0, 1)) (hi : Nat.ble ((k0 : Nat) + 2) (gL g) = true) (k : AW g sh μ cs ss (pc + 1) (lset2 ls (k0 : Nat) (vL x)) st P) : AW g sh μ cs ss pc ls (vL x :: st) P := by
  intro w p l e s m args below meth c H locs la cx hP hz hS hl
  obtain ⟨la2, e2, hl2⟩ := lvr_set2 (i := (k0 : Nat)) (v := vL x) hl (by have := Nat.le_of_ble_eq_true hi; omega) rfl
  have k := k w p l e s m args below meth c H locs la2 cx hP hz hS hl2
  obtain ⟨hx, hb, -⟩ := cx
  intro T hT X
  obtain ⟨t, a, b⟩ := k T hT X
  refine ⟨t, ?_, b⟩
  have e2 : storeLocals la (k0 : Nat) (Value.long (Int64.ofInt x)) = some la2 := e2
  show Steps p.tables e below (T.setTop (F0 m pc la (Value.long (Int64.ofInt x) :: st.map (cv w)))) t
  jvm_step X.here [X.here.top, ↓top_set X.here.top, hx, hb, hd, e2]
  exact a
theorem r_lstore {i : Nat} {x : Int} (hd : decode (gC g) pc = .ok (.lstore i, 2)) (hi : Nat.ble (i + 2) (gL g) = true) (k : AW g sh μ cs ss (pc + 2) (lset2 ls i (vL x)) st P) : AW g sh μ cs ss pc ls (vL x :: st) P := by
  intro w p l e s m args below meth c H locs la cx hP hz hS hl
  obtain ⟨la2, e2, hl2⟩ := lvr_set2 (i := i) (v := vL x) hl (by have := Nat.le_of_ble_eq_true hi; omega) rfl
  have k := k w p l e s m args below meth c H locs la2 cx hP hz hS hl2
  obtain ⟨hx, hb, -⟩ := cx
  intro T hT X
  obtain ⟨t, a, b⟩ := k T hT X
  refine ⟨t, ?_, b⟩
  have e2 : storeLocals la i (Value.long (Int64.ofInt x)) = some la2 := e2
  show Steps p.tables e below (T.setTop (F0 m pc la (Value.long (Int64.ofInt x) :: st.map (cv w)))) t
  jvm_step X.here [X.here.top, ↓top_set X.here.top, hx, hb, hd, e2]
  exact a
theorem r_astore_n {k0 : Fin 4} {r : Nat} (hd : decode (gC g) pc = .ok (.astore_n k0, 1)) (hi : Nat.ble ((k0 : Nat) + 1) (gL g) = true) (k : AW g sh μ cs ss (pc + 1) (lset1 ls (k0 : Nat) (vR r)) st P) : AW g sh μ cs ss pc ls (vR r :: st) P := by
  intro w p l e s m args below meth c H locs la cx hP hz hS hl
  obtain ⟨la2, e2, hl2⟩ := lvr_set1 (i := (k0 : Nat)) (v := vR r) hl (by have := Nat.le_of_ble_eq_true hi; omega) rfl
  have k := k w p l e s m args below meth c H locs la2 cx hP hz hS hl2
  obtain ⟨hx, hb, -⟩ := cx
  intro T hT X
  obtain ⟨t, a, b⟩ := k T hT X
  refine ⟨t, ?_, b⟩
  have e2 : storeLocals la (k0 : Nat) (Value.ref (wB w + r)) = some la2 := e2
  show Steps p.tables e below (T.setTop (F0 m pc la (Value.ref (wB w + r) :: st.map (cv w)))) t
  jvm_step X.here [X.here.top, ↓top_set X.here.top, hx, hb, hd, e2, Value.isRef]
  exact a
theorem r_astore {i : Nat} {r : Nat} (hd : decode (gC g) pc = .ok (.astore i, 2)) (hi : Nat.ble (i + 1) (gL g) = true) (k : AW g sh μ cs ss (pc + 2) (lset1 ls i (vR r)) st P) : AW g sh μ cs ss pc ls (vR r :: st) P := by
  intro w p l e s m args below meth c H locs la cx hP hz hS hl
  obtain ⟨la2, e2, hl2⟩ := lvr_set1 (i := i) (v := vR r) hl (by have := Nat.le_of_ble_eq_true hi; omega) rfl
  have k := k w p l e s m args below meth c H locs la2 cx hP hz hS hl2
  obtain ⟨hx, hb, -⟩ := cx
  intro T hT X
  obtain ⟨t, a, b⟩ := k T hT X
  refine ⟨t, ?_, b⟩
  have e2 : storeLocals la i (Value.ref (wB w + r)) = some la2 := e2
  show Steps p.tables e below (T.setTop (F0 m pc la (Value.ref (wB w + r) :: st.map (cv w)))) t
  jvm_step X.here [X.here.top, ↓top_set X.here.top, hx, hb, hd, e2, Value.isRef]
  exact a
theorem r_astore_nN {k0 : Fin 4} (hd : decode (gC g) pc = .ok (.astore_n k0, 1)) (hi : Nat.ble ((k0 : Nat) + 1) (gL g) = true) (k : AW g sh μ cs ss (pc + 1) (lset1 ls (k0 : Nat) (vN)) st P) : AW g sh μ cs ss pc ls (vN :: st) P := by
  intro w p l e s m args below meth c H locs la cx hP hz hS hl
  obtain ⟨la2, e2, hl2⟩ := lvr_set1 (i := (k0 : Nat)) (v := vN) hl (by have := Nat.le_of_ble_eq_true hi; omega) rfl
  have k := k w p l e s m args below meth c H locs la2 cx hP hz hS hl2
  obtain ⟨hx, hb, -⟩ := cx
  intro T hT X
  obtain ⟨t, a, b⟩ := k T hT X
  refine ⟨t, ?_, b⟩
  have e2 : storeLocals la (k0 : Nat) (Value.null) = some la2 := e2
  show Steps p.tables e below (T.setTop (F0 m pc la (Value.null :: st.map (cv w)))) t
  jvm_step X.here [X.here.top, ↓top_set X.here.top, hx, hb, hd, e2, Value.isRef]
  exact a
theorem r_iinc {i : Nat} {n x : Int} (hd : decode (gC g) pc = .ok (.iinc i n, 3)) (hi : Nat.ble (i + 1) (gL g) = true) (hv : lget ls i = some (vI x)) (k : AW g sh μ cs ss (pc + 3) (lset1 ls i (vI (x + n))) st P) : AW g sh μ cs ss pc ls st P := by
  intro w p l e s m args below meth c H locs la cx hP hz hS hl
  obtain ⟨la2, e2, hl2⟩ := lvr_set1 (i := i) (v := vI (x + n)) hl (by have := Nat.le_of_ble_eq_true hi; omega) rfl
  have k := k w p l e s m args below meth c H locs la2 cx hP hz hS hl2
  have hg : la[i]? = some (.val (.int (Int32.ofInt x))) := lvr_get hl hv
  obtain ⟨hx, hb, -⟩ := cx
  intro T hT X
  obtain ⟨t, a, b⟩ := k T hT X
  refine ⟨t, ?_, b⟩
  have e2 : storeLocals la i (Value.int (Int32.ofInt (x + n))) = some la2 := e2
  rw [Int32.ofInt_add] at e2
  jvm_step X.here [X.here.top, ↓top_set X.here.top, hx, hb, hd, hg, e2]
  exact a
theorem r_iadd {x y : Int} (hd : decode (gC g) pc = .ok (.iadd, 1)) (k : AW g sh μ cs ss (pc + 1) ls (vI (x + y) :: st) P) : AW g sh μ cs ss pc ls (vI y :: vI x :: st) P := by
  intro w p l e s m args below meth c H locs la cx hP hz hS hl
  have k := k w p l e s m args below meth c H locs la cx hP hz hS hl
  have k : W p l e (rmOf g) s m args below meth c H locs cs ss _ (F0 m (pc + 1) la (.int (Int32.ofInt (x + y)) :: st.map (cv w))) := k
  rw [Int32.ofInt_add] at k
  exact lv_iadd cx.1 cx.2.1 hd k
theorem r_isub {x y : Int} (hd : decode (gC g) pc = .ok (.isub, 1)) (k : AW g sh μ cs ss (pc + 1) ls (vI (x - y) :: st) P) : AW g sh μ cs ss pc ls (vI y :: vI x :: st) P := by
  intro w p l e s m args below meth c H locs la cx hP hz hS hl
  have k := k w p l e s m args below meth c H locs la cx hP hz hS hl
  have k : W p l e (rmOf g) s m args below meth c H locs cs ss _ (F0 m (pc + 1) la (.int (Int32.ofInt (x - y)) :: st.map (cv w))) := k
  rw [Int32.ofInt_sub] at k
  exact lv_isub cx.1 cx.2.1 hd k
theorem r_imul {x y : Int} (hd : decode (gC g) pc = .ok (.imul, 1)) (k : AW g sh μ cs ss (pc + 1) ls (vI (x * y) :: st) P) : AW g sh μ cs ss pc ls (vI y :: vI x :: st) P := by
  intro w p l e s m args below meth c H locs la cx hP hz hS hl
  have k := k w p l e s m args below meth c H locs la cx hP hz hS hl
  have k : W p l e (rmOf g) s m args below meth c H locs cs ss _ (F0 m (pc + 1) la (.int (Int32.ofInt (x * y)) :: st.map (cv w))) := k
  rw [Int32.ofInt_mul] at k
  exact lv_imul cx.1 cx.2.1 hd k
theorem r_iand {x y : Int} (hd : decode (gC g) pc = .ok (.iand, 1)) (k : AW g sh μ cs ss (pc + 1) ls (vI (iand x y) :: st) P) : AW g sh μ cs ss pc ls (vI y :: vI x :: st) P := by
  intro w p l e s m args below meth c H locs la cx hP hz hS hl
  have k := k w p l e s m args below meth c H locs la cx hP hz hS hl
  have k : W p l e (rmOf g) s m args below meth c H locs cs ss _ (F0 m (pc + 1) la (.int (Int32.ofInt (iand x y)) :: st.map (cv w))) := k
  rw [iand, Int32.ofInt_toInt] at k
  exact lv_iand cx.1 cx.2.1 hd k
theorem r_ior {x y : Int} (hd : decode (gC g) pc = .ok (.ior, 1)) (k : AW g sh μ cs ss (pc + 1) ls (vI (ior x y) :: st) P) : AW g sh μ cs ss pc ls (vI y :: vI x :: st) P := by
  intro w p l e s m args below meth c H locs la cx hP hz hS hl
  have k := k w p l e s m args below meth c H locs la cx hP hz hS hl
  have k : W p l e (rmOf g) s m args below meth c H locs cs ss _ (F0 m (pc + 1) la (.int (Int32.ofInt (ior x y)) :: st.map (cv w))) := k
  rw [ior, Int32.ofInt_toInt] at k
  exact lv_ior cx.1 cx.2.1 hd k
theorem r_ixor {x y : Int} (hd : decode (gC g) pc = .ok (.ixor, 1)) (k : AW g sh μ cs ss (pc + 1) ls (vI (ixor x y) :: st) P) : AW g sh μ cs ss pc ls (vI y :: vI x :: st) P := by
  intro w p l e s m args below meth c H locs la cx hP hz hS hl
  have k := k w p l e s m args below meth c H locs la cx hP hz hS hl
  have k : W p l e (rmOf g) s m args below meth c H locs cs ss _ (F0 m (pc + 1) la (.int (Int32.ofInt (ixor x y)) :: st.map (cv w))) := k
  rw [ixor, Int32.ofInt_toInt] at k
  exact lv_ixor cx.1 cx.2.1 hd k
theorem r_ishl {x y : Int} (hd : decode (gC g) pc = .ok (.ishl, 1)) (k : AW g sh μ cs ss (pc + 1) ls (vI (ishl x y) :: st) P) : AW g sh μ cs ss pc ls (vI y :: vI x :: st) P := by
  intro w p l e s m args below meth c H locs la cx hP hz hS hl
  have k := k w p l e s m args below meth c H locs la cx hP hz hS hl
  have k : W p l e (rmOf g) s m args below meth c H locs cs ss _ (F0 m (pc + 1) la (.int (Int32.ofInt (ishl x y)) :: st.map (cv w))) := k
  rw [ishl, Int32.ofInt_toInt] at k
  exact lv_ishl cx.1 cx.2.1 hd k
theorem r_ishr {x y : Int} (hd : decode (gC g) pc = .ok (.ishr, 1)) (k : AW g sh μ cs ss (pc + 1) ls (vI (ishr x y) :: st) P) : AW g sh μ cs ss pc ls (vI y :: vI x :: st) P := by
  intro w p l e s m args below meth c H locs la cx hP hz hS hl
  have k := k w p l e s m args below meth c H locs la cx hP hz hS hl
  have k : W p l e (rmOf g) s m args below meth c H locs cs ss _ (F0 m (pc + 1) la (.int (Int32.ofInt (ishr x y)) :: st.map (cv w))) := k
  rw [ishr, Int32.ofInt_toInt] at k
  exact lv_ishr cx.1 cx.2.1 hd k
theorem r_iushr {x y : Int} (hd : decode (gC g) pc = .ok (.iushr, 1)) (k : AW g sh μ cs ss (pc + 1) ls (vI (iushr x y) :: st) P) : AW g sh μ cs ss pc ls (vI y :: vI x :: st) P := by
  intro w p l e s m args below meth c H locs la cx hP hz hS hl
  have k := k w p l e s m args below meth c H locs la cx hP hz hS hl
  have k : W p l e (rmOf g) s m args below meth c H locs cs ss _ (F0 m (pc + 1) la (.int (Int32.ofInt (iushr x y)) :: st.map (cv w))) := k
  rw [iushr, Int32.ofInt_toInt] at k
  exact lv_iushr cx.1 cx.2.1 hd rfl k
theorem r_lshl {x y : Int} (hd : decode (gC g) pc = .ok (.lshl, 1)) (k : AW g sh μ cs ss (pc + 1) ls (vL (lshl x y) :: st) P) : AW g sh μ cs ss pc ls (vI y :: vL x :: st) P := by
  intro w p l e s m args below meth c H locs la cx hP hz hS hl
  have k := k w p l e s m args below meth c H locs la cx hP hz hS hl
  have k : W p l e (rmOf g) s m args below meth c H locs cs ss _ (F0 m (pc + 1) la (.long (Int64.ofInt (lshl x y)) :: st.map (cv w))) := k
  rw [lshl, Int64.ofInt_toInt] at k
  exact lv_lshl cx.1 cx.2.1 hd rfl k
theorem r_lushr {x y : Int} (hd : decode (gC g) pc = .ok (.lushr, 1)) (k : AW g sh μ cs ss (pc + 1) ls (vL (lushr x y) :: st) P) : AW g sh μ cs ss pc ls (vI y :: vL x :: st) P := by
  intro w p l e s m args below meth c H locs la cx hP hz hS hl
  have k := k w p l e s m args below meth c H locs la cx hP hz hS hl
  have k : W p l e (rmOf g) s m args below meth c H locs cs ss _ (F0 m (pc + 1) la (.long (Int64.ofInt (lushr x y)) :: st.map (cv w))) := k
  rw [lushr, Int64.ofInt_toInt] at k
  exact lv_lushr cx.1 cx.2.1 hd rfl k
theorem r_ladd {x y : Int} (hd : decode (gC g) pc = .ok (.ladd, 1)) (k : AW g sh μ cs ss (pc + 1) ls (vL (x + y) :: st) P) : AW g sh μ cs ss pc ls (vL y :: vL x :: st) P := by
  intro w p l e s m args below meth c H locs la cx hP hz hS hl
  have k := k w p l e s m args below meth c H locs la cx hP hz hS hl
  have k : W p l e (rmOf g) s m args below meth c H locs cs ss _ (F0 m (pc + 1) la (.long (Int64.ofInt (x + y)) :: st.map (cv w))) := k
  rw [Int64.ofInt_add] at k
  exact lv_ladd cx.1 cx.2.1 hd k
theorem r_ineg {x : Int} (hd : decode (gC g) pc = .ok (.ineg, 1)) (k : AW g sh μ cs ss (pc + 1) ls (vI (-x) :: st) P) : AW g sh μ cs ss pc ls (vI x :: st) P := by
  intro w p l e s m args below meth c H locs la cx hP hz hS hl
  have k := k w p l e s m args below meth c H locs la cx hP hz hS hl
  have k : W p l e (rmOf g) s m args below meth c H locs cs ss _ (F0 m (pc + 1) la (.int (Int32.ofInt (-x)) :: st.map (cv w))) := k
  rw [Int32.ofInt_neg] at k
  exact lv_ineg cx.1 cx.2.1 hd k
theorem r_i2l {x : Int} (hd : decode (gC g) pc = .ok (.i2l, 1)) (hx : -2147483648 ≤ x ∧ x < 2147483648) (k : AW g sh μ cs ss (pc + 1) ls (vL x :: st) P) : AW g sh μ cs ss pc ls (vI x :: st) P := by
  intro w p l e s m args below meth c H locs la cx hP hz hS hl
  have k := k w p l e s m args below meth c H locs la cx hP hz hS hl
  have e : (Int32.ofInt x).toInt64 = Int64.ofInt x := by
    apply Int64.toInt.inj
    rw [Int32.toInt_toInt64, toI hx, toL (by omega)]
  exact lv_i2l cx.1 cx.2.1 hd e k
theorem r_i2b {x : Int} (hd : decode (gC g) pc = .ok (.i2b, 1)) (k : AW g sh μ cs ss (pc + 1) ls (vI (i2b x) :: st) P) : AW g sh μ cs ss pc ls (vI x :: st) P := by
  intro w p l e s m args below meth c H locs la cx hP hz hS hl
  have k := k w p l e s m args below meth c H locs la cx hP hz hS hl
  have k : W p l e (rmOf g) s m args below meth c H locs cs ss _ (F0 m (pc + 1) la (.int (Int32.ofInt (i2b x)) :: st.map (cv w))) := k
  rw [i2b, Int32.ofInt_toInt] at k
  exact lv_i2b cx.1 cx.2.1 hd rfl k
theorem r_i2c {x : Int} (hd : decode (gC g) pc = .ok (.i2c, 1)) (k : AW g sh μ cs ss (pc + 1) ls (vI (i2c x) :: st) P) : AW g sh μ cs ss pc ls (vI x :: st) P := by
  intro w p l e s m args below meth c H locs la cx hP hz hS hl
  have k := k w p l e s m args below meth c H locs la cx hP hz hS hl
  have k : W p l e (rmOf g) s m args below meth c H locs cs ss _ (F0 m (pc + 1) la (.int (Int32.ofInt (i2c x)) :: st.map (cv w))) := k
  rw [i2c, Int32.ofInt_toInt] at k
  exact lv_i2c cx.1 cx.2.1 hd rfl k
theorem ofI_div {x y : Int} (hx : -2147483648 < x ∧ x < 2147483648) (hy : -2147483648 ≤ y ∧ y < 2147483648) : Int32.ofInt x / Int32.ofInt y = Int32.ofInt (x.tdiv y) := by
  apply Int32.toInt_inj.mp
  rw [Int32.toInt_div_of_ne_left, toI (by omega), toI hy]
  · by_cases h0 : y = 0
    · subst h0; simp
    · have h1 : (x.tdiv y).natAbs ≤ x.natAbs := by rw [Int.natAbs_tdiv]; exact Nat.div_le_self _ _
      rw [toI (by omega)]
  · intro h
    have h2 := congrArg Int32.toInt h
    rw [toI (by omega)] at h2
    have h3 : Int32.minValue.toInt = -2147483648 := rfl
    omega
theorem r_idiv {x y : Int} (hd : decode (gC g) pc = .ok (.idiv, 1)) (hx : -2147483648 < x ∧ x < 2147483648) (hy : -2147483648 ≤ y ∧ y < 2147483648 ∧ y ≠ 0) (k : AW g sh μ cs ss (pc + 1) ls (vI (x.tdiv y) :: st) P) : AW g sh μ cs ss pc ls (vI y :: vI x :: st) P := by
  intro w p l e s m args below meth c H locs la cx hP hz hS hl
  have k := k w p l e s m args below meth c H locs la cx hP hz hS hl
  have k : W p l e (rmOf g) s m args below meth c H locs cs ss _ (F0 m (pc + 1) la (.int (Int32.ofInt (x.tdiv y)) :: st.map (cv w))) := k
  rw [← ofI_div hx ⟨hy.1, hy.2.1⟩] at k
  exact lv_idiv cx.1 cx.2.1 hd (fun h => hy.2.2 ((ofI_eq ⟨hy.1, hy.2.1⟩ (by omega)).mp (h.trans ofI_0.symm))) k
theorem r_irem {x y : Int} (hd : decode (gC g) pc = .ok (.irem, 1)) (hx : -2147483648 < x ∧ x < 2147483648) (hy : -2147483648 ≤ y ∧ y < 2147483648 ∧ y ≠ 0) (k : AW g sh μ cs ss (pc + 1) ls (vI (x.tmod y) :: st) P) : AW g sh μ cs ss pc ls (vI y :: vI x :: st) P := by
  intro w p l e s m args below meth c H locs la cx hP hz hS hl
  have k := k w p l e s m args below meth c H locs la cx hP hz hS hl
  have k : W p l e (rmOf g) s m args below meth c H locs cs ss _ (F0 m (pc + 1) la (.int (Int32.ofInt (x.tmod y)) :: st.map (cv w))) := k
  have e : x.tmod y = x - x.tdiv y * y := by
    have := Int.mul_tdiv_add_tmod x y
    rw [Int.mul_comm] at this
    omega
  rw [e, Int32.ofInt_sub, Int32.ofInt_mul, ← ofI_div hx ⟨hy.1, hy.2.1⟩] at k
  exact lv_irem cx.1 cx.2.1 hd (fun h => hy.2.2 ((ofI_eq ⟨hy.1, hy.2.1⟩ (by omega)).mp (h.trans ofI_0.symm))) k
theorem r_lcmp {x y : Int} (hd : decode (gC g) pc = .ok (.lcmp, 1)) (hx : -9223372036854775808 ≤ x ∧ x < 9223372036854775808) (hy : -9223372036854775808 ≤ y ∧ y < 9223372036854775808) (k : AW g sh μ cs ss (pc + 1) ls (vI (icmpL x y) :: st) P) : AW g sh μ cs ss pc ls (vL y :: vL x :: st) P := by
  intro w p l e s m args below meth c H locs la cx hP hz hS hl
  have k := k w p l e s m args below meth c H locs la cx hP hz hS hl
  have k : W p l e (rmOf g) s m args below meth c H locs cs ss _ (F0 m (pc + 1) la (.int (Int32.ofInt (icmpL x y)) :: st.map (cv w))) := k
  rw [← lg_cmp_ofI hx hy] at k
  exact W.lcmp cx.1 cx.2.1 hd k
theorem cat1 {w : Wd} {v : AV} (h : cat2 v = false) : (cv w v).category = 1 := by rw [cv_cat, h]; rfl
theorem r_dup {v : AV} (hd : decode (gC g) pc = .ok (.dup, 1)) (hc : cat2 v = false) (k : AW g sh μ cs ss (pc + 1) ls (v :: v :: st) P) : AW g sh μ cs ss pc ls (v :: st) P := by
  intro w p l e s m args below meth c H locs la cx hP hz hS hl
  exact lv_dup cx.1 cx.2.1 hd (cat1 hc) (k w p l e s m args below meth c H locs la cx hP hz hS hl)
theorem r_pop {v : AV} (hd : decode (gC g) pc = .ok (.pop, 1)) (hc : cat2 v = false) (k : AW g sh μ cs ss (pc + 1) ls st P) : AW g sh μ cs ss pc ls (v :: st) P := by
  intro w p l e s m args below meth c H locs la cx hP hz hS hl
  exact lv_pop cx.1 cx.2.1 hd (cat1 hc) (k w p l e s m args below meth c H locs la cx hP hz hS hl)
theorem r_dup2 {v u : AV} (hd : decode (gC g) pc = .ok (.dup2, 1)) (hc : cat2 v = false) (hu : cat2 u = false) (k : AW g sh μ cs ss (pc + 1) ls (v :: u :: v :: u :: st) P) : AW g sh μ cs ss pc ls (v :: u :: st) P := by
  intro w p l e s m args below meth c H locs la cx hP hz hS hl
  exact lv_dup2_11 cx.1 cx.2.1 hd (cat1 hc) (cat1 hu) (k w p l e s m args below meth c H locs la cx hP hz hS hl)
theorem r_goto {off : Int} {tgt : Nat} (hd : decode (gC g) pc = .ok (.goto off, 3)) (ht : (pc : Int) + off = (tgt : Int)) (k : AW g sh μ cs ss tgt ls st P) : AW g sh μ cs ss pc ls st P := by
  intro w p l e s m args below meth c H locs la cx hP hz hS hl
  exact lv_goto cx.1 cx.2.1 hd ht (k w p l e s m args below meth c H locs la cx hP hz hS hl)
theorem r_icmp_eq {x y off : Int} {tgt : Nat} (hd : decode (gC g) pc = .ok (.if_icmp .eq off, 3)) (ht : (pc : Int) + off = (tgt : Int)) (hx : -2147483648 ≤ x ∧ x < 2147483648) (hy : -2147483648 ≤ y ∧ y < 2147483648)
    (kt : x = y → AW g sh μ cs ss tgt ls st P) (kf : ¬ (x = y) → AW g sh μ cs ss (pc + 3) ls st P) : AW g sh μ cs ss pc ls (vI y :: vI x :: st) P := by
  intro w p l e s m args below meth c H locs la cx hP hz hS hl
  have e1 := ofI_eq hx hy
  have e2 := ofI_lt hx hy
  have e3 := ofI_le hx hy
  have e4 := ofI_lt hy hx
  have e5 := ofI_le hy hx
  refine lv_icmp_eq cx.1 cx.2.1 hd ht (fun hc => kt (by first | exact e1.mp hc | exact e2.mp hc | exact e3.mp hc | exact e4.mp hc | exact e5.mp hc | exact fun q => hc (e1.mpr q)) w p l e s m args below meth c H locs la cx hP hz hS hl) (fun hc => kf ?_ w p l e s m args below meth c H locs la cx hP hz hS hl)
  first | exact fun q => hc (e1.mpr q) | exact fun q => hc (e2.mpr q) | exact fun q => hc (e3.mpr q) | exact fun q => hc (e4.mpr q) | exact fun q => hc (e5.mpr q) | exact fun q => q (e1.mp (by first | exact hc | exact Classical.not_not.mp hc))
theorem r_if_eq {x off : Int} {tgt : Nat} (hd : decode (gC g) pc = .ok (.ifCond .eq off, 3)) (ht : (pc : Int) + off = (tgt : Int)) (hx : -2147483648 ≤ x ∧ x < 2147483648)
    (kt : x = 0 → AW g sh μ cs ss tgt ls st P) (kf : ¬ (x = 0) → AW g sh μ cs ss (pc + 3) ls st P) : AW g sh μ cs ss pc ls (vI x :: st) P := by
  intro w p l e s m args below meth c H locs la cx hP hz hS hl
  have hy : -2147483648 ≤ (0 : Int) ∧ (0 : Int) < 2147483648 := by omega
  have e1 := ofI_eq hx hy
  have e2 := ofI_lt hx hy
  have e3 := ofI_le hx hy
  have e4 := ofI_lt hy hx
  have e5 := ofI_le hy hx
  rw [ofI_0] at e1 e2 e3 e4 e5
  refine lv_if_eq cx.1 cx.2.1 hd ht (fun hc => kt (by first | exact e1.mp hc | exact e2.mp hc | exact e3.mp hc | exact e4.mp hc | exact e5.mp hc | exact fun q => hc (e1.mpr q)) w p l e s m args below meth c H locs la cx hP hz hS hl) (fun hc => kf ?_ w p l e s m args below meth c H locs la cx hP hz hS hl)
  first | exact fun q => hc (e1.mpr q) | exact fun q => hc (e2.mpr q) | exact fun q => hc (e3.mpr q) | exact fun q => hc (e4.mpr q) | exact fun q => hc (e5.mpr q) | exact fun q => q (e1.mp (by first | exact hc | exact Classical.not_not.mp hc))
theorem r_icmp_ne {x y off : Int} {tgt : Nat} (hd : decode (gC g) pc = .ok (.if_icmp .ne off, 3)) (ht : (pc : Int) + off = (tgt : Int)) (hx : -2147483648 ≤ x ∧ x < 2147483648) (hy : -2147483648 ≤ y ∧ y < 2147483648)
    (kt : x ≠ y → AW g sh μ cs ss tgt ls st P) (kf : ¬ (x ≠ y) → AW g sh μ cs ss (pc + 3) ls st P) : AW g sh μ cs ss pc ls (vI y :: vI x :: st) P := by
  intro w p l e s m args below meth c H locs la cx hP hz hS hl
  have e1 := ofI_eq hx hy
  have e2 := ofI_lt hx hy
  have e3 := ofI_le hx hy
  have e4 := ofI_lt hy hx
  have e5 := ofI_le hy hx
  refine lv_icmp_ne cx.1 cx.2.1 hd ht (fun hc => kt (by first | exact e1.mp hc | exact e2.mp hc | exact e3.mp hc | exact e4.mp hc | exact e5.mp hc | exact fun q => hc (e1.mpr q)) w p l e s m args below meth c H locs la cx hP hz hS hl) (fun hc => kf ?_ w p l e s m args below meth c H locs la cx hP hz hS hl)
  first | exact fun q => hc (e1.mpr q) | exact fun q => hc (e2.mpr q) | exact fun q => hc (e3.mpr q) | exact fun q => hc (e4.mpr q) | exact fun q => hc (e5.mpr q) | exact fun q => q (e1.mp (by first | exact hc | exact Classical.not_not.mp hc))
theorem r_if_ne {x off : Int} {tgt : Nat} (hd : decode (gC g) pc = .ok (.ifCond .ne off, 3)) (ht : (pc : Int) + off = (tgt : Int)) (hx : -2147483648 ≤ x ∧ x < 2147483648)
    (kt : x ≠ 0 → AW g sh μ cs ss tgt ls st P) (kf : ¬ (x ≠ 0) → AW g sh μ cs ss (pc + 3) ls st P) : AW g sh μ cs ss pc ls (vI x :: st) P := by
  intro w p l e s m args below meth c H locs la cx hP hz hS hl
  have hy : -2147483648 ≤ (0 : Int) ∧ (0 : Int) < 2147483648 := by omega
  have e1 := ofI_eq hx hy
  have e2 := ofI_lt hx hy
  have e3 := ofI_le hx hy
  have e4 := ofI_lt hy hx
  have e5 := ofI_le hy hx
  rw [ofI_0] at e1 e2 e3 e4 e5
  refine lv_if_ne cx.1 cx.2.1 hd ht (fun hc => kt (by first | exact e1.mp hc | exact e2.mp hc | exact e3.mp hc | exact e4.mp hc | exact e5.mp hc | exact fun q => hc (e1.mpr q)) w p l e s m args below meth c H locs la cx hP hz hS hl) (fun hc => kf ?_ w p l e s m args below meth c H locs la cx hP hz hS hl)
  first | exact fun q => hc (e1.mpr q) | exact fun q => hc (e2.mpr q) | exact fun q => hc (e3.mpr q) | exact fun q => hc (e4.mpr q) | exact fun q => hc (e5.mpr q) | exact fun q => q (e1.mp (by first | exact hc | exact Classical.not_not.mp hc))
theorem r_icmp_lt {x y off : Int} {tgt : Nat} (hd : decode (gC g) pc = .ok (.if_icmp .lt off, 3)) (ht : (pc : Int) + off = (tgt : Int)) (hx : -2147483648 ≤ x ∧ x < 2147483648) (hy : -2147483648 ≤ y ∧ y < 2147483648)
    (kt : x < y → AW g sh μ cs ss tgt ls st P) (kf : ¬ (x < y) → AW g sh μ cs ss (pc + 3) ls st P) : AW g sh μ cs ss pc ls (vI y :: vI x :: st) P := by
  intro w p l e s m args below meth c H locs la cx hP hz hS hl
  have e1 := ofI_eq hx hy
  have e2 := ofI_lt hx hy
  have e3 := ofI_le hx hy
  have e4 := ofI_lt hy hx
  have e5 := ofI_le hy hx
  refine lv_icmp_lt cx.1 cx.2.1 hd ht (fun hc => kt (by first | exact e1.mp hc | exact e2.mp hc | exact e3.mp hc | exact e4.mp hc | exact e5.mp hc | exact fun q => hc (e1.mpr q)) w p l e s m args below meth c H locs la cx hP hz hS hl) (fun hc => kf ?_ w p l e s m args below meth c H locs la cx hP hz hS hl)
  first | exact fun q => hc (e1.mpr q) | exact fun q => hc (e2.mpr q) | exact fun q => hc (e3.mpr q) | exact fun q => hc (e4.mpr q) | exact fun q => hc (e5.mpr q) | exact fun q => q (e1.mp (by first | exact hc | exact Classical.not_not.mp hc))
theorem r_if_lt {x off : Int} {tgt : Nat} (hd : decode (gC g) pc = .ok (.ifCond .lt off, 3)) (ht : (pc : Int) + off = (tgt : Int)) (hx : -2147483648 ≤ x ∧ x < 2147483648)
    (kt : x < 0 → AW g sh μ cs ss tgt ls st P) (kf : ¬ (x < 0) → AW g sh μ cs ss (pc + 3) ls st P) : AW g sh μ cs ss pc ls (vI x :: st) P := by
  intro w p l e s m args below meth c H locs la cx hP hz hS hl
  have hy : -2147483648 ≤ (0 : Int) ∧ (0 : Int) < 2147483648 := by omega
  have e1 := ofI_eq hx hy
  have e2 := ofI_lt hx hy
  have e3 := ofI_le hx hy
  have e4 := ofI_lt hy hx
  have e5 := ofI_le hy hx
  rw [ofI_0] at e1 e2 e3 e4 e5
  refine lv_if_lt cx.1 cx.2.1 hd ht (fun hc => kt (by first | exact e1.mp hc | exact e2.mp hc | exact e3.mp hc | exact e4.mp hc | exact e5.mp hc | exact fun q => hc (e1.mpr q)) w p l e s m args below meth c H locs la cx hP hz hS hl) (fun hc => kf ?_ w p l e s m args below meth c H locs la cx hP hz hS hl)
  first | exact fun q => hc (e1.mpr q) | exact fun q => hc (e2.mpr q) | exact fun q => hc (e3.mpr q) | exact fun q => hc (e4.mpr q) | exact fun q => hc (e5.mpr q) | exact fun q => q (e1.mp (by first | exact hc | exact Classical.not_not.mp hc))
theorem r_icmp_ge {x y off : Int} {tgt : Nat} (hd : decode (gC g) pc = .ok (.if_icmp .ge off, 3)) (ht : (pc : Int) + off = (tgt : Int)) (hx : -2147483648 ≤ x ∧ x < 2147483648) (hy : -2147483648 ≤ y ∧ y < 2147483648)
    (kt : y ≤ x → AW g sh μ cs ss tgt ls st P) (kf : ¬ (y ≤ x) → AW g sh μ cs ss (pc + 3) ls st P) : AW g sh μ cs ss pc ls (vI y :: vI x :: st) P := by
  intro w p l e s m args below meth c H locs la cx hP hz hS hl
  have e1 := ofI_eq hx hy
  have e2 := ofI_lt hx hy
  have e3 := ofI_le hx hy
  have e4 := ofI_lt hy hx
  have e5 := ofI_le hy hx
  refine lv_icmp_ge cx.1 cx.2.1 hd ht (fun hc => kt (by first | exact e1.mp hc | exact e2.mp hc | exact e3.mp hc | exact e4.mp hc | exact e5.mp hc | exact fun q => hc (e1.mpr q)) w p l e s m args below meth c H locs la cx hP hz hS hl) (fun hc => kf ?_ w p l e s m args below meth c H locs la cx hP hz hS hl)
  first | exact fun q => hc (e1.mpr q) | exact fun q => hc (e2.mpr q) | exact fun q => hc (e3.mpr q) | exact fun q => hc (e4.mpr q) | exact fun q => hc (e5.mpr q) | exact fun q => q (e1.mp (by first | exact hc | exact Classical.not_not.mp hc))
theorem r_if_ge {x off : Int} {tgt : Nat} (hd : decode (gC g) pc = .ok (.ifCond .ge off, 3)) (ht : (pc : Int) + off = (tgt : Int)) (hx : -2147483648 ≤ x ∧ x < 2147483648)
    (kt : 0 ≤ x → AW g sh μ cs ss tgt ls st P) (kf : ¬ (0 ≤ x) → AW g sh μ cs ss (pc + 3) ls st P) : AW g sh μ cs ss pc ls (vI x :: st) P := by
  intro w p l e s m args below meth c H locs la cx hP hz hS hl
  have hy : -2147483648 ≤ (0 : Int) ∧ (0 : Int) < 2147483648 := by omega
  have e1 := ofI_eq hx hy
  have e2 := ofI_lt hx hy
  have e3 := ofI_le hx hy
  have e4 := ofI_lt hy hx
  have e5 := ofI_le hy hx
  rw [ofI_0] at e1 e2 e3 e4 e5
  refine lv_if_ge cx.1 cx.2.1 hd ht (fun hc => kt (by first | exact e1.mp hc | exact e2.mp hc | exact e3.mp hc | exact e4.mp hc | exact e5.mp hc | exact fun q => hc (e1.mpr q)) w p l e s m args below meth c H locs la cx hP hz hS hl) (fun hc => kf ?_ w p l e s m args below meth c H locs la cx hP hz hS hl)
  first | exact fun q => hc (e1.mpr q) | exact fun q => hc (e2.mpr q) | exact fun q => hc (e3.mpr q) | exact fun q => hc (e4.mpr q) | exact fun q => hc (e5.mpr q) | exact fun q => q (e1.mp (by first | exact hc | exact Classical.not_not.mp hc))
theorem r_icmp_gt {x y off : Int} {tgt : Nat} (hd : decode (gC g) pc = .ok (.if_icmp .gt off, 3)) (ht : (pc : Int) + off = (tgt : Int)) (hx : -2147483648 ≤ x ∧ x < 2147483648) (hy : -2147483648 ≤ y ∧ y < 2147483648)
    (kt : y < x → AW g sh μ cs ss tgt ls st P) (kf : ¬ (y < x) → AW g sh μ cs ss (pc + 3) ls st P) : AW g sh μ cs ss pc ls (vI y :: vI x :: st) P := by
  intro w p l e s m args below meth c H locs la cx hP hz hS hl
  have e1 := ofI_eq hx hy
  have e2 := ofI_lt hx hy
  have e3 := ofI_le hx hy
  have e4 := ofI_lt hy hx
  have e5 := ofI_le hy hx
  refine lv_icmp_gt cx.1 cx.2.1 hd ht (fun hc => kt (by first | exact e1.mp hc | exact e2.mp hc | exact e3.mp hc | exact e4.mp hc | exact e5.mp hc | exact fun q => hc (e1.mpr q)) w p l e s m args below meth c H locs la cx hP hz hS hl) (fun hc => kf ?_ w p l e s m args below meth c H locs la cx hP hz hS hl)
  first | exact fun q => hc (e1.mpr q) | exact fun q => hc (e2.mpr q) | exact fun q => hc (e3.mpr q) | exact fun q => hc (e4.mpr q) | exact fun q => hc (e5.mpr q) | exact fun q => q (e1.mp (by first | exact hc | exact Classical.not_not.mp hc))
theorem r_if_gt {x off : Int} {tgt : Nat} (hd : decode (gC g) pc = .ok (.ifCond .gt off, 3)) (ht : (pc : Int) + off = (tgt : Int)) (hx : -2147483648 ≤ x ∧ x < 2147483648)
    (kt : 0 < x → AW g sh μ cs ss tgt ls st P) (kf : ¬ (0 < x) → AW g sh μ cs ss (pc + 3) ls st P) : AW g sh μ cs ss pc ls (vI x :: st) P := by
  intro w p l e s m args below meth c H locs la cx hP hz hS hl
  have hy : -2147483648 ≤ (0 : Int) ∧ (0 : Int) < 2147483648 := by omega
  have e1 := ofI_eq hx hy
  have e2 := ofI_lt hx hy
  have e3 := ofI_le hx hy
  have e4 := ofI_lt hy hx
  have e5 := ofI_le hy hx
  rw [ofI_0] at e1 e2 e3 e4 e5
  refine lv_if_gt cx.1 cx.2.1 hd ht (fun hc => kt (by first | exact e1.mp hc | exact e2.mp hc | exact e3.mp hc | exact e4.mp hc | exact e5.mp hc | exact fun q => hc (e1.mpr q)) w p l e s m args below meth c H locs la cx hP hz hS hl) (fun hc => kf ?_ w p l e s m args below meth c H locs la cx hP hz hS hl)
  first | exact fun q => hc (e1.mpr q) | exact fun q => hc (e2.mpr q) | exact fun q => hc (e3.mpr q) | exact fun q => hc (e4.mpr q) | exact fun q => hc (e5.mpr q) | exact fun q => q (e1.mp (by first | exact hc | exact Classical.not_not.mp hc))
theorem r_icmp_le {x y off : Int} {tgt : Nat} (hd : decode (gC g) pc = .ok (.if_icmp .le off, 3)) (ht : (pc : Int) + off = (tgt : Int)) (hx : -2147483648 ≤ x ∧ x < 2147483648) (hy : -2147483648 ≤ y ∧ y < 2147483648)
    (kt : x ≤ y → AW g sh μ cs ss tgt ls st P) (kf : ¬ (x ≤ y) → AW g sh μ cs ss (pc + 3) ls st P) : AW g sh μ cs ss pc ls (vI y :: vI x :: st) P := by
  intro w p l e s m args below meth c H locs la cx hP hz hS hl
  have e1 := ofI_eq hx hy
  have e2 := ofI_lt hx hy
  have e3 := ofI_le hx hy
  have e4 := ofI_lt hy hx
  have e5 := ofI_le hy hx
  refine lv_icmp_le cx.1 cx.2.1 hd ht (fun hc => kt (by first | exact e1.mp hc | exact e2.mp hc | exact e3.mp hc | exact e4.mp hc | exact e5.mp hc | exact fun q => hc (e1.mpr q)) w p l e s m args below meth c H locs la cx hP hz hS hl) (fun hc => kf ?_ w p l e s m args below meth c H locs la cx hP hz hS hl)
  first | exact fun q => hc (e1.mpr q) | exact fun q => hc (e2.mpr q) | exact fun q => hc (e3.mpr q) | exact fun q => hc (e4.mpr q) | exact fun q => hc (e5.mpr q) | exact fun q => q (e1.mp (by first | exact hc | exact Classical.not_not.mp hc))
theorem r_if_le {x off : Int} {tgt : Nat} (hd : decode (gC g) pc = .ok (.ifCond .le off, 3)) (ht : (pc : Int) + off = (tgt : Int)) (hx : -2147483648 ≤ x ∧ x < 2147483648)
    (kt : x ≤ 0 → AW g sh μ cs ss tgt ls st P) (kf : ¬ (x ≤ 0) → AW g sh μ cs ss (pc + 3) ls st P) : AW g sh μ cs ss pc ls (vI x :: st) P := by
  intro w p l e s m args below meth c H locs la cx hP hz hS hl
  have hy : -2147483648 ≤ (0 : Int) ∧ (0 : Int) < 2147483648 := by omega
  have e1 := ofI_eq hx hy
  have e2 := ofI_lt hx hy
  have e3 := ofI_le hx hy
  have e4 := ofI_lt hy hx
  have e5 := ofI_le hy hx
  rw [ofI_0] at e1 e2 e3 e4 e5
  refine lv_if_le cx.1 cx.2.1 hd ht (fun hc => kt (by first | exact e1.mp hc | exact e2.mp hc | exact e3.mp hc | exact e4.mp hc | exact e5.mp hc | exact fun q => hc (e1.mpr q)) w p l e s m args below meth c H locs la cx hP hz hS hl) (fun hc => kf ?_ w p l e s m args below meth c H locs la cx hP hz hS hl)
  first | exact fun q => hc (e1.mpr q) | exact fun q => hc (e2.mpr q) | exact fun q => hc (e3.mpr q) | exact fun q => hc (e4.mpr q) | exact fun q => hc (e5.mpr q) | exact fun q => q (e1.mp (by first | exact hc | exact Classical.not_not.mp hc))
theorem r_if_eqB {b : Bool} {off : Int} {tgt : Nat} (hd : decode (gC g) pc = .ok (.ifCond .eq off, 3)) (ht : (pc : Int) + off = (tgt : Int))
    (kt : b = false → AW g sh μ cs ss tgt ls st P) (kf : b = true → AW g sh μ cs ss (pc + 3) ls st P) : AW g sh μ cs ss pc ls (vI (b2i b) :: st) P :=
  r_if_eq hd ht (by cases b <;> decide) (fun h => kt (by cases b with | false => rfl | true => exact absurd h (by decide))) (fun h => kf (by cases b with | false => exact absurd rfl h | true => rfl))
theorem r_if_neB {b : Bool} {off : Int} {tgt : Nat} (hd : decode (gC g) pc = .ok (.ifCond .ne off, 3)) (ht : (pc : Int) + off = (tgt : Int))
    (kt : b = true → AW g sh μ cs ss tgt ls st P) (kf : b = false → AW g sh μ cs ss (pc + 3) ls st P) : AW g sh μ cs ss pc ls (vI (b2i b) :: st) P :=
  r_if_ne hd ht (by cases b <;> decide) (fun h => kt (by cases b with | false => exact absurd rfl h | true => rfl)) (fun h => kf (by cases b with | false => rfl | true => exact absurd (by decide) h))
theorem r_ifnull {r : Nat} {off : Int} (hd : decode (gC g) pc = .ok (.ifnull off, 3)) (k : AW g sh μ cs ss (pc + 3) ls st P) : AW g sh μ cs ss pc ls (vR r :: st) P := by
  intro w p l e s m args below meth c H locs la cx hP hz hS hl
  exact lv_ifnull cx.1 cx.2.1 hd (k w p l e s m args below meth c H locs la cx hP hz hS hl)
theorem r_ifnullN {off : Int} {tgt : Nat} (hd : decode (gC g) pc = .ok (.ifnull off, 3)) (ht : (pc : Int) + off = (tgt : Int)) (k : AW g sh μ cs ss tgt ls st P) : AW g sh μ cs ss pc ls (vN :: st) P := by
  intro w p l e s m args below meth c H locs la cx hP hz hS hl
  exact lv_ifnullN cx.1 cx.2.1 hd ht (k w p l e s m args below meth c H locs la cx hP hz hS hl)
theorem r_ifnonnull {r : Nat} {off : Int} {tgt : Nat} (hd : decode (gC g) pc = .ok (.ifnonnull off, 3)) (ht : (pc : Int) + off = (tgt : Int)) (k : AW g sh μ cs ss tgt ls st P) : AW g sh μ cs ss pc ls (vR r :: st) P := by
  intro w p l e s m args below meth c H locs la cx hP hz hS hl
  exact lv_ifnonnull cx.1 cx.2.1 hd ht (k w p l e s m args below meth c H locs la cx hP hz hS hl)
theorem r_ifnonnullN {off : Int} (hd : decode (gC g) pc = .ok (.ifnonnull off, 3)) (k : AW g sh μ cs ss (pc + 3) ls st P) : AW g sh μ cs ss pc ls (vN :: st) P := by
  intro w p l e s m args below meth c H locs la cx hP hz hS hl
  exact lv_ifnonnullN cx.1 cx.2.1 hd (k w p l e s m args below meth c H locs la cx hP hz hS hl)
theorem r_tableIn {dflt lo hi : Int} {offs : Array Int} {len : Nat} {x off : Int} {tgt : Nat} (hd : decode (gC g) pc = .ok (.tableswitch dflt lo hi offs, len)) (hx : -2147483648 ≤ x ∧ x < 2147483648) (h1 : lo ≤ x) (h2 : x ≤ hi) (ho : offs[(x - lo).toNat]? = some off) (ht : (pc : Int) + off = (tgt : Int))
    (k : AW g sh μ cs ss tgt ls st P) : AW g sh μ cs ss pc ls (vI x :: st) P := by
  intro w p l e s m args below meth c H locs la cx hP hz hS hl
  exact lv_tableIn cx.1 cx.2.1 hd (by rw [toI hx]; omega) (by rw [toI hx]; omega) (by rw [toI hx]; exact ho) ht (k w p l e s m args below meth c H locs la cx hP hz hS hl)
theorem r_tableOut {dflt lo hi : Int} {offs : Array Int} {len : Nat} {x : Int} {tgt : Nat} (hd : decode (gC g) pc = .ok (.tableswitch dflt lo hi offs, len)) (hx : -2147483648 ≤ x ∧ x < 2147483648) (h1 : x < lo ∨ hi < x) (ht : (pc : Int) + dflt = (tgt : Int))
    (k : AW g sh μ cs ss tgt ls st P) : AW g sh μ cs ss pc ls (vI x :: st) P := by
  intro w p l e s m args below meth c H locs la cx hP hz hS hl
  exact lv_tableOut cx.1 cx.2.1 hd (by rw [toI hx]; exact h1) ht (k w p l e s m args below meth c H locs la cx hP hz hS hl)
theorem r_ireturn {x : Int} (hd : decode (gC g) pc = .ok (.ireturn, 1)) (hr : gR g = some .int) (hc : cs = gM g) (hs : ss = gS g) (hp : P (some (vI x)) sh μ) : AW g sh μ cs ss pc ls [vI x] P := by
  intro w p l e s m args below meth c H locs la cx hP hz hS hl
  subst hc; subst hs
  obtain ⟨hx, hb, hr2, hml, hlk, -, -, -, hK, -⟩ := cx
  exact W.iret hx hb (hr2.trans hr) (fun t ht hW => ⟨⟨some (vI x), sh, μ, rfl, hp, by rw [ht]; exact hP, hz, hK.moved hW.alike⟩, hS.F ht⟩) hS.2.2 hd hlk
theorem r_zreturn {x : Int} (hd : decode (gC g) pc = .ok (.ireturn, 1)) (h01 : x = 0 ∨ x = 1) (hr : gR g = some .boolean) (hc : cs = gM g) (hs : ss = gS g) (hp : P (some (vI x)) sh μ) : AW g sh μ cs ss pc ls [vI x] P := by
  intro w p l e s m args below meth c H locs la cx hP hz hS hl
  subst hc; subst hs
  obtain ⟨hx, hb, hr2, hml, hlk, -, -, -, hK, -⟩ := cx
  exact W.zret hx hb (hr2.trans hr) (by rcases h01 with rfl | rfl <;> rfl) (fun t ht hW => ⟨⟨some (vI x), sh, μ, rfl, hp, by rw [ht]; exact hP, hz, hK.moved hW.alike⟩, hS.F ht⟩) hS.2.2 hd hlk
theorem r_creturn {x : Int} (hd : decode (gC g) pc = .ok (.ireturn, 1)) (hch : (Int32.ofInt x).toUInt32.toUInt16.toUInt32.toInt32 = Int32.ofInt x) (hr : gR g = some .char) (hc : cs = gM g) (hs : ss = gS g) (hp : P (some (vI x)) sh μ) : AW g sh μ cs ss pc ls [vI x] P := by
  intro w p l e s m args below meth c H locs la cx hP hz hS hl
  subst hc; subst hs
  obtain ⟨hx, hb, hr2, hml, hlk, -, -, -, hK, -⟩ := cx
  exact W.zret hx hb (hr2.trans hr) (by show Value.int (Int32.ofInt x).toUInt32.toUInt16.toUInt32.toInt32 = _; rw [hch]) (fun t ht hW => ⟨⟨some (vI x), sh, μ, rfl, hp, by rw [ht]; exact hP, hz, hK.moved hW.alike⟩, hS.F ht⟩) hS.2.2 hd hlk
theorem r_breturn {x : Int} (hd : decode (gC g) pc = .ok (.ireturn, 1)) (hch : (Int32.ofInt x).toInt8.toInt32 = Int32.ofInt x) (hr : gR g = some .byte) (hc : cs = gM g) (hs : ss = gS g) (hp : P (some (vI x)) sh μ) : AW g sh μ cs ss pc ls [vI x] P := by
  intro w p l e s m args below meth c H locs la cx hP hz hS hl
  subst hc; subst hs
  obtain ⟨hx, hb, hr2, hml, hlk, -, -, -, hK, -⟩ := cx
  exact W.zret hx hb (hr2.trans hr) (by show Value.int (Int32.ofInt x).toInt8.toInt32 = _; rw [hch]) (fun t ht hW => ⟨⟨some (vI x), sh, μ, rfl, hp, by rw [ht]; exact hP, hz, hK.moved hW.alike⟩, hS.F ht⟩) hS.2.2 hd hlk
theorem r_lreturn {x : Int} (hd : decode (gC g) pc = .ok (.lreturn, 1)) (hr : gR g = some .long) (hc : cs = gM g) (hs : ss = gS g) (hp : P (some (vL x)) sh μ) : AW g sh μ cs ss pc ls [vL x] P := by
  intro w p l e s m args below meth c H locs la cx hP hz hS hl
  subst hc; subst hs
  obtain ⟨hx, hb, hr2, hml, hlk, -, -, -, hK, -⟩ := cx
  exact W.lret hx hb (hr2.trans hr) (fun t ht hW => ⟨⟨some (vL x), sh, μ, rfl, hp, by rw [ht]; exact hP, hz, hK.moved hW.alike⟩, hS.F ht⟩) hS.2.2 hd hlk
theorem r_areturn {r : Nat} {n : String} (hd : decode (gC g) pc = .ok (.areturn, 1)) (hr : gR g = some (.object n)) (hc : cs = gM g) (hs : ss = gS g) (hp : P (some (vR r)) sh μ) : AW g sh μ cs ss pc ls [vR r] P := by
  intro w p l e s m args below meth c H locs la cx hP hz hS hl
  subst hc; subst hs
  obtain ⟨hx, hb, hr2, hml, hlk, -, -, -, hK, -⟩ := cx
  exact W.aret hx hb (hr2.trans hr) (Or.inl ⟨n, rfl⟩) (Or.inr ⟨_, rfl⟩) (fun t ht hW => ⟨⟨some (vR r), sh, μ, rfl, hp, by rw [ht]; exact hP, hz, hK.moved hW.alike⟩, hS.F ht⟩) hS.2.2 hd hlk
theorem r_areturnN {n : String} (hd : decode (gC g) pc = .ok (.areturn, 1)) (hr : gR g = some (.object n)) (hc : cs = gM g) (hs : ss = gS g) (hp : P (some vN) sh μ) : AW g sh μ cs ss pc ls [vN] P := by
  intro w p l e s m args below meth c H locs la cx hP hz hS hl
  subst hc; subst hs
  obtain ⟨hx, hb, hr2, hml, hlk, -, -, -, hK, -⟩ := cx
  exact W.aret hx hb (hr2.trans hr) (Or.inl ⟨n, rfl⟩) (Or.inl rfl) (fun t ht hW => ⟨⟨some vN, sh, μ, rfl, hp, by rw [ht]; exact hP, hz, hK.moved hW.alike⟩, hS.F ht⟩) hS.2.2 hd hlk
theorem r_return (hd : decode (gC g) pc = .ok (.return_, 1)) (hr : gR g = none) (hc : cs = gM g) (hs : ss = gS g) (hp : P none sh μ) : AW g sh μ cs ss pc ls [] P := by
  intro w p l e s m args below meth c H locs la cx hP hz hS hl
  subst hc; subst hs
  obtain ⟨hx, hb, hr2, hml, hlk, -, -, -, hK, -⟩ := cx
  exact W.vret hx hb (hr2.trans hr) (fun t ht hW => ⟨⟨none, sh, μ, rfl, hp, by rw [ht]; exact hP, hz, hK.moved hW.alike⟩, hS.F ht⟩) hS.2.2 hd hlk
theorem AW.mono {P' : Option AV → Sh → Mem → Prop} (h : AW g sh μ cs ss pc ls st P) (hpp : ∀ r sh μ, P r sh μ → P' r sh μ) : AW g sh μ cs ss pc ls st P' := by
  intro w p l e s m args below meth c H locs la cx hP hz hS hl T hT X
  obtain ⟨t, a, o, b1, b2, ⟨⟨r, sh1, μ1, c1, c2, c3⟩, c4⟩, b4⟩ := h w p l e s m args below meth c H locs la cx hP hz hS hl T hT X
  exact ⟨t, a, o, b1, b2, ⟨⟨r, sh1, μ1, c1, hpp _ _ _ c2, c3⟩, c4⟩, b4⟩
/-- memories that the cells can't tell apart -/
theorem AW.mem {μ' : Mem} (hm : ∀ w, wsOf w sh μ = wsOf w sh μ') (h : AW g sh μ' cs ss pc ls st P) : AW g sh μ cs ss pc ls st P := by
  intro w p l e s m args below meth c H locs la cx hP hz hS hl
  rw [hm w] at hP
  exact h w p l e s m args below meth c H locs la cx hP hz hS hl
end ROWS1


/-! 99f.lawrows: the law's own rows: it ends with 1, however many cells it has made (wip/p37/src/99f.py) -/
def QcL (w : Wd) (P : Option AV → Sh → Mem → Prop) : Array Value → State → Outcome → State → Prop := fun _ _ oc _ => ∃ (r : Option AV) (sh : Sh) (μ : Mem), oc = .returned (r.map (cv w)) ∧ P r sh μ
def AL (g : Gm) (sh : Sh) (μ : Mem) (cs ss pc : Nat) (ls : Ls) (st : List AV) (P : Option AV → Sh → Mem → Prop) : Prop :=
  ∀ (w : Wd) (p : Program) (l : Launch) (e : Env) (s : State) (m : MethodId) (args : Array Value) (below : List Frame) (meth : Method) (c : Code) (H : Heap) (locs : List Loc) (la : Array Slot),
    Cx g w p s m args meth c → va_P (wG w) vwCl (wsOf w sh μ) H → s.heap.size + cs = wB w + sh.length → va_S (wO w) s.heap H locs → lvr w la (gL g) ls →
    W p l e (rmOf g) s m args below meth c H locs cs ss (MQ below (QcL w P) args s (gM g) (gS g) (wO w)) (F0 m pc la (st.map (cv w)))
section LROWS
variable {g : Gm} {sh : Sh} {μ : Mem} {cs ss pc : Nat} {ls : Ls} {st : List AV} {P : Option AV → Sh → Mem → Prop}
theorem l_iconst {n : Int} (hd : decode (gC g) pc = .ok (.iconst n, 1)) (k : AL g sh μ cs ss (pc + 1) ls (vI n :: st) P) : AL g sh μ cs ss pc ls (st) P := by
  intro w p l e s m args below meth c H locs la cx hP hz hS hl
  have k := k w p l e s m args below meth c H locs la cx hP hz hS hl
  exact lv_iconst cx.1 cx.2.1 hd rfl k
theorem l_bipush {n : Int} (hd : decode (gC g) pc = .ok (.bipush n, 2)) (hn : (Int8.ofInt n).toInt32 = Int32.ofInt n) (k : AL g sh μ cs ss (pc + 2) ls (vI n :: st) P) : AL g sh μ cs ss pc ls (st) P := by
  intro w p l e s m args below meth c H locs la cx hP hz hS hl
  have k := k w p l e s m args below meth c H locs la cx hP hz hS hl
  exact lv_bipush cx.1 cx.2.1 hd hn k
theorem l_sipush {n : Int} (hd : decode (gC g) pc = .ok (.sipush n, 3)) (hn : (Int16.ofInt n).toInt32 = Int32.ofInt n) (k : AL g sh μ cs ss (pc + 3) ls (vI n :: st) P) : AL g sh μ cs ss pc ls (st) P := by
  intro w p l e s m args below meth c H locs la cx hP hz hS hl
  have k := k w p l e s m args below meth c H locs la cx hP hz hS hl
  exact lv_sipush cx.1 cx.2.1 hd hn k
theorem l_ldc {i : Nat} {v : Int32} {x : Int} (hd : decode (gC g) pc = .ok (.ldc i, 2)) (hc : Cond.constant (gO g) i v ∈ GW) (hv : v = Int32.ofInt x) (k : AL g sh μ cs ss (pc + 2) ls (vI x :: st) P) : AL g sh μ cs ss pc ls (st) P := by
  intro w p l e s m args below meth c H locs la cx hP hz hS hl
  have k := k w p l e s m args below meth c H locs la cx hP hz hS hl
  subst hv
  exact lv_ldc cx.1 cx.2.1 cx.2.2.2.2.2.2.1 (cx.2.2.2.2.2.1 _ hc) hd k
theorem l_iload_n {k0 : Fin 4} {x : Int} (hd : decode (gC g) pc = .ok (.iload_n k0, 1)) (hv : lget ls (k0 : Nat) = some (vI x)) (k : AL g sh μ cs ss (pc + 1) ls (vI x :: st) P) : AL g sh μ cs ss pc ls (st) P := by
  intro w p l e s m args below meth c H locs la cx hP hz hS hl
  have k := k w p l e s m args below meth c H locs la cx hP hz hS hl
  exact lv_iload_n cx.1 cx.2.1 hd rfl (lvr_get hl hv) k
theorem l_iload {i : Nat} {x : Int} (hd : decode (gC g) pc = .ok (.iload i, 2)) (hv : lget ls i = some (vI x)) (k : AL g sh μ cs ss (pc + 2) ls (vI x :: st) P) : AL g sh μ cs ss pc ls (st) P := by
  intro w p l e s m args below meth c H locs la cx hP hz hS hl
  have k := k w p l e s m args below meth c H locs la cx hP hz hS hl
  exact lv_iload cx.1 cx.2.1 hd (lvr_get hl hv) k
theorem l_aload_n {k0 : Fin 4} {r : Nat} (hd : decode (gC g) pc = .ok (.aload_n k0, 1)) (hv : lget ls (k0 : Nat) = some (vR r)) (k : AL g sh μ cs ss (pc + 1) ls (vR r :: st) P) : AL g sh μ cs ss pc ls (st) P := by
  intro w p l e s m args below meth c H locs la cx hP hz hS hl
  have k := k w p l e s m args below meth c H locs la cx hP hz hS hl
  exact lv_aload_n cx.1 cx.2.1 hd rfl (lvr_get hl hv) k
theorem l_aload {i : Nat} {r : Nat} (hd : decode (gC g) pc = .ok (.aload i, 2)) (hv : lget ls i = some (vR r)) (k : AL g sh μ cs ss (pc + 2) ls (vR r :: st) P) : AL g sh μ cs ss pc ls (st) P := by
  intro w p l e s m args below meth c H locs la cx hP hz hS hl
  have k := k w p l e s m args below meth c H locs la cx hP hz hS hl
  exact lv_aload cx.1 cx.2.1 hd (lvr_get hl hv) k
theorem l_aload_nX {k0 : Fin 4} {j : Nat} (hd : decode (gC g) pc = .ok (.aload_n k0, 1)) (hv : lget ls (k0 : Nat) = some (vX j)) (k : AL g sh μ cs ss (pc + 1) ls (vX j :: st) P) : AL g sh μ cs ss pc ls (st) P := by
  intro w p l e s m args below meth c H locs la cx hP hz hS hl
  have k := k w p l e s m args below meth c H locs la cx hP hz hS hl
  exact lv_aload_n cx.1 cx.2.1 hd rfl (lvr_get hl hv) k
theorem l_istore_n {k0 : Fin 4} {x : Int} (hd : decode (gC g) pc = .ok (.istore_n k0, 1)) (hi : Nat.ble ((k0 : Nat) + 1) (gL g) = true) (k : AL g sh μ cs ss (pc + 1) (lset1 ls (k0 : Nat) (vI x)) st P) : AL g sh μ cs ss pc ls (vI x :: st) P := by
  intro w p l e s m args below meth c H locs la cx hP hz hS hl
  obtain ⟨la2, e2, hl2⟩ := lvr_set1 (i := (k0 : Nat)) (v := vI x) hl (by have := Nat.le_of_ble_eq_true hi; omega) rfl
  have k := k w p l e s m args below meth c H locs la2 cx hP hz hS hl2
  obtain ⟨hx, hb, -⟩ := cx
  intro T hT X
  obtain ⟨t, a, b⟩ := k T hT X
  refine ⟨t, ?_, b⟩
  have e2 : storeLocals la (k0 : Nat) (Value.int (Int32.ofInt x)) = some la2 := e2
  show Steps p.tables e below (T.setTop (F0 m pc la (Value.int (Int32.ofInt x) :: st.map (cv w)))) t
  jvm_step X.here [X.here.top, ↓top_set X.here.top, hx, hb, hd, e2]
  exact a
theorem l_istore {i : Nat} {x : Int} (hd : decode (gC g) pc = .ok (.istore i, 2)) (hi : Nat.ble (i + 1) (gL g) = true) (k : AL g sh μ cs ss (pc + 2) (lset1 ls i (vI x)) st P) : AL g sh μ cs ss pc ls (vI x :: st) P := by
  intro w p l e s m args below meth c H locs la cx hP hz hS hl
  obtain ⟨la2, e2, hl2⟩ := lvr_set1 (i := i) (v := vI x) hl (by have := Nat.le_of_ble_eq_true hi; omega) rfl
  have k := k w p l e s m args below meth c H locs la2 cx hP hz hS hl2
  obtain ⟨hx, hb, -⟩ := cx
  intro T hT X
  obtain ⟨t, a, b⟩ := k T hT X
  refine ⟨t, ?_, b⟩
  have e2 : storeLocals la i (Value.int (Int32.ofInt x)) = some la2 := e2
  show Steps p.tables e below (T.setTop (F0 m pc la (Value.int (Int32.ofInt x) :: st.map (cv w)))) t
  jvm_step X.here [X.here.top, ↓top_set X.here.top, hx, hb, hd, e2]
  exact a
theorem l_astore_n {k0 : Fin 4} {r : Nat} (hd : decode (gC g) pc = .ok (.astore_n k0, 1)) (hi : Nat.ble ((k0 : Nat) + 1) (gL g) = true) (k : AL g sh μ cs ss (pc + 1) (lset1 ls (k0 : Nat) (vR r)) st P) : AL g sh μ cs ss pc ls (vR r :: st) P := by
  intro w p l e s m args below meth c H locs la cx hP hz hS hl
  obtain ⟨la2, e2, hl2⟩ := lvr_set1 (i := (k0 : Nat)) (v := vR r) hl (by have := Nat.le_of_ble_eq_true hi; omega) rfl
  have k := k w p l e s m args below meth c H locs la2 cx hP hz hS hl2
  obtain ⟨hx, hb, -⟩ := cx
  intro T hT X
  obtain ⟨t, a, b⟩ := k T hT X
  refine ⟨t, ?_, b⟩
  have e2 : storeLocals la (k0 : Nat) (Value.ref (wB w + r)) = some la2 := e2
  show Steps p.tables e below (T.setTop (F0 m pc la (Value.ref (wB w + r) :: st.map (cv w)))) t
  jvm_step X.here [X.here.top, ↓top_set X.here.top, hx, hb, hd, e2, Value.isRef]
  exact a
theorem l_astore {i : Nat} {r : Nat} (hd : decode (gC g) pc = .ok (.astore i, 2)) (hi : Nat.ble (i + 1) (gL g) = true) (k : AL g sh μ cs ss (pc + 2) (lset1 ls i (vR r)) st P) : AL g sh μ cs ss pc ls (vR r :: st) P := by
  intro w p l e s m args below meth c H locs la cx hP hz hS hl
  obtain ⟨la2, e2, hl2⟩ := lvr_set1 (i := i) (v := vR r) hl (by have := Nat.le_of_ble_eq_true hi; omega) rfl
  have k := k w p l e s m args below meth c H locs la2 cx hP hz hS hl2
  obtain ⟨hx, hb, -⟩ := cx
  intro T hT X
  obtain ⟨t, a, b⟩ := k T hT X
  refine ⟨t, ?_, b⟩
  have e2 : storeLocals la i (Value.ref (wB w + r)) = some la2 := e2
  show Steps p.tables e below (T.setTop (F0 m pc la (Value.ref (wB w + r) :: st.map (cv w)))) t
  jvm_step X.here [X.here.top, ↓top_set X.here.top, hx, hb, hd, e2, Value.isRef]
  exact a
theorem l_iinc {i : Nat} {n x : Int} (hd : decode (gC g) pc = .ok (.iinc i n, 3)) (hi : Nat.ble (i + 1) (gL g) = true) (hv : lget ls i = some (vI x)) (k : AL g sh μ cs ss (pc + 3) (lset1 ls i (vI (x + n))) st P) : AL g sh μ cs ss pc ls st P := by
  intro w p l e s m args below meth c H locs la cx hP hz hS hl
  obtain ⟨la2, e2, hl2⟩ := lvr_set1 (i := i) (v := vI (x + n)) hl (by have := Nat.le_of_ble_eq_true hi; omega) rfl
  have k := k w p l e s m args below meth c H locs la2 cx hP hz hS hl2
  have hg : la[i]? = some (.val (.int (Int32.ofInt x))) := lvr_get hl hv
  obtain ⟨hx, hb, -⟩ := cx
  intro T hT X
  obtain ⟨t, a, b⟩ := k T hT X
  refine ⟨t, ?_, b⟩
  have e2 : storeLocals la i (Value.int (Int32.ofInt (x + n))) = some la2 := e2
  rw [Int32.ofInt_add] at e2
  jvm_step X.here [X.here.top, ↓top_set X.here.top, hx, hb, hd, hg, e2]
  exact a
theorem l_iadd {x y : Int} (hd : decode (gC g) pc = .ok (.iadd, 1)) (k : AL g sh μ cs ss (pc + 1) ls (vI (x + y) :: st) P) : AL g sh μ cs ss pc ls (vI y :: vI x :: st) P := by
  intro w p l e s m args below meth c H locs la cx hP hz hS hl
  have k := k w p l e s m args below meth c H locs la cx hP hz hS hl
  have k : W p l e (rmOf g) s m args below meth c H locs cs ss _ (F0 m (pc + 1) la (.int (Int32.ofInt (x + y)) :: st.map (cv w))) := k
  rw [Int32.ofInt_add] at k
  exact lv_iadd cx.1 cx.2.1 hd k
theorem l_isub {x y : Int} (hd : decode (gC g) pc = .ok (.isub, 1)) (k : AL g sh μ cs ss (pc + 1) ls (vI (x - y) :: st) P) : AL g sh μ cs ss pc ls (vI y :: vI x :: st) P := by
  intro w p l e s m args below meth c H locs la cx hP hz hS hl
  have k := k w p l e s m args below meth c H locs la cx hP hz hS hl
  have k : W p l e (rmOf g) s m args below meth c H locs cs ss _ (F0 m (pc + 1) la (.int (Int32.ofInt (x - y)) :: st.map (cv w))) := k
  rw [Int32.ofInt_sub] at k
  exact lv_isub cx.1 cx.2.1 hd k
theorem l_imul {x y : Int} (hd : decode (gC g) pc = .ok (.imul, 1)) (k : AL g sh μ cs ss (pc + 1) ls (vI (x * y) :: st) P) : AL g sh μ cs ss pc ls (vI y :: vI x :: st) P := by
  intro w p l e s m args below meth c H locs la cx hP hz hS hl
  have k := k w p l e s m args below meth c H locs la cx hP hz hS hl
  have k : W p l e (rmOf g) s m args below meth c H locs cs ss _ (F0 m (pc + 1) la (.int (Int32.ofInt (x * y)) :: st.map (cv w))) := k
  rw [Int32.ofInt_mul] at k
  exact lv_imul cx.1 cx.2.1 hd k
theorem l_iand {x y : Int} (hd : decode (gC g) pc = .ok (.iand, 1)) (k : AL g sh μ cs ss (pc + 1) ls (vI (iand x y) :: st) P) : AL g sh μ cs ss pc ls (vI y :: vI x :: st) P := by
  intro w p l e s m args below meth c H locs la cx hP hz hS hl
  have k := k w p l e s m args below meth c H locs la cx hP hz hS hl
  have k : W p l e (rmOf g) s m args below meth c H locs cs ss _ (F0 m (pc + 1) la (.int (Int32.ofInt (iand x y)) :: st.map (cv w))) := k
  rw [iand, Int32.ofInt_toInt] at k
  exact lv_iand cx.1 cx.2.1 hd k
theorem l_ior {x y : Int} (hd : decode (gC g) pc = .ok (.ior, 1)) (k : AL g sh μ cs ss (pc + 1) ls (vI (ior x y) :: st) P) : AL g sh μ cs ss pc ls (vI y :: vI x :: st) P := by
  intro w p l e s m args below meth c H locs la cx hP hz hS hl
  have k := k w p l e s m args below meth c H locs la cx hP hz hS hl
  have k : W p l e (rmOf g) s m args below meth c H locs cs ss _ (F0 m (pc + 1) la (.int (Int32.ofInt (ior x y)) :: st.map (cv w))) := k
  rw [ior, Int32.ofInt_toInt] at k
  exact lv_ior cx.1 cx.2.1 hd k
theorem l_ishl {x y : Int} (hd : decode (gC g) pc = .ok (.ishl, 1)) (k : AL g sh μ cs ss (pc + 1) ls (vI (ishl x y) :: st) P) : AL g sh μ cs ss pc ls (vI y :: vI x :: st) P := by
  intro w p l e s m args below meth c H locs la cx hP hz hS hl
  have k := k w p l e s m args below meth c H locs la cx hP hz hS hl
  have k : W p l e (rmOf g) s m args below meth c H locs cs ss _ (F0 m (pc + 1) la (.int (Int32.ofInt (ishl x y)) :: st.map (cv w))) := k
  rw [ishl, Int32.ofInt_toInt] at k
  exact lv_ishl cx.1 cx.2.1 hd k
theorem l_ishr {x y : Int} (hd : decode (gC g) pc = .ok (.ishr, 1)) (k : AL g sh μ cs ss (pc + 1) ls (vI (ishr x y) :: st) P) : AL g sh μ cs ss pc ls (vI y :: vI x :: st) P := by
  intro w p l e s m args below meth c H locs la cx hP hz hS hl
  have k := k w p l e s m args below meth c H locs la cx hP hz hS hl
  have k : W p l e (rmOf g) s m args below meth c H locs cs ss _ (F0 m (pc + 1) la (.int (Int32.ofInt (ishr x y)) :: st.map (cv w))) := k
  rw [ishr, Int32.ofInt_toInt] at k
  exact lv_ishr cx.1 cx.2.1 hd k
theorem l_idiv {x y : Int} (hd : decode (gC g) pc = .ok (.idiv, 1)) (hx : -2147483648 < x ∧ x < 2147483648) (hy : -2147483648 ≤ y ∧ y < 2147483648 ∧ y ≠ 0) (k : AL g sh μ cs ss (pc + 1) ls (vI (x.tdiv y) :: st) P) : AL g sh μ cs ss pc ls (vI y :: vI x :: st) P := by
  intro w p l e s m args below meth c H locs la cx hP hz hS hl
  have k := k w p l e s m args below meth c H locs la cx hP hz hS hl
  have k : W p l e (rmOf g) s m args below meth c H locs cs ss _ (F0 m (pc + 1) la (.int (Int32.ofInt (x.tdiv y)) :: st.map (cv w))) := k
  rw [← ofI_div hx ⟨hy.1, hy.2.1⟩] at k
  exact lv_idiv cx.1 cx.2.1 hd (fun h => hy.2.2 ((ofI_eq ⟨hy.1, hy.2.1⟩ (by omega)).mp (h.trans ofI_0.symm))) k
theorem l_irem {x y : Int} (hd : decode (gC g) pc = .ok (.irem, 1)) (hx : -2147483648 < x ∧ x < 2147483648) (hy : -2147483648 ≤ y ∧ y < 2147483648 ∧ y ≠ 0) (k : AL g sh μ cs ss (pc + 1) ls (vI (x.tmod y) :: st) P) : AL g sh μ cs ss pc ls (vI y :: vI x :: st) P := by
  intro w p l e s m args below meth c H locs la cx hP hz hS hl
  have k := k w p l e s m args below meth c H locs la cx hP hz hS hl
  have k : W p l e (rmOf g) s m args below meth c H locs cs ss _ (F0 m (pc + 1) la (.int (Int32.ofInt (x.tmod y)) :: st.map (cv w))) := k
  have e : x.tmod y = x - x.tdiv y * y := by
    have := Int.mul_tdiv_add_tmod x y
    rw [Int.mul_comm] at this
    omega
  rw [e, Int32.ofInt_sub, Int32.ofInt_mul, ← ofI_div hx ⟨hy.1, hy.2.1⟩] at k
  exact lv_irem cx.1 cx.2.1 hd (fun h => hy.2.2 ((ofI_eq ⟨hy.1, hy.2.1⟩ (by omega)).mp (h.trans ofI_0.symm))) k
theorem l_dup {v : AV} (hd : decode (gC g) pc = .ok (.dup, 1)) (hc : cat2 v = false) (k : AL g sh μ cs ss (pc + 1) ls (v :: v :: st) P) : AL g sh μ cs ss pc ls (v :: st) P := by
  intro w p l e s m args below meth c H locs la cx hP hz hS hl
  exact lv_dup cx.1 cx.2.1 hd (cat1 hc) (k w p l e s m args below meth c H locs la cx hP hz hS hl)
theorem l_pop {v : AV} (hd : decode (gC g) pc = .ok (.pop, 1)) (hc : cat2 v = false) (k : AL g sh μ cs ss (pc + 1) ls st P) : AL g sh μ cs ss pc ls (v :: st) P := by
  intro w p l e s m args below meth c H locs la cx hP hz hS hl
  exact lv_pop cx.1 cx.2.1 hd (cat1 hc) (k w p l e s m args below meth c H locs la cx hP hz hS hl)
theorem l_goto {off : Int} {tgt : Nat} (hd : decode (gC g) pc = .ok (.goto off, 3)) (ht : (pc : Int) + off = (tgt : Int)) (k : AL g sh μ cs ss tgt ls st P) : AL g sh μ cs ss pc ls st P := by
  intro w p l e s m args below meth c H locs la cx hP hz hS hl
  exact lv_goto cx.1 cx.2.1 hd ht (k w p l e s m args below meth c H locs la cx hP hz hS hl)
theorem l_icmp_eq {x y off : Int} {tgt : Nat} (hd : decode (gC g) pc = .ok (.if_icmp .eq off, 3)) (ht : (pc : Int) + off = (tgt : Int)) (hx : -2147483648 ≤ x ∧ x < 2147483648) (hy : -2147483648 ≤ y ∧ y < 2147483648)
    (kt : x = y → AL g sh μ cs ss tgt ls st P) (kf : ¬ (x = y) → AL g sh μ cs ss (pc + 3) ls st P) : AL g sh μ cs ss pc ls (vI y :: vI x :: st) P := by
  intro w p l e s m args below meth c H locs la cx hP hz hS hl
  have e1 := ofI_eq hx hy
  have e2 := ofI_lt hx hy
  have e3 := ofI_le hx hy
  have e4 := ofI_lt hy hx
  have e5 := ofI_le hy hx
  refine lv_icmp_eq cx.1 cx.2.1 hd ht (fun hc => kt (by first | exact e1.mp hc | exact e2.mp hc | exact e3.mp hc | exact e4.mp hc | exact e5.mp hc | exact fun q => hc (e1.mpr q)) w p l e s m args below meth c H locs la cx hP hz hS hl) (fun hc => kf ?_ w p l e s m args below meth c H locs la cx hP hz hS hl)
  first | exact fun q => hc (e1.mpr q) | exact fun q => hc (e2.mpr q) | exact fun q => hc (e3.mpr q) | exact fun q => hc (e4.mpr q) | exact fun q => hc (e5.mpr q) | exact fun q => q (e1.mp (by first | exact hc | exact Classical.not_not.mp hc))
theorem l_icmp_ne {x y off : Int} {tgt : Nat} (hd : decode (gC g) pc = .ok (.if_icmp .ne off, 3)) (ht : (pc : Int) + off = (tgt : Int)) (hx : -2147483648 ≤ x ∧ x < 2147483648) (hy : -2147483648 ≤ y ∧ y < 2147483648)
    (kt : x ≠ y → AL g sh μ cs ss tgt ls st P) (kf : ¬ (x ≠ y) → AL g sh μ cs ss (pc + 3) ls st P) : AL g sh μ cs ss pc ls (vI y :: vI x :: st) P := by
  intro w p l e s m args below meth c H locs la cx hP hz hS hl
  have e1 := ofI_eq hx hy
  have e2 := ofI_lt hx hy
  have e3 := ofI_le hx hy
  have e4 := ofI_lt hy hx
  have e5 := ofI_le hy hx
  refine lv_icmp_ne cx.1 cx.2.1 hd ht (fun hc => kt (by first | exact e1.mp hc | exact e2.mp hc | exact e3.mp hc | exact e4.mp hc | exact e5.mp hc | exact fun q => hc (e1.mpr q)) w p l e s m args below meth c H locs la cx hP hz hS hl) (fun hc => kf ?_ w p l e s m args below meth c H locs la cx hP hz hS hl)
  first | exact fun q => hc (e1.mpr q) | exact fun q => hc (e2.mpr q) | exact fun q => hc (e3.mpr q) | exact fun q => hc (e4.mpr q) | exact fun q => hc (e5.mpr q) | exact fun q => q (e1.mp (by first | exact hc | exact Classical.not_not.mp hc))
theorem l_icmp_lt {x y off : Int} {tgt : Nat} (hd : decode (gC g) pc = .ok (.if_icmp .lt off, 3)) (ht : (pc : Int) + off = (tgt : Int)) (hx : -2147483648 ≤ x ∧ x < 2147483648) (hy : -2147483648 ≤ y ∧ y < 2147483648)
    (kt : x < y → AL g sh μ cs ss tgt ls st P) (kf : ¬ (x < y) → AL g sh μ cs ss (pc + 3) ls st P) : AL g sh μ cs ss pc ls (vI y :: vI x :: st) P := by
  intro w p l e s m args below meth c H locs la cx hP hz hS hl
  have e1 := ofI_eq hx hy
  have e2 := ofI_lt hx hy
  have e3 := ofI_le hx hy
  have e4 := ofI_lt hy hx
  have e5 := ofI_le hy hx
  refine lv_icmp_lt cx.1 cx.2.1 hd ht (fun hc => kt (by first | exact e1.mp hc | exact e2.mp hc | exact e3.mp hc | exact e4.mp hc | exact e5.mp hc | exact fun q => hc (e1.mpr q)) w p l e s m args below meth c H locs la cx hP hz hS hl) (fun hc => kf ?_ w p l e s m args below meth c H locs la cx hP hz hS hl)
  first | exact fun q => hc (e1.mpr q) | exact fun q => hc (e2.mpr q) | exact fun q => hc (e3.mpr q) | exact fun q => hc (e4.mpr q) | exact fun q => hc (e5.mpr q) | exact fun q => q (e1.mp (by first | exact hc | exact Classical.not_not.mp hc))
theorem l_icmp_ge {x y off : Int} {tgt : Nat} (hd : decode (gC g) pc = .ok (.if_icmp .ge off, 3)) (ht : (pc : Int) + off = (tgt : Int)) (hx : -2147483648 ≤ x ∧ x < 2147483648) (hy : -2147483648 ≤ y ∧ y < 2147483648)
    (kt : y ≤ x → AL g sh μ cs ss tgt ls st P) (kf : ¬ (y ≤ x) → AL g sh μ cs ss (pc + 3) ls st P) : AL g sh μ cs ss pc ls (vI y :: vI x :: st) P := by
  intro w p l e s m args below meth c H locs la cx hP hz hS hl
  have e1 := ofI_eq hx hy
  have e2 := ofI_lt hx hy
  have e3 := ofI_le hx hy
  have e4 := ofI_lt hy hx
  have e5 := ofI_le hy hx
  refine lv_icmp_ge cx.1 cx.2.1 hd ht (fun hc => kt (by first | exact e1.mp hc | exact e2.mp hc | exact e3.mp hc | exact e4.mp hc | exact e5.mp hc | exact fun q => hc (e1.mpr q)) w p l e s m args below meth c H locs la cx hP hz hS hl) (fun hc => kf ?_ w p l e s m args below meth c H locs la cx hP hz hS hl)
  first | exact fun q => hc (e1.mpr q) | exact fun q => hc (e2.mpr q) | exact fun q => hc (e3.mpr q) | exact fun q => hc (e4.mpr q) | exact fun q => hc (e5.mpr q) | exact fun q => q (e1.mp (by first | exact hc | exact Classical.not_not.mp hc))
theorem l_icmp_gt {x y off : Int} {tgt : Nat} (hd : decode (gC g) pc = .ok (.if_icmp .gt off, 3)) (ht : (pc : Int) + off = (tgt : Int)) (hx : -2147483648 ≤ x ∧ x < 2147483648) (hy : -2147483648 ≤ y ∧ y < 2147483648)
    (kt : y < x → AL g sh μ cs ss tgt ls st P) (kf : ¬ (y < x) → AL g sh μ cs ss (pc + 3) ls st P) : AL g sh μ cs ss pc ls (vI y :: vI x :: st) P := by
  intro w p l e s m args below meth c H locs la cx hP hz hS hl
  have e1 := ofI_eq hx hy
  have e2 := ofI_lt hx hy
  have e3 := ofI_le hx hy
  have e4 := ofI_lt hy hx
  have e5 := ofI_le hy hx
  refine lv_icmp_gt cx.1 cx.2.1 hd ht (fun hc => kt (by first | exact e1.mp hc | exact e2.mp hc | exact e3.mp hc | exact e4.mp hc | exact e5.mp hc | exact fun q => hc (e1.mpr q)) w p l e s m args below meth c H locs la cx hP hz hS hl) (fun hc => kf ?_ w p l e s m args below meth c H locs la cx hP hz hS hl)
  first | exact fun q => hc (e1.mpr q) | exact fun q => hc (e2.mpr q) | exact fun q => hc (e3.mpr q) | exact fun q => hc (e4.mpr q) | exact fun q => hc (e5.mpr q) | exact fun q => q (e1.mp (by first | exact hc | exact Classical.not_not.mp hc))
theorem l_icmp_le {x y off : Int} {tgt : Nat} (hd : decode (gC g) pc = .ok (.if_icmp .le off, 3)) (ht : (pc : Int) + off = (tgt : Int)) (hx : -2147483648 ≤ x ∧ x < 2147483648) (hy : -2147483648 ≤ y ∧ y < 2147483648)
    (kt : x ≤ y → AL g sh μ cs ss tgt ls st P) (kf : ¬ (x ≤ y) → AL g sh μ cs ss (pc + 3) ls st P) : AL g sh μ cs ss pc ls (vI y :: vI x :: st) P := by
  intro w p l e s m args below meth c H locs la cx hP hz hS hl
  have e1 := ofI_eq hx hy
  have e2 := ofI_lt hx hy
  have e3 := ofI_le hx hy
  have e4 := ofI_lt hy hx
  have e5 := ofI_le hy hx
  refine lv_icmp_le cx.1 cx.2.1 hd ht (fun hc => kt (by first | exact e1.mp hc | exact e2.mp hc | exact e3.mp hc | exact e4.mp hc | exact e5.mp hc | exact fun q => hc (e1.mpr q)) w p l e s m args below meth c H locs la cx hP hz hS hl) (fun hc => kf ?_ w p l e s m args below meth c H locs la cx hP hz hS hl)
  first | exact fun q => hc (e1.mpr q) | exact fun q => hc (e2.mpr q) | exact fun q => hc (e3.mpr q) | exact fun q => hc (e4.mpr q) | exact fun q => hc (e5.mpr q) | exact fun q => q (e1.mp (by first | exact hc | exact Classical.not_not.mp hc))
theorem l_if_eq {x off : Int} {tgt : Nat} (hd : decode (gC g) pc = .ok (.ifCond .eq off, 3)) (ht : (pc : Int) + off = (tgt : Int)) (hx : -2147483648 ≤ x ∧ x < 2147483648)
    (kt : x = 0 → AL g sh μ cs ss tgt ls st P) (kf : ¬ (x = 0) → AL g sh μ cs ss (pc + 3) ls st P) : AL g sh μ cs ss pc ls (vI x :: st) P := by
  intro w p l e s m args below meth c H locs la cx hP hz hS hl
  have hy : -2147483648 ≤ (0 : Int) ∧ (0 : Int) < 2147483648 := by omega
  have e1 := ofI_eq hx hy
  have e2 := ofI_lt hx hy
  have e3 := ofI_le hx hy
  have e4 := ofI_lt hy hx
  have e5 := ofI_le hy hx
  rw [ofI_0] at e1 e2 e3 e4 e5
  refine lv_if_eq cx.1 cx.2.1 hd ht (fun hc => kt (by first | exact e1.mp hc | exact e2.mp hc | exact e3.mp hc | exact e4.mp hc | exact e5.mp hc | exact fun q => hc (e1.mpr q)) w p l e s m args below meth c H locs la cx hP hz hS hl) (fun hc => kf ?_ w p l e s m args below meth c H locs la cx hP hz hS hl)
  first | exact fun q => hc (e1.mpr q) | exact fun q => hc (e2.mpr q) | exact fun q => hc (e3.mpr q) | exact fun q => hc (e4.mpr q) | exact fun q => hc (e5.mpr q) | exact fun q => q (e1.mp (by first | exact hc | exact Classical.not_not.mp hc))
theorem l_if_ne {x off : Int} {tgt : Nat} (hd : decode (gC g) pc = .ok (.ifCond .ne off, 3)) (ht : (pc : Int) + off = (tgt : Int)) (hx : -2147483648 ≤ x ∧ x < 2147483648)
    (kt : x ≠ 0 → AL g sh μ cs ss tgt ls st P) (kf : ¬ (x ≠ 0) → AL g sh μ cs ss (pc + 3) ls st P) : AL g sh μ cs ss pc ls (vI x :: st) P := by
  intro w p l e s m args below meth c H locs la cx hP hz hS hl
  have hy : -2147483648 ≤ (0 : Int) ∧ (0 : Int) < 2147483648 := by omega
  have e1 := ofI_eq hx hy
  have e2 := ofI_lt hx hy
  have e3 := ofI_le hx hy
  have e4 := ofI_lt hy hx
  have e5 := ofI_le hy hx
  rw [ofI_0] at e1 e2 e3 e4 e5
  refine lv_if_ne cx.1 cx.2.1 hd ht (fun hc => kt (by first | exact e1.mp hc | exact e2.mp hc | exact e3.mp hc | exact e4.mp hc | exact e5.mp hc | exact fun q => hc (e1.mpr q)) w p l e s m args below meth c H locs la cx hP hz hS hl) (fun hc => kf ?_ w p l e s m args below meth c H locs la cx hP hz hS hl)
  first | exact fun q => hc (e1.mpr q) | exact fun q => hc (e2.mpr q) | exact fun q => hc (e3.mpr q) | exact fun q => hc (e4.mpr q) | exact fun q => hc (e5.mpr q) | exact fun q => q (e1.mp (by first | exact hc | exact Classical.not_not.mp hc))
theorem l_if_lt {x off : Int} {tgt : Nat} (hd : decode (gC g) pc = .ok (.ifCond .lt off, 3)) (ht : (pc : Int) + off = (tgt : Int)) (hx : -2147483648 ≤ x ∧ x < 2147483648)
    (kt : x < 0 → AL g sh μ cs ss tgt ls st P) (kf : ¬ (x < 0) → AL g sh μ cs ss (pc + 3) ls st P) : AL g sh μ cs ss pc ls (vI x :: st) P := by
  intro w p l e s m args below meth c H locs la cx hP hz hS hl
  have hy : -2147483648 ≤ (0 : Int) ∧ (0 : Int) < 2147483648 := by omega
  have e1 := ofI_eq hx hy
  have e2 := ofI_lt hx hy
  have e3 := ofI_le hx hy
  have e4 := ofI_lt hy hx
  have e5 := ofI_le hy hx
  rw [ofI_0] at e1 e2 e3 e4 e5
  refine lv_if_lt cx.1 cx.2.1 hd ht (fun hc => kt (by first | exact e1.mp hc | exact e2.mp hc | exact e3.mp hc | exact e4.mp hc | exact e5.mp hc | exact fun q => hc (e1.mpr q)) w p l e s m args below meth c H locs la cx hP hz hS hl) (fun hc => kf ?_ w p l e s m args below meth c H locs la cx hP hz hS hl)
  first | exact fun q => hc (e1.mpr q) | exact fun q => hc (e2.mpr q) | exact fun q => hc (e3.mpr q) | exact fun q => hc (e4.mpr q) | exact fun q => hc (e5.mpr q) | exact fun q => q (e1.mp (by first | exact hc | exact Classical.not_not.mp hc))
theorem l_if_ge {x off : Int} {tgt : Nat} (hd : decode (gC g) pc = .ok (.ifCond .ge off, 3)) (ht : (pc : Int) + off = (tgt : Int)) (hx : -2147483648 ≤ x ∧ x < 2147483648)
    (kt : 0 ≤ x → AL g sh μ cs ss tgt ls st P) (kf : ¬ (0 ≤ x) → AL g sh μ cs ss (pc + 3) ls st P) : AL g sh μ cs ss pc ls (vI x :: st) P := by
  intro w p l e s m args below meth c H locs la cx hP hz hS hl
  have hy : -2147483648 ≤ (0 : Int) ∧ (0 : Int) < 2147483648 := by omega
  have e1 := ofI_eq hx hy
  have e2 := ofI_lt hx hy
  have e3 := ofI_le hx hy
  have e4 := ofI_lt hy hx
  have e5 := ofI_le hy hx
  rw [ofI_0] at e1 e2 e3 e4 e5
  refine lv_if_ge cx.1 cx.2.1 hd ht (fun hc => kt (by first | exact e1.mp hc | exact e2.mp hc | exact e3.mp hc | exact e4.mp hc | exact e5.mp hc | exact fun q => hc (e1.mpr q)) w p l e s m args below meth c H locs la cx hP hz hS hl) (fun hc => kf ?_ w p l e s m args below meth c H locs la cx hP hz hS hl)
  first | exact fun q => hc (e1.mpr q) | exact fun q => hc (e2.mpr q) | exact fun q => hc (e3.mpr q) | exact fun q => hc (e4.mpr q) | exact fun q => hc (e5.mpr q) | exact fun q => q (e1.mp (by first | exact hc | exact Classical.not_not.mp hc))
theorem l_if_gt {x off : Int} {tgt : Nat} (hd : decode (gC g) pc = .ok (.ifCond .gt off, 3)) (ht : (pc : Int) + off = (tgt : Int)) (hx : -2147483648 ≤ x ∧ x < 2147483648)
    (kt : 0 < x → AL g sh μ cs ss tgt ls st P) (kf : ¬ (0 < x) → AL g sh μ cs ss (pc + 3) ls st P) : AL g sh μ cs ss pc ls (vI x :: st) P := by
  intro w p l e s m args below meth c H locs la cx hP hz hS hl
  have hy : -2147483648 ≤ (0 : Int) ∧ (0 : Int) < 2147483648 := by omega
  have e1 := ofI_eq hx hy
  have e2 := ofI_lt hx hy
  have e3 := ofI_le hx hy
  have e4 := ofI_lt hy hx
  have e5 := ofI_le hy hx
  rw [ofI_0] at e1 e2 e3 e4 e5
  refine lv_if_gt cx.1 cx.2.1 hd ht (fun hc => kt (by first | exact e1.mp hc | exact e2.mp hc | exact e3.mp hc | exact e4.mp hc | exact e5.mp hc | exact fun q => hc (e1.mpr q)) w p l e s m args below meth c H locs la cx hP hz hS hl) (fun hc => kf ?_ w p l e s m args below meth c H locs la cx hP hz hS hl)
  first | exact fun q => hc (e1.mpr q) | exact fun q => hc (e2.mpr q) | exact fun q => hc (e3.mpr q) | exact fun q => hc (e4.mpr q) | exact fun q => hc (e5.mpr q) | exact fun q => q (e1.mp (by first | exact hc | exact Classical.not_not.mp hc))
theorem l_if_le {x off : Int} {tgt : Nat} (hd : decode (gC g) pc = .ok (.ifCond .le off, 3)) (ht : (pc : Int) + off = (tgt : Int)) (hx : -2147483648 ≤ x ∧ x < 2147483648)
    (kt : x ≤ 0 → AL g sh μ cs ss tgt ls st P) (kf : ¬ (x ≤ 0) → AL g sh μ cs ss (pc + 3) ls st P) : AL g sh μ cs ss pc ls (vI x :: st) P := by
  intro w p l e s m args below meth c H locs la cx hP hz hS hl
  have hy : -2147483648 ≤ (0 : Int) ∧ (0 : Int) < 2147483648 := by omega
  have e1 := ofI_eq hx hy
  have e2 := ofI_lt hx hy
  have e3 := ofI_le hx hy
  have e4 := ofI_lt hy hx
  have e5 := ofI_le hy hx
  rw [ofI_0] at e1 e2 e3 e4 e5
  refine lv_if_le cx.1 cx.2.1 hd ht (fun hc => kt (by first | exact e1.mp hc | exact e2.mp hc | exact e3.mp hc | exact e4.mp hc | exact e5.mp hc | exact fun q => hc (e1.mpr q)) w p l e s m args below meth c H locs la cx hP hz hS hl) (fun hc => kf ?_ w p l e s m args below meth c H locs la cx hP hz hS hl)
  first | exact fun q => hc (e1.mpr q) | exact fun q => hc (e2.mpr q) | exact fun q => hc (e3.mpr q) | exact fun q => hc (e4.mpr q) | exact fun q => hc (e5.mpr q) | exact fun q => q (e1.mp (by first | exact hc | exact Classical.not_not.mp hc))
theorem l_if_eqB {b : Bool} {off : Int} {tgt : Nat} (hd : decode (gC g) pc = .ok (.ifCond .eq off, 3)) (ht : (pc : Int) + off = (tgt : Int))
    (kt : b = false → AL g sh μ cs ss tgt ls st P) (kf : b = true → AL g sh μ cs ss (pc + 3) ls st P) : AL g sh μ cs ss pc ls (vI (b2i b) :: st) P :=
  l_if_eq hd ht (by cases b <;> decide) (fun h => kt (by cases b with | false => rfl | true => exact absurd h (by decide))) (fun h => kf (by cases b with | false => exact absurd rfl h | true => rfl))
theorem l_if_neB {b : Bool} {off : Int} {tgt : Nat} (hd : decode (gC g) pc = .ok (.ifCond .ne off, 3)) (ht : (pc : Int) + off = (tgt : Int))
    (kt : b = true → AL g sh μ cs ss tgt ls st P) (kf : b = false → AL g sh μ cs ss (pc + 3) ls st P) : AL g sh μ cs ss pc ls (vI (b2i b) :: st) P :=
  l_if_ne hd ht (by cases b <;> decide) (fun h => kt (by cases b with | false => exact absurd rfl h | true => rfl)) (fun h => kf (by cases b with | false => rfl | true => exact absurd (by decide) h))
theorem l_iald {a n : Nat} {i : Int} (hd : decode (gC g) pc = .ok (.iaload, 1)) (ha : sh[a]? = some (20, n)) (hn : Nat.ble n 2147483647 = true) (hi : 0 ≤ i ∧ i < (n : Int))
    (kk : AL g sh μ cs ss (pc + 1) ls (vI (μ.1 a i) :: st) P) : AL g sh μ cs ss pc ls (vI i :: vR a :: st) P := by
  intro w p l e s m args below meth c H locs la cx hP hz hS hl
  have kk := kk w p l e s m args below meth c H locs la cx hP hz hS hl
  obtain ⟨hx, hb, -, -, -, hts, hown, -, hK, -⟩ := cx
  have he := ws_get (w := w) (μ := μ) ha
  rw [cell_20] at he
  refine va_iald (D := wG w) hx hb hK hP a 0 he rfl (ixIn hi hn) hd ?_
  simp only [ixZ hi hn]
  exact kk
theorem l_iast {a n : Nat} {i x : Int} (hd : decode (gC g) pc = .ok (.iastore, 1)) (ha : sh[a]? = some (20, n)) (hn : Nat.ble n 2147483647 = true) (hi : 0 ≤ i ∧ i < (n : Int))
    (kk : AL g sh (setI μ a i x) cs ss (pc + 1) ls st P) : AL g sh μ cs ss pc ls (vI x :: vI i :: vR a :: st) P := by
  intro w p l e s m args below meth c H locs la cx hP hz hS hl
  have kk := fun H locs => kk w p l e s m args below meth c H locs la cx
  obtain ⟨hx, hb, -, -, -, hts, hown, -, hK, -⟩ := cx
  have he := ws_get (w := w) (μ := μ) ha
  rw [cell_20] at he
  refine va_iast (D := wG w) hx hb hK hP (ws_apart w sh μ) hS a 0 he rfl (ixIn hi hn) hd (fun H1 locs1 hP1 _ hS1 => ?_)
  rw [ws_set (μ' := setI μ a i x) ha (by rw [cell_20]; congr 4; funext j; simp only [upd, setI, ixJ hi hn]; by_cases hj : (j : Int) = i <;> simp [hj]) (fun b hb => cell_setI hb)] at hP1
  exact kk H1 locs1 hP1 hz hS1 hl
theorem l_new {idx ci N : Nat} (hd : decode (gC g) pc = .ok (.new idx, 3)) (hk : NL (gO g) idx ci N) (hc1 : Nat.ble (cs + 1) (gM g) = true) (hs1 : Nat.ble (ss + N) (gS g) = true)
    (kk : AL g (sh ++ [(ci, N)]) (born μ sh.length) (cs + 1) (ss + N) (pc + 3) ls (vR sh.length :: st) P) : AL g sh μ cs ss pc ls st P := by
  intro w p l e s m args below meth c H locs la cx hP hz hS hl
  have kk := fun H locs => kk w p l e s m args below meth c H locs la cx
  obtain ⟨C, T, hc, hcl, hins, hini, hin, hpd, hdef, h12⟩ := hk
  obtain ⟨hx, hb, -, hml, -, hts, hown, -, hK, -, hbs⟩ := cx
  refine va_new (D := wG w) (fs := (List.range N).map (fieldV w (born μ sh.length) sh.length ci)) hx hb hts hin (tyOf ci) hpd hown (hts _ hcl) (hts _ hins) (hts _ hini) hK hP (ws_apart w sh μ) hS (fun q h => Nat.le_trans hbs h) hc ?_ (Nat.le_of_ble_eq_true hc1) (Nat.le_of_ble_eq_true hs1) hd (fun q H1 hP1 hD1 hS1 => ?_)
  · intro j hj
    rw [hdef j hj]
    simp only [vp_V, List.getD_eq_getElem?_getD, List.getElem?_map, List.getElem?_range hj, Option.map_some, Option.getD_some, fieldV, born]
    split <;> simp [rv]
  · intro T hT X
    have h1 : T.heap.size ≤ s.heap.size + (cs + 1) := X.same.2.2.1
    rw [hT] at h1
    have hq : q < H1.size := push_lt hP1
    have e := push_addr hD1 hq (by omega)
    subst e
    have e2 := ws_push (w := w) (sh := sh) (μ := μ) (μ' := born μ sh.length) (k := (ci, N)) (fun b hb k => cell_born (by omega) k)
    rw [cell_obj h12] at e2
    rw [← e2] at hP1
    exact kk H1 locs hP1 (by rw [List.length_append]; simp only [List.length_cons, List.length_nil]; omega) hS1 hl T hT X
theorem newa_coreL {atype : ArrayType} {ty : FieldType} {kd ti n : Nat} (a0 : Nat → vp_A) (hd : decode (gC g) pc = .ok (.newarray atype, 2)) (hac : Cond.arrayClass (newarray.typeOf atype) ∈ GW) (hty : newarray.typeOf atype = ty) (hpr : refKind ty = false) (hti : ∀ w, (tysW w)[ti]? = some (wA w ti, ty))
    (hcell : ∀ w a, cellOf w (born μ a) a (kd, n) = .inl (wA w ti, a0 n)) (ha : ∀ cA : ClassId, vp_cell cA (a0 n) = arrV cA n (fun _ => defaultValue ty)) (hcb : componentBytes ty ≤ 8)
    (hn : Nat.ble n 1000000 = true) (hc1 : Nat.ble (cs + 1) (gM g) = true) (hs1 : Nat.ble (ss + n) (gS g) = true)
    (kk : AL g (sh ++ [(kd, n)]) (born μ sh.length) (cs + 1) (ss + n) (pc + 2) ls (vR sh.length :: st) P) : AL g sh μ cs ss pc ls (vI n :: st) P := by
  intro w p l e s m args below meth c H locs la cx hP hz hS hl
  have kk := fun H locs => kk w p l e s m args below meth c H locs la cx
  obtain ⟨hx, hb, -, hml, -, hts, hown, -, hK, -, hbs⟩ := cx
  have hn := Nat.le_of_ble_eq_true hn
  have hnn : (Int32.ofInt (n : Int)).toNatClampNeg = n := by show (Int32.ofInt (n : Int)).toInt.toNat = n; rw [toI (by omega)]; simp
  refine va_newa (D := wG w) (a0 := a0 n) hx hb (hts _ hac) hty hK hP (ws_apart w sh μ) hS (fun q h => Nat.le_trans hbs h) ha (by rw [Int32.lt_iff_toInt_lt, toI (by omega)]; simp) hnn ?_ (Nat.le_of_ble_eq_true hc1) (Nat.le_of_ble_eq_true hs1) hd (fun q cA H1 hK1 hP1 hD1 hS1 => ?_)
  · have := Nat.mul_le_mul hn hcb
    omega
  · intro T hT X
    have h1 : T.heap.size ≤ s.heap.size + (cs + 1) := X.same.2.2.1
    rw [hT] at h1
    have hq : q < H1.size := push_lt hP1
    have e := push_addr hD1 hq (by omega)
    subst e
    have r1 : va_RA s (wA w ti) ty := (hK.2 ti _ (hti w)).2
    have r2 : va_RA s cA ty := (hK1.2 5 (cA, ty) (by rw [List.getElem?_append_right (by simp [tysW])]; simp [tysW])).2
    have hcA : cA = wA w ti := by
      cases ty <;> first | exact Option.some.inj (r2.symm.trans r1) | exact absurd hpr (by simp [refKind])
    subst hcA
    have e2 := ws_push (w := w) (sh := sh) (μ := μ) (μ' := born μ sh.length) (k := (kd, n)) (fun b hb k => cell_born (by omega) k)
    rw [hcell] at e2
    rw [← e2] at hP1
    exact kk H1 locs hP1 (by rw [List.length_append]; simp only [List.length_cons, List.length_nil]; omega) hS1 hl T hT X
theorem l_newaI {n : Nat} {nI : Int} (hd : decode (gC g) pc = .ok (.newarray .int, 2)) (hac : Cond.arrayClass .int ∈ GW) (hnI : (n : Int) = nI) (hn : Nat.ble n 1000000 = true) (hc1 : Nat.ble (cs + 1) (gM g) = true) (hs1 : Nat.ble (ss + n) (gS g) = true)
    (kk : AL g (sh ++ [(20, n)]) (born μ sh.length) (cs + 1) (ss + n) (pc + 2) ls (vR sh.length :: st) P) : AL g sh μ cs ss pc ls (vI nI :: st) P := by
  subst hnI
  exact newa_coreL (atype := .int) (ty := .int) (ti := 0) (fun n => (n, .inl fun _ => 0)) hd hac rfl rfl (fun w => rfl) (fun w a => by rw [cell_20]; simp only [born_self1]; rfl) (fun cA => by rw [vp_cell_i]; rfl) (by decide) hn hc1 hs1 kk
theorem call_coreL {g2 : Gm} {w : Wd} {p : Program} {l : Launch} {e : Env} {s : State} {m : MethodId} {args : Array Value} {below : List Frame} {meth : Method} {c : Code} {H : Heap} {locs : List Loc} {la : Array Slot} {stk : List Value} {P2 : Option AV → Sh → Mem → Prop} {a2 : Array Value}
    (cx : Cx g w p s m args meth c) (hz : s.heap.size + cs = wB w + sh.length) (hS : va_S (wO w) s.heap H locs) (hl : lvr w la (gL g) ls) (hzH : H.size = wB w + sh.length)
    (hrun : va_Run p l e (rmOf g) s m args below meth c H locs cs ss (gM g2) (gS g2) (F0 m pc la stk) (st.map (cv w)) (QcG w (gM g2) P2 a2) (wO w))
    (kk : ∀ r sh' μ', P2 r sh' μ' → AL g sh' μ' (cs + gM g2) (ss + gS g2) (pc + 3) ls (r.toList ++ st) P) :
    W p l e (rmOf g) s m args below meth c H locs cs ss (MQ below (QcL w P) args s (gM g) (gS g) (wO w)) (F0 m pc la stk) := by
  intro T hT X
  obtain ⟨v, st₀, t, T', L, h0, X', hL, e1, e2, ⟨⟨r, sh', μ', hv, hp2, hP', hz', -⟩, hF⟩, stp⟩ := hrun T hT X
  have hv : v = r.map (cv w) := by injection hv
  subst hv
  subst h0
  have hS' : va_S (wO w) s.heap T'.heap (locs ++ L) := by
    refine ⟨Nat.le_trans hS.1 (by rw [e1]; exact hF.1), fun q h1 h2 => ?_, fun q hq => ?_⟩
    · rw [e1, hF.2 q (Nat.lt_of_lt_of_le h1 hS.1) h2]
      exact hS.2.1 q h1 h2
    · rcases List.mem_append.mp hq with h | h
      · exact hS.2.2 q h
      · exact hL q h
  obtain ⟨t2, a1, b1⟩ := kk r sh' μ' hp2 w p l e s m args below meth c T'.heap (locs ++ L) la cx (by rw [e1]; exact hP') (by omega) hS' hl T' rfl X'
  refine ⟨t2, stp t2 ?_, b1⟩
  have es : (r.toList ++ st).map (cv w) = (r.map (cv w)).toList ++ st.map (cv w) := by cases r <;> simp
  rw [es] at a1
  exact a1
theorem l_callV {idx n a ci N : Nat} {y : MethodName} {g2 : Gm} {vs : List AV} {P2 : Option AV → Sh → Mem → Prop} (hd : decode (gC g) pc = .ok (.invokevirtual idx, 3)) (hk : Cond.methodLink (gO g) idx y ∈ GW ∧ Cond.instanceMethod y ∈ GW ∧ Cond.selects y.cls y y ∈ GW) (hy : YL y g2 n)
    (hm : AMet y g2 sh (vR a :: vs) μ P2) (hn : vs.length = n) (ha : sh[a]? = some (ci, N)) (hcl : ∃ T, vwCl[ci]? = some (y.cls, T, N)) (hr : Nat.ble (gD g2 + 1) (gD g) = true) (hcs : Nat.ble (catSum st) 8 = true) (hc1 : Nat.ble (cs + gM g2) (gM g) = true) (hs1 : Nat.ble (ss + gS g2) (gS g) = true)
    (kk : ∀ r sh' μ', P2 r sh' μ' → AL g sh' μ' (cs + gM g2) (ss + gS g2) (pc + 3) ls (r.toList ++ st) P) : AL g sh μ cs ss pc ls (vs.reverse ++ vR a :: st) P := by
  intro w p l e s m args below meth c H locs la cx hP hz hS hl
  refine withSize hP hS hz cx.2.2.2.2.2.2.2.2.2.2 (fun hzH => ?_)
  have hst := sub_start cx hP hS hzH
  have hm := hm w l
  have cx0 := cx
  obtain ⟨hx, hb, -, hml, -, hts, hown, -, hK, hE, hbs⟩ := cx
  obtain ⟨T, hcl⟩ := hcl
  have h12 : ci < 12 := Nat.lt_of_lt_of_le (List.getElem?_eq_some_iff.mp hcl).1 (by decide)
  have he := ws_get (w := w) (μ := μ) ha
  rw [cell_obj h12] at he
  have hr := Nat.le_of_ble_eq_true hr
  have h45 := Nat.le_of_ble_eq_true hy.2.2.2.2.2
  refine call_coreL (st := st) cx0 hz hS hl hzH (va_runV (C := y.cls) (b := wB w + a) (As := vs.map (cv w)) (rest := st.map (cv w)) (n := n) (Ts := GW) ⟨hx, hb, hml, hown, hts⟩ hm (cwV (ws' := GW) n hts ?_ rfl rfl rfl ⟨rfl, hy.2.2.1, hy.2.2.2.1, hy.2.2.2.2.1⟩ ⟨?_, ?_⟩) ⟨st_blind, va_recv hK hP (ci := ci) (q0 := a) hcl he, fun U hU hW => ⟨rfl, hst U hU hW⟩⟩ rfl ?_ hl.1 ?_ (lv_room (by rw [catSum_eq]; exact Nat.le_of_ble_eq_true hcs)) hd ⟨Nat.le_of_ble_eq_true hc1, Nat.le_of_ble_eq_true hs1⟩) kk
  · intro x hx
    rcases List.mem_append.mp hx with h | h
    · have : x ∈ GW := by
        simp only [List.mem_cons, List.not_mem_nil, or_false] at h
        rcases h with rfl | rfl | rfl | rfl
        · exact hk.1
        · exact hk.2.1
        · exact hk.2.2
        · exact hy.2.1
      exact ⟨this, gw_good this⟩
    · exact ws_good hy x h
  · exact hr
  · show 8 + (gL g2 + 11) + gD g2 * 36 ≤ gD g * 36
    omega
  · simpa using hn
  · simp only [List.map_append, List.map_reverse, List.map_cons]; rfl
theorem l_callS {idx n : Nat} {y : MethodName} {g2 : Gm} {vs : List AV} {P2 : Option AV → Sh → Mem → Prop} (hd : decode (gC g) pc = .ok (.invokestatic idx, 3)) (hk : Cond.methodLink (gO g) idx y ∈ GW ∧ Cond.static y ∈ GW) (hy : YL y g2 n)
    (hm : AMet y g2 sh vs μ P2) (hn : vs.length = n) (hr : Nat.ble (gD g2 + 1) (gD g) = true) (hcs : Nat.ble (catSum st) 8 = true) (hc1 : Nat.ble (cs + gM g2) (gM g) = true) (hs1 : Nat.ble (ss + gS g2) (gS g) = true)
    (kk : ∀ r sh' μ', P2 r sh' μ' → AL g sh' μ' (cs + gM g2) (ss + gS g2) (pc + 3) ls (r.toList ++ st) P) : AL g sh μ cs ss pc ls (vs.reverse ++ st) P := by
  intro w p l e s m args below meth c H locs la cx hP hz hS hl
  refine withSize hP hS hz cx.2.2.2.2.2.2.2.2.2.2 (fun hzH => ?_)
  have hst := sub_start cx hP hS hzH
  have hm := hm w l
  have cx0 := cx
  obtain ⟨hx, hb, -, hml, -, hts, hown, -, hK, hE, hbs⟩ := cx
  have hr := Nat.le_of_ble_eq_true hr
  have h45 := Nat.le_of_ble_eq_true hy.2.2.2.2.2
  refine call_coreL (st := st) cx0 hz hS hl hzH (va_runS (As := vs.map (cv w)) (rest := st.map (cv w)) (n := n) (Ts := GW) ⟨hx, hb, hml, hown, hts⟩ hm ⟨callB_of (ws' := GW) n hts (ws_good hy) rfl rfl rfl (hts _ hy.2.1) (hts _ hk.1) ⟨hy.2.2.1, hy.2.2.2.1, hy.2.2.2.2.1⟩ ⟨?_, ?_⟩, hts _ hk.2⟩ ⟨st_blind, fun U hU hW => ⟨rfl, hst U hU hW⟩⟩ rfl ?_ hl.1 ?_ (lv_room (by rw [catSum_eq]; exact Nat.le_of_ble_eq_true hcs)) hd ⟨Nat.le_of_ble_eq_true hc1, Nat.le_of_ble_eq_true hs1⟩) kk
  · exact hr
  · show 8 + (gL g2 + 11) + gD g2 * 36 ≤ gD g * 36
    omega
  · simpa using hn
  · simp only [List.map_append, List.map_reverse]
theorem l_callI {idx a n : Nat} {y : MethodName} {g2 : Gm} {vs : List AV} {P2 : Option AV → Sh → Mem → Prop} (hd : decode (gC g) pc = .ok (.invokespecial idx, 3)) (hk : Cond.methodLink (gO g) idx y ∈ GW ∧ Cond.instanceMethod y ∈ GW ∧ y.name = "<init>") (hy : YL y g2 n) (hret : gR g2 = none)
    (hm : AMet y g2 sh (vR a :: vs) μ P2) (hn : vs.length = n) (hr : Nat.ble (gD g2 + 1) (gD g) = true) (hcs : Nat.ble (catSum st) 8 = true) (hc1 : Nat.ble (cs + gM g2) (gM g) = true) (hs1 : Nat.ble (ss + gS g2) (gS g) = true)
    (kk : ∀ r sh' μ', P2 r sh' μ' → AL g sh' μ' (cs + gM g2) (ss + gS g2) (pc + 3) ls (r.toList ++ st) P) : AL g sh μ cs ss pc ls (vs.reverse ++ vR a :: st) P := by
  intro w p l e s m args below meth c H locs la cx hP hz hS hl
  refine withSize hP hS hz cx.2.2.2.2.2.2.2.2.2.2 (fun hzH => ?_)
  have hst := sub_start cx hP hS hzH
  have hm := hm w l
  have cx0 := cx
  obtain ⟨hx, hb, -, hml, -, hts, hown, -, hK, hE, hbs⟩ := cx
  have hr := Nat.le_of_ble_eq_true hr
  have h45 := Nat.le_of_ble_eq_true hy.2.2.2.2.2
  refine call_coreL (st := st) cx0 hz hS hl hzH (va_runI (bytes := gC g2) (maxL := gL g2) (b := wB w + a) (As := vs.map (cv w)) (rest := st.map (cv w)) (n := n) (Ts := GW) ⟨hx, hb, hml, hown, hts⟩ hm (cwI (ws' := GW) n hts (ws_good hy) (by rw [wsm, hret]) rfl rfl (hts _ hy.2.1) (hts _ hk.1) (hts _ hk.2.1) hk.2.2 ⟨hy.2.2.1, hy.2.2.2.1, hy.2.2.2.2.1⟩ ⟨?_, ?_⟩) ⟨st_blind, fun U hU hW => ⟨rfl, hst U hU hW⟩⟩ rfl ?_ hl.1 ?_ (lv_room (by rw [catSum_eq]; exact Nat.le_of_ble_eq_true hcs)) hd ⟨Nat.le_of_ble_eq_true hc1, Nat.le_of_ble_eq_true hs1⟩) kk
  · exact hr
  · show 8 + (gL g2 + 11) + gD g2 * 36 ≤ gD g * 36
    omega
  · simpa using hn
  · simp only [List.map_append, List.map_reverse, List.map_cons]; rfl
theorem up0L {n m : Nat} (h0 : n = 0) (h1 : m = 0) (h : AL g sh μ cs ss pc ls st P) : AL g sh μ (cs + n) (ss + m) pc ls st P := by subst h0; subst h1; exact h
section LCALLS
variable {g g2 : Gm} {sh : Sh} {μ : Mem} {cs ss pc : Nat} {ls : Ls} {st : List AV} {P : Option AV → Sh → Mem → Prop} {y : MethodName}
theorem l_cV0F1 {idx a ci N : Nat} {μ' : Mem} {v : AV} (hd : decode (gC g) pc = .ok (.invokevirtual idx, 3)) (hk : Cond.methodLink (gO g) idx y ∈ GW ∧ Cond.instanceMethod y ∈ GW ∧ Cond.selects y.cls y y ∈ GW) (hy : YL y g2 0) (h0 : gM g2 = 0 ∧ gS g2 = 0) (ha : sh[a]? = some (ci, N)) (hcl : ∃ T, vwCl[ci]? = some (y.cls, T, N)) (hr : Nat.ble (gD g2 + 1) (gD g) = true) (hcs : Nat.ble (catSum st) 8 = true) (hc1 : Nat.ble cs (gM g) = true) (hs1 : Nat.ble ss (gS g) = true)
    (hm : FMet y g2 sh [vR a] μ (some v) μ') (kk : AL g sh μ' cs ss (pc + 3) ls (v :: st) P) : AL g sh μ cs ss pc ls (vR a :: st) P := by
  exact l_callV (vs := []) hd hk hy hm rfl ha hcl hr hcs (le0 h0.1 hc1) (le0 h0.2 hs1) (fun r sh2 μ2 h => by obtain ⟨rfl, rfl, rfl⟩ := h; exact up0L h0.1 h0.2 kk)
theorem l_cV0I {idx a ci N : Nat} {Q : Int → Mem → Prop} (hd : decode (gC g) pc = .ok (.invokevirtual idx, 3)) (hk : Cond.methodLink (gO g) idx y ∈ GW ∧ Cond.instanceMethod y ∈ GW ∧ Cond.selects y.cls y y ∈ GW) (hy : YL y g2 0) (h0 : gM g2 = 0 ∧ gS g2 = 0) (ha : sh[a]? = some (ci, N)) (hcl : ∃ T, vwCl[ci]? = some (y.cls, T, N)) (hr : Nat.ble (gD g2 + 1) (gD g) = true) (hcs : Nat.ble (catSum st) 8 = true) (hc1 : Nat.ble cs (gM g) = true) (hs1 : Nat.ble ss (gS g) = true)
    (hm : IMet y g2 sh [vR a] μ Q) (kk : ∀ x μ', Q x μ' → AL g sh μ' cs ss (pc + 3) ls (vI x :: st) P) : AL g sh μ cs ss pc ls (vR a :: st) P := by
  exact l_callV (vs := []) hd hk hy hm rfl ha hcl hr hcs (le0 h0.1 hc1) (le0 h0.2 hs1) (fun r sh2 μ2 h => by obtain ⟨rfl, x, rfl, hq⟩ := h; exact up0L h0.1 h0.2 (kk x _ hq))
theorem l_cV1F1 {idx a ci N : Nat} {v1 : AV} {μ' : Mem} {v : AV} (hd : decode (gC g) pc = .ok (.invokevirtual idx, 3)) (hk : Cond.methodLink (gO g) idx y ∈ GW ∧ Cond.instanceMethod y ∈ GW ∧ Cond.selects y.cls y y ∈ GW) (hy : YL y g2 1) (h0 : gM g2 = 0 ∧ gS g2 = 0) (ha : sh[a]? = some (ci, N)) (hcl : ∃ T, vwCl[ci]? = some (y.cls, T, N)) (hr : Nat.ble (gD g2 + 1) (gD g) = true) (hcs : Nat.ble (catSum st) 8 = true) (hc1 : Nat.ble cs (gM g) = true) (hs1 : Nat.ble ss (gS g) = true)
    (hm : FMet y g2 sh [vR a, v1] μ (some v) μ') (kk : AL g sh μ' cs ss (pc + 3) ls (v :: st) P) : AL g sh μ cs ss pc ls (v1 :: vR a :: st) P := by
  exact l_callV (vs := [v1]) hd hk hy hm rfl ha hcl hr hcs (le0 h0.1 hc1) (le0 h0.2 hs1) (fun r sh2 μ2 h => by obtain ⟨rfl, rfl, rfl⟩ := h; exact up0L h0.1 h0.2 kk)
theorem l_cV1I {idx a ci N : Nat} {v1 : AV} {Q : Int → Mem → Prop} (hd : decode (gC g) pc = .ok (.invokevirtual idx, 3)) (hk : Cond.methodLink (gO g) idx y ∈ GW ∧ Cond.instanceMethod y ∈ GW ∧ Cond.selects y.cls y y ∈ GW) (hy : YL y g2 1) (h0 : gM g2 = 0 ∧ gS g2 = 0) (ha : sh[a]? = some (ci, N)) (hcl : ∃ T, vwCl[ci]? = some (y.cls, T, N)) (hr : Nat.ble (gD g2 + 1) (gD g) = true) (hcs : Nat.ble (catSum st) 8 = true) (hc1 : Nat.ble cs (gM g) = true) (hs1 : Nat.ble ss (gS g) = true)
    (hm : IMet y g2 sh [vR a, v1] μ Q) (kk : ∀ x μ', Q x μ' → AL g sh μ' cs ss (pc + 3) ls (vI x :: st) P) : AL g sh μ cs ss pc ls (v1 :: vR a :: st) P := by
  exact l_callV (vs := [v1]) hd hk hy hm rfl ha hcl hr hcs (le0 h0.1 hc1) (le0 h0.2 hs1) (fun r sh2 μ2 h => by obtain ⟨rfl, x, rfl, hq⟩ := h; exact up0L h0.1 h0.2 (kk x _ hq))
theorem l_cV2F1 {idx a ci N : Nat} {v1 v2 : AV} {μ' : Mem} {v : AV} (hd : decode (gC g) pc = .ok (.invokevirtual idx, 3)) (hk : Cond.methodLink (gO g) idx y ∈ GW ∧ Cond.instanceMethod y ∈ GW ∧ Cond.selects y.cls y y ∈ GW) (hy : YL y g2 2) (h0 : gM g2 = 0 ∧ gS g2 = 0) (ha : sh[a]? = some (ci, N)) (hcl : ∃ T, vwCl[ci]? = some (y.cls, T, N)) (hr : Nat.ble (gD g2 + 1) (gD g) = true) (hcs : Nat.ble (catSum st) 8 = true) (hc1 : Nat.ble cs (gM g) = true) (hs1 : Nat.ble ss (gS g) = true)
    (hm : FMet y g2 sh [vR a, v1, v2] μ (some v) μ') (kk : AL g sh μ' cs ss (pc + 3) ls (v :: st) P) : AL g sh μ cs ss pc ls (v2 :: v1 :: vR a :: st) P := by
  exact l_callV (vs := [v1, v2]) hd hk hy hm rfl ha hcl hr hcs (le0 h0.1 hc1) (le0 h0.2 hs1) (fun r sh2 μ2 h => by obtain ⟨rfl, rfl, rfl⟩ := h; exact up0L h0.1 h0.2 kk)
theorem l_cV2I {idx a ci N : Nat} {v1 v2 : AV} {Q : Int → Mem → Prop} (hd : decode (gC g) pc = .ok (.invokevirtual idx, 3)) (hk : Cond.methodLink (gO g) idx y ∈ GW ∧ Cond.instanceMethod y ∈ GW ∧ Cond.selects y.cls y y ∈ GW) (hy : YL y g2 2) (h0 : gM g2 = 0 ∧ gS g2 = 0) (ha : sh[a]? = some (ci, N)) (hcl : ∃ T, vwCl[ci]? = some (y.cls, T, N)) (hr : Nat.ble (gD g2 + 1) (gD g) = true) (hcs : Nat.ble (catSum st) 8 = true) (hc1 : Nat.ble cs (gM g) = true) (hs1 : Nat.ble ss (gS g) = true)
    (hm : IMet y g2 sh [vR a, v1, v2] μ Q) (kk : ∀ x μ', Q x μ' → AL g sh μ' cs ss (pc + 3) ls (vI x :: st) P) : AL g sh μ cs ss pc ls (v2 :: v1 :: vR a :: st) P := by
  exact l_callV (vs := [v1, v2]) hd hk hy hm rfl ha hcl hr hcs (le0 h0.1 hc1) (le0 h0.2 hs1) (fun r sh2 μ2 h => by obtain ⟨rfl, x, rfl, hq⟩ := h; exact up0L h0.1 h0.2 (kk x _ hq))
theorem l_cS2F1 {idx : Nat} {v1 v2 : AV} {μ' : Mem} {v : AV} (hd : decode (gC g) pc = .ok (.invokestatic idx, 3)) (hk : Cond.methodLink (gO g) idx y ∈ GW ∧ Cond.static y ∈ GW) (hy : YL y g2 2) (h0 : gM g2 = 0 ∧ gS g2 = 0) (hr : Nat.ble (gD g2 + 1) (gD g) = true) (hcs : Nat.ble (catSum st) 8 = true) (hc1 : Nat.ble cs (gM g) = true) (hs1 : Nat.ble ss (gS g) = true)
    (hm : FMet y g2 sh [v1, v2] μ (some v) μ') (kk : AL g sh μ' cs ss (pc + 3) ls (v :: st) P) : AL g sh μ cs ss pc ls (v2 :: v1 :: st) P := by
  exact l_callS (vs := [v1, v2]) hd hk hy hm rfl hr hcs (le0 h0.1 hc1) (le0 h0.2 hs1) (fun r sh2 μ2 h => by obtain ⟨rfl, rfl, rfl⟩ := h; exact up0L h0.1 h0.2 kk)
theorem l_cS2I {idx : Nat} {v1 v2 : AV} {Q : Int → Mem → Prop} (hd : decode (gC g) pc = .ok (.invokestatic idx, 3)) (hk : Cond.methodLink (gO g) idx y ∈ GW ∧ Cond.static y ∈ GW) (hy : YL y g2 2) (h0 : gM g2 = 0 ∧ gS g2 = 0) (hr : Nat.ble (gD g2 + 1) (gD g) = true) (hcs : Nat.ble (catSum st) 8 = true) (hc1 : Nat.ble cs (gM g) = true) (hs1 : Nat.ble ss (gS g) = true)
    (hm : IMet y g2 sh [v1, v2] μ Q) (kk : ∀ x μ', Q x μ' → AL g sh μ' cs ss (pc + 3) ls (vI x :: st) P) : AL g sh μ cs ss pc ls (v2 :: v1 :: st) P := by
  exact l_callS (vs := [v1, v2]) hd hk hy hm rfl hr hcs (le0 h0.1 hc1) (le0 h0.2 hs1) (fun r sh2 μ2 h => by obtain ⟨rfl, x, rfl, hq⟩ := h; exact up0L h0.1 h0.2 (kk x _ hq))
theorem l_cS3F1 {idx : Nat} {v1 v2 v3 : AV} {μ' : Mem} {v : AV} (hd : decode (gC g) pc = .ok (.invokestatic idx, 3)) (hk : Cond.methodLink (gO g) idx y ∈ GW ∧ Cond.static y ∈ GW) (hy : YL y g2 3) (h0 : gM g2 = 0 ∧ gS g2 = 0) (hr : Nat.ble (gD g2 + 1) (gD g) = true) (hcs : Nat.ble (catSum st) 8 = true) (hc1 : Nat.ble cs (gM g) = true) (hs1 : Nat.ble ss (gS g) = true)
    (hm : FMet y g2 sh [v1, v2, v3] μ (some v) μ') (kk : AL g sh μ' cs ss (pc + 3) ls (v :: st) P) : AL g sh μ cs ss pc ls (v3 :: v2 :: v1 :: st) P := by
  exact l_callS (vs := [v1, v2, v3]) hd hk hy hm rfl hr hcs (le0 h0.1 hc1) (le0 h0.2 hs1) (fun r sh2 μ2 h => by obtain ⟨rfl, rfl, rfl⟩ := h; exact up0L h0.1 h0.2 kk)
theorem l_cS3I {idx : Nat} {v1 v2 v3 : AV} {Q : Int → Mem → Prop} (hd : decode (gC g) pc = .ok (.invokestatic idx, 3)) (hk : Cond.methodLink (gO g) idx y ∈ GW ∧ Cond.static y ∈ GW) (hy : YL y g2 3) (h0 : gM g2 = 0 ∧ gS g2 = 0) (hr : Nat.ble (gD g2 + 1) (gD g) = true) (hcs : Nat.ble (catSum st) 8 = true) (hc1 : Nat.ble cs (gM g) = true) (hs1 : Nat.ble ss (gS g) = true)
    (hm : IMet y g2 sh [v1, v2, v3] μ Q) (kk : ∀ x μ', Q x μ' → AL g sh μ' cs ss (pc + 3) ls (vI x :: st) P) : AL g sh μ cs ss pc ls (v3 :: v2 :: v1 :: st) P := by
  exact l_callS (vs := [v1, v2, v3]) hd hk hy hm rfl hr hcs (le0 h0.1 hc1) (le0 h0.2 hs1) (fun r sh2 μ2 h => by obtain ⟨rfl, x, rfl, hq⟩ := h; exact up0L h0.1 h0.2 (kk x _ hq))
theorem l_cS4F1 {idx : Nat} {v1 v2 v3 v4 : AV} {μ' : Mem} {v : AV} (hd : decode (gC g) pc = .ok (.invokestatic idx, 3)) (hk : Cond.methodLink (gO g) idx y ∈ GW ∧ Cond.static y ∈ GW) (hy : YL y g2 4) (h0 : gM g2 = 0 ∧ gS g2 = 0) (hr : Nat.ble (gD g2 + 1) (gD g) = true) (hcs : Nat.ble (catSum st) 8 = true) (hc1 : Nat.ble cs (gM g) = true) (hs1 : Nat.ble ss (gS g) = true)
    (hm : FMet y g2 sh [v1, v2, v3, v4] μ (some v) μ') (kk : AL g sh μ' cs ss (pc + 3) ls (v :: st) P) : AL g sh μ cs ss pc ls (v4 :: v3 :: v2 :: v1 :: st) P := by
  exact l_callS (vs := [v1, v2, v3, v4]) hd hk hy hm rfl hr hcs (le0 h0.1 hc1) (le0 h0.2 hs1) (fun r sh2 μ2 h => by obtain ⟨rfl, rfl, rfl⟩ := h; exact up0L h0.1 h0.2 kk)
theorem l_cS4I {idx : Nat} {v1 v2 v3 v4 : AV} {Q : Int → Mem → Prop} (hd : decode (gC g) pc = .ok (.invokestatic idx, 3)) (hk : Cond.methodLink (gO g) idx y ∈ GW ∧ Cond.static y ∈ GW) (hy : YL y g2 4) (h0 : gM g2 = 0 ∧ gS g2 = 0) (hr : Nat.ble (gD g2 + 1) (gD g) = true) (hcs : Nat.ble (catSum st) 8 = true) (hc1 : Nat.ble cs (gM g) = true) (hs1 : Nat.ble ss (gS g) = true)
    (hm : IMet y g2 sh [v1, v2, v3, v4] μ Q) (kk : ∀ x μ', Q x μ' → AL g sh μ' cs ss (pc + 3) ls (vI x :: st) P) : AL g sh μ cs ss pc ls (v4 :: v3 :: v2 :: v1 :: st) P := by
  exact l_callS (vs := [v1, v2, v3, v4]) hd hk hy hm rfl hr hcs (le0 h0.1 hc1) (le0 h0.2 hs1) (fun r sh2 μ2 h => by obtain ⟨rfl, x, rfl, hq⟩ := h; exact up0L h0.1 h0.2 (kk x _ hq))
theorem l_cS6F1 {idx : Nat} {v1 v2 v3 v4 v5 v6 : AV} {μ' : Mem} {v : AV} (hd : decode (gC g) pc = .ok (.invokestatic idx, 3)) (hk : Cond.methodLink (gO g) idx y ∈ GW ∧ Cond.static y ∈ GW) (hy : YL y g2 6) (h0 : gM g2 = 0 ∧ gS g2 = 0) (hr : Nat.ble (gD g2 + 1) (gD g) = true) (hcs : Nat.ble (catSum st) 8 = true) (hc1 : Nat.ble cs (gM g) = true) (hs1 : Nat.ble ss (gS g) = true)
    (hm : FMet y g2 sh [v1, v2, v3, v4, v5, v6] μ (some v) μ') (kk : AL g sh μ' cs ss (pc + 3) ls (v :: st) P) : AL g sh μ cs ss pc ls (v6 :: v5 :: v4 :: v3 :: v2 :: v1 :: st) P := by
  exact l_callS (vs := [v1, v2, v3, v4, v5, v6]) hd hk hy hm rfl hr hcs (le0 h0.1 hc1) (le0 h0.2 hs1) (fun r sh2 μ2 h => by obtain ⟨rfl, rfl, rfl⟩ := h; exact up0L h0.1 h0.2 kk)
end LCALLS
theorem lq_icmp_ne {x y off : Int} {tgt : Nat} (hd : decode (gC g) pc = .ok (.if_icmp .ne off, 3)) (ht : (pc : Int) + off = (tgt : Int)) (hx : -2147483648 ≤ x ∧ x < 2147483648) (hy : -2147483648 ≤ y ∧ y < 2147483648)
    (kt : x ≠ y → AL g sh μ cs ss tgt ls st P) (kf : x = y → AL g sh μ cs ss (pc + 3) ls st P) : AL g sh μ cs ss pc ls (vI y :: vI x :: st) P := l_icmp_ne hd ht hx hy kt (fun h => kf (by omega))
theorem lq_if_ne {x off : Int} {tgt : Nat} (hd : decode (gC g) pc = .ok (.ifCond .ne off, 3)) (ht : (pc : Int) + off = (tgt : Int)) (hx : -2147483648 ≤ x ∧ x < 2147483648)
    (kt : x ≠ 0 → AL g sh μ cs ss tgt ls st P) (kf : x = 0 → AL g sh μ cs ss (pc + 3) ls st P) : AL g sh μ cs ss pc ls (vI x :: st) P := l_if_ne hd ht hx kt (fun h => kf (by omega))
theorem lq_icmp_lt {x y off : Int} {tgt : Nat} (hd : decode (gC g) pc = .ok (.if_icmp .lt off, 3)) (ht : (pc : Int) + off = (tgt : Int)) (hx : -2147483648 ≤ x ∧ x < 2147483648) (hy : -2147483648 ≤ y ∧ y < 2147483648)
    (kt : x < y → AL g sh μ cs ss tgt ls st P) (kf : y ≤ x → AL g sh μ cs ss (pc + 3) ls st P) : AL g sh μ cs ss pc ls (vI y :: vI x :: st) P := l_icmp_lt hd ht hx hy kt (fun h => kf (by omega))
theorem lq_if_lt {x off : Int} {tgt : Nat} (hd : decode (gC g) pc = .ok (.ifCond .lt off, 3)) (ht : (pc : Int) + off = (tgt : Int)) (hx : -2147483648 ≤ x ∧ x < 2147483648)
    (kt : x < 0 → AL g sh μ cs ss tgt ls st P) (kf : 0 ≤ x → AL g sh μ cs ss (pc + 3) ls st P) : AL g sh μ cs ss pc ls (vI x :: st) P := l_if_lt hd ht hx kt (fun h => kf (by omega))
theorem lq_icmp_ge {x y off : Int} {tgt : Nat} (hd : decode (gC g) pc = .ok (.if_icmp .ge off, 3)) (ht : (pc : Int) + off = (tgt : Int)) (hx : -2147483648 ≤ x ∧ x < 2147483648) (hy : -2147483648 ≤ y ∧ y < 2147483648)
    (kt : y ≤ x → AL g sh μ cs ss tgt ls st P) (kf : x < y → AL g sh μ cs ss (pc + 3) ls st P) : AL g sh μ cs ss pc ls (vI y :: vI x :: st) P := l_icmp_ge hd ht hx hy kt (fun h => kf (by omega))
theorem lq_if_ge {x off : Int} {tgt : Nat} (hd : decode (gC g) pc = .ok (.ifCond .ge off, 3)) (ht : (pc : Int) + off = (tgt : Int)) (hx : -2147483648 ≤ x ∧ x < 2147483648)
    (kt : 0 ≤ x → AL g sh μ cs ss tgt ls st P) (kf : x < 0 → AL g sh μ cs ss (pc + 3) ls st P) : AL g sh μ cs ss pc ls (vI x :: st) P := l_if_ge hd ht hx kt (fun h => kf (by omega))
theorem lq_icmp_gt {x y off : Int} {tgt : Nat} (hd : decode (gC g) pc = .ok (.if_icmp .gt off, 3)) (ht : (pc : Int) + off = (tgt : Int)) (hx : -2147483648 ≤ x ∧ x < 2147483648) (hy : -2147483648 ≤ y ∧ y < 2147483648)
    (kt : y < x → AL g sh μ cs ss tgt ls st P) (kf : x ≤ y → AL g sh μ cs ss (pc + 3) ls st P) : AL g sh μ cs ss pc ls (vI y :: vI x :: st) P := l_icmp_gt hd ht hx hy kt (fun h => kf (by omega))
theorem lq_if_gt {x off : Int} {tgt : Nat} (hd : decode (gC g) pc = .ok (.ifCond .gt off, 3)) (ht : (pc : Int) + off = (tgt : Int)) (hx : -2147483648 ≤ x ∧ x < 2147483648)
    (kt : 0 < x → AL g sh μ cs ss tgt ls st P) (kf : x ≤ 0 → AL g sh μ cs ss (pc + 3) ls st P) : AL g sh μ cs ss pc ls (vI x :: st) P := l_if_gt hd ht hx kt (fun h => kf (by omega))
theorem lq_icmp_le {x y off : Int} {tgt : Nat} (hd : decode (gC g) pc = .ok (.if_icmp .le off, 3)) (ht : (pc : Int) + off = (tgt : Int)) (hx : -2147483648 ≤ x ∧ x < 2147483648) (hy : -2147483648 ≤ y ∧ y < 2147483648)
    (kt : x ≤ y → AL g sh μ cs ss tgt ls st P) (kf : y < x → AL g sh μ cs ss (pc + 3) ls st P) : AL g sh μ cs ss pc ls (vI y :: vI x :: st) P := l_icmp_le hd ht hx hy kt (fun h => kf (by omega))
theorem lq_if_le {x off : Int} {tgt : Nat} (hd : decode (gC g) pc = .ok (.ifCond .le off, 3)) (ht : (pc : Int) + off = (tgt : Int)) (hx : -2147483648 ≤ x ∧ x < 2147483648)
    (kt : x ≤ 0 → AL g sh μ cs ss tgt ls st P) (kf : 0 < x → AL g sh μ cs ss (pc + 3) ls st P) : AL g sh μ cs ss pc ls (vI x :: st) P := l_if_le hd ht hx kt (fun h => kf (by omega))
theorem lq_icmp_eq {x y off : Int} {tgt : Nat} (hd : decode (gC g) pc = .ok (.if_icmp .eq off, 3)) (ht : (pc : Int) + off = (tgt : Int)) (hx : -2147483648 ≤ x ∧ x < 2147483648) (hy : -2147483648 ≤ y ∧ y < 2147483648)
    (kt : x = y → AL g sh μ cs ss tgt ls st P) (kf : ¬ x = y → AL g sh μ cs ss (pc + 3) ls st P) : AL g sh μ cs ss pc ls (vI y :: vI x :: st) P := l_icmp_eq hd ht hx hy kt (fun h => kf (by omega))
theorem lq_if_eq {x off : Int} {tgt : Nat} (hd : decode (gC g) pc = .ok (.ifCond .eq off, 3)) (ht : (pc : Int) + off = (tgt : Int)) (hx : -2147483648 ≤ x ∧ x < 2147483648)
    (kt : x = 0 → AL g sh μ cs ss tgt ls st P) (kf : ¬ x = 0 → AL g sh μ cs ss (pc + 3) ls st P) : AL g sh μ cs ss pc ls (vI x :: st) P := l_if_eq hd ht hx kt (fun h => kf (by omega))
theorem l_zreturn {x : Int} (hd : decode (gC g) pc = .ok (.ireturn, 1)) (h01 : x = 0 ∨ x = 1) (hr : gR g = some .boolean) (hc : Nat.ble cs (gM g) = true) (hs : Nat.ble ss (gS g) = true) (hp : P (some (vI x)) sh μ) : AL g sh μ cs ss pc ls [vI x] P := by
  intro w p l e s m args below meth c H locs la cx hP hz hS hl
  obtain ⟨hx, hb, hr2, hml, hlk, -, -, -, hK, -⟩ := cx
  refine W.widen (Nat.le_of_ble_eq_true hc) (Nat.le_of_ble_eq_true hs) ?_
  exact W.zret hx hb (hr2.trans hr) (by rcases h01 with rfl | rfl <;> rfl) (fun t ht hW => ⟨some (vI x), sh, μ, rfl, hp⟩) hS.2.2 hd hlk
theorem AL.lw {ls2 : Ls} (h : AL g sh μ cs ss pc ls2 st P) (hl : lsle ls2 ls) : AL g sh μ cs ss pc ls st P := by
  intro w p l e s m args below meth c H locs la cx hP hz hS hv
  refine h w p l e s m args below meth c H locs la cx hP hz hS ⟨hv.1, hv.2.1, fun q hq => hv.2.2 q ?_⟩
  obtain ⟨k, u, hk, e⟩ := (prs_mem ls2 0 q).mp hq
  exact (prs_mem ls 0 q).mpr ⟨k, u, lsle_get ls2 ls k u hl hk, e⟩
end LROWS
def gL_law : Gm := (RL, cL_law, 20, some .boolean, false, 14, 216, 4819)

/-! 93.script: rows of the law, whose script lies outside (wip/whole/src/93_script.py) -/
/-- AW, in the worlds whose script is xs, of L ints -/
def AS (L : Nat) (xs : Nat → Int32) (g : Gm) (sh : Sh) (μ : Mem) (cs ss pc : Nat) (ls : Ls) (st : List AV) (P : Option AV → Sh → Mem → Prop) : Prop :=
  ∀ (w : Wd) (_ : wE w 62 = wS w ∧ wL w = L ∧ wXs w = xs) (p : Program) (l : Launch) (e : Env) (s : State) (m : MethodId) (args : Array Value) (below : List Frame) (meth : Method) (c : Code) (H : Heap) (locs : List Loc) (la : Array Slot),
    Cx g w p s m args meth c → va_P (wG w) vwCl (wsOf w sh μ) H → s.heap.size + cs = wB w + sh.length → va_S (wO w) s.heap H locs → lvr w la (gL g) ls →
    W p l e (rmOf g) s m args below meth c H locs cs ss (MQ below (QcG w (gM g) P) args s (gM g) (gS g) (wO w)) (F0 m pc la (st.map (cv w)))
section SCRIPT
variable {L : Nat} {xs : Nat → Int32} {g : Gm} {sh : Sh} {μ : Mem} {cs ss pc : Nat} {ls : Ls} {st : List AV} {P : Option AV → Sh → Mem → Prop}
theorem s_iconst {n : Int} (hd : decode (gC g) pc = .ok (.iconst n, 1)) (k : AS L xs g sh μ cs ss (pc + 1) ls (vI n :: st) P) : AS L xs g sh μ cs ss pc ls (st) P := by
  intro w hw p l e s m args below meth c H locs la cx hP hz hS hl
  have k := k w hw p l e s m args below meth c H locs la cx hP hz hS hl
  exact lv_iconst cx.1 cx.2.1 hd rfl k
theorem s_bipush {n : Int} (hd : decode (gC g) pc = .ok (.bipush n, 2)) (hn : (Int8.ofInt n).toInt32 = Int32.ofInt n) (k : AS L xs g sh μ cs ss (pc + 2) ls (vI n :: st) P) : AS L xs g sh μ cs ss pc ls (st) P := by
  intro w hw p l e s m args below meth c H locs la cx hP hz hS hl
  have k := k w hw p l e s m args below meth c H locs la cx hP hz hS hl
  exact lv_bipush cx.1 cx.2.1 hd hn k
theorem s_iload_n {k0 : Fin 4} {x : Int} (hd : decode (gC g) pc = .ok (.iload_n k0, 1)) (hv : lget ls (k0 : Nat) = some (vI x)) (k : AS L xs g sh μ cs ss (pc + 1) ls (vI x :: st) P) : AS L xs g sh μ cs ss pc ls (st) P := by
  intro w hw p l e s m args below meth c H locs la cx hP hz hS hl
  have k := k w hw p l e s m args below meth c H locs la cx hP hz hS hl
  exact lv_iload_n cx.1 cx.2.1 hd rfl (lvr_get hl hv) k
theorem s_aload_n {k0 : Fin 4} {r : Nat} (hd : decode (gC g) pc = .ok (.aload_n k0, 1)) (hv : lget ls (k0 : Nat) = some (vR r)) (k : AS L xs g sh μ cs ss (pc + 1) ls (vR r :: st) P) : AS L xs g sh μ cs ss pc ls (st) P := by
  intro w hw p l e s m args below meth c H locs la cx hP hz hS hl
  have k := k w hw p l e s m args below meth c H locs la cx hP hz hS hl
  exact lv_aload_n cx.1 cx.2.1 hd rfl (lvr_get hl hv) k
theorem s_aload_nX {k0 : Fin 4} {j : Nat} (hd : decode (gC g) pc = .ok (.aload_n k0, 1)) (hv : lget ls (k0 : Nat) = some (vX j)) (k : AS L xs g sh μ cs ss (pc + 1) ls (vX j :: st) P) : AS L xs g sh μ cs ss pc ls (st) P := by
  intro w hw p l e s m args below meth c H locs la cx hP hz hS hl
  have k := k w hw p l e s m args below meth c H locs la cx hP hz hS hl
  exact lv_aload_n cx.1 cx.2.1 hd rfl (lvr_get hl hv) k
theorem s_astore_n {k0 : Fin 4} {r : Nat} (hd : decode (gC g) pc = .ok (.astore_n k0, 1)) (hi : Nat.ble ((k0 : Nat) + 1) (gL g) = true) (k : AS L xs g sh μ cs ss (pc + 1) (lset1 ls (k0 : Nat) (vR r)) st P) : AS L xs g sh μ cs ss pc ls (vR r :: st) P := by
  intro w hw p l e s m args below meth c H locs la cx hP hz hS hl
  obtain ⟨la2, e2, hl2⟩ := lvr_set1 (i := (k0 : Nat)) (v := vR r) hl (by have := Nat.le_of_ble_eq_true hi; omega) rfl
  have k := k w hw p l e s m args below meth c H locs la2 cx hP hz hS hl2
  obtain ⟨hx, hb, -⟩ := cx
  intro T hT X
  obtain ⟨t, a, b⟩ := k T hT X
  refine ⟨t, ?_, b⟩
  have e2 : storeLocals la (k0 : Nat) (Value.ref (wB w + r)) = some la2 := e2
  show Steps p.tables e below (T.setTop (F0 m pc la (Value.ref (wB w + r) :: st.map (cv w)))) t
  jvm_step X.here [X.here.top, ↓top_set X.here.top, hx, hb, hd, e2, Value.isRef]
  exact a
theorem s_istore_n {k0 : Fin 4} {x : Int} (hd : decode (gC g) pc = .ok (.istore_n k0, 1)) (hi : Nat.ble ((k0 : Nat) + 1) (gL g) = true) (k : AS L xs g sh μ cs ss (pc + 1) (lset1 ls (k0 : Nat) (vI x)) st P) : AS L xs g sh μ cs ss pc ls (vI x :: st) P := by
  intro w hw p l e s m args below meth c H locs la cx hP hz hS hl
  obtain ⟨la2, e2, hl2⟩ := lvr_set1 (i := (k0 : Nat)) (v := vI x) hl (by have := Nat.le_of_ble_eq_true hi; omega) rfl
  have k := k w hw p l e s m args below meth c H locs la2 cx hP hz hS hl2
  obtain ⟨hx, hb, -⟩ := cx
  intro T hT X
  obtain ⟨t, a, b⟩ := k T hT X
  refine ⟨t, ?_, b⟩
  have e2 : storeLocals la (k0 : Nat) (Value.int (Int32.ofInt x)) = some la2 := e2
  show Steps p.tables e below (T.setTop (F0 m pc la (Value.int (Int32.ofInt x) :: st.map (cv w)))) t
  jvm_step X.here [X.here.top, ↓top_set X.here.top, hx, hb, hd, e2]
  exact a
theorem s_iinc {i : Nat} {n x : Int} (hd : decode (gC g) pc = .ok (.iinc i n, 3)) (hi : Nat.ble (i + 1) (gL g) = true) (hv : lget ls i = some (vI x)) (k : AS L xs g sh μ cs ss (pc + 3) (lset1 ls i (vI (x + n))) st P) : AS L xs g sh μ cs ss pc ls st P := by
  intro w hw p l e s m args below meth c H locs la cx hP hz hS hl
  obtain ⟨la2, e2, hl2⟩ := lvr_set1 (i := i) (v := vI (x + n)) hl (by have := Nat.le_of_ble_eq_true hi; omega) rfl
  have k := k w hw p l e s m args below meth c H locs la2 cx hP hz hS hl2
  have hg : la[i]? = some (.val (.int (Int32.ofInt x))) := lvr_get hl hv
  obtain ⟨hx, hb, -⟩ := cx
  intro T hT X
  obtain ⟨t, a, b⟩ := k T hT X
  refine ⟨t, ?_, b⟩
  have e2 : storeLocals la i (Value.int (Int32.ofInt (x + n))) = some la2 := e2
  rw [Int32.ofInt_add] at e2
  jvm_step X.here [X.here.top, ↓top_set X.here.top, hx, hb, hd, hg, e2]
  exact a
theorem s_iadd {x y : Int} (hd : decode (gC g) pc = .ok (.iadd, 1)) (k : AS L xs g sh μ cs ss (pc + 1) ls (vI (x + y) :: st) P) : AS L xs g sh μ cs ss pc ls (vI y :: vI x :: st) P := by
  intro w hw p l e s m args below meth c H locs la cx hP hz hS hl
  have k := k w hw p l e s m args below meth c H locs la cx hP hz hS hl
  have k : W p l e (rmOf g) s m args below meth c H locs cs ss _ (F0 m (pc + 1) la (.int (Int32.ofInt (x + y)) :: st.map (cv w))) := k
  rw [Int32.ofInt_add] at k
  exact lv_iadd cx.1 cx.2.1 hd k
theorem s_isub {x y : Int} (hd : decode (gC g) pc = .ok (.isub, 1)) (k : AS L xs g sh μ cs ss (pc + 1) ls (vI (x - y) :: st) P) : AS L xs g sh μ cs ss pc ls (vI y :: vI x :: st) P := by
  intro w hw p l e s m args below meth c H locs la cx hP hz hS hl
  have k := k w hw p l e s m args below meth c H locs la cx hP hz hS hl
  have k : W p l e (rmOf g) s m args below meth c H locs cs ss _ (F0 m (pc + 1) la (.int (Int32.ofInt (x - y)) :: st.map (cv w))) := k
  rw [Int32.ofInt_sub] at k
  exact lv_isub cx.1 cx.2.1 hd k
theorem s_iand {x y : Int} (hd : decode (gC g) pc = .ok (.iand, 1)) (k : AS L xs g sh μ cs ss (pc + 1) ls (vI (iand x y) :: st) P) : AS L xs g sh μ cs ss pc ls (vI y :: vI x :: st) P := by
  intro w hw p l e s m args below meth c H locs la cx hP hz hS hl
  have k := k w hw p l e s m args below meth c H locs la cx hP hz hS hl
  have k : W p l e (rmOf g) s m args below meth c H locs cs ss _ (F0 m (pc + 1) la (.int (Int32.ofInt (iand x y)) :: st.map (cv w))) := k
  rw [iand, Int32.ofInt_toInt] at k
  exact lv_iand cx.1 cx.2.1 hd k
theorem s_dup {v : AV} (hd : decode (gC g) pc = .ok (.dup, 1)) (hc : cat2 v = false) (k : AS L xs g sh μ cs ss (pc + 1) ls (v :: v :: st) P) : AS L xs g sh μ cs ss pc ls (v :: st) P := by
  intro w hw p l e s m args below meth c H locs la cx hP hz hS hl
  exact lv_dup cx.1 cx.2.1 hd (cat1 hc) (k w hw p l e s m args below meth c H locs la cx hP hz hS hl)
theorem s_goto {off : Int} {tgt : Nat} (hd : decode (gC g) pc = .ok (.goto off, 3)) (ht : (pc : Int) + off = (tgt : Int)) (k : AS L xs g sh μ cs ss tgt ls st P) : AS L xs g sh μ cs ss pc ls st P := by
  intro w hw p l e s m args below meth c H locs la cx hP hz hS hl
  exact lv_goto cx.1 cx.2.1 hd ht (k w hw p l e s m args below meth c H locs la cx hP hz hS hl)
theorem s_tableIn {dflt lo hi : Int} {offs : Array Int} {len : Nat} {x off : Int} {tgt : Nat} (hd : decode (gC g) pc = .ok (.tableswitch dflt lo hi offs, len)) (hx : -2147483648 ≤ x ∧ x < 2147483648) (h1 : lo ≤ x) (h2 : x ≤ hi) (ho : offs[(x - lo).toNat]? = some off) (ht : (pc : Int) + off = (tgt : Int))
    (k : AS L xs g sh μ cs ss tgt ls st P) : AS L xs g sh μ cs ss pc ls (vI x :: st) P := by
  intro w hw p l e s m args below meth c H locs la cx hP hz hS hl
  exact lv_tableIn cx.1 cx.2.1 hd (by rw [toI hx]; omega) (by rw [toI hx]; omega) (by rw [toI hx]; exact ho) ht (k w hw p l e s m args below meth c H locs la cx hP hz hS hl)
theorem s_tableOut {dflt lo hi : Int} {offs : Array Int} {len : Nat} {x : Int} {tgt : Nat} (hd : decode (gC g) pc = .ok (.tableswitch dflt lo hi offs, len)) (hx : -2147483648 ≤ x ∧ x < 2147483648) (h1 : x < lo ∨ hi < x) (ht : (pc : Int) + dflt = (tgt : Int))
    (k : AS L xs g sh μ cs ss tgt ls st P) : AS L xs g sh μ cs ss pc ls (vI x :: st) P := by
  intro w hw p l e s m args below meth c H locs la cx hP hz hS hl
  exact lv_tableOut cx.1 cx.2.1 hd (by rw [toI hx]; exact h1) ht (k w hw p l e s m args below meth c H locs la cx hP hz hS hl)
theorem s_icmp_gt {x y off : Int} {tgt : Nat} (hd : decode (gC g) pc = .ok (.if_icmp .gt off, 3)) (ht : (pc : Int) + off = (tgt : Int)) (hx : -2147483648 ≤ x ∧ x < 2147483648) (hy : -2147483648 ≤ y ∧ y < 2147483648)
    (kt : y < x → AS L xs g sh μ cs ss tgt ls st P) (kf : ¬ (y < x) → AS L xs g sh μ cs ss (pc + 3) ls st P) : AS L xs g sh μ cs ss pc ls (vI y :: vI x :: st) P := by
  intro w hw p l e s m args below meth c H locs la cx hP hz hS hl
  have e1 := ofI_eq hx hy
  have e2 := ofI_lt hx hy
  have e3 := ofI_le hx hy
  have e4 := ofI_lt hy hx
  have e5 := ofI_le hy hx
  refine lv_icmp_gt cx.1 cx.2.1 hd ht (fun hc => kt (by first | exact e1.mp hc | exact e2.mp hc | exact e3.mp hc | exact e4.mp hc | exact e5.mp hc | exact fun q => hc (e1.mpr q)) w hw p l e s m args below meth c H locs la cx hP hz hS hl) (fun hc => kf ?_ w hw p l e s m args below meth c H locs la cx hP hz hS hl)
  first | exact fun q => hc (e1.mpr q) | exact fun q => hc (e2.mpr q) | exact fun q => hc (e3.mpr q) | exact fun q => hc (e4.mpr q) | exact fun q => hc (e5.mpr q) | exact fun q => q (e1.mp (by first | exact hc | exact Classical.not_not.mp hc))
theorem s_new {idx ci N : Nat} (hd : decode (gC g) pc = .ok (.new idx, 3)) (hk : NL (gO g) idx ci N) (hc1 : Nat.ble (cs + 1) (gM g) = true) (hs1 : Nat.ble (ss + N) (gS g) = true)
    (kk : AS L xs g (sh ++ [(ci, N)]) (born μ sh.length) (cs + 1) (ss + N) (pc + 3) ls (vR sh.length :: st) P) : AS L xs g sh μ cs ss pc ls st P := by
  intro w hw p l e s m args below meth c H locs la cx hP hz hS hl
  have kk := fun H locs => kk w hw p l e s m args below meth c H locs la cx
  obtain ⟨C, T, hc, hcl, hins, hini, hin, hpd, hdef, h12⟩ := hk
  obtain ⟨hx, hb, -, hml, -, hts, hown, -, hK, -, hbs⟩ := cx
  refine va_new (D := wG w) (fs := (List.range N).map (fieldV w (born μ sh.length) sh.length ci)) hx hb hts hin (tyOf ci) hpd hown (hts _ hcl) (hts _ hins) (hts _ hini) hK hP (ws_apart w sh μ) hS (fun q h => Nat.le_trans hbs h) hc ?_ (Nat.le_of_ble_eq_true hc1) (Nat.le_of_ble_eq_true hs1) hd (fun q H1 hP1 hD1 hS1 => ?_)
  · intro j hj
    rw [hdef j hj]
    simp only [vp_V, List.getD_eq_getElem?_getD, List.getElem?_map, List.getElem?_range hj, Option.map_some, Option.getD_some, fieldV, born]
    split <;> simp [rv]
  · intro T hT X
    have h1 : T.heap.size ≤ s.heap.size + (cs + 1) := X.same.2.2.1
    rw [hT] at h1
    have hq : q < H1.size := push_lt hP1
    have e := push_addr hD1 hq (by omega)
    subst e
    have e2 := ws_push (w := w) (sh := sh) (μ := μ) (μ' := born μ sh.length) (k := (ci, N)) (fun b hb k => cell_born (by omega) k)
    rw [cell_obj h12] at e2
    rw [← e2] at hP1
    exact kk H1 locs hP1 (by rw [List.length_append]; simp only [List.length_cons, List.length_nil]; omega) hS1 hl T hT X
theorem s_core {g2 : Gm} {w : Wd} (hw : wE w 62 = wS w ∧ wL w = L ∧ wXs w = xs) {p : Program} {l : Launch} {e : Env} {s : State} {m : MethodId} {args : Array Value} {below : List Frame} {meth : Method} {c : Code} {H : Heap} {locs : List Loc} {la : Array Slot} {stk : List Value} {P2 : Option AV → Sh → Mem → Prop} {a2 : Array Value}
    (cx : Cx g w p s m args meth c) (hz : s.heap.size + cs = wB w + sh.length) (hS : va_S (wO w) s.heap H locs) (hl : lvr w la (gL g) ls) (hzH : H.size = wB w + sh.length)
    (hrun : va_Run p l e (rmOf g) s m args below meth c H locs cs ss (gM g2) (gS g2) (F0 m pc la stk) (st.map (cv w)) (QcG w (gM g2) P2 a2) (wO w))
    (kk : ∀ r sh' μ', P2 r sh' μ' → AS L xs g sh' μ' (cs + gM g2) (ss + gS g2) (pc + 3) ls (r.toList ++ st) P) :
    W p l e (rmOf g) s m args below meth c H locs cs ss (MQ below (QcG w (gM g) P) args s (gM g) (gS g) (wO w)) (F0 m pc la stk) := by
  intro T hT X
  obtain ⟨v, st₀, t, T', L, h0, X', hL, e1, e2, ⟨⟨r, sh', μ', hv, hp2, hP', hz', -⟩, hF⟩, stp⟩ := hrun T hT X
  have hv : v = r.map (cv w) := by injection hv
  subst hv
  subst h0
  have hS' : va_S (wO w) s.heap T'.heap (locs ++ L) := by
    refine ⟨Nat.le_trans hS.1 (by rw [e1]; exact hF.1), fun q h1 h2 => ?_, fun q hq => ?_⟩
    · rw [e1, hF.2 q (Nat.lt_of_lt_of_le h1 hS.1) h2]
      exact hS.2.1 q h1 h2
    · rcases List.mem_append.mp hq with h | h
      · exact hS.2.2 q h
      · exact hL q h
  obtain ⟨t2, a1, b1⟩ := kk r sh' μ' hp2 w hw p l e s m args below meth c T'.heap (locs ++ L) la cx (by rw [e1]; exact hP') (by omega) hS' hl T' rfl X'
  refine ⟨t2, stp t2 ?_, b1⟩
  have es : (r.toList ++ st).map (cv w) = (r.map (cv w)).toList ++ st.map (cv w) := by cases r <;> simp
  rw [es] at a1
  exact a1
theorem s_callI {idx a n : Nat} {y : MethodName} {g2 : Gm} {vs : List AV} {P2 : Option AV → Sh → Mem → Prop} (hd : decode (gC g) pc = .ok (.invokespecial idx, 3)) (hk : Cond.methodLink (gO g) idx y ∈ GW ∧ Cond.instanceMethod y ∈ GW ∧ y.name = "<init>") (hy : YL y g2 n) (hret : gR g2 = none)
    (hm : AMet y g2 sh (vR a :: vs) μ P2) (hn : vs.length = n) (hr : Nat.ble (gD g2 + 1) (gD g) = true) (hcs : Nat.ble (catSum st) 8 = true) (hc1 : Nat.ble (cs + gM g2) (gM g) = true) (hs1 : Nat.ble (ss + gS g2) (gS g) = true)
    (kk : ∀ r sh' μ', P2 r sh' μ' → AS L xs g sh' μ' (cs + gM g2) (ss + gS g2) (pc + 3) ls (r.toList ++ st) P) : AS L xs g sh μ cs ss pc ls (vs.reverse ++ vR a :: st) P := by
  intro w hw p l e s m args below meth c H locs la cx hP hz hS hl
  refine withSize hP hS hz cx.2.2.2.2.2.2.2.2.2.2 (fun hzH => ?_)
  have hst := sub_start cx hP hS hzH
  have hm := hm w l
  have cx0 := cx
  obtain ⟨hx, hb, -, hml, -, hts, hown, -, hK, hE, hbs⟩ := cx
  have hr := Nat.le_of_ble_eq_true hr
  have h45 := Nat.le_of_ble_eq_true hy.2.2.2.2.2
  refine s_core hw (st := st) cx0 hz hS hl hzH (va_runI (bytes := gC g2) (maxL := gL g2) (b := wB w + a) (As := vs.map (cv w)) (rest := st.map (cv w)) (n := n) (Ts := GW) ⟨hx, hb, hml, hown, hts⟩ hm (cwI (ws' := GW) n hts (ws_good hy) (by rw [wsm, hret]) rfl rfl (hts _ hy.2.1) (hts _ hk.1) (hts _ hk.2.1) hk.2.2 ⟨hy.2.2.1, hy.2.2.2.1, hy.2.2.2.2.1⟩ ⟨?_, ?_⟩) ⟨st_blind, fun U hU hW => ⟨rfl, hst U hU hW⟩⟩ rfl ?_ hl.1 ?_ (lv_room (by rw [catSum_eq]; exact Nat.le_of_ble_eq_true hcs)) hd ⟨Nat.le_of_ble_eq_true hc1, Nat.le_of_ble_eq_true hs1⟩) kk
  · exact hr
  · show 8 + (gL g2 + 11) + gD g2 * 64 ≤ gD g * 64
    omega
  · simpa using hn
  · simp only [List.map_append, List.map_reverse, List.map_cons]; rfl
theorem s_callV {idx n a ci N : Nat} {y : MethodName} {g2 : Gm} {vs : List AV} {P2 : Option AV → Sh → Mem → Prop} (hd : decode (gC g) pc = .ok (.invokevirtual idx, 3)) (hk : Cond.methodLink (gO g) idx y ∈ GW ∧ Cond.instanceMethod y ∈ GW ∧ Cond.selects y.cls y y ∈ GW) (hy : YL y g2 n)
    (hm : AMet y g2 sh (vR a :: vs) μ P2) (hn : vs.length = n) (ha : sh[a]? = some (ci, N)) (hcl : ∃ T, vwCl[ci]? = some (y.cls, T, N)) (hr : Nat.ble (gD g2 + 1) (gD g) = true) (hcs : Nat.ble (catSum st) 8 = true) (hc1 : Nat.ble (cs + gM g2) (gM g) = true) (hs1 : Nat.ble (ss + gS g2) (gS g) = true)
    (kk : ∀ r sh' μ', P2 r sh' μ' → AS L xs g sh' μ' (cs + gM g2) (ss + gS g2) (pc + 3) ls (r.toList ++ st) P) : AS L xs g sh μ cs ss pc ls (vs.reverse ++ vR a :: st) P := by
  intro w hw p l e s m args below meth c H locs la cx hP hz hS hl
  refine withSize hP hS hz cx.2.2.2.2.2.2.2.2.2.2 (fun hzH => ?_)
  have hst := sub_start cx hP hS hzH
  have hm := hm w l
  have cx0 := cx
  obtain ⟨hx, hb, -, hml, -, hts, hown, -, hK, hE, hbs⟩ := cx
  obtain ⟨T, hcl⟩ := hcl
  have h12 : ci < 12 := (List.getElem?_eq_some_iff.mp hcl).1
  have he := ws_get (w := w) (μ := μ) ha
  rw [cell_obj h12] at he
  have hr := Nat.le_of_ble_eq_true hr
  have h45 := Nat.le_of_ble_eq_true hy.2.2.2.2.2
  refine s_core hw (st := st) cx0 hz hS hl hzH (va_runV (C := y.cls) (b := wB w + a) (As := vs.map (cv w)) (rest := st.map (cv w)) (n := n) (Ts := GW) ⟨hx, hb, hml, hown, hts⟩ hm (cwV (ws' := GW) n hts ?_ rfl rfl rfl ⟨rfl, hy.2.2.1, hy.2.2.2.1, hy.2.2.2.2.1⟩ ⟨?_, ?_⟩) ⟨st_blind, va_recv hK hP (ci := ci) (q0 := a) hcl he, fun U hU hW => ⟨rfl, hst U hU hW⟩⟩ rfl ?_ hl.1 ?_ (lv_room (by rw [catSum_eq]; exact Nat.le_of_ble_eq_true hcs)) hd ⟨Nat.le_of_ble_eq_true hc1, Nat.le_of_ble_eq_true hs1⟩) kk
  · intro x hx
    rcases List.mem_append.mp hx with h | h
    · have : x ∈ GW := by
        simp only [List.mem_cons, List.not_mem_nil, or_false] at h
        rcases h with rfl | rfl | rfl | rfl
        · exact hk.1
        · exact hk.2.1
        · exact hk.2.2
        · exact hy.2.1
      exact ⟨this, gw_good this⟩
    · exact ws_good hy x h
  · exact hr
  · show 8 + (gL g2 + 11) + gD g2 * 64 ≤ gD g * 64
    omega
  · simpa using hn
  · simp only [List.map_append, List.map_reverse, List.map_cons]; rfl
theorem s_ireturn {x : Int} (hd : decode (gC g) pc = .ok (.ireturn, 1)) (hr : gR g = some .int) (hc : cs = gM g) (hs : ss = gS g) (hp : P (some (vI x)) sh μ) : AS L xs g sh μ cs ss pc ls [vI x] P := by
  intro w hw p l e s m args below meth c H locs la cx hP hz hS hl
  subst hc; subst hs
  obtain ⟨hx, hb, hr2, hml, hlk, -, -, -, hK, -⟩ := cx
  exact W.iret hx hb (hr2.trans hr) (fun t ht hW => ⟨⟨some (vI x), sh, μ, rfl, hp, by rw [ht]; exact hP, hz, hK.moved hW.alike⟩, hS.F ht⟩) hS.2.2 hd hlk
theorem s_same {x off : Int} {tgt : Nat} (hd : decode (gC g) pc = .ok (.if_icmp .eq off, 3)) (ht : (pc : Int) + off = (tgt : Int)) (kt : AS L xs g sh μ cs ss tgt ls st P) : AS L xs g sh μ cs ss pc ls (vI x :: vI x :: st) P := by
  intro w hw p l e s m args below meth c H locs la cx hP hz hS hl
  exact lv_icmp_eq cx.1 cx.2.1 hd ht (fun _ => kt w hw p l e s m args below meth c H locs la cx hP hz hS hl) (fun hc => absurd rfl hc)
theorem s_ld {x : Int} (hd : decode (gC g) pc = .ok (.iaload, 1)) (hL : L ≤ 3072) (hi : 0 ≤ x ∧ x < (L : Int)) (k : AS L xs g sh μ cs ss (pc + 1) ls (vI (xs x.toNat).toInt :: st) P) : AS L xs g sh μ cs ss pc ls (vI x :: vX 62 :: st) P := by
  intro w hw p l e s m args below meth c H locs la cx hP hz hS hl
  have k := k w hw p l e s m args below meth c H locs la cx hP hz hS hl
  obtain ⟨hx, hb, -, -, -, -, -, -, -, hE, hbs⟩ := cx
  obtain ⟨⟨hA, hX⟩, -⟩ := hE
  obtain ⟨e1, e2, e3⟩ := hw
  rw [e2, e3] at hX
  have k : W p l e (rmOf g) s m args below meth c H locs cs ss (MQ below (QcG w (gM g) P) args s (gM g) (gS g) (wO w)) (F0 m (pc + 1) la (.int (Int32.ofInt (xs x.toNat).toInt) :: st.map (cv w))) := k
  rw [Int32.ofInt_toInt] at k
  show W p l e (rmOf g) s m args below meth c H locs cs ss (MQ below (QcG w (gM g) P) args s (gM g) (gS g) (wO w)) (F0 m pc la (.int (Int32.ofInt x) :: .ref (wE w 62) :: st.map (cv w)))
  rw [e1]
  refine va_sld (rest := st.map (cv w)) hx hb hX (Nat.lt_of_lt_of_le hA hbs) (Nat.not_le.mpr hA) hS (ixIn hi (by rw [Nat.ble_eq]; omega)) hd ?_
  have e4 : (Int32.ofInt x).toNatClampNeg = x.toNat := by
    show (Int32.ofInt x).toInt.toNat = _
    rw [toI (by omega)]
  rw [e4]
  exact k
theorem s_len (hd : decode (gC g) pc = .ok (.arraylength, 1)) (k : AS L xs g sh μ cs ss (pc + 1) ls (vI L :: st) P) : AS L xs g sh μ cs ss pc ls (vX 62 :: st) P := by
  intro w hw p l e s m args below meth c H locs la cx hP hz hS hl
  have k := k w hw p l e s m args below meth c H locs la cx hP hz hS hl
  obtain ⟨hx, hb, -, -, -, -, -, -, -, hE, hbs⟩ := cx
  obtain ⟨⟨hA, hX⟩, -⟩ := hE
  obtain ⟨e1, e2, e3⟩ := hw
  rw [e2, e3] at hX
  have k : W p l e (rmOf g) s m args below meth c H locs cs ss (MQ below (QcG w (gM g) P) args s (gM g) (gS g) (wO w)) (F0 m (pc + 1) la (.int (Int32.ofInt L) :: st.map (cv w))) := k
  rw [Int32.ofInt_eq_ofNat] at k
  show W p l e (rmOf g) s m args below meth c H locs cs ss (MQ below (QcG w (gM g) P) args s (gM g) (gS g) (wO w)) (F0 m pc la (.ref (wE w 62) :: st.map (cv w)))
  rw [e1]
  exact va_slen (rest := st.map (cv w)) hx hb hX (Nat.lt_of_lt_of_le hA hbs) (Nat.not_le.mpr hA) hS hd k
theorem s_callMI {idx n a ci N : Nat} {y : MethodName} {g2 : Gm} {vs : List AV} {Q : Int → Mem → Prop} (hd : decode (gC g) pc = .ok (.invokevirtual idx, 3)) (hk : Cond.methodLink (gO g) idx y ∈ GW ∧ Cond.instanceMethod y ∈ GW ∧ Cond.selects y.cls y y ∈ GW) (hy : YL y g2 n) (h0 : gM g2 = 0 ∧ gS g2 = 0)
    (hm : IMet y g2 sh (vR a :: vs) μ Q) (hn : vs.length = n) (ha : sh[a]? = some (ci, N)) (hcl : ∃ T, vwCl[ci]? = some (y.cls, T, N)) (hr : Nat.ble (gD g2 + 1) (gD g) = true) (hcs : Nat.ble (catSum st) 8 = true) (hc1 : Nat.ble cs (gM g) = true) (hs1 : Nat.ble ss (gS g) = true)
    (kk : ∀ x μ', Q x μ' → AS L xs g sh μ' cs ss (pc + 3) ls (vI x :: st) P) : AS L xs g sh μ cs ss pc ls (vs.reverse ++ vR a :: st) P := by
  refine s_callV hd hk hy hm hn ha hcl hr hcs (by rw [h0.1]; exact hc1) (by rw [h0.2]; exact hs1) (fun r sh' μ' h => ?_)
  obtain ⟨rfl, x, rfl, hq⟩ := h
  rw [h0.1, h0.2]
  exact kk x μ' hq
end SCRIPT

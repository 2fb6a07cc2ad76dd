/-! 91a.rows5: the law's own rows: long constants, shifts, narrowing, an array returned; the script's cell (wip/p37/src/91a.py) -/
def lshr (x y : Int) : Int := (Int64.ofInt x >>> ((Int32.ofInt y).toInt64 &&& 63)).toInt
def land (x y : Int) : Int := (Int64.ofInt x &&& Int64.ofInt y).toInt
def l2i (x : Int) : Int := (Int64.ofInt x).toInt32.toInt
section ROWS5
variable {g : Gm} {sh : Sh} {μ : Mem} {cs ss pc : Nat} {ls : Ls} {st : List AV} {P : Option AV → Sh → Mem → Prop}
theorem r_lshr {x y : Int} (hd : decode (gC g) pc = .ok (.lshr, 1)) (k : AW g sh μ cs ss (pc + 1) ls (vL (lshr x y) :: st) P) : AW g sh μ cs ss pc ls (vI y :: vL x :: st) P := by
  intro w p l e s m args below meth c H locs la cx hP hz hS hl
  have k := k w p l e s m args below meth c H locs la cx hP hz hS hl
  have k : W p l e (rmOf g) s m args below meth c H locs cs ss _ (F0 m (pc + 1) la (.long (Int64.ofInt (lshr x y)) :: st.map (cv w))) := k
  rw [lshr, Int64.ofInt_toInt] at k
  exact lv_lshr cx.1 cx.2.1 hd rfl k
theorem r_land {x y : Int} (hd : decode (gC g) pc = .ok (.land, 1)) (k : AW g sh μ cs ss (pc + 1) ls (vL (land x y) :: st) P) : AW g sh μ cs ss pc ls (vL y :: vL x :: st) P := by
  intro w p l e s m args below meth c H locs la cx hP hz hS hl
  have k := k w p l e s m args below meth c H locs la cx hP hz hS hl
  have k : W p l e (rmOf g) s m args below meth c H locs cs ss _ (F0 m (pc + 1) la (.long (Int64.ofInt (land x y)) :: st.map (cv w))) := k
  rw [land, Int64.ofInt_toInt] at k
  exact lv_land cx.1 cx.2.1 hd k
theorem r_l2i {x : Int} (hd : decode (gC g) pc = .ok (.l2i, 1)) (k : AW g sh μ cs ss (pc + 1) ls (vI (l2i x) :: st) P) : AW g sh μ cs ss pc ls (vL x :: st) P := by
  intro w p l e s m args below meth c H locs la cx hP hz hS hl
  have k := k w p l e s m args below meth c H locs la cx hP hz hS hl
  have k : W p l e (rmOf g) s m args below meth c H locs cs ss _ (F0 m (pc + 1) la (.int (Int32.ofInt (l2i x)) :: st.map (cv w))) := k
  rw [l2i, Int32.ofInt_toInt] at k
  exact lv_l2i cx.1 cx.2.1 hd rfl k
theorem r_ldc2 {i : Nat} {v : Int64} {x : Int} (hd : decode (gC g) pc = .ok (.ldc2_w i, 3)) (hc : Cond.constantLong (gO g) i v ∈ GW) (hv : v = Int64.ofInt x) (k : AW g sh μ cs ss (pc + 3) ls (vL x :: st) P) : AW g sh μ cs ss pc ls (st) P := by
  intro w p l e s m args below meth c H locs la cx hP hz hS hl
  have k := k w p l e s m args below meth c H locs la cx hP hz hS hl
  subst hv
  exact lv_ldc2 cx.1 cx.2.1 cx.2.2.2.2.2.2.1 (cx.2.2.2.2.2.1 _ hc) hd k
theorem r_areturnA {r : Nat} (hd : decode (gC g) pc = .ok (.areturn, 1)) (hr : gR g = some (.array .int)) (hc : cs = gM g) (hs : ss = gS g) (hp : P (some (vR r)) sh μ) : AW g sh μ cs ss pc ls [vR r] P := by
  intro w p l e s m args below meth c H locs la cx hP hz hS hl
  subst hc; subst hs
  obtain ⟨hx, hb, hr2, hml, hlk, -, -, -, hK, -⟩ := cx
  exact W.aret hx hb (hr2.trans hr) (Or.inr ⟨_, rfl⟩) (Or.inr ⟨_, rfl⟩) (fun t ht hW => ⟨⟨some (vR r), sh, μ, rfl, hp, by rw [ht]; exact hP, hz, hK.moved hW.alike⟩, hS.F ht⟩) hS.2.2 hd hlk
theorem r_aloadX {i : Nat} {j : Nat} (hd : decode (gC g) pc = .ok (.aload i, 2)) (hv : lget ls i = some (vX j)) (k : AW g sh μ cs ss (pc + 2) ls (vX j :: st) P) : AW g sh μ cs ss pc ls (st) P := by
  intro w p l e s m args below meth c H locs la cx hP hz hS hl
  have k := k w p l e s m args below meth c H locs la cx hP hz hS hl
  exact lv_aload cx.1 cx.2.1 hd (lvr_get hl hv) k
end ROWS5
theorem kL_L_7 : Cond.constantLong RL 7 (255 : Int64) ∈ GW := gw_in (i := 654) (by decide +kernel) rfl
theorem kL_L_32 : Cond.constantLong RL 32 (2333534636560023552 : Int64) ∈ GW := gw_in (i := 669) (by decide +kernel) rfl
theorem kL_L_38 : Cond.constantLong RL 38 (2334679279758228224 : Int64) ∈ GW := gw_in (i := 670) (by decide +kernel) rfl
theorem kL_L_40 : Cond.constantLong RL 40 (7308621415840743424 : Int64) ∈ GW := gw_in (i := 650) (by decide +kernel) rfl
theorem kL_L_46 : Cond.constantLong RL 46 (8318255636827602944 : Int64) ∈ GW := gw_in (i := 664) (by decide +kernel) rfl
theorem kL_L_48 : Cond.constantLong RL 48 (7525352679648788480 : Int64) ∈ GW := gw_in (i := 665) (by decide +kernel) rfl
theorem kL_L_53 : Cond.constantLong RL 53 (8318271055760195584 : Int64) ∈ GW := gw_in (i := 671) (by decide +kernel) rfl
theorem kL_L_55 : Cond.constantLong RL 55 (7669464613550817280 : Int64) ∈ GW := gw_in (i := 672) (by decide +kernel) rfl
theorem kL_L_57 : Cond.constantLong RL 57 (7091320034550611968 : Int64) ∈ GW := gw_in (i := 673) (by decide +kernel) rfl
theorem kL_L_59 : Cond.constantLong RL 59 (8386105387525603328 : Int64) ∈ GW := gw_in (i := 674) (by decide +kernel) rfl
theorem kL_L_61 : Cond.constantLong RL 61 (7094702605308534784 : Int64) ∈ GW := gw_in (i := 675) (by decide +kernel) rfl
theorem kL_L_63 : Cond.constantLong RL 63 (4283895692532605557 : Int64) ∈ GW := gw_in (i := 676) (by decide +kernel) rfl
theorem kL_L_65 : Cond.constantLong RL 65 (8245563650887122944 : Int64) ∈ GW := gw_in (i := 677) (by decide +kernel) rfl
theorem kL_L_67 : Cond.constantLong RL 67 (4283895692532580352 : Int64) ∈ GW := gw_in (i := 678) (by decide +kernel) rfl
theorem kL_L_80 : Cond.constantLong RL 80 (8097872817803239424 : Int64) ∈ GW := gw_in (i := 936) (by decide +kernel) rfl
theorem kL_L_82 : Cond.constantLong RL 82 (7094695995346255872 : Int64) ∈ GW := gw_in (i := 937) (by decide +kernel) rfl
/-- AW, in the worlds whose script is xs, of L ints -/
def AS (L : Nat) (xs : Nat → Int32) (g : Gm) (sh : Sh) (μ : Mem) (cs ss pc : Nat) (ls : Ls) (st : List AV) (P : Option AV → Sh → Mem → Prop) : Prop :=
  ∀ (w : Wd) (_ : wE w 62 = wS w ∧ wL w = L ∧ wXs w = xs) (p : Program) (l : Launch) (e : Env) (s : State) (m : MethodId) (args : Array Value) (below : List Frame) (meth : Method) (c : Code) (H : Heap) (locs : List Loc) (la : Array Slot),
    Cx g w p s m args meth c → va_P (wG w) vwCl (wsOf w sh μ) H → s.heap.size + cs = wB w + sh.length → va_S (wO w) s.heap H locs → lvr w la (gL g) ls →
    W p l e (rmOf g) s m args below meth c H locs cs ss (MQ below (QcG w (gM g) P) args s (gM g) (gS g) (wO w)) (F0 m pc la (st.map (cv w)))
section SCRIPT
variable {L : Nat} {xs : Nat → Int32} {g : Gm} {sh : Sh} {μ : Mem} {cs ss pc : Nat} {ls : Ls} {st : List AV} {P : Option AV → Sh → Mem → Prop}
theorem s_iconst {n : Int} (hd : decode (gC g) pc = .ok (.iconst n, 1)) (k : AS L xs g sh μ cs ss (pc + 1) ls (vI n :: st) P) : AS L xs g sh μ cs ss pc ls (st) P := by
  intro w hw p l e s m args below meth c H locs la cx hP hz hS hl
  have k := k w hw p l e s m args below meth c H locs la cx hP hz hS hl
  exact lv_iconst cx.1 cx.2.1 hd rfl k
theorem s_iload_n {k0 : Fin 4} {x : Int} (hd : decode (gC g) pc = .ok (.iload_n k0, 1)) (hv : lget ls (k0 : Nat) = some (vI x)) (k : AS L xs g sh μ cs ss (pc + 1) ls (vI x :: st) P) : AS L xs g sh μ cs ss pc ls (st) P := by
  intro w hw p l e s m args below meth c H locs la cx hP hz hS hl
  have k := k w hw p l e s m args below meth c H locs la cx hP hz hS hl
  exact lv_iload_n cx.1 cx.2.1 hd rfl (lvr_get hl hv) k
theorem s_aload_nX {k0 : Fin 4} {j : Nat} (hd : decode (gC g) pc = .ok (.aload_n k0, 1)) (hv : lget ls (k0 : Nat) = some (vX j)) (k : AS L xs g sh μ cs ss (pc + 1) ls (vX j :: st) P) : AS L xs g sh μ cs ss pc ls (st) P := by
  intro w hw p l e s m args below meth c H locs la cx hP hz hS hl
  have k := k w hw p l e s m args below meth c H locs la cx hP hz hS hl
  exact lv_aload_n cx.1 cx.2.1 hd rfl (lvr_get hl hv) k
theorem s_goto {off : Int} {tgt : Nat} (hd : decode (gC g) pc = .ok (.goto off, 3)) (ht : (pc : Int) + off = (tgt : Int)) (k : AS L xs g sh μ cs ss tgt ls st P) : AS L xs g sh μ cs ss pc ls st P := by
  intro w hw p l e s m args below meth c H locs la cx hP hz hS hl
  exact lv_goto cx.1 cx.2.1 hd ht (k w hw p l e s m args below meth c H locs la cx hP hz hS hl)
theorem s_icmp_ge {x y off : Int} {tgt : Nat} (hd : decode (gC g) pc = .ok (.if_icmp .ge off, 3)) (ht : (pc : Int) + off = (tgt : Int)) (hx : -2147483648 ≤ x ∧ x < 2147483648) (hy : -2147483648 ≤ y ∧ y < 2147483648)
    (kt : y ≤ x → AS L xs g sh μ cs ss tgt ls st P) (kf : ¬ (y ≤ x) → AS L xs g sh μ cs ss (pc + 3) ls st P) : AS L xs g sh μ cs ss pc ls (vI y :: vI x :: st) P := by
  intro w hw p l e s m args below meth c H locs la cx hP hz hS hl
  have e1 := ofI_eq hx hy
  have e2 := ofI_lt hx hy
  have e3 := ofI_le hx hy
  have e4 := ofI_lt hy hx
  have e5 := ofI_le hy hx
  refine lv_icmp_ge cx.1 cx.2.1 hd ht (fun hc => kt (by first | exact e1.mp hc | exact e2.mp hc | exact e3.mp hc | exact e4.mp hc | exact e5.mp hc | exact fun q => hc (e1.mpr q)) w hw p l e s m args below meth c H locs la cx hP hz hS hl) (fun hc => kf ?_ w hw p l e s m args below meth c H locs la cx hP hz hS hl)
  first | exact fun q => hc (e1.mpr q) | exact fun q => hc (e2.mpr q) | exact fun q => hc (e3.mpr q) | exact fun q => hc (e4.mpr q) | exact fun q => hc (e5.mpr q) | exact fun q => q (e1.mp (by first | exact hc | exact Classical.not_not.mp hc))
theorem s_ireturn {x : Int} (hd : decode (gC g) pc = .ok (.ireturn, 1)) (hr : gR g = some .int) (hc : cs = gM g) (hs : ss = gS g) (hp : P (some (vI x)) sh μ) : AS L xs g sh μ cs ss pc ls [vI x] P := by
  intro w hw p l e s m args below meth c H locs la cx hP hz hS hl
  subst hc; subst hs
  obtain ⟨hx, hb, hr2, hml, hlk, -, -, -, hK, -⟩ := cx
  exact W.iret hx hb (hr2.trans hr) (fun t ht hW => ⟨⟨some (vI x), sh, μ, rfl, hp, by rw [ht]; exact hP, hz, hK.moved hW.alike⟩, hS.F ht⟩) hS.2.2 hd hlk
theorem s_ld {x : Int} (hd : decode (gC g) pc = .ok (.iaload, 1)) (hL : L ≤ 260) (hi : 0 ≤ x ∧ x < (L : Int)) (k : AS L xs g sh μ cs ss (pc + 1) ls (vI (xs x.toNat).toInt :: st) P) : AS L xs g sh μ cs ss pc ls (vI x :: vX 62 :: st) P := by
  intro w hw p l e s m args below meth c H locs la cx hP hz hS hl
  have k := k w hw p l e s m args below meth c H locs la cx hP hz hS hl
  obtain ⟨hx, hb, -, -, -, -, -, -, -, hE, hbs⟩ := cx
  obtain ⟨⟨hA, hX⟩, -⟩ := hE
  obtain ⟨e1, e2, e3⟩ := hw
  rw [e2, e3] at hX
  have k : W p l e (rmOf g) s m args below meth c H locs cs ss (MQ below (QcG w (gM g) P) args s (gM g) (gS g) (wO w)) (F0 m (pc + 1) la (.int (Int32.ofInt (xs x.toNat).toInt) :: st.map (cv w))) := k
  rw [Int32.ofInt_toInt] at k
  show W p l e (rmOf g) s m args below meth c H locs cs ss (MQ below (QcG w (gM g) P) args s (gM g) (gS g) (wO w)) (F0 m pc la (.int (Int32.ofInt x) :: .ref (wE w 62) :: st.map (cv w)))
  rw [e1]
  refine va_sld (rest := st.map (cv w)) hx hb hX (Nat.lt_of_lt_of_le hA.1 hbs) (Nat.not_le.mpr hA.1) hS (ixIn hi (by rw [Nat.ble_eq]; omega)) hd ?_
  have e4 : (Int32.ofInt x).toNatClampNeg = x.toNat := by
    show (Int32.ofInt x).toInt.toNat = _
    rw [toI (by omega)]
  rw [e4]
  exact k
theorem s_len (hd : decode (gC g) pc = .ok (.arraylength, 1)) (k : AS L xs g sh μ cs ss (pc + 1) ls (vI L :: st) P) : AS L xs g sh μ cs ss pc ls (vX 62 :: st) P := by
  intro w hw p l e s m args below meth c H locs la cx hP hz hS hl
  have k := k w hw p l e s m args below meth c H locs la cx hP hz hS hl
  obtain ⟨hx, hb, -, -, -, -, -, -, -, hE, hbs⟩ := cx
  obtain ⟨⟨hA, hX⟩, -⟩ := hE
  obtain ⟨e1, e2, e3⟩ := hw
  rw [e2, e3] at hX
  have k : W p l e (rmOf g) s m args below meth c H locs cs ss (MQ below (QcG w (gM g) P) args s (gM g) (gS g) (wO w)) (F0 m (pc + 1) la (.int (Int32.ofInt L) :: st.map (cv w))) := k
  rw [Int32.ofInt_eq_ofNat] at k
  show W p l e (rmOf g) s m args below meth c H locs cs ss (MQ below (QcG w (gM g) P) args s (gM g) (gS g) (wO w)) (F0 m pc la (.ref (wE w 62) :: st.map (cv w)))
  rw [e1]
  exact va_slen (rest := st.map (cv w)) hx hb hX (Nat.lt_of_lt_of_le hA.1 hbs) (Nat.not_le.mpr hA.1) hS hd k
end SCRIPT
theorem AMet.ofS {y : MethodName} {g : Gm} {sh : Sh} {vs : List AV} {μ : Mem} {P : Option AV → Sh → Mem → Prop} (hpn : plainName y.cls = true) (hy : y.cls = gO g) (hin : gI g = true → y.name = "<init>") (hlen : Nat.ble (argsL vs).length (gL g) = true)
    (h : ∀ (L : Nat) (xs : Nat → Int32), L ≤ 260 → AS L xs g sh μ 0 0 0 (entL g vs) [] P) : AMet y g sh vs μ P := by
  intro w l
  refine Met.ofW (cc := gC g) (maxL := gL g) (ret := gR g) hpn rfl ?_
  intro p e s m args below meth c s₁ B hml hv
  obtain ⟨rfl, hsz, hP, hK, hE⟩ := hv
  have hts := atoms_spec (ws := wsm y g) B.pre
  have hown : s.vm.findClass (gO g) = some m.cls := by rw [← hy]; exact findClass_of_methodNamed B.named
  have cx : Cx g w p s m (vs.map (cv w)).toArray meth c := ⟨B.exec, B.bytes, B.returns, hml, B.notSynchronized, fun x hx => hts x (List.mem_cons_of_mem _ hx), hown, fun hi => (name_of_methodNamed B.named B.method).1.trans (hin hi), hK, hE, by omega⟩
  rw [lg_entry_eq]
  have hl := lv_entry (vs.map (cv w)) (n := gL g) (by rw [lg_len]; exact Nat.le_of_ble_eq_true hlen)
  have hl2 : lvr w (lg_sl (vs.map (cv w)) ++ List.replicate (gL g - (lg_sl (vs.map (cv w))).length) Slot.unset).toArray (gL g) (entL g vs) := by
    unfold lvr entL
    rw [prs_pad, prs_args]
    exact hl
  have hA := hE.1.1
  exact h (wL w) (wXs w) hA.2.2 w ⟨hA.2.1, rfl, rfl⟩ p l e s m _ below meth c s.heap [] _ cx hP hsz va_S.rf hl2
theorem x32 (x : Int32) : -2147483648 ≤ x.toInt ∧ x.toInt < 2147483648 := ⟨Int32.le_toInt x, Int32.toInt_lt x⟩
/-- a cell of the script: some int -/
theorem c_cell {sh : Sh} {μ : Mem} {k : Int} (hk : 0 ≤ k ∧ k < 1000) : IMet yL_cell gL_cell sh [vX 62, vI k] μ (fun x μ2 => (-2147483648 ≤ x ∧ x < 2147483648) ∧ μ2 = μ) := by
  refine AMet.ofS (by decide) rfl (by decide) rfl (fun L xs hL => ?_)
  refine s_iload_n dL_cell_0 rfl ?_
  refine s_aload_nX dL_cell_1 rfl ?_
  refine s_len dL_cell_2 ?_
  refine s_icmp_ge (tgt := 12) dL_cell_3 rfl (by omega) (by omega) (fun _ => ?_) (fun h => ?_)
  · refine s_iconst dL_cell_12 ?_
    exact s_ireturn dL_cell_13 rfl rfl rfl ⟨rfl, 0, rfl, by omega, rfl⟩
  · refine s_aload_nX dL_cell_6 rfl ?_
    refine s_iload_n dL_cell_7 rfl ?_
    refine s_ld dL_cell_8 hL (by omega) ?_
    refine s_goto (tgt := 13) dL_cell_9 rfl ?_
    exact s_ireturn dL_cell_13 rfl rfl rfl ⟨rfl, _, rfl, x32 _, rfl⟩

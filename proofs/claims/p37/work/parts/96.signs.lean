/-! 96.signs: the law's row of bytes: sign, text, number, two, door (wip/p37/src/96.py) -/
/-- what is known of locals here is known there -/
def lsle : Ls → Ls → Prop
  | [], _ => True
  | none :: t, [] => lsle t []
  | none :: t, _ :: u => lsle t u
  | some _ :: _, [] => False
  | some v :: t, o :: u => o = some v ∧ lsle t u
theorem lsle_get : ∀ (a b : Ls) (k : Nat) (v : AV), lsle a b → a[k]? = some (some v) → b[k]? = some (some v)
  | [], b, k, v, h, e => by simp at e
  | none :: t, [], k, v, h, e => by
    cases k with
    | zero => simp at e
    | succ k => have := lsle_get t [] k v h (by simpa using e); simp at this
  | none :: t, x :: u, k, v, h, e => by
    cases k with
    | zero => simp at e
    | succ k => simpa using lsle_get t u k v h (by simpa using e)
  | some w :: t, [], k, v, h, e => absurd h (by simp [lsle])
  | some w :: t, x :: u, k, v, h, e => by
    obtain ⟨h1, h2⟩ := (show x = some w ∧ lsle t u from h)
    cases k with
    | zero => simp at e; simp [h1, e]
    | succ k => simpa using lsle_get t u k v h2 (by simpa using e)
theorem AW.lw {g : Gm} {sh : Sh} {μ : Mem} {cs ss pc : Nat} {ls ls2 : Ls} {st : List AV} {P : Option AV → Sh → Mem → Prop} (h : AW g sh μ cs ss pc ls2 st P) (hl : lsle ls2 ls) : AW g sh μ cs ss pc ls st P := by
  intro w p l e s m args below meth c H locs la cx hP hz hS hv
  refine h w p l e s m args below meth c H locs la cx hP hz hS ⟨hv.1, hv.2.1, fun q hq => hv.2.2 q ?_⟩
  obtain ⟨k, u, hk, e⟩ := (prs_mem ls2 0 q).mp hq
  exact (prs_mem ls 0 q).mpr ⟨k, u, lsle_get ls2 ls k u hl hk, e⟩
/-- a row of bytes, and nothing else, has changed -/
def TM (a : Nat) (bs : List Int) (μ μ2 : Mem) : Prop := TB (μ2.1 a) bs ∧ Kp (fun q => q ≠ a) μ μ2 ∧ μ2.2 = μ.2
theorem TM.rf {a : Nat} {bs : List Int} {μ : Mem} (h : TB (μ.1 a) bs) : TM a bs μ μ := ⟨h, Kp.rf _ _, rfl⟩
theorem TM.tr {a : Nat} {b c : List Int} {μ μ1 μ2 : Mem} (h : TM a b μ μ1) (h2 : TM a c μ1 μ2) : TM a c μ μ2 := ⟨h2.1, h.2.1.tr h2.2.1, h2.2.2.trans h.2.2⟩
section SIGNS
variable {sh : Sh} {μ : Mem} {a : Nat} {bs : List Int}
set_option maxRecDepth 100000 in
set_option maxHeartbeats 4000000 in
theorem c_sign (ha : sh[a]? = some (20, 160)) (hT : TB (μ.1 a) bs) (hl : bs.length < 600) {c : Int} (hc : 0 ≤ c ∧ c ≤ 255) : VMet yL_sign gL_sign sh [vR a, vI c] μ (fun μ2 => TM a (bs ++ [c]) μ μ2) := by
  have h0 := hT.1
  have e1 : (μ.1 a 0).tdiv 4 = ((bs.length / 4 : Nat) : Int) := by rw [h0, Int.tdiv_eq_ediv_of_nonneg (by omega)]; omega
  have e2 : (24 : Int) - 8 * (μ.1 a 0).tmod 4 = ((24 - 8 * (bs.length % 4) : Nat) : Int) := by rw [h0, Int.tmod_eq_emod_of_nonneg (by omega)]; omega
  refine AMet.of (by decide) rfl (by decide) rfl ?_
  refine r_aload_n dL_sign_0 rfl ?_
  refine r_iconst dL_sign_1 ?_
  refine r_iald dL_sign_2 (by assumption) rfl (by omega) ?_
  refine r_istore_n dL_sign_3 rfl ?_
  refine r_aload_n dL_sign_4 rfl ?_
  refine r_iconst dL_sign_5 ?_
  refine r_iload_n dL_sign_6 rfl ?_
  refine r_iconst dL_sign_7 ?_
  refine r_idiv dL_sign_8 (by omega) (by omega) ?_
  rw [e1]
  refine r_iadd dL_sign_9 ?_
  refine r_aload_n dL_sign_10 rfl ?_
  refine r_iconst dL_sign_11 ?_
  refine r_iload_n dL_sign_12 rfl ?_
  refine r_iconst dL_sign_13 ?_
  refine r_idiv dL_sign_14 (by omega) (by omega) ?_
  rw [e1]
  refine r_iadd dL_sign_15 ?_
  refine r_iald dL_sign_16 (by assumption) rfl (by omega) ?_
  refine r_iload_n dL_sign_17 rfl ?_
  refine r_sipush dL_sign_18 (by decide) ?_
  refine r_iand dL_sign_21 ?_
  refine r_bipush dL_sign_22 (by decide) ?_
  refine r_bipush dL_sign_24 (by decide) ?_
  refine r_iload_n dL_sign_26 rfl ?_
  refine r_iconst dL_sign_27 ?_
  refine r_irem dL_sign_28 (by omega) (by omega) ?_
  refine r_imul dL_sign_29 ?_
  refine r_isub dL_sign_30 ?_
  rw [e2]
  refine r_ishl dL_sign_31 ?_
  refine r_ior dL_sign_32 ?_
  refine r_iast dL_sign_33 (by assumption) rfl (by omega) ?_
  refine r_aload_n dL_sign_34 rfl ?_
  refine r_iconst dL_sign_35 ?_
  refine r_iload_n dL_sign_36 rfl ?_
  refine r_iconst dL_sign_37 ?_
  refine r_iadd dL_sign_38 ?_
  refine r_iast dL_sign_39 (by assumption) rfl (by omega) ?_
  refine r_return dL_sign_40 rfl rfl rfl ?_
  refine ⟨rfl, rfl, ?_, (((Kp.rf _ μ).sI (fun q => q rfl)).sI (fun q => q rfl)), rfl⟩
  have q := hT.put hc (q := 1 + ((bs.length / 4 : Nat) : Int)) rfl rfl
  have e : (setI (setI μ a (1 + ((bs.length / 4 : Nat) : Int)) (ior (μ.1 a (1 + ((bs.length / 4 : Nat) : Int))) (ishl (iand c 255) ((24 - 8 * (bs.length % 4) : Nat) : Int)))) a 0 (μ.1 a 0 + 1)).1 a = fun j => if j = 0 then ((bs.length : Nat) : Int) + 1 else if j = 1 + ((bs.length / 4 : Nat) : Int) then ior (μ.1 a (1 + ((bs.length / 4 : Nat) : Int))) (ishl (iand c 255) ((24 - 8 * (bs.length % 4) : Nat) : Int)) else μ.1 a j := by
    funext j
    simp only [setI, h0, true_and]
  rw [e]
  exact q
def cby (v : Int) (n : Nat) : Int := l2i (land (lshr v (56 - 8 * (n : Int))) 255)
/-- a long's bytes, those that are 0 left out -/
def txB (v : Int) : Nat → List Int
  | 0 => []
  | n + 1 => txB v n ++ (if 0 < cby v n then [cby v n] else [])
theorem txB_len (v : Int) : ∀ n, (txB v n).length ≤ n
  | 0 => by simp [txB]
  | n + 1 => by
    have := txB_len v n
    rw [txB, List.length_append]
    split
    · simp only [List.length_cons, List.length_nil]; omega
    · simp only [List.length_nil]; omega
set_option maxRecDepth 100000 in
set_option maxHeartbeats 4000000 in
theorem c_text (ha : sh[a]? = some (20, 160)) (hT : TB (μ.1 a) bs) (hl : bs.length < 500) {v : Int} (hv : ∀ n, n < 8 → 0 ≤ cby v n ∧ cby v n ≤ 255) : VMet yL_text gL_text sh [vR a, vL v] μ (fun μ2 => TM a (bs ++ txB v 8) μ μ2) := by
  have loop : ∀ (n m : Nat) (k : Int) (μ1 : Mem), k = 56 - 8 * (m : Int) → m + n = 8 → TM a (bs ++ txB v m) μ μ1 → AW gL_text sh μ1 0 0 3 [some (vR a), some (vL v), none, some (vI k), none] [] (fun r2 sh2 μ2 => r2 = none ∧ sh2 = sh ∧ TM a (bs ++ txB v 8) μ μ2) := by
    intro n
    induction n with
    | zero =>
      intro m k μ1 hk hm hM
      obtain rfl : m = 8 := by omega
      refine r_iload_n dL_text_3 rfl ?_
      refine q_if_lt (tgt := 34) dL_text_4 rfl (by omega) (fun c4 => ?_) (fun c4 => ?_)
      · refine r_return dL_text_34 rfl rfl rfl ?_
        exact ⟨rfl, rfl, hM⟩
      · exfalso; omega
    | succ n ih =>
      intro m k μ1 hk hm hM
      have hc := hv m (by omega)
      have hlen := txB_len v m
      have hl2 : (bs ++ txB v m).length < 600 := by rw [List.length_append]; omega
      have ec : l2i (land (lshr v k) 255) = cby v m := by rw [hk]; rfl
      refine r_iload_n dL_text_3 rfl ?_
      refine q_if_lt (tgt := 34) dL_text_4 rfl (by omega) (fun c4 => ?_) (fun c4 => ?_)
      · exfalso; omega
      · refine r_lload_n dL_text_7 rfl ?_
        refine r_iload_n dL_text_8 rfl ?_
        refine r_lshr dL_text_9 ?_
        refine r_ldc2 (x := 255) dL_text_10 kL_L_7 (by decide +kernel) ?_
        refine r_land dL_text_13 ?_
        refine r_l2i dL_text_14 ?_
        rw [ec]
        refine r_istore dL_text_15 rfl ?_
        refine r_iload dL_text_17 rfl ?_
        refine q_if_le (tgt := 28) dL_text_19 rfl (by omega) (fun c19 => ?_) (fun c19 => ?_)
        · refine r_iinc dL_text_28 rfl rfl ?_
          refine r_goto (tgt := 3) dL_text_31 rfl ?_
          refine AW.lw (ih (m + 1) (k + -8) μ1 (by omega) (by omega) ?_) (by repeat first | exact trivial | refine And.intro rfl ?_)
          rw [txB, if_neg (by omega)]
          rw [List.append_nil]
          exact hM
        · refine r_aload_n dL_text_22 rfl ?_
          refine r_iload dL_text_23 rfl ?_
          refine r_cS2N dL_text_25 ml_L_9 yl_L_sign ⟨rfl, rfl⟩ rfl rfl rfl rfl (c_sign (bs := bs ++ txB v m) ha hM.1 hl2 hc) ?_
          intro m2 hm2
          refine r_iinc dL_text_28 rfl rfl ?_
          refine r_goto (tgt := 3) dL_text_31 rfl ?_
          refine AW.lw (ih (m + 1) (k + -8) m2 (by omega) (by omega) ?_) (by repeat first | exact trivial | refine And.intro rfl ?_)
          rw [txB, if_pos (by omega)]
          rw [← List.append_assoc]
          exact TM.tr hM hm2
  refine AMet.of (by decide) rfl (by decide) rfl ?_
  refine r_bipush dL_text_0 (by decide) ?_
  refine r_istore_n dL_text_2 rfl ?_
  exact loop 8 0 _ _ (by omega) (by omega) (by rw [show txB v 0 = [] from rfl, List.append_nil]; exact TM.rf hT)
set_option maxRecDepth 100000 in
set_option maxHeartbeats 4000000 in
theorem c_number (ha : sh[a]? = some (20, 160)) (hT : TB (μ.1 a) bs) (hl : bs.length < 500) {v : Int} (hv : 0 ≤ v ∧ v ≤ 99) : VMet yL_number gL_number sh [vR a, vI v] μ (fun μ2 => TM a (bs ++ dig v) μ μ2) := by
  have d1 : v.tdiv 1 = v := by rw [Int.tdiv_eq_ediv_of_nonneg (by omega)]; omega
  have d10 : v.tdiv 10 = v / 10 := Int.tdiv_eq_ediv_of_nonneg (by omega)
  have m1 : v.tmod 10 = v % 10 := Int.tmod_eq_emod_of_nonneg (by omega)
  have m10 : (v / 10).tmod 10 = v / 10 := by rw [Int.tmod_eq_emod_of_nonneg (by omega)]; omega
  have one : ∀ (μ1 : Mem) (b1 : List Int), b1.length < 550 → TM a b1 μ μ1 → AW gL_number sh μ1 0 0 18 [some (vR a), some (vI v), some (vI 1)] [] (fun r2 sh2 μ2 => r2 = none ∧ sh2 = sh ∧ TM a (b1 ++ [48 + v % 10]) μ μ2) := by
    intro μ1 b1 hb1 hM
    refine r_iload_n dL_number_18 rfl ?_
    refine q_if_le (tgt := 43) dL_number_19 rfl (by omega) (fun c19 => ?_) (fun c19 => ?_)
    · exfalso; omega
    · refine r_aload_n dL_number_22 rfl ?_
      refine r_bipush dL_number_23 (by decide) ?_
      refine r_iload_n dL_number_25 rfl ?_
      refine r_iload_n dL_number_26 rfl ?_
      refine r_idiv dL_number_27 (by omega) (by omega) ?_
      rw [d1]
      refine r_bipush dL_number_28 (by decide) ?_
      refine r_irem dL_number_30 (by omega) (by omega) ?_
      rw [m1]
      refine r_iadd dL_number_31 ?_
      refine r_cS2N dL_number_32 ml_L_9 yl_L_sign ⟨rfl, rfl⟩ rfl rfl rfl rfl (c_sign (bs := b1) ha hM.1 (by omega) (by omega)) ?_
      intro m2 hm2
      refine r_iload_n dL_number_35 rfl ?_
      refine r_bipush dL_number_36 (by decide) ?_
      refine r_idiv dL_number_38 (by omega) (by omega) ?_
      rw [show (1 : Int).tdiv 10 = 0 from rfl]
      refine r_istore_n dL_number_39 rfl ?_
      refine r_goto (tgt := 18) dL_number_40 rfl ?_
      refine r_iload_n dL_number_18 rfl ?_
      refine q_if_le (tgt := 43) dL_number_19 rfl (by omega) (fun c19 => ?_) (fun c19 => ?_)
      · refine r_return dL_number_43 rfl rfl rfl ?_
        exact ⟨rfl, rfl, TM.tr hM hm2⟩
      · exfalso; omega
  refine AMet.of (by decide) rfl (by decide) rfl ?_
  refine r_iconst dL_number_0 ?_
  refine r_istore_n dL_number_1 rfl ?_
  refine r_iload_n dL_number_2 rfl ?_
  refine r_iload_n dL_number_3 rfl ?_
  refine r_idiv dL_number_4 (by omega) (by omega) ?_
  rw [d1]
  refine r_bipush dL_number_5 (by decide) ?_
  refine q_icmp_le (tgt := 18) dL_number_7 rfl (by omega) (by omega) (fun c7 => ?_) (fun c7 => ?_)
  · unfold dig
    rw [if_pos (by omega)]
    have e : v = v % 10 := by omega
    have q := one μ bs (by omega) (TM.rf hT)
    rw [← e] at q
    exact q
  · refine r_bipush dL_number_10 (by decide) ?_
    refine r_iload_n dL_number_12 rfl ?_
    refine r_imul dL_number_13 ?_
    refine r_istore_n dL_number_14 rfl ?_
    refine r_goto (tgt := 2) dL_number_15 rfl ?_
    refine r_iload_n dL_number_2 rfl ?_
    refine r_iload_n dL_number_3 rfl ?_
    refine r_idiv dL_number_4 (by omega) (by omega) ?_
    try rw [show (10 : Int) * 1 = 10 from rfl]
    rw [d10]
    refine r_bipush dL_number_5 (by decide) ?_
    refine q_icmp_le (tgt := 18) dL_number_7 rfl (by omega) (by omega) (fun c7 => ?_) (fun c7 => ?_)
    · refine r_iload_n dL_number_18 rfl ?_
      refine q_if_le (tgt := 43) dL_number_19 rfl (by omega) (fun c19 => ?_) (fun c19 => ?_)
      · exfalso; omega
      · refine r_aload_n dL_number_22 rfl ?_
        refine r_bipush dL_number_23 (by decide) ?_
        refine r_iload_n dL_number_25 rfl ?_
        refine r_iload_n dL_number_26 rfl ?_
        refine r_idiv dL_number_27 (by omega) (by omega) ?_
        rw [d10]
        refine r_bipush dL_number_28 (by decide) ?_
        refine r_irem dL_number_30 (by omega) (by omega) ?_
        rw [m10]
        refine r_iadd dL_number_31 ?_
        refine r_cS2N dL_number_32 ml_L_9 yl_L_sign ⟨rfl, rfl⟩ rfl rfl rfl rfl (c_sign (bs := bs) ha hT (by omega) (by omega)) ?_
        intro m2 hm2
        refine r_iload_n dL_number_35 rfl ?_
        refine r_bipush dL_number_36 (by decide) ?_
        refine r_idiv dL_number_38 (by omega) (by omega) ?_
        rw [show (10 : Int).tdiv 10 = 1 from rfl]
        refine r_istore_n dL_number_39 rfl ?_
        refine r_goto (tgt := 18) dL_number_40 rfl ?_
        have q := one m2 (bs ++ [48 + v / 10]) (by rw [List.length_append]; simp only [List.length_cons, List.length_nil]; omega) hm2
        unfold dig
        rw [if_neg (by omega)]
        rw [List.append_assoc] at q
        exact q
    · exfalso; omega
set_option maxRecDepth 100000 in
set_option maxHeartbeats 4000000 in
theorem c_two (ha : sh[a]? = some (20, 160)) (hT : TB (μ.1 a) bs) (hl : bs.length < 400) {x y : Int} (hx : 0 ≤ x ∧ x ≤ 99) (hy : 0 ≤ y ∧ y ≤ 99) : VMet yL_two gL_two sh [vR a, vI x, vI y] μ (fun μ2 => TM a (bs ++ (32 :: (dig x ++ 32 :: (dig y ++ [59])))) μ μ2) := by
  have lx := dig_len x
  have ly := dig_len y
  refine AMet.of (by decide) rfl (by decide) rfl ?_
  refine r_aload_n dL_two_0 rfl ?_
  refine r_bipush dL_two_1 (by decide) ?_
  refine r_cS2N dL_two_3 ml_L_9 yl_L_sign ⟨rfl, rfl⟩ rfl rfl rfl rfl (c_sign (bs := bs) ha hT (by omega) (by omega)) ?_
  intro m1 h1
  refine r_aload_n dL_two_6 rfl ?_
  refine r_iload_n dL_two_7 rfl ?_
  refine r_cS2N dL_two_8 ml_L_25 yl_L_number ⟨rfl, rfl⟩ rfl rfl rfl rfl (c_number (bs := bs ++ [32]) ha h1.1 (by simp only [List.length_append, List.length_cons, List.length_nil]; omega) hx) ?_
  intro m2 h2
  refine r_aload_n dL_two_11 rfl ?_
  refine r_bipush dL_two_12 (by decide) ?_
  refine r_cS2N dL_two_14 ml_L_9 yl_L_sign ⟨rfl, rfl⟩ rfl rfl rfl rfl (c_sign (bs := bs ++ [32] ++ dig x) ha h2.1 (by simp only [List.length_append, List.length_cons, List.length_nil]; omega) (by omega)) ?_
  intro m3 h3
  refine r_aload_n dL_two_17 rfl ?_
  refine r_iload_n dL_two_18 rfl ?_
  refine r_cS2N dL_two_19 ml_L_25 yl_L_number ⟨rfl, rfl⟩ rfl rfl rfl rfl (c_number (bs := bs ++ [32] ++ dig x ++ [32]) ha h3.1 (by simp only [List.length_append, List.length_cons, List.length_nil]; omega) hy) ?_
  intro m4 h4
  refine r_aload_n dL_two_22 rfl ?_
  refine r_bipush dL_two_23 (by decide) ?_
  refine r_cS2N dL_two_25 ml_L_9 yl_L_sign ⟨rfl, rfl⟩ rfl rfl rfl rfl (c_sign (bs := bs ++ [32] ++ dig x ++ [32] ++ dig y) ha h4.1 (by simp only [List.length_append, List.length_cons, List.length_nil]; omega) (by omega)) ?_
  intro m5 h5
  refine r_return dL_two_28 rfl rfl rfl ?_
  refine ⟨rfl, rfl, ?_⟩
  have q := (((h1.tr h2).tr h3).tr h4).tr h5
  simpa only [List.append_assoc, List.cons_append, List.nil_append] using q
theorem c_tx32 (ha : sh[a]? = some (20, 160)) (hT : TB (μ.1 a) bs) (hl : bs.length < 500) : VMet yL_text gL_text sh [vR a, vL 2333534636560023552] μ (fun μ2 => TM a (bs ++ [32, 98, 97, 99, 107, 59]) μ μ2) := by
  have e : txB 2333534636560023552 8 = [32, 98, 97, 99, 107, 59] := by decide +kernel
  have q := c_text ha hT hl (v := 2333534636560023552) (by decide +kernel)
  rw [e] at q
  exact q
theorem c_tx38 (ha : sh[a]? = some (20, 160)) (hT : TB (μ.1 a) bs) (hl : bs.length < 500) : VMet yL_text gL_text sh [vR a, vL 2334679279758228224] μ (fun μ2 => TM a (bs ++ [32, 102, 114, 111, 110, 116, 59]) μ μ2) := by
  have e : txB 2334679279758228224 8 = [32, 102, 114, 111, 110, 116, 59] := by decide +kernel
  have q := c_text ha hT hl (v := 2334679279758228224) (by decide +kernel)
  rw [e] at q
  exact q
theorem c_tx40 (ha : sh[a]? = some (20, 160)) (hT : TB (μ.1 a) bs) (hl : bs.length < 500) : VMet yL_text gL_text sh [vR a, vL 7308621415840743424] μ (fun μ2 => TM a (bs ++ [101, 109, 112, 116, 121]) μ μ2) := by
  have e : txB 7308621415840743424 8 = [101, 109, 112, 116, 121] := by decide +kernel
  have q := c_text ha hT hl (v := 7308621415840743424) (by decide +kernel)
  rw [e] at q
  exact q
theorem c_tx46 (ha : sh[a]? = some (20, 160)) (hT : TB (μ.1 a) bs) (hl : bs.length < 500) : VMet yL_text gL_text sh [vR a, vL 8318255636827602944] μ (fun μ2 => TM a (bs ++ [115, 112, 97, 110]) μ μ2) := by
  have e : txB 8318255636827602944 8 = [115, 112, 97, 110] := by decide +kernel
  have q := c_text ha hT hl (v := 8318255636827602944) (by decide +kernel)
  rw [e] at q
  exact q
theorem c_tx48 (ha : sh[a]? = some (20, 160)) (hT : TB (μ.1 a) bs) (hl : bs.length < 500) : VMet yL_text gL_text sh [vR a, vL 7525352679648788480] μ (fun μ2 => TM a (bs ++ [104, 111, 108, 100, 32]) μ μ2) := by
  have e : txB 7525352679648788480 8 = [104, 111, 108, 100, 32] := by decide +kernel
  have q := c_text ha hT hl (v := 7525352679648788480) (by decide +kernel)
  rw [e] at q
  exact q
theorem c_tx53 (ha : sh[a]? = some (20, 160)) (hT : TB (μ.1 a) bs) (hl : bs.length < 500) : VMet yL_text gL_text sh [vR a, vL 8318271055760195584] μ (fun μ2 => TM a (bs ++ [115, 112, 111, 116]) μ μ2) := by
  have e : txB 8318271055760195584 8 = [115, 112, 111, 116] := by decide +kernel
  have q := c_text ha hT hl (v := 8318271055760195584) (by decide +kernel)
  rw [e] at q
  exact q
theorem c_tx55 (ha : sh[a]? = some (20, 160)) (hT : TB (μ.1 a) bs) (hl : bs.length < 500) : VMet yL_text gL_text sh [vR a, vL 7669464613550817280] μ (fun μ2 => TM a (bs ++ [106, 111, 105, 110, 116, 32]) μ μ2) := by
  have e : txB 7669464613550817280 8 = [106, 111, 105, 110, 116, 32] := by decide +kernel
  have q := c_text ha hT hl (v := 7669464613550817280) (by decide +kernel)
  rw [e] at q
  exact q
theorem c_tx57 (ha : sh[a]? = some (20, 160)) (hT : TB (μ.1 a) bs) (hl : bs.length < 500) : VMet yL_text gL_text sh [vR a, vL 7091320034550611968] μ (fun μ2 => TM a (bs ++ [98, 105, 110]) μ μ2) := by
  have e : txB 7091320034550611968 8 = [98, 105, 110] := by decide +kernel
  have q := c_text ha hT hl (v := 7091320034550611968) (by decide +kernel)
  rw [e] at q
  exact q
theorem c_tx59 (ha : sh[a]? = some (20, 160)) (hT : TB (μ.1 a) bs) (hl : bs.length < 500) : VMet yL_text gL_text sh [vR a, vL 8386105387525603328] μ (fun μ2 => TM a (bs ++ [116, 97, 110, 107, 32, 116]) μ μ2) := by
  have e : txB 8386105387525603328 8 = [116, 97, 110, 107, 32, 116] := by decide +kernel
  have q := c_text ha hT hl (v := 8386105387525603328) (by decide +kernel)
  rw [e] at q
  exact q
theorem c_tx61 (ha : sh[a]? = some (20, 160)) (hT : TB (μ.1 a) bs) (hl : bs.length < 500) : VMet yL_text gL_text sh [vR a, vL 7094702605308534784] μ (fun μ2 => TM a (bs ++ [98, 117, 114, 110, 32, 116, 32]) μ μ2) := by
  have e : txB 7094702605308534784 8 = [98, 117, 114, 110, 32, 116, 32] := by decide +kernel
  have q := c_text ha hT hl (v := 7094702605308534784) (by decide +kernel)
  rw [e] at q
  exact q
theorem c_tx63 (ha : sh[a]? = some (20, 160)) (hT : TB (μ.1 a) bs) (hl : bs.length < 500) : VMet yL_text gL_text sh [vR a, vL 4283895692532605557] μ (fun μ2 => TM a (bs ++ [59, 115, 116, 111, 112, 59, 98, 117]) μ μ2) := by
  have e : txB 4283895692532605557 8 = [59, 115, 116, 111, 112, 59, 98, 117] := by decide +kernel
  have q := c_text ha hT hl (v := 4283895692532605557) (by decide +kernel)
  rw [e] at q
  exact q
theorem c_tx65 (ha : sh[a]? = some (20, 160)) (hT : TB (μ.1 a) bs) (hl : bs.length < 500) : VMet yL_text gL_text sh [vR a, vL 8245563650887122944] μ (fun μ2 => TM a (bs ++ [114, 110, 32, 116, 32]) μ μ2) := by
  have e : txB 8245563650887122944 8 = [114, 110, 32, 116, 32] := by decide +kernel
  have q := c_text ha hT hl (v := 8245563650887122944) (by decide +kernel)
  rw [e] at q
  exact q
theorem c_tx67 (ha : sh[a]? = some (20, 160)) (hT : TB (μ.1 a) bs) (hl : bs.length < 500) : VMet yL_text gL_text sh [vR a, vL 4283895692532580352] μ (fun μ2 => TM a (bs ++ [59, 115, 116, 111, 112, 59]) μ μ2) := by
  have e : txB 4283895692532580352 8 = [59, 115, 116, 111, 112, 59] := by decide +kernel
  have q := c_text ha hT hl (v := 4283895692532580352) (by decide +kernel)
  rw [e] at q
  exact q
theorem c_tx80 (ha : sh[a]? = some (20, 160)) (hT : TB (μ.1 a) bs) (hl : bs.length < 500) : VMet yL_text gL_text sh [vR a, vL 8097872817803239424] μ (fun μ2 => TM a (bs ++ [112, 97, 108, 108, 101, 116, 32]) μ μ2) := by
  have e : txB 8097872817803239424 8 = [112, 97, 108, 108, 101, 116, 32] := by decide +kernel
  have q := c_text ha hT hl (v := 8097872817803239424) (by decide +kernel)
  rw [e] at q
  exact q
theorem c_tx82 (ha : sh[a]? = some (20, 160)) (hT : TB (μ.1 a) bs) (hl : bs.length < 500) : VMet yL_text gL_text sh [vR a, vL 7094695995346255872] μ (fun μ2 => TM a (bs ++ [98, 117, 108, 107, 32]) μ μ2) := by
  have e : txB 7094695995346255872 8 = [98, 117, 108, 107, 32] := by decide +kernel
  have q := c_text ha hT hl (v := 7094695995346255872) (by decide +kernel)
  rw [e] at q
  exact q
set_option maxRecDepth 100000 in
set_option maxHeartbeats 4000000 in
theorem c_door (ha : sh[a]? = some (20, 160)) (hT : TB (μ.1 a) bs) (hl : bs.length < 500) {k : Int} (hk : k = 0 ∨ k = 1) : VMet yL_door gL_door sh [vR a, vI k] μ (fun μ2 => TM a (bs ++ (32 :: (doorT k ++ [59]))) μ μ2) := by
  refine AMet.of (by decide) rfl (by decide) rfl ?_
  refine r_iload_n dL_door_0 rfl ?_
  refine r_iconst dL_door_1 ?_
  refine q_icmp_ne (tgt := 15) dL_door_2 rfl (by omega) (by omega) (fun c2 => ?_) (fun c2 => ?_)
  · refine r_aload_n dL_door_15 rfl ?_
    refine r_ldc2 (x := 2334679279758228224) dL_door_16 kL_L_38 (by decide +kernel) ?_
    refine r_cS2N dL_door_19 ml_L_34 yl_L_text ⟨rfl, rfl⟩ rfl rfl rfl rfl (c_tx38 ha hT hl) ?_
    intro m1 h1
    refine r_return dL_door_22 rfl rfl rfl ?_
    refine ⟨rfl, rfl, ?_⟩
    first
      | (obtain rfl : k = 1 := by omega
         exact h1)
      | (obtain rfl : k = 0 := by omega
         exact h1)
  · refine r_aload_n dL_door_5 rfl ?_
    refine r_ldc2 (x := 2333534636560023552) dL_door_6 kL_L_32 (by decide +kernel) ?_
    refine r_cS2N dL_door_9 ml_L_34 yl_L_text ⟨rfl, rfl⟩ rfl rfl rfl rfl (c_tx32 ha hT hl) ?_
    intro m1 h1
    refine r_goto (tgt := 22) dL_door_12 rfl ?_
    refine r_return dL_door_22 rfl rfl rfl ?_
    refine ⟨rfl, rfl, ?_⟩
    first
      | (obtain rfl : k = 1 := by omega
         exact h1)
      | (obtain rfl : k = 0 := by omega
         exact h1)
end SIGNS

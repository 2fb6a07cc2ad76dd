/-! 97.send: the row of bytes comes onto the tape (wip/p37/src/97.py) -/
variable {n_ : Sh}
theorem put4_eq (q : Tq) (v : Int) : put4 q v = (fun i => if q.2 ≤ i ∧ i < q.2 + 4 then byt v (24 - 8 * (i - q.2)) else q.1 i, q.2 + 4) := by
  refine Prod.ext (funext fun i => ?_) (show q.2 + 1 + 1 + 1 + 1 = q.2 + 4 by omega)
  show (if i = q.2 + 1 + 1 + 1 then byt v (24 - 8 * (0 + 1 + 1 + 1)) else if i = q.2 + 1 + 1 then byt v (24 - 8 * (0 + 1 + 1)) else if i = q.2 + 1 then byt v (24 - 8 * (0 + 1)) else if i = q.2 then byt v (24 - 8 * 0) else q.1 i) = if q.2 ≤ i ∧ i < q.2 + 4 then byt v (24 - 8 * (i - q.2)) else q.1 i
  rcases (show i = q.2 ∨ i = q.2 + 1 ∨ i = q.2 + 1 + 1 ∨ i = q.2 + 1 + 1 + 1 ∨ ¬ (q.2 ≤ i ∧ i < q.2 + 4) by omega) with h | h | h | h | h
  · rw [if_neg (by omega), if_neg (by omega), if_neg (by omega), if_pos h, if_pos (by omega)]
    congr 1
    omega
  · rw [if_neg (by omega), if_neg (by omega), if_pos h, if_pos (by omega)]
    congr 1
    omega
  · rw [if_neg (by omega), if_pos h, if_pos (by omega)]
    congr 1
    omega
  · rw [if_pos h, if_pos (by omega)]
    congr 1
    omega
  · rw [if_neg (by omega), if_neg (by omega), if_neg (by omega), if_neg (by omega), if_neg h]
def put20 (q : Tq) (f : Int → Int) (k : Int) : Tq := put4 (put4 (put4 (put4 (put4 q (f k)) (f (k + 1))) (f (k + 2))) (f (k + 3))) (f (k + 4))
theorem put20_2 (q : Tq) (f : Int → Int) (k : Int) : (put20 q f k).2 = q.2 + 20 := by
  unfold put20
  simp only [put4_eq]
  omega
theorem put20_lo {q : Tq} {f : Int → Int} {k i : Int} (h : i < q.2) : (put20 q f k).1 i = q.1 i := by
  unfold put20
  simp only [put4_eq]
  rw [if_neg (by omega), if_neg (by omega), if_neg (by omega), if_neg (by omega), if_neg (by omega)]
theorem put20_at {q : Tq} {f : Int → Int} {k : Int} {m : Nat} (h : m < 20) : (put20 q f k).1 (q.2 + (m : Int)) = byt (f (k + ((m / 4 : Nat) : Int))) ((24 - 8 * (m % 4) : Nat) : Int) := by
  unfold put20
  simp only [put4_eq]
  rcases (show m / 4 = 0 ∨ m / 4 = 1 ∨ m / 4 = 2 ∨ m / 4 = 3 ∨ m / 4 = 4 by omega) with e | e | e | e | e
  · rw [if_neg (by omega), if_neg (by omega), if_neg (by omega), if_neg (by omega), if_pos (by omega), e]
    rw [show k + ((0 : Nat) : Int) = k by omega]
    congr 1
    omega
  · rw [if_neg (by omega), if_neg (by omega), if_neg (by omega), if_pos (by omega), e]
    congr 1
    omega
  · rw [if_neg (by omega), if_neg (by omega), if_pos (by omega), e]
    congr 1
    omega
  · rw [if_neg (by omega), if_pos (by omega), e]
    congr 1
    omega
  · rw [if_pos (by omega), e]
    congr 1
    omega
theorem TB.clear {f g : Int → Int} {bs : List Int} (h : TB f bs) (hl : bs.length ≤ 240) (hg : ∀ j, 0 ≤ j → g j = if j < 64 then 0 else f j) : TB g [] := by
  obtain ⟨h1, h2, h3⟩ := h
  refine ⟨by rw [hg 0 (by omega)]; rfl, fun j hj => ?_, fun k => ?_⟩
  · rw [hg j (by omega)]
    split
    · omega
    · exact h2 j hj
  · rw [hg _ (by omega)]
    split
    · have hk := Nat.mod_lt k (show 4 > 0 by decide)
      rcases (show k % 4 = 0 ∨ k % 4 = 1 ∨ k % 4 = 2 ∨ k % 4 = 3 by omega) with e | e | e | e <;> rw [e] <;> rfl
    · rw [h3, List.getD_eq_getElem?_getD, List.getElem?_eq_none (by omega)]
      rfl
/-- what is sent: the tape has it, the row is empty -/
def Sent (n_ : Sh) (G : Gh) (bs : List Int) (p pd c cd : Nat) (μ μ2 : Mem) : Prop := ∃ q : Tq, InX n_ μ2 (setTap G q) p pd c cd ∧ q.2 = (bs.length : Int) ∧ (∀ i : Nat, i < bs.length → q.1 (i : Int) = bs.getD i 0) ∧ TB (μ2.1 188) [] ∧ Kp (fun a => 188 < a) μ μ2
set_option maxRecDepth 100000 in
set_option maxHeartbeats 4000000 in
theorem c_send {μ : Mem} {G : Gh} {bs : List Int} {p pd c cd : Nat} (hX : InX n_ μ G p pd c cd) (ha : (SH n_)[188]? = some (20, 160)) (hT : TB (μ.1 188) bs) (hl : bs.length ≤ 240) (h0 : gTl G = 0) : VMet yL_send gL_send (SH n_) [vR 0, vR 188] μ (fun μ2 => Sent n_ G bs p pd c cd μ μ2) := by
  have x0 : (SH n_)[0]? = some (10, 11) := rfl
  have hT0 := hT.1
  have last : ∀ (s : Nat) (k : Int) (m : Mem) (q : Tq), InX n_ m (setTap G q) p pd c cd → q.2 = (bs.length : Int) → (∀ i : Nat, i < bs.length → q.1 (i : Int) = bs.getD i 0) → Kp (fun a => 188 ≤ a) μ m → 0 ≤ k → k + s = 64 → AW gL_send (SH n_) (fillI m 188 k 0) 0 0 97 [some (vR 0), some (vR 188), some (vI (bs.length : Int)), some (vI k)] [] (fun r2 sh2 μ2 => r2 = none ∧ sh2 = (SH n_) ∧ Sent n_ G bs p pd c cd μ μ2) := by
    intro s
    induction s with
    | zero =>
      intro k m q hm h2 hb hk hk0 hk1
      refine r_iload_n dL_send_97 rfl ?_
      refine r_bipush dL_send_98 (by decide) ?_
      refine q_icmp_ge (tgt := 113) dL_send_100 rfl (by omega) (by omega) (fun c100 => ?_) (fun c100 => ?_)
      · refine r_return dL_send_113 rfl rfl rfl ?_
        obtain rfl : k = 64 := by omega
        refine ⟨rfl, rfl, q, hm.mono ((Kp.rf _ _).sF (by (try dsimp only); omega)) rfl, h2, hb, ?_, (hk.mono (fun a h => by (try dsimp only at *); omega)).tr ((Kp.rf _ _).sF (by (try dsimp only); omega))⟩
        have e : m.1 188 = μ.1 188 := (hk 188 (by (try dsimp only); omega)).1
        refine hT.clear hl fun j hj => ?_
        show (if (188 : Nat) = 188 ∧ 0 ≤ j ∧ j < 64 then 0 else m.1 188 j) = _
        rw [e]
        by_cases h : j < 64
        · rw [if_pos ⟨rfl, hj, h⟩, if_pos h]
        · rw [if_neg (by omega), if_neg h]
      · exfalso; omega
    | succ s ih =>
      intro k m q hm h2 hb hk hk0 hk1
      refine r_iload_n dL_send_97 rfl ?_
      refine r_bipush dL_send_98 (by decide) ?_
      refine q_icmp_ge (tgt := 113) dL_send_100 rfl (by omega) (by omega) (fun c100 => ?_) (fun c100 => ?_)
      · exfalso; omega
      · refine r_aload_n dL_send_103 rfl ?_
        refine r_iload_n dL_send_104 rfl ?_
        refine r_iconst dL_send_105 ?_
        refine r_iast dL_send_106 (by assumption) rfl (by omega) ?_
        rw [fill_s _ _ hk0]
        refine r_iinc dL_send_107 rfl rfl ?_
        refine r_goto (tgt := 97) dL_send_110 rfl ?_
        exact ih (k + 1) m q hm h2 hb hk (by omega) (by omega)
  have loop : ∀ (s j : Nat) (k : Int) (q : Tq) (m : Mem), s + j = 13 → k = 1 + 5 * (j : Int) → 20 * j < bs.length + 20 → InX n_ m (setTap G q) p pd c cd → q.2 = 20 * (j : Int) → (∀ i : Nat, i < 20 * j → q.1 (i : Int) = bs.getD i 0) → Kp (fun a => 188 ≤ a) μ m → AW gL_send (SH n_) m 0 0 6 [some (vR 0), some (vR 188), some (vI (bs.length : Int)), some (vI k)] [] (fun r2 sh2 μ2 => r2 = none ∧ sh2 = (SH n_) ∧ Sent n_ G bs p pd c cd μ μ2) := by
    intro s
    induction s with
    | zero => intro j k q m hs; intros; exfalso; omega
    | succ s ih =>
      intro j k q m hs hk hj hm h2 hb hK
      have e188 : m.1 188 = μ.1 188 := (hK 188 (by (try dsimp only); omega)).1
      have hf : feedF (setTap G q) (μ.1 188 k) (μ.1 188 (k + 1)) (μ.1 188 (k + 2)) (μ.1 188 (k + 3)) (μ.1 188 (k + 4)) = (q.2 + 20, setTap G (put20 q (μ.1 188) k)) := by
        unfold feedF
        rw [if_neg (show ¬ 540 < q.2 + 20 by omega)]
        rfl
      have hfe := x_feed (n_ := n_) hm (v1 := μ.1 188 k) (v2 := μ.1 188 (k + 1)) (v3 := μ.1 188 (k + 2)) (v4 := μ.1 188 (k + 3)) (v5 := μ.1 188 (k + 4)) (hT.2.1 _ (by omega)) (hT.2.1 _ (by omega)) (hT.2.1 _ (by omega)) (hT.2.1 _ (by omega)) (hT.2.1 _ (by omega))
      rw [hf] at hfe
      have hen : ∀ m', InX n_ m' (setTap G q) p pd c cd → (bs.length : Int) ≤ q.2 → endF (setTap G q) (bs.length : Int) = (1, setTap G (q.1, (bs.length : Int))) := fun m' _ hq => by
        unfold endF
        rw [if_pos (show 0 ≤ (bs.length : Int) ∧ (bs.length : Int) ≤ q.2 by omega)]
      refine r_iconst dL_send_6 ?_
      refine r_iload_n dL_send_7 rfl ?_
      refine r_imul dL_send_8 ?_
      refine r_iconst dL_send_9 ?_
      refine r_isub dL_send_10 ?_
      refine r_iload_n dL_send_11 rfl ?_
      refine q_icmp_ge (tgt := 89) dL_send_12 rfl (by omega) (by omega) (fun c12 => ?_) (fun c12 => ?_)
      · refine r_aload_n dL_send_89 rfl ?_
        refine r_iload_n dL_send_90 rfl ?_
        refine r_cV1I dL_send_91 ml_L_21 yl_X11_end ⟨rfl, rfl⟩ (by assumption) ⟨_, rfl⟩ rfl rfl rfl rfl (x_end (n_ := n_) hm (n := (bs.length : Int)) (by omega)) ?_
        rintro x m2 ⟨-, hXS⟩
        rw [hen m hm (by omega)] at hXS
        refine r_pop dL_send_94 rfl ?_
        refine r_iconst dL_send_95 ?_
        refine r_istore_n dL_send_96 rfl ?_
        have q0 := last 64 0 m2 (q.1, (bs.length : Int)) hXS.1 rfl (fun i hi => hb i (by omega)) (hK.tr hXS.2.1) (by omega) (by omega)
        rw [fill_0] at q0
        exact q0
      · refine r_aload_n dL_send_15 rfl ?_
        refine r_aload_n dL_send_16 rfl ?_
        refine r_iload_n dL_send_17 rfl ?_
        refine r_iald dL_send_18 (by assumption) rfl (by omega) ?_
        rw [e188]
        refine r_iload_n dL_send_19 rfl ?_
        refine r_bipush dL_send_20 (by decide) ?_
        refine q_icmp_ge (tgt := 33) dL_send_22 rfl (by omega) (by omega) (fun c22 => ?_) (fun c22 => ?_)
        · exfalso; omega
        · refine r_aload_n dL_send_25 rfl ?_
          refine r_iload_n dL_send_26 rfl ?_
          refine r_iconst dL_send_27 ?_
          refine r_iadd dL_send_28 ?_
          refine r_iald dL_send_29 (by assumption) rfl (by omega) ?_
          rw [e188]
          refine r_goto (tgt := 34) dL_send_30 rfl ?_
          refine r_iload_n dL_send_34 rfl ?_
          refine r_bipush dL_send_35 (by decide) ?_
          refine q_icmp_ge (tgt := 48) dL_send_37 rfl (by omega) (by omega) (fun c37 => ?_) (fun c37 => ?_)
          · exfalso; omega
          · refine r_aload_n dL_send_40 rfl ?_
            refine r_iload_n dL_send_41 rfl ?_
            refine r_iconst dL_send_42 ?_
            refine r_iadd dL_send_43 ?_
            refine r_iald dL_send_44 (by assumption) rfl (by omega) ?_
            rw [e188]
            refine r_goto (tgt := 49) dL_send_45 rfl ?_
            refine r_iload_n dL_send_49 rfl ?_
            refine r_bipush dL_send_50 (by decide) ?_
            refine q_icmp_ge (tgt := 63) dL_send_52 rfl (by omega) (by omega) (fun c52 => ?_) (fun c52 => ?_)
            · exfalso; omega
            · refine r_aload_n dL_send_55 rfl ?_
              refine r_iload_n dL_send_56 rfl ?_
              refine r_iconst dL_send_57 ?_
              refine r_iadd dL_send_58 ?_
              refine r_iald dL_send_59 (by assumption) rfl (by omega) ?_
              rw [e188]
              refine r_goto (tgt := 64) dL_send_60 rfl ?_
              refine r_iload_n dL_send_64 rfl ?_
              refine r_bipush dL_send_65 (by decide) ?_
              refine q_icmp_ge (tgt := 78) dL_send_67 rfl (by omega) (by omega) (fun c67 => ?_) (fun c67 => ?_)
              · exfalso; omega
              · refine r_aload_n dL_send_70 rfl ?_
                refine r_iload_n dL_send_71 rfl ?_
                refine r_iconst dL_send_72 ?_
                refine r_iadd dL_send_73 ?_
                refine r_iald dL_send_74 (by assumption) rfl (by omega) ?_
                rw [e188]
                refine r_goto (tgt := 79) dL_send_75 rfl ?_
                refine r_cV5I dL_send_79 ml_L_15 yl_X11_feed ⟨rfl, rfl⟩ (by assumption) ⟨_, rfl⟩ rfl rfl rfl rfl (hfe) ?_
                rintro x m2 ⟨-, hXS⟩
                refine r_pop dL_send_82 rfl ?_
                refine r_iinc dL_send_83 rfl rfl ?_
                refine r_goto (tgt := 6) dL_send_86 rfl ?_
                refine ih (j + 1) (k + 5) (put20 q (μ.1 188) k) m2 (by omega) (by omega) (by omega) hXS.1 (by rw [put20_2]; omega) (fun i hi => ?_) (hK.tr hXS.2.1)
                by_cases h : i < 20 * j
                · rw [put20_lo (by omega)]
                  exact hb i h
                · have e1 : (i : Int) = q.2 + ((i - 20 * j : Nat) : Int) := by omega
                  rw [e1, put20_at (by omega)]
                  have e2 := hT.2.2 i
                  have e3 : (1 + ((i / 4 : Nat) : Int)) = k + (((i - 20 * j) / 4 : Nat) : Int) := by omega
                  have e4 : i % 4 = (i - 20 * j) % 4 := by omega
                  rw [e3, e4] at e2
                  exact e2
  refine AMet.of (by decide) rfl (by decide) rfl ?_
  refine r_aload_n dL_send_0 rfl ?_
  refine r_iconst dL_send_1 ?_
  refine r_iald dL_send_2 (by assumption) rfl (by omega) ?_
  rw [hT0]
  refine r_istore_n dL_send_3 rfl ?_
  refine r_iconst dL_send_4 ?_
  refine r_istore_n dL_send_5 rfl ?_
  exact loop 13 0 1 (gTp G, gTl G) μ (by omega) (by omega) (by omega) hX (by show gTl G = _; omega) (fun i hi => by omega) (Kp.rf _ _)

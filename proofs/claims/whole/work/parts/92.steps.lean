/-! 92.steps: each call, from both begun alike to both alike (wip/whole/src/92_steps.py) -/
def LwE (μ : Mem) (G : Gh) : Prop := ∃ p pd c cd, LwS μ G p pd c cd
/-- the class has answered, the reference not yet -/
def HX (μ : Mem) (G G' : Gh) : Prop := (∃ p pd c cd, InX μ G' p pd c cd ∧ TabOK μ p c (gRow G')) ∧ InM SH 188 μ G ∧ WF (gRow G) ∧ W99 (gRow G)
theorem AMet.imp {y : MethodName} {g : Gm} {sh : Sh} {vs : List AV} {μ : Mem} {P Q : Option AV → Sh → Mem → Prop} (h : AMet y g sh vs μ P) (hi : ∀ r s m, P r s m → Q r s m) : AMet y g sh vs μ Q := fun w l => by
  intro p e ha hc hk s m args below hf happ hP hK
  obtain ⟨n, o, h1, h2, h3, ⟨⟨r, sh2, μ2, e1, e2, e3⟩, h5⟩, h6⟩ := h w l p e ha hc hk s m args below hf happ hP hK
  exact ⟨n, o, h1, h2, h3, ⟨⟨r, sh2, μ2, e1, hi _ _ _ e2, e3⟩, h5⟩, h6⟩
theorem IMet.imp {y : MethodName} {g : Gm} {sh : Sh} {vs : List AV} {μ : Mem} {P Q : Int → Mem → Prop} (h : IMet y g sh vs μ P) (hi : ∀ x m, P x m → Q x m) : IMet y g sh vs μ Q := AMet.imp h fun r s m ⟨e, x, ex, hx⟩ => ⟨e, x, ex, hi x m hx⟩
theorem FMet.int {y : MethodName} {g : Gm} {sh : Sh} {vs : List AV} {μ : Mem} {a : Int} {Q : Int → Mem → Prop} (h : FMet y g sh vs μ (some (vI a)) μ) (hq : Q a μ) : IMet y g sh vs μ Q := AMet.imp h fun r s m ⟨e1, e2, e3⟩ => ⟨e2, a, e1, by rw [e3]; exact hq⟩
theorem IsModel.row {sh : Sh} {R R2 : IX} {m : Nat} (h : IsModel sh R m) (e : R2 m = R m) : IsModel sh R2 m := by
  unfold IsModel at *
  rw [e]
  exact h
theorem InM.kp {sh : Sh} {m : Nat} {μ μ2 : Mem} {G : Gh} (h : InM sh m μ G) (hk : Kp (fun a => m ≤ a) μ μ2) : InM sh m μ2 G := h.mc (Mc.kp hk) (h.1.row (hk m (by (try dsimp only); omega)).2.2)
theorem TabOK.kp {μ μ2 : Mem} {ρ ρ' : Row} {p c : Nat} (h : TabOK μ p c ρ) (hw : WFP ρ) (k1 : Kp (fun a => 172 ≤ a ∧ a < 182) μ μ2) (k2 : SameT ρ ρ') : TabOK μ2 p c ρ' := by
  obtain ⟨z, h⟩ := h
  refine ⟨⟨fun s s0 s1 => by rw [(k1 179 (by (try dsimp only); omega)).1]; exact z.1 s s0 s1, fun s s0 s1 => by rw [(k1 180 (by (try dsimp only); omega)).1]; exact z.2.1 s s0 s1, fun s s0 s1 => by rw [(k1 181 (by (try dsimp only); omega)).1]; exact z.2.2 s s0 s1⟩, ?_⟩
  have e := k1 172 (by (try dsimp only); omega)
  rcases h with h | ⟨a, b, d, f⟩
  · left
    rw [e.1]; exact h
  · right
    refine ⟨by rw [e.1]; exact a, by rw [e.2.2]; exact b, by rw [e.2.2]; exact d, ?_⟩
    rw [TL_inv hw k2, k2 11 (by omega) (by omega) (by omega)]
    exact f.ext (k1.mono (fun q hq => by (try dsimp only at *); omega))
theorem ZR.kp {μ μ2 : Mem} (z : ZR μ) (k1 : Kp (fun a => 173 ≤ a ∧ a < 182) μ μ2) : ZR μ2 := ⟨fun s s0 s1 => by rw [(k1 179 (by (try dsimp only); omega)).1]; exact z.1 s s0 s1, fun s s0 s1 => by rw [(k1 180 (by (try dsimp only); omega)).1]; exact z.2.1 s s0 s1, fun s s0 s1 => by rw [(k1 181 (by (try dsimp only); omega)).1]; exact z.2.2 s s0 s1⟩
section STEPS
variable {μ μ2 : Mem} {G G' : Gh} {p pd c cd : Nat}
theorem LwS.wf (h : LwS μ G p pd c cd) : WF (gRow G) ∧ W99 (gRow G) := h.1.2.2.1.2.2
theorem LwS.hx0 (h : LwS μ G p pd c cd) : HX μ G G := ⟨⟨p, pd, c, cd, h.1, h.2.1⟩, h.2.2, h.wf⟩
theorem LwS.xs (h : LwS μ G p pd c cd) (hx : XS μ μ2 G G' p pd c cd) : HX μ2 G G' := ⟨⟨p, pd, c, cd, hx.1, h.2.1.kept h.wf.1.1 hx.2.2.1 hx.2.2.2⟩, h.2.2.kp hx.2.1, h.wf⟩
theorem LwS.xt (h : LwS μ G p pd c cd) (hx : XT μ μ2 G' p pd c cd) : HX μ2 G G' := ⟨⟨p, pd, c, cd, hx.1, hx.2.2⟩, h.2.2.kp hx.2.1, h.wf⟩
theorem LwS.xn (h : LwS μ G p pd c cd) (hx : XN μ μ2 G G' p pd c cd) : HX μ2 G G' := by
  obtain ⟨p2, pd2, c2, cd2, hX, hk, ho⟩ := hx
  refine ⟨⟨p2, pd2, c2, cd2, hX, ?_⟩, h.2.2.kp hk, h.wf⟩
  rcases ho with ⟨k1, k2, e1, e2, e3, e4⟩ | ⟨k1, k2⟩
  · subst e1 e2 e3 e4
    exact h.2.1.kp h.wf.1.1 k1 k2
  · exact ⟨h.2.1.1.kp k2, Or.inl k1⟩
theorem HX.low (h : HX μ G G') (hk : Kp (fun a => a < 188) μ μ2) (hR : μ2.2 = μ.2) (hI : InM SH 188 μ2 G') : LwE μ2 G' := by
  obtain ⟨⟨p, pd, c, cd, hX, hT⟩, -, -⟩ := h
  exact ⟨p, pd, c, cd, hX.mono hk (by rw [hR]), hT.kp hX.2.2.1.2.2.1.1 (hk.mono (fun q hq => by (try dsimp only at *); omega)) (fun _ _ _ _ => rfl), hI⟩
theorem HX.ms (h : HX μ G G') (hm : MS SH 188 μ μ2 G') : LwE μ2 G' := h.low hm.2.1 hm.2.2 hm.1
theorem HX.sc (h : HX μ G G) (hm : Sc 188 μ μ2) : LwE μ2 G := h.ms (MS.sc h.2.1 hm)
theorem HX.fg (h : HX μ G G) (hm : FG 188 μ μ2) (hr : μ2.1 (188 + 1) = gRow G) : LwE μ2 G := h.ms (hm.ms h.2.1 (hr.trans h.2.1.2.1.1.symm))
theorem HX.eq (h : HX μ G G) : LwE μ G := h.low (Kp.rf _ _) rfl h.2.1
theorem LwE.rowq (h : LwS μ G p pd c cd) : μ.1 (188 + 1) = gRow G := h.2.2.2.1.1

theorem s1_feed (h : LwS μ G p pd c cd) {a b c1 d e : Int} (ha : -2147483648 ≤ a ∧ a < 2147483648) (hb : -2147483648 ≤ b ∧ b < 2147483648) (hc1 : -2147483648 ≤ c1 ∧ c1 < 2147483648) (hd : -2147483648 ≤ d ∧ d < 2147483648) (he : -2147483648 ≤ e ∧ e < 2147483648) : IMet yX11_feed gX11_feed SH [vR 0, vI a, vI b, vI c1, vI d, vI e] μ (fun x μ2 => x = (feedF G a b c1 d e).1 ∧ HX μ2 G (feedF G a b c1 d e).2) := IMet.imp (x_feed h.1 ha hb hc1 hd he) fun x m q => ⟨q.1, h.xs q.2⟩
theorem s2_feed {a b c1 d e : Int} (ha : -2147483648 ≤ a ∧ a < 2147483648) (hb : -2147483648 ≤ b ∧ b < 2147483648) (hc1 : -2147483648 ≤ c1 ∧ c1 < 2147483648) (hd : -2147483648 ≤ d ∧ d < 2147483648) (he : -2147483648 ≤ e ∧ e < 2147483648) (h : HX μ G (feedF G a b c1 d e).2) : IMet yX12_feed gX12_feed SH [vR 188, vI a, vI b, vI c1, vI d, vI e] μ (fun x μ2 => x = (feedF G a b c1 d e).1 ∧ LwE μ2 (feedF G a b c1 d e).2) := IMet.imp (m_feed h.2.1  ha hb hc1 hd he) fun x m q => ⟨q.1, h.ms q.2⟩
theorem s1_end (h : LwS μ G p pd c cd) {n : Int} (hn : -2147483648 ≤ n ∧ n < 2147483648) : IMet yX11_end gX11_end SH [vR 0, vI n] μ (fun x μ2 => x = (endF G n).1 ∧ HX μ2 G (endF G n).2) := IMet.imp (x_end h.1 hn) fun x m q => ⟨q.1, h.xs q.2⟩
theorem s2_end {n : Int} (hn : -2147483648 ≤ n ∧ n < 2147483648) (h : HX μ G (endF G n).2) : IMet yX12_end gX12_end SH [vR 188, vI n] μ (fun x μ2 => x = (endF G n).1 ∧ LwE μ2 (endF G n).2) := IMet.imp (m_end h.2.1  hn) fun x m q => ⟨q.1, h.ms q.2⟩
theorem s1_plane (h : LwS μ G p pd c cd)  : IMet yX11_plane gX11_plane SH [vR 0] μ (fun x μ2 => x = (planeF G).1 ∧ HX μ2 G (planeF G).2) := IMet.imp (x_plane h.1 ) fun x m q => ⟨q.1, h.xn q.2⟩
theorem s2_plane  (h : HX μ G (planeF G).2) : IMet yX12_plane gX12_plane SH [vR 188] μ (fun x μ2 => x = (planeF G).1 ∧ LwE μ2 (planeF G).2) := IMet.imp (m_plane h.2.1  ) fun x m q => ⟨q.1, h.ms q.2⟩
theorem s1_cargo (h : LwS μ G p pd c cd)  : IMet yX11_cargo gX11_cargo SH [vR 0] μ (fun x μ2 => x = (cargoF G).1 ∧ HX μ2 G (cargoF G).2) := IMet.imp (x_cargo h.1 ) fun x m q => ⟨q.1, h.xn q.2⟩
theorem s2_cargo  (h : HX μ G (cargoF G).2) : IMet yX12_cargo gX12_cargo SH [vR 188] μ (fun x μ2 => x = (cargoF G).1 ∧ LwE μ2 (cargoF G).2) := IMet.imp (m_cargo h.2.1  ) fun x m q => ⟨q.1, h.ms q.2⟩
theorem s1_fault (h : LwS μ G p pd c cd)  : IMet yX11_fault gX11_fault SH [vR 0] μ (fun x μ2 => x = gFk G ∧ HX μ2 G G) := FMet.int (x_fault h.1 ) ⟨rfl, h.hx0⟩
theorem s2_fault  (h : HX μ G G) : IMet yX12_fault gX12_fault SH [vR 188] μ (fun x μ2 => x = gFk G ∧ LwE μ2 G) := FMet.int (m_fault h.2.1 ) ⟨rfl, h.eq⟩
theorem s1_count (h : LwS μ G p pd c cd) {w : Int} (hw : -2147483648 ≤ w ∧ w < 2147483648) : IMet yX11_count gX11_count SH [vR 0, vI w] μ (fun x μ2 => x = countF (gRow G) (gTl G) w ∧ HX μ2 G G) := FMet.int (x_count h.1 hw) ⟨rfl, h.hx0⟩
theorem s2_count {w : Int} (hw : -2147483648 ≤ w ∧ w < 2147483648) (h : HX μ G G) : IMet yX12_count gX12_count SH [vR 188, vI w] μ (fun x μ2 => x = countF (gRow G) (gTl G) w ∧ LwE μ2 G) := by
  have e : μ.1 (188 + 1) = gRow G := h.2.1.2.1.1
  have e7 : μ.1 188 7 = gTl G := h.2.1.2.2.2.2.1.1
  have q := m_count h.2.1.1 (by rw [e]; exact h.2.2.1) hw
  rw [e, e7] at q
  exact FMet.int q ⟨rfl, h.eq⟩
theorem s1_pallet (h : LwS μ G p pd c cd) {k w : Int} (hk : -2147483648 ≤ k ∧ k < 2147483648) (hw : -2147483648 ≤ w ∧ w < 2147483648) : IMet yX11_pallet gX11_pallet SH [vR 0, vI k, vI w] μ (fun x μ2 => x = palletF (gRow G) k w ∧ HX μ2 G G) := FMet.int (x_pallet h.1 hk hw) ⟨rfl, h.hx0⟩
theorem s2_pallet {k w : Int} (hk : -2147483648 ≤ k ∧ k < 2147483648) (hw : -2147483648 ≤ w ∧ w < 2147483648) (h : HX μ G G) : IMet yX12_pallet gX12_pallet SH [vR 188, vI k, vI w] μ (fun x μ2 => x = palletF (gRow G) k w ∧ LwE μ2 G) := by
  have e : μ.1 (188 + 1) = gRow G := h.2.1.2.1.1
  have q := m_pallet h.2.1.1 (by rw [e]; exact h.2.2.1) hk hw
  rw [e] at q
  exact FMet.int q ⟨rfl, h.eq⟩
theorem s1_named (h : LwS μ G p pd c cd)  : IMet yX11_named gX11_named SH [vR 0] μ (fun x μ2 => x = (namedF G).1 ∧ HX μ2 G (namedF G).2) := IMet.imp (x_named h.1 ) fun x m q => ⟨q.1, h.xs q.2⟩
theorem s2_named  (h : HX μ G (namedF G).2) : IMet yX12_named gX12_named SH [vR 188] μ (fun x μ2 => x = (namedF G).1 ∧ LwE μ2 (namedF G).2) := IMet.imp (m_named h.2.1 h.2.2.1 ) fun x m q => ⟨q.1, h.ms q.2⟩
theorem s1_spot (h : LwS μ G p pd c cd) {k w : Int} (hk : -2147483648 ≤ k ∧ k < 2147483648) (hw : -2147483648 ≤ w ∧ w < 2147483648) : IMet yX11_spot gX11_spot SH [vR 0, vI k, vI w] μ (fun x μ2 => x = spotF (gRow G) k w ∧ HX μ2 G G) := FMet.int (x_spot h.1.now hk hw) ⟨rfl, h.hx0⟩
theorem s2_spot {k w : Int} (hk : -2147483648 ≤ k ∧ k < 2147483648) (hw : -2147483648 ≤ w ∧ w < 2147483648) (h : HX μ G G) : IMet yX12_spot gX12_spot SH [vR 188, vI k, vI w] μ (fun x μ2 => x = spotF (gRow G) k w ∧ LwE μ2 G) := by
  have e : μ.1 (188 + 1) = gRow G := h.2.1.2.1.1
  have q := m_spot h.2.1.1 (by rw [e]; exact h.2.2.1) hk hw
  rw [e] at q
  exact FMet.int q ⟨rfl, h.eq⟩
theorem s1_in (h : LwS μ G p pd c cd) {w k : Int} (hw : -2147483648 ≤ w ∧ w < 2147483648) (hk : -2147483648 ≤ k ∧ k < 2147483648) : IMet yX11_in gX11_in SH [vR 0, vI w, vI k] μ (fun x μ2 => x = inF (gRow G) w k ∧ HX μ2 G G) := FMet.int (x_in h.1.now hk hw) ⟨rfl, h.hx0⟩
theorem s2_in {w k : Int} (hw : -2147483648 ≤ w ∧ w < 2147483648) (hk : -2147483648 ≤ k ∧ k < 2147483648) (h : HX μ G G) : IMet yX12_in gX12_in SH [vR 188, vI w, vI k] μ (fun x μ2 => x = inF (gRow G) w k ∧ LwE μ2 G) := by
  have e : μ.1 (188 + 1) = gRow G := h.2.1.2.1.1
  have q := m_in h.2.1.1 (by rw [e]; exact h.2.2.1) hk hw
  rw [e] at q
  exact FMet.int q ⟨rfl, h.eq⟩
theorem s1_put (h : LwS μ G p pd c cd) {k s : Int} (hk : -2147483648 ≤ k ∧ k < 2147483648) (hs : -2147483648 ≤ s ∧ s < 2147483648) : IMet yX11_put gX11_put SH [vR 0, vI k, vI s] μ (fun x μ2 => x = (putF G k s).1 ∧ HX μ2 G (putF G k s).2) := IMet.imp (x_put h.1 hk hs) fun x m q => ⟨q.1, h.xs q.2⟩
theorem s2_put {k s : Int} (hk : -2147483648 ≤ k ∧ k < 2147483648) (hs : -2147483648 ≤ s ∧ s < 2147483648) (h : HX μ G (putF G k s).2) : IMet yX12_put gX12_put SH [vR 188, vI k, vI s] μ (fun x μ2 => x = (putF G k s).1 ∧ LwE μ2 (putF G k s).2) := IMet.imp (m_put h.2.1 h.2.2.1 hk hs) fun x m q => ⟨q.1, h.ms q.2⟩
theorem s1_off (h : LwS μ G p pd c cd) {k : Int} (hk : -2147483648 ≤ k ∧ k < 2147483648) : IMet yX11_off gX11_off SH [vR 0, vI k] μ (fun x μ2 => x = (offF G k).1 ∧ HX μ2 G (offF G k).2) := IMet.imp (x_off h.1 hk) fun x m q => ⟨q.1, h.xs q.2⟩
theorem s2_off {k : Int} (hk : -2147483648 ≤ k ∧ k < 2147483648) (h : HX μ G (offF G k).2) : IMet yX12_off gX12_off SH [vR 188, vI k] μ (fun x μ2 => x = (offF G k).1 ∧ LwE μ2 (offF G k).2) := IMet.imp (m_off h.2.1 h.2.2.1 hk) fun x m q => ⟨q.1, h.ms q.2⟩
theorem s1_pour (h : LwS μ G p pd c cd) {b n : Int} (hb : -2147483648 ≤ b ∧ b < 2147483648) (hn : -2147483648 ≤ n ∧ n < 2147483648) : IMet yX11_pour gX11_pour SH [vR 0, vI b, vI n] μ (fun x μ2 => x = (pourF G b n).1 ∧ HX μ2 G (pourF G b n).2) := IMet.imp (x_pour h.1 hb hn) fun x m q => ⟨q.1, h.xs q.2⟩
theorem s2_pour {b n : Int} (hb : -2147483648 ≤ b ∧ b < 2147483648) (hn : -2147483648 ≤ n ∧ n < 2147483648) (h : HX μ G (pourF G b n).2) : IMet yX12_pour gX12_pour SH [vR 188, vI b, vI n] μ (fun x μ2 => x = (pourF G b n).1 ∧ LwE μ2 (pourF G b n).2) := IMet.imp (m_pour h.2.1 h.2.2.1 hb hn) fun x m q => ⟨q.1, h.ms q.2⟩
theorem s1_why (h : LwS μ G p pd c cd)  : IMet yX11_why gX11_why SH [vR 0] μ (fun x μ2 => x = brokF (gRow G) ∧ HX μ2 G G) := FMet.int (x_why h.1.now ) ⟨rfl, h.hx0⟩
theorem s2_why  (h : HX μ G G) : IMet yX12_why gX12_why SH [vR 188] μ (fun x μ2 => x = brokF (gRow G) ∧ LwE μ2 G) := by
  have e : μ.1 (188 + 1) = gRow G := h.2.1.2.1.1
  have q := m_why h.2.1.1 (by rw [e]; exact h.2.2.1) 
  rw [e] at q
  exact IMet.imp q fun x m q => ⟨q.1, h.sc q.2⟩
theorem s1_where (h : LwS μ G p pd c cd)  : IMet yX11_where gX11_where SH [vR 0] μ (fun x μ2 => x = whereF (gRow G) ∧ HX μ2 G G) := FMet.int (x_where h.1.now ) ⟨rfl, h.hx0⟩
theorem s2_where  (h : HX μ G G) : IMet yX12_where gX12_where SH [vR 188] μ (fun x μ2 => x = whereF (gRow G) ∧ LwE μ2 G) := by
  have e : μ.1 (188 + 1) = gRow G := h.2.1.2.1.1
  have q := m_where h.2.1.1 (by rw [e]; exact h.2.2.1) 
  rw [e] at q
  exact IMet.imp q fun x m q => ⟨q.1, h.sc q.2⟩
theorem s1_stage (h : LwS μ G p pd c cd) {i w : Int} (hi : -2147483648 ≤ i ∧ i < 2147483648) (hw : -2147483648 ≤ w ∧ w < 2147483648) : IMet yX11_stage gX11_stage SH [vR 0, vI i, vI w] μ (fun x μ2 => x = stageF (gRow G) i w ∧ HX μ2 G G) := FMet.int (x_stage h.1.now hi hw) ⟨rfl, h.hx0⟩
theorem s2_stage {i w : Int} (hi : -2147483648 ≤ i ∧ i < 2147483648) (hw : -2147483648 ≤ w ∧ w < 2147483648) (h : HX μ G G) : IMet yX12_stage gX12_stage SH [vR 188, vI i, vI w] μ (fun x μ2 => x = stageF (gRow G) i w ∧ LwE μ2 G) := by
  have e : μ.1 (188 + 1) = gRow G := h.2.1.2.1.1
  have q := m_stage h.2.1.1 (by rw [e]; exact h.2.2.1) hi hw
  rw [e] at q
  exact IMet.imp q fun x m q => ⟨q.1, h.sc q.2⟩
theorem s1_blocks (h : LwS μ G p pd c cd) {k : Int} (hk : -2147483648 ≤ k ∧ k < 2147483648) : IMet yX11_blocks gX11_blocks SH [vR 0, vI k] μ (fun x μ2 => x = blocksF (gRow G) k ∧ HX μ2 G G) := FMet.int (x_blocks h.1.now hk) ⟨rfl, h.hx0⟩
theorem s2_blocks {k : Int} (hk : -2147483648 ≤ k ∧ k < 2147483648) (h : HX μ G G) : IMet yX12_blocks gX12_blocks SH [vR 188, vI k] μ (fun x μ2 => x = blocksF (gRow G) k ∧ LwE μ2 G) := by
  have e : μ.1 (188 + 1) = gRow G := h.2.1.2.1.1
  have q := m_blocks h.2.1.1 (by rw [e]; exact h.2.2.1) hk
  rw [e] at q
  exact FMet.int q ⟨rfl, h.eq⟩
theorem s1_loadings (h : LwS μ G p pd c cd)  : IMet yX11_loadings gX11_loadings SH [vR 0] μ (fun x μ2 => x = ((GL (gRow G)).length : Int) ∧ HX μ2 G G) := IMet.imp (x_loadings h.1 h.2.1 ) fun x m q => ⟨q.1, h.xt q.2⟩
theorem s2_loadings  (h : HX μ G G) : IMet yX12_loadings gX12_loadings SH [vR 188] μ (fun x μ2 => x = ((GL (gRow G)).length : Int) ∧ LwE μ2 G) := IMet.imp (m_loadings h.2.1.1 h.2.1.2.1.1 h.2.2.1 ) fun x m q => ⟨q.1, h.fg q.2.1 q.2.2⟩
theorem s1_loading (h : LwS μ G p pd c cd) {i k : Int} (hi : -2147483648 ≤ i ∧ i < 2147483648) (hk : -2147483648 ≤ k ∧ k < 2147483648) : IMet yX11_loading gX11_loading SH [vR 0, vI i, vI k] μ (fun x μ2 => x = loadF (gRow G) i k ∧ HX μ2 G G) := IMet.imp (x_loading h.1 h.2.1 hi hk) fun x m q => ⟨q.1, h.xt q.2⟩
theorem s2_loading {i k : Int} (hi : -2147483648 ≤ i ∧ i < 2147483648) (hk : -2147483648 ≤ k ∧ k < 2147483648) (h : HX μ G G) : IMet yX12_loading gX12_loading SH [vR 188, vI i, vI k] μ (fun x μ2 => x = loadF (gRow G) i k ∧ LwE μ2 G) := IMet.imp (m_loading h.2.1.1 h.2.1.2.1.1 h.2.2.1 hi hk) fun x m q => ⟨q.1, h.fg q.2.1 q.2.2⟩
theorem s1_poured (h : LwS μ G p pd c cd) {i b : Int} (hi : -2147483648 ≤ i ∧ i < 2147483648) (hb : -2147483648 ≤ b ∧ b < 2147483648) : IMet yX11_poured gX11_poured SH [vR 0, vI i, vI b] μ (fun x μ2 => x = pourdF (gRow G) i b ∧ HX μ2 G G) := IMet.imp (x_poured h.1 h.2.1 hi hb) fun x m q => ⟨q.1, h.xt q.2⟩
theorem s2_poured {i b : Int} (hi : -2147483648 ≤ i ∧ i < 2147483648) (hb : -2147483648 ≤ b ∧ b < 2147483648) (h : HX μ G G) : IMet yX12_poured gX12_poured SH [vR 188, vI i, vI b] μ (fun x μ2 => x = pourdF (gRow G) i b ∧ LwE μ2 G) := IMet.imp (m_poured h.2.1.1 h.2.1.2.1.1 h.2.2.1 hi hb) fun x m q => ⟨q.1, h.fg q.2.1 q.2.2⟩
theorem s1_take (h : LwS μ G p pd c cd) {i : Int} (hi : -2147483648 ≤ i ∧ i < 2147483648) : IMet yX11_take gX11_take SH [vR 0, vI i] μ (fun x μ2 => x = (takeF G i).1 ∧ HX μ2 G (takeF G i).2) := IMet.imp (x_take h.1 h.2.1 hi) fun x m q => ⟨q.1, h.xt q.2⟩
theorem s2_take {i : Int} (hi : -2147483648 ≤ i ∧ i < 2147483648) (h : HX μ G (takeF G i).2) : IMet yX12_take gX12_take SH [vR 188, vI i] μ (fun x μ2 => x = (takeF G i).1 ∧ LwE μ2 (takeF G i).2) := IMet.imp (m_take h.2.1 h.2.2.1 hi) fun x m q => ⟨q.1, h.ms q.2⟩
theorem s1_handlings (h : LwS μ G p pd c cd) {i : Int} (hi : -2147483648 ≤ i ∧ i < 2147483648) : IMet yX11_handlings gX11_handlings SH [vR 0, vI i] μ (fun x μ2 => x = handF (gRow G) i ∧ HX μ2 G G) := IMet.imp (x_handlings h.1 h.2.1 hi) fun x m q => ⟨q.1, h.xt q.2⟩
theorem s2_handlings {i : Int} (hi : -2147483648 ≤ i ∧ i < 2147483648) (h : HX μ G G) : IMet yX12_handlings gX12_handlings SH [vR 188, vI i] μ (fun x μ2 => x = handF (gRow G) i ∧ LwE μ2 G) := IMet.imp (m_handlings h.2.1.1 h.2.1.2.1.1 h.2.2.1 hi) fun x m q => ⟨q.1, h.fg q.2.1 q.2.2⟩
theorem s1_mend (h : LwS μ G p pd c cd)  : IMet yX11_mend gX11_mend SH [vR 0] μ (fun x μ2 => x = (mendF G).1 ∧ HX μ2 G (mendF G).2) := IMet.imp (x_mend h.1 h.2.1 ) fun x m q => ⟨q.1, h.xt q.2⟩
theorem s2_mend  (h : HX μ G (mendF G).2) : IMet yX12_mend gX12_mend SH [vR 188] μ (fun x μ2 => x = (mendF G).1 ∧ LwE μ2 (mendF G).2) := IMet.imp (m_mend h.2.1 h.2.2.1 ) fun x m q => ⟨q.1, h.ms q.2⟩
theorem s1_move (h : LwS μ G p pd c cd) {i : Int} (hi : -2147483648 ≤ i ∧ i < 2147483648) : IMet yX11_move gX11_move SH [vR 0, vI i] μ (fun x μ2 => x = moveF G i ∧ HX μ2 G G) := FMet.int (x_move h.1 hi) ⟨rfl, h.hx0⟩
theorem s2_move {i : Int} (hi : -2147483648 ≤ i ∧ i < 2147483648) (h : HX μ G G) : IMet yX12_move gX12_move SH [vR 188, vI i] μ (fun x μ2 => x = moveF G i ∧ LwE μ2 G) := FMet.int (m_move h.2.1 hi) ⟨rfl, h.eq⟩
theorem s1_mended (h : LwS μ G p pd c cd)  : IMet yX11_mended gX11_mended SH [vR 0] μ (fun x μ2 => x = (mendedF G).1 ∧ HX μ2 G (mendedF G).2) := IMet.imp (x_mended h.1 h.2.1 ) fun x m q => ⟨q.1, h.xt q.2⟩
theorem s2_mended  (h : HX μ G (mendedF G).2) : IMet yX12_mended gX12_mended SH [vR 188] μ (fun x μ2 => x = (mendedF G).1 ∧ LwE μ2 (mendedF G).2) := IMet.imp (m_mended h.2.1 h.2.2.1 ) fun x m q => ⟨q.1, h.ms q.2⟩
theorem s1_spare (h : LwS μ G p pd c cd) {k : Int} (hk : -2147483648 ≤ k ∧ k < 2147483648) : IMet yX11_spare gX11_spare SH [vR 0, vI k] μ (fun x μ2 => x = spareF (gRow G) k ∧ HX μ2 G G) := FMet.int (x_spare h.1.now ⟨by have := h.1.2.1.1; omega, by have := h.1.2.1.2.1; omega⟩ h.wf.2 hk) ⟨rfl, h.hx0⟩
theorem s2_spare {k : Int} (hk : -2147483648 ≤ k ∧ k < 2147483648) (h : HX μ G G) : IMet yX12_spare gX12_spare SH [vR 188, vI k] μ (fun x μ2 => x = spareF (gRow G) k ∧ LwE μ2 G) := IMet.imp (m_spareR h.2.1.1 h.2.1.2.1.1 h.2.2.1 h.2.2.2 hk) fun x m q => ⟨q.1, h.sc q.2⟩
theorem s1_swaps (h : LwS μ G p pd c cd)  : IMet yX11_swaps gX11_swaps SH [vR 0] μ (fun x μ2 => x = swapsF (gRow G) ∧ HX μ2 G G) := FMet.int (x_swaps h.1.now ⟨by have := h.1.2.1.1; omega, by have := h.1.2.1.2.1; omega⟩  ) ⟨rfl, h.hx0⟩
theorem s2_swaps  (h : HX μ G G) : IMet yX12_swaps gX12_swaps SH [vR 188] μ (fun x μ2 => x = swapsF (gRow G) ∧ LwE μ2 G) := by
  have e : μ.1 (188 + 1) = gRow G := h.2.1.2.1.1
  have q := m_swapsR h.2.1.1 (by rw [e]; exact h.2.2.1) 
  rw [e] at q
  exact IMet.imp q fun x m q => ⟨q.1, h.sc q.2⟩
theorem s1_come (h : LwS μ G p pd c cd) {w t : Int} (hw : -2147483648 ≤ w ∧ w < 2147483648) (ht : -2147483648 ≤ t ∧ t < 2147483648) : IMet yX11_come gX11_come SH [vR 0, vI w, vI t] μ (fun x μ2 => x = (comeF G w t).1 ∧ HX μ2 G (comeF G w t).2) := IMet.imp (x_come h.1 hw ht) fun x m q => ⟨q.1, h.xs q.2⟩
theorem s2_come {w t : Int} (hw : -2147483648 ≤ w ∧ w < 2147483648) (ht : -2147483648 ≤ t ∧ t < 2147483648) (h : HX μ G (comeF G w t).2) : IMet yX12_come gX12_come SH [vR 188, vI w, vI t] μ (fun x μ2 => x = (comeF G w t).1 ∧ LwE μ2 (comeF G w t).2) := IMet.imp (m_come h.2.1 h.2.2.1 hw ht) fun x m q => ⟨q.1, h.ms q.2⟩
theorem s1_drop (h : LwS μ G p pd c cd) {k : Int} (hk : -2147483648 ≤ k ∧ k < 2147483648) : IMet yX11_drop gX11_drop SH [vR 0, vI k] μ (fun x μ2 => x = (dropF G k).1 ∧ HX μ2 G (dropF G k).2) := IMet.imp (x_drop h.1 hk) fun x m q => ⟨q.1, h.xs q.2⟩
theorem s2_drop {k : Int} (hk : -2147483648 ≤ k ∧ k < 2147483648) (h : HX μ G (dropF G k).2) : IMet yX12_drop gX12_drop SH [vR 188, vI k] μ (fun x μ2 => x = (dropF G k).1 ∧ LwE μ2 (dropF G k).2) := IMet.imp (m_drop h.2.1 h.2.2.1 hk) fun x m q => ⟨q.1, h.ms q.2⟩
theorem s1_again (h : LwS μ G p pd c cd) {k : Int} (hk : -2147483648 ≤ k ∧ k < 2147483648) : IMet yX11_again gX11_again SH [vR 0, vI k] μ (fun x μ2 => x = (againF G k).1 ∧ HX μ2 G (againF G k).2) := IMet.imp (x_again h.1 hk) fun x m q => ⟨q.1, h.xs q.2⟩
theorem s2_again {k : Int} (hk : -2147483648 ≤ k ∧ k < 2147483648) (h : HX μ G (againF G k).2) : IMet yX12_again gX12_again SH [vR 188, vI k] μ (fun x μ2 => x = (againF G k).1 ∧ LwE μ2 (againF G k).2) := IMet.imp (m_again h.2.1 h.2.2.1 hk) fun x m q => ⟨q.1, h.ms q.2⟩
theorem s1_weigh (h : LwS μ G p pd c cd) {k w : Int} (hk : -2147483648 ≤ k ∧ k < 2147483648) (hw : -2147483648 ≤ w ∧ w < 2147483648) : IMet yX11_weigh gX11_weigh SH [vR 0, vI k, vI w] μ (fun x μ2 => x = (weighF G k w).1 ∧ HX μ2 G (weighF G k w).2) := IMet.imp (x_weigh h.1 hk hw) fun x m q => ⟨q.1, h.xs q.2⟩
theorem s2_weigh {k w : Int} (hk : -2147483648 ≤ k ∧ k < 2147483648) (hw : -2147483648 ≤ w ∧ w < 2147483648) (h : HX μ G (weighF G k w).2) : IMet yX12_weigh gX12_weigh SH [vR 188, vI k, vI w] μ (fun x μ2 => x = (weighF G k w).1 ∧ LwE μ2 (weighF G k w).2) := IMet.imp (m_weigh h.2.1 h.2.2.1 hk hw) fun x m q => ⟨q.1, h.ms q.2⟩
theorem s1_undo (h : LwS μ G p pd c cd)  : IMet yX11_undo gX11_undo SH [vR 0] μ (fun x μ2 => x = (undoF G).1 ∧ HX μ2 G (undoF G).2) := IMet.imp (x_undo h.1 ) fun x m q => ⟨q.1, h.xs q.2⟩
theorem s2_undo  (h : HX μ G (undoF G).2) : IMet yX12_undo gX12_undo SH [vR 188] μ (fun x μ2 => x = (undoF G).1 ∧ LwE μ2 (undoF G).2) := IMet.imp (m_undo h.2.1  ) fun x m q => ⟨q.1, h.ms q.2⟩
theorem s1_image (h : LwS μ G p pd c cd) {k : Int} (hk : -2147483648 ≤ k ∧ k < 2147483648) : IMet yX11_image gX11_image SH [vR 0, vI k] μ (fun x μ2 => x = (imageF G k).1 ∧ HX μ2 G (imageF G k).2) := IMet.imp (x_image h.1 hk) fun x m q => ⟨q.1, h.xs q.2⟩
theorem s2_image {k : Int} (hk : -2147483648 ≤ k ∧ k < 2147483648) (h : HX μ G (imageF G k).2) : IMet yX12_image gX12_image SH [vR 188, vI k] μ (fun x μ2 => x = (imageF G k).1 ∧ LwE μ2 (imageF G k).2) := IMet.imp (m_image h.2.1  hk) fun x m q => ⟨q.1, h.ms q.2⟩
theorem s1_restore (h : LwS μ G p pd c cd) {k : Int} (hk : -2147483648 ≤ k ∧ k < 2147483648) : IMet yX11_restore gX11_restore SH [vR 0, vI k] μ (fun x μ2 => x = (restF G k).1 ∧ HX μ2 G (restF G k).2) := IMet.imp (x_restore h.1 hk) fun x m q => ⟨q.1, h.xs q.2⟩
theorem s2_restore {k : Int} (hk : -2147483648 ≤ k ∧ k < 2147483648) (h : HX μ G (restF G k).2) : IMet yX12_restore gX12_restore SH [vR 188, vI k] μ (fun x μ2 => x = (restF G k).1 ∧ LwE μ2 (restF G k).2) := IMet.imp (m_restore h.2.1  hk) fun x m q => ⟨q.1, h.ms q.2⟩
end STEPS

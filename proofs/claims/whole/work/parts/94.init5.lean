/-! the constructor of the component -/
theorem ii_X0 : Cond.instanceMethod yX0_init ∈ TB := tb_t 90 (by decide +kernel) (by decide +kernel)
theorem ia_X0 : Cond.instantiable RX0 3 ∈ TB := tb_t 88 (by decide +kernel) (by decide +kernel)
theorem iz_X0 : Cond.initialized RX0 ∈ TB := tb_t 3 (by decide +kernel) (by decide +kernel)
theorem ii_X1 : Cond.instanceMethod yX1_init ∈ TB := tb_t 133 (by decide +kernel) (by decide +kernel)
theorem ia_X1 : Cond.instantiable RX1 5 ∈ TB := tb_t 131 (by decide +kernel) (by decide +kernel)
theorem iz_X1 : Cond.initialized RX1 ∈ TB := tb_t 5 (by decide +kernel) (by decide +kernel)
theorem ii_X2 : Cond.instanceMethod yX2_init ∈ TB := tb_t 106 (by decide +kernel) (by decide +kernel)
theorem ia_X2 : Cond.instantiable RX2 6 ∈ TB := tb_t 104 (by decide +kernel) (by decide +kernel)
theorem iz_X2 : Cond.initialized RX2 ∈ TB := tb_t 4 (by decide +kernel) (by decide +kernel)
theorem ii_X3 : Cond.instanceMethod yX3_init ∈ TB := tb_t 29 (by decide +kernel) (by decide +kernel)
theorem ia_X3 : Cond.instantiable RX3 15 ∈ TB := tb_t 27 (by decide +kernel) (by decide +kernel)
theorem iz_X3 : Cond.initialized RX3 ∈ TB := tb_t 2 (by decide +kernel) (by decide +kernel)
theorem ii_X5 : Cond.instanceMethod yX5_init ∈ TB := tb_t 21 (by decide +kernel) (by decide +kernel)
theorem ia_X5 : Cond.instantiable RX5 12 ∈ TB := tb_t 19 (by decide +kernel) (by decide +kernel)
theorem iz_X5 : Cond.initialized RX5 ∈ TB := tb_t 1 (by decide +kernel) (by decide +kernel)
theorem ii_X6 : Cond.instanceMethod yX6_init ∈ TB := tb_t 841 (by decide +kernel) (by decide +kernel)
theorem ia_X6 : Cond.instantiable RX6 43 ∈ TB := tb_t 839 (by decide +kernel) (by decide +kernel)
theorem iz_X6 : Cond.initialized RX6 ∈ TB := tb_t 6 (by decide +kernel) (by decide +kernel)
theorem cl_X3 : Cond.classLink RX5 9 RX3 ∈ TB := tb_t 26 (by decide +kernel) (by decide +kernel)
theorem cl_X0 : Cond.classLink RX5 18 RX0 ∈ TB := tb_t 87 (by decide +kernel) (by decide +kernel)
theorem cl_X2 : Cond.classLink RX5 25 RX2 ∈ TB := tb_t 103 (by decide +kernel) (by decide +kernel)
theorem cl_X1 : Cond.classLink RX5 32 RX1 ∈ TB := tb_t 129 (by decide +kernel) (by decide +kernel)
def NW (U : State) : Prop := va_Nw (.methodLinkNest RX5 11 yX3_init RX5) U ∧ va_Nw (.methodLinkNest RX5 20 yX0_init RX5) U ∧ va_Nw (.methodLinkNest RX5 27 yX2_init RX5) U ∧ va_Nw (.methodLinkNest RX5 42 yX1_init RX5) U ∧ va_AO "FanCones$Fan" U
theorem NW.warm {s U : State} (hW : s.WarmedH U.vm) (h : NW s) : NW U := ⟨va_Nw.warmM hW h.1, va_Nw.warmM hW h.2.1, va_Nw.warmM hW h.2.2.1, va_Nw.warmM hW h.2.2.2.1, va_AO.moved hW.alike h.2.2.2.2⟩
theorem NW.same {u U : State} (hv : u.vm = U.vm) (h : NW u) : NW U := ⟨va_Nw.same rfl hv h.1, va_Nw.same rfl hv h.2.1, va_Nw.same rfl hv h.2.2.1, va_Nw.same rfl hv h.2.2.2.1, va_AO.moved (by rw [hv]; exact Vm.Alike.refl _) h.2.2.2.2⟩
def KW (K : KT) (i : Nat) (y : MethodName) : Prop := va_Nw (.methodLinkNest RX5 i y RX5) K.2.2.2.2.1
def TrW (d : Nat) (M : MI) (av : List Vv) (n n2 mc ms : Nat) (mu : Mem) (Qf : Option Vv → Mem → Prop) : Prop :=
  ∀ (l : Launch) (G : Gv), Met l M.1 (wc M :: TB) (rmD d mc ms) (va_Pc (av.map (cv (gb G))) (fun U => PW G n mu U ∧ NW U)) (QC G n2 Qf) mc ms (AG G)
theorem TrW.of {d n n2 mc ms : Nat} {M : MI} {av : List Vv} {mu : Mem} {Qf : Option Vv → Mem → Prop} (hy : plainFor M.1 = true) (hlen : (entL av).length ≤ M.2.2.1) (hnm : M.1.name = "<init>")
    (body : ∀ K : KT, CX K (n, 0, 0) M d → CR K (n2, mc, ms) M Qf → (n < NC → KZ K (n, 0, 0)) → (mc ≤ (KR K).cells ∧ ms ≤ (KR K).slots) → KN K → NW K.2.2.2.2.1 → AW K M (n, 0, 0) 0 (padL M.2.2.1 (entL av)) [] mu) : TrW d M av n n2 mc ms mu Qf := by
  intro l G
  refine MetFree.of_bodySF (code := M.2.1) (maxLocals := M.2.2.1) (ret := M.2.2.2) hy (fun args s m h hn => ?_) (fun p e s m args below meth c s₁ B hml hv _ => ?_)
  · obtain ⟨meth, c, h1, h2, h3, h4, h5, h6, -, -⟩ := Cond.code_spec hn (atoms_spec (ws := wc M :: TB) h _ List.mem_cons_self)
    exact ⟨meth, c, h1, h2, h3, h4, h5, h6⟩
  · obtain ⟨rfl, ⟨hWD, hKK, hgb, hsz⟩, hNW⟩ := hv
    have hts := atoms_spec (ws := wc M :: TB) B.pre
    have hown : s.vm.findClass M.1.cls = some m.cls := findClass_of_methodNamed B.named
    have hin : meth.name = "<init>" := (name_of_methodNamed B.named B.method).1.trans hnm
    have hl := lv_entry (av.map (cv (gb G))) (n := M.2.2.1) (by rw [entL_len]; exact hlen)
    have hW := body (p, l, e, rmD d mc ms, s, m, _, below, meth, c, G, MQ below (QC G n2 Qf) _ s mc ms (AG G)) ⟨B.exec, B.bytes, hml, hown, fun w hw => hts w (List.mem_cons_of_mem _ hw), hKK, B.notSynchronized, hgb, ⟨Nat.le_refl _, Nat.le_refl _⟩, ⟨Nat.zero_le _, Nat.zero_le _⟩⟩ ⟨B.returns, rfl⟩ (fun h => hsz h) ⟨Nat.le_refl _, Nat.le_refl _⟩ hin hNW _ s.heap [] (LH.entry hl) hWD va_S.rf
    rw [lg_entry_eq]
    obtain ⟨t, a1, o, b1, b2, b3⟩ := hW s₁ (by rw [B.state]; rfl) (Stand.of_body B)
    exact ⟨t, o, a1, b1, b2, ⟨b3.1, b3.2⟩⟩
section Makers2
variable {K : KT} {M : MI} {w : Nat × Nat × Nat} {pc dd : Nat} {L S : List Vv} {mu : Mem} {Qf : Option Vv → Mem → Prop}
/-- a maker of the nest is called -/
theorem aw_callIN (C : CX K w M dd) (hz : KZ K w) {i k d n2 mc ms : Nat} {M2 : MI} (hd : decode M.2.1 pc = .ok (.invokespecial i, 3)) (hown5 : M.1.cls = RX5) (hl : KW K i M2.1) (hin : Cond.instanceMethod M2.1 ∈ TB) (hini : Cond.initialized M2.1.cls ∈ TB) (hv : wc M2 ∈ TB ∧ okn M2 0) (hnm : M2.1.name = "<init>") (hret : M2.2.2.2 = none) (ht : TrN d M2 [vr k] w.1 n2 mc ms mu Qf) (hr : d + 1 ≤ dd ∧ 19 + M2.2.2.1 + 38 * d ≤ 38 * dd) (hrest : wsum S ≤ 8) (hrm : w.2.1 + mc ≤ (KR K).cells ∧ w.2.2 + ms ≤ (KR K).slots)
    (kk : ∀ r mu2, Qf r mu2 → AW K M (n2, w.2.1 + mc, w.2.2 + ms) (pc + 3) L (r.toList ++ S) mu2) : AW K M w pc L (vr k :: S) mu := by
  obtain ⟨p, l, e, R, s, m, args, below, meth, c, G, Q⟩ := K
  obtain ⟨hx, hb, hml, hown, hts, hK, hlk, hgb, hRm, hw⟩ := C
  intro ls H locs hLL hW hS
  have hz : s.heap.size + w.2.1 = gb G + w.1 := hz
  obtain ⟨v4, v5⟩ := hv
  refine w_sz (fun hsz => ?_)
  have hl2 : va_Nw (.methodLinkNest M.1.cls i M2.1 RX5) s := by rw [hown5]; exact hl
  have hcb := va_cnB (R := R) (s := s) (args := args) (own := M.1.cls) (host := RX5) (index := i) (rm := rmD d mc ms) (mc := mc) (ms := ms) 0 hts (good_tb v4) rfl rfl rfl hl2 (hts _ hini) v5 ⟨Nat.le_trans hr.1 hRm.1, Nat.le_trans (by show 8 + (M2.2.2.1 + 11) + 38 * d ≤ 38 * dd; omega) hRm.2⟩
  rw [hret] at hcb
  have hsz2 : w.1 < NC → H.size = gb G + w.1 := fun h => by
    rcases Nat.eq_zero_or_pos w.1 with h0 | h0
    · have := hS.1
      omega
    · have h1 := (hW.1 (w.1 - 1) _ (wl_at (G := G) (mu := mu) (show w.1 - 1 < w.1 by omega))).lt
      have h2 : gb G + (w.1 - 1) < H.size := h1
      omega
  exact call_on (va_runIN (As := []) (b := gb G + k) ⟨hx, hb, hml, hown, hts⟩ (ht l G) ⟨hcb, hnm, hts _ hin⟩ ⟨PW.blind G w.1 mu _, fun U hU hWm => ⟨rfl, by rw [hU]; exact hW, va_K.moved hWm.alike hK, by rw [hU]; exact Nat.le_trans hgb hS.1, fun h => by rw [hU]; exact hsz2 h⟩⟩ rfl rfl hLL.1 (by simp [F0, cv, vr]) (lv_room (by rw [wsum_ok]; exact hrest)) hd hrm) hLL hS kk
/-- a fan put into the row of the past while the cells are made -/
theorem aw_aastN (C : CX K w M dd) {f : Nat} {x : Int} (hd : decode M.2.1 pc = .ok (.aastore, 1)) (hn : w.1 < NC) (hF : isF f) (h14 : 14 < w.1) (hf : f < w.1) (h0 : 0 ≤ x) (h1 : x < 8) (kk : AW K M w (pc + 1) L S (wr mu 14 x.toNat (f : Int))) : AW K M w pc L (vr f :: vi x :: vr 14 :: S) mu := by
  obtain ⟨p, l, e, R, s, m, args, below, meth, c, G, Q⟩ := K
  obtain ⟨hx, hb, hml, hown, hts, hK, hlk, hgb, hRm, hw⟩ := C
  intro ls H locs hLL hW hS
  have he := wl_at (G := G) (mu := mu) (n := w.1) (k := 14) h14
  rw [show shp 14 = (13, 8) from rfl, ent_q] at he
  have hv := wl_at (G := G) (mu := mu) (n := w.1) (k := f) hf
  rw [hF.s0.1, ent_o G (by decide)] at hv
  refine va_astq (D := (G.1, G.2.1)) (A := AG G) (r := (RX1, TX1, 5)) hx hb hK hW.1 (wl_D G _ _) hS 14 3 f 1 he rfl hv rfl (i_in (n := 8) h0 (by omega) (by decide)) hd (fun H1 locs1 hP1 _ hS1 => ?_)
  rw [wl_set (mu2 := wr mu 14 x.toNat (f : Int)) (fun a ha => wr_ne ha) (by
    rw [show shp 14 = (13, 8) from rfl, ent_q, wr_self, i_cl (by unfold R32; omega) h0]
    congr 8
    funext a
    by_cases ha : a = x.toNat
    · dsimp only; rw [if_pos ha]; subst ha; simp [va_up, rfo]
    · dsimp only; rw [if_neg ha]; simp [va_up, ha])] at hP1
  exact kk ls H1 locs1 hLL ⟨hP1, fun q => absurd q (Nat.ne_of_lt hn)⟩ hS1
end Makers2

/-! the law's own letter: it calls, and catches -/
theorem TX.to {G : Gv} {s U : State} {H : Heap} (h : TX G s s.heap) (hW : s.WarmedH U.vm) (hq : ∀ a : Nat, a < s.heap.size → ¬ AG G a → H[a]? = s.heap[a]?) : TX G U H := by
  obtain ⟨h1, h2, h3⟩ := h
  exact ⟨vx_Zq.moved hW.alike (h1.kept hq), vx_Zq.moved hW.alike (h2.kept hq), h3.warm hW⟩
theorem PTX.blind (G : Gv) (n : Nat) (mu : Mem) (av : List Value) : FrameBlind (va_Pc av (fun U => PW G n mu U ∧ TX G U U.heap)) := by
  intro a U g mk q
  obtain ⟨q0, ⟨q1, q2, q3, q4⟩, t1, t2, t3⟩ := q
  exact ⟨q0, ⟨q1, va_K.moved (u := U) (U := U.calling g mk a) (Vm.Alike.refl U.vm) q2, q3, q4⟩, vx_Zq.moved (u := U) (U := U.calling g mk a) (Vm.Alike.refl U.vm) t1, vx_Zq.moved (u := U) (U := U.calling g mk a) (Vm.Alike.refl U.vm) t2, BX.same (u := U) rfl t3⟩
/-- a call of a method that may throw -/
theorem aw_callT {p : Program} {l : Launch} {e : Env} {R : Room} {s : State} {m : MethodId} {args : Array Value} {below : List Frame} {meth : Method} {c : Code} {G : Gv} {Q : State → Prop} {M : MI} {w2 w3 pc dd : Nat} {L S : List Vv} {mu : Mem} {Qf : Option Vv → Mem → Prop} {Px : Prop} (C : CX (p, l, e, R, s, m, args, below, meth, c, G, Q) (NC, w2, w3) M dd) (hst0 : l.stackTraces = false) (hT : TX G s s.heap) {i n k d ci : Nat} {M2 : MI} {As St : List Vv} (hd : decode M.2.1 pc = .ok (.invokevirtual i, 3)) (hl : ML M.1.cls i M2) (hv : MV M2 n) (ht : TrX d M2 (vr k :: As) mu Qf Px) (hst : St = As.reverse ++ vr k :: S) (hn : As.length = n) (hs : Sh NC k ci 0) (hc : (vwCl[ci]?).map (fun q => q.1) = some M2.1.cls)
    (hr : d + 1 ≤ dd ∧ 19 + M2.2.2.1 + 38 * d ≤ 38 * dd) (hrest : wsum S ≤ 8) (hrm : w2 + 1 ≤ R.cells ∧ w3 + 6 ≤ R.slots)
    (kk : ∀ r mu2, Qf r mu2 → AW (p, l, e, R, s, m, args, below, meth, c, G, Q) M (NC, w2 + 1, w3 + 6) (pc + 3) L (r.toList ++ S) mu2)
    (kx : Px → ∀ (q : Addr) (ls : Array Slot) (H : Heap) (locs : List Loc) (ce : Cell), LH (gb G) M.2.2.1 L ls → WD G NC mu H → va_S (AG G) s.heap H locs → H[q]? = some ce → ce.vm = .none → s.vm.findClass nse = some ce.cls → vx_W p l e R s m args below meth c H locs (w2 + 1) (w3 + 6) Q (F0 m pc ls (S.map (cv (gb G)))) q) : AW (p, l, e, R, s, m, args, below, meth, c, G, Q) M (NC, w2, w3) pc L St mu := by
  obtain ⟨hx, hb, hml, hown, hts, hK, hlk, hgb, hRm, hw⟩ := C
  intro ls H locs hLL hW hS
  obtain ⟨v1, v2, v3, v4, v5⟩ := hv
  have he := wl_at (G := G) (mu := mu) hs.2
  cases hq : vwCl[ci]? with
  | none => rw [hq] at hc; cases hc
  | some q =>
    rw [hq] at hc
    have hc2 : q.1 = M2.1.cls := Option.some.inj hc
    have hci : ci < 6 := (List.getElem?_eq_some_iff.mp hq).1
    rw [hs.1, ent_o G (by omega)] at he
    have hrecv := va_recv hK hW.1 hq he
    rw [hc2] at hrecv
    have hcb := callB_of (R := R) (s := s) (args := args) (own := M.1.cls) (index := i) (rm := rmD d 1 6) (mc := 1) (ms := 6) n hts (good_tb v4) rfl rfl rfl (hts _ v3) (hts _ hl) v5 ⟨Nat.le_trans hr.1 hRm.1, Nat.le_trans (by show 8 + (M2.2.2.1 + 11) + 38 * d ≤ 38 * dd; omega) hRm.2⟩
    have run := vx_runV (e := e) (below := below) (meth := meth) (H := H) (locs := locs) (cells := w2) (slots := w3) (g := F0 m pc ls (St.map (cv (gb G)))) (rest := S.map (cv (gb G))) (As := As.map (cv (gb G))) (b := gb G + k) ⟨hx, hb, hml, hown, hts⟩ (ht l G hst0) ⟨hcb, hts _ v1, hts _ v2⟩ ⟨PTX.blind G NC mu _, hrecv, fun U hU hWm => ⟨rfl, ⟨by rw [hU]; exact hW, va_K.moved hWm.alike hK, by rw [hU]; exact Nat.le_trans hgb hS.1, fun h => absurd h (Nat.lt_irrefl _)⟩, by rw [hU]; exact hT.to hWm hS.2.1⟩⟩ rfl (by rw [List.length_map]; exact hn) hLL.1 (by rw [hst]; simp [F0, cv, vr]) (lv_room (by rw [wsum_ok]; exact hrest)) hd hrm
    intro T hT0 X
    rcases run T hT0 X with ⟨v, st₀, t, T', L', h0, X', hL', e1, e2, ⟨r, mu2, hv9, hQ, hWD2, hF⟩, st⟩ | ⟨q9, st₀, t, T', L', E, ce, h0, X', hL', e1, e2, ⟨rfl, hPx, hWD2, hF⟩, hce, hcv, hcl, st⟩
    · cases hv9
      unfold va_F at hF
      rw [h0, ← e1] at hF
      have k2 := kk r mu2 hQ ls T'.heap (locs ++ L') hLL (by rw [e1]; exact hWD2) ⟨Nat.le_trans hS.1 hF.1, fun q h1 h2 => (hF.2 q (Nat.lt_of_lt_of_le h1 hS.1) h2).trans (hS.2.1 q h1 h2), fun q hq => by
        rcases List.mem_append.mp hq with h | h
        · exact hS.2.2 q h
        · exact hL' q h⟩
      rw [map_tl] at k2
      obtain ⟨t2, a1, b1⟩ := k2 T' rfl X'
      exact ⟨t2, st t2 a1, b1⟩
    · unfold va_F at hF
      rw [h0, ← e1] at hF
      obtain ⟨t2, a1, b1⟩ := kx hPx q9 ls T'.heap (locs ++ L') ce hLL (by rw [e1]; exact hWD2) ⟨Nat.le_trans hS.1 hF.1, fun q h1 h2 => (hF.2 q (Nat.lt_of_lt_of_le h1 hS.1) h2).trans (hS.2.1 q h1 h2), fun q hq => by
        rcases List.mem_append.mp hq with h | h
        · exact hS.2.2 q h
        · exact hL' q h⟩ (by rw [e1]; exact hce) hcv hcl T' rfl X'
      exact ⟨t2, st.trans a1, b1⟩
theorem aw_astoreQ {K : KT} {M : MI} {w : Nat × Nat × Nat} {pc dd : Nat} {L S : List Vv} {mu : Mem} (C : CX K w M dd) {i : Nat} {x : Nat} (hd : decode M.2.1 pc = .ok (.astore i, 2)) (hi : (i : Nat) < M.2.2.1) (k : AW K M w (pc + 2) (st1 (vq x) L i) S mu) : AW K M w pc L (vq x :: S) mu := by
  obtain ⟨p, l, e, R, s, m, args, below, meth, c, G, Q⟩ := K
  obtain ⟨hx, hb, hml, hown, hts, hK, hlk, hgb, hRm, hw⟩ := C
  intro ls H locs hl hW hS
  exact lv_astore hx hb hd hl.has hi rfl (fun ls2 h2 => k ls2 H locs (hl.s1 (v := vq x) h2) hW hS)
abbrev mL_letter : MI := (yL_letter, cL_letter, 5, some .int)
def hhL : List (Nat × Nat × Nat × Nat) := [(0, 10, 13, 13)]
abbrev wL : Cond := Cond.codeWith yL_letter cL_letter 5 (some .int) hhL
theorem wL_tb : wL ∈ TB := tb_t 760 (by decide +kernel) (by decide +kernel)
theorem cL13 : Cond.classLink RL 13 nse ∈ TB := tb_t 761 (by decide +kernel) (by decide +kernel)
theorem lL_159 : Cond.methodLink RL 159 yL_letter ∈ TB := tb_t 758 (by decide +kernel) (by decide +kernel)
theorem sL_letter : Cond.static yL_letter ∈ TB := tb_t 759 (by decide +kernel) (by decide +kernel)
theorem iL : Cond.initialized RL ∈ TB := tb_t 0 (by decide +kernel) (by decide +kernel)
def TrL (d : Nat) (av : List Vv) (mu : Mem) (Qf : Option Vv → Mem → Prop) : Prop :=
  ∀ (l : Launch) (G : Gv), l.stackTraces = false → Met l yL_letter (wL :: TB) (rmD d 1 6) (va_Pc (av.map (cv (gb G))) (fun U => PW G NC mu U ∧ TX G U U.heap)) (QC G NC Qf) 1 6 (AG G)
theorem TrL.of {d : Nat} {av : List Vv} {mu : Mem} {Qf : Option Vv → Mem → Prop} (hlen : (entL av).length ≤ 5)
    (body : ∀ (p : Program) (l : Launch) (e : Env) (s : State) (m : MethodId) (args : Array Value) (below : List Frame) (meth : Method) (c : Code) (G : Gv), CX (p, l, e, rmD d 1 6, s, m, args, below, meth, c, G, MQ below (QC G NC Qf) args s 1 6 (AG G)) (NC, 0, 0) mL_letter d → CR (p, l, e, rmD d 1 6, s, m, args, below, meth, c, G, MQ below (QC G NC Qf) args s 1 6 (AG G)) (NC, 1, 6) mL_letter Qf → l.stackTraces = false → TX G s s.heap → c.exceptionTable.toList = tableOf hhL → AW (p, l, e, rmD d 1 6, s, m, args, below, meth, c, G, MQ below (QC G NC Qf) args s 1 6 (AG G)) mL_letter (NC, 0, 0) 0 (padL 5 (entL av)) [] mu) : TrL d av mu Qf := by
  intro l G hl
  refine va_MetW (cc := cL_letter) (maxL := 5) (ret := some .int) (hh := hhL) (by decide +kernel) rfl (fun p e s m args below meth c s₁ B hml hv => ?_)
  obtain ⟨rfl, ⟨hWD, hKK, hgb, hsz⟩, hT⟩ := hv
  have hts := atoms_spec (ws := wL :: TB) B.pre
  have hown : s.vm.findClass RL = some m.cls := findClass_of_methodNamed B.named
  have hle := lv_entry (av.map (cv (gb G))) (n := 5) (by rw [entL_len]; exact hlen)
  have hex := vx_table (x := yL_letter) B (hts _ List.mem_cons_self)
  have hW := body p l e s m _ below meth c G ⟨B.exec, B.bytes, hml, hown, fun w hw => hts w (List.mem_cons_of_mem _ hw), hKK, B.notSynchronized, hgb, ⟨Nat.le_refl _, Nat.le_refl _⟩, ⟨Nat.zero_le _, Nat.zero_le _⟩⟩ ⟨B.returns, rfl⟩ hl hT hex _ s.heap [] (LH.entry hle) hWD va_S.rf
  rw [lg_entry_eq]
  exact hW
theorem letW_r (W k : Nat) : R32 (letW W k) := by
  have h := Nat.mod_lt (W / 32 ^ (nlen 6 W - 1 - k)) (show 0 < 32 by decide)
  unfold R32 letW
  omega
def llQ (mu : Mem) (f : Nat) (i k : Int) : Option Vv → Mem → Prop := fun r m2 => (ltP mu f i k ∧ r = some (vi 0) ∧ m2 = wr mu 76 0 (letW (mu 13 i.toNat).toNat k.toNat)) ∨ (¬ ltP mu f i k ∧ r = some (vi 1) ∧ m2 = mu)
theorem t_L_letter {mu : Mem} {f : Nat} {i k : Int} (h : cF mu f) (hi : R32 i) (hk : R32 k) (hw : ∀ d : Nat, (d : Int) < mu f 1 → 0 ≤ mu 13 d ∧ mu 13 d < 1073741824) : TrL 7 [vr 0, vi i, vi k, vr 76] mu (llQ mu f i k) := by
  refine TrL.of (Nat.le_of_ble_eq_true rfl) (fun p l e s m args below meth c G C E hl hT hex => ?_)
  have C1 : CX (p, l, e, rmD 7 1 6, s, m, args, below, meth, c, G, MQ below (QC G NC (llQ mu f i k)) args s 1 6 (AG G)) (NC, 1, 6) mL_letter 7 := by
    obtain ⟨hx, hb, hml, hown, hts, hK, hlk, hgb, hRm, hw9⟩ := C
    exact ⟨hx, hb, hml, hown, hts, hK, hlk, hgb, hRm, ⟨Nat.le_refl _, Nat.le_refl _⟩⟩
  refine aw_aload_n C dL_letter_0 rfl ?_
  refine aw_iconst C dL_letter_1 ?_
  refine aw_aload_n C dL_letter_2 rfl ?_
  refine aw_iload_n C dL_letter_3 rfl ?_
  refine aw_iload_n C dL_letter_4 rfl ?_
  refine aw_callT C hl hT dL_letter_5 lL_7 vX5_letter (t_X5_letter h hi hk hw) rfl rfl ⟨rfl, by decide⟩ rfl ⟨by decide, by decide⟩ (Nat.le_of_ble_eq_true rfl) ⟨Nat.le_refl _, Nat.le_refl _⟩ (fun r mu2 hq => ?_) (fun hPx q ls H locs ce hLL hW hS hce hcv hcl => ?_)
  · obtain ⟨hP, rfl, rfl⟩ := hq
    refine aw_i2l C1 dL_letter_8 (letW_r _ _) ?_
    refine aw_last C1 dL_letter_9 ⟨rfl, by decide⟩ (by decide) (by decide) (by decide) ?_
    refine aw_goto C1 dL_letter_10 (tgt := 17) (by decide) ?_
    refine aw_iconst C1 dL_letter_17 ?_
    exact aw_iret C1 E dL_letter_18 rfl (Or.inl ⟨hP, rfl, rfl⟩)
  · have hts := C.2.2.2.2.1
    refine vx_catch (own := RL) (name := nse) (E := nse) (ce := ce) C.2.2.2.1 [] ⟨0, 10, 13, 13⟩ [] hex (fun z hz => absurd hz List.not_mem_nil) (by decide) (by decide) (hts _ cL13) (va_Nw.use rfl hT.2.2.1) hce hcv hcl ?_
    have kk : AW (p, l, e, rmD 7 1 6, s, m, args, below, meth, c, G, MQ below (QC G NC (llQ mu f i k)) args s 1 6 (AG G)) mL_letter (NC, 1, 6) 13 (padL 5 (entL [vr 0, vi i, vi k, vr 76])) [vq q] mu := by
      refine aw_astoreQ C1 dL_letter_13 (by decide) ?_
      refine aw_iconst C1 dL_letter_15 ?_
      exact aw_iret C1 E dL_letter_16 rfl (Or.inr ⟨hPx, rfl, rfl⟩)
    exact kk ls H locs hLL hW hS

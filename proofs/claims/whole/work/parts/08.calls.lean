def wsum : List Vv → Nat
  | [] => 0
  | v :: S => (if isL v then 2 else 1) + wsum S
theorem wsum_ok (b : Nat) : ∀ S : List Vv, ((S.map (cv b)).map fun v => v.category).sum = wsum S
  | [] => rfl
  | v :: S => by
    rw [List.map_cons, List.map_cons, List.sum_cons, wsum_ok b S]
    have h := cv_cat b v
    show _ = (if isL v then 2 else 1) + wsum S
    cases hv : isL v with
    | true => rw [h.mpr hv]; rfl
    | false =>
      have h2 : ¬ (cv b v).category = 2 := fun z => by rw [h.mp z] at hv; cases hv
      have h3 := lv_cat (cv b v)
      have h4 : (cv b v).category = 1 := by omega
      rw [h4]; rfl
theorem entL_len (b : Nat) : ∀ av : List Vv, (lg_sl (av.map (cv b))).length = (entL av).length
  | [] => rfl
  | v :: r => by
    have ih := entL_len b r
    have h := cv_cat b v
    unfold lg_sl at ih ⊢
    rw [List.map_cons, List.flatMap_cons, List.length_append, ih]
    cases hv : isL v with
    | true => rw [if_pos (h.mpr hv)]; simp [entL, hv]; omega
    | false =>
      rw [if_neg (fun z => by rw [h.mp z] at hv; cases hv)]
      simp [entL, hv]; omega
theorem PW.blind (G : Gv) (n : Nat) (mu : Mem) (av : List Value) : FrameBlind (va_Pc av (fun U => PW G n mu U)) := by
  intro a U g mk q
  obtain ⟨q0, q1, q2, q3, q4⟩ := q
  exact ⟨q0, q1, va_K.moved (u := U) (U := U.calling g mk a) (Vm.Alike.refl U.vm) q2, q3, q4⟩
theorem good_tb {M : MI} (h : wc M ∈ TB) : GoodIn TB (wc M :: TB) := by
  intro w hw
  have h2 : w ∈ TB := by
    rcases List.mem_cons.mp hw with rfl | q
    · exact h
    · exact q
  exact ⟨h2, good_of_word (tb_good h2)⟩
/-- what the entry of a making method knows of the room -/
def KS (K : KT) (n : Nat) : Prop := n < NC → K.2.2.2.2.1.heap.size = gb K.2.2.2.2.2.2.2.2.2.2.1 + n
theorem TrN.of {d n n2 mc ms : Nat} {M : MI} {av : List Vv} {mu : Mem} {Qf : Option Vv → Mem → Prop} (hy : plainFor M.1 = true) (hlen : (entL av).length ≤ M.2.2.1)
    (body : ∀ K : KT, CX K (n, 0, 0) M d → CR K (n2, mc, ms) M Qf → KS K n → (mc ≤ K.2.2.2.1.cells ∧ ms ≤ K.2.2.2.1.slots) → AW K M (n, 0, 0) 0 (padL M.2.2.1 (entL av)) [] mu) : TrN d M av n n2 mc ms mu Qf := by
  intro l G
  refine MetFree.of_bodySF (code := M.2.1) (maxLocals := M.2.2.1) (ret := M.2.2.2) hy (fun args s m h hn => ?_) (fun p e s m args below meth c s₁ B hml hv _ => ?_)
  · obtain ⟨meth, c, h1, h2, h3, h4, h5, h6, -, -⟩ := Cond.code_spec hn (atoms_spec (ws := wc M :: TB) h _ List.mem_cons_self)
    exact ⟨meth, c, h1, h2, h3, h4, h5, h6⟩
  · obtain ⟨rfl, hWD, hKK, hgb, hsz⟩ := hv
    have hts := atoms_spec (ws := wc M :: TB) B.pre
    have hown : s.vm.findClass M.1.cls = some m.cls := findClass_of_methodNamed B.named
    have hl := lv_entry (av.map (cv (gb G))) (n := M.2.2.1) (by rw [entL_len]; exact hlen)
    have hW := body (p, l, e, rmD d mc ms, s, m, _, below, meth, c, G, MQ below (QC G n2 Qf) _ s mc ms (AG G)) ⟨B.exec, B.bytes, hml, hown, fun w hw => hts w (List.mem_cons_of_mem _ hw), hKK, B.notSynchronized, hgb, ⟨Nat.le_refl _, Nat.le_refl _⟩, ⟨Nat.zero_le _, Nat.zero_le _⟩⟩ ⟨B.returns, rfl⟩ hsz ⟨Nat.le_refl _, Nat.le_refl _⟩ _ s.heap [] (LH.entry hl) hWD va_S.rf
    rw [lg_entry_eq]
    obtain ⟨t, a1, o, b1, b2, b3⟩ := hW s₁ (by rw [B.state]; rfl) (Stand.of_body B)
    exact ⟨t, o, a1, b1, b2, ⟨b3.1, b3.2⟩⟩
theorem Tr.of {d : Nat} {M : MI} {av : List Vv} {mu : Mem} {Qf : Option Vv → Mem → Prop} (hy : plainFor M.1 = true) (hlen : (entL av).length ≤ M.2.2.1)
    (body : ∀ K : KT, CX K (NC, 0, 0) M d → CR K (NC, 0, 0) M Qf → AW K M (NC, 0, 0) 0 (padL M.2.2.1 (entL av)) [] mu) : Tr d M av mu Qf :=
  TrN.of hy hlen (fun K C E _ _ => body K C E)
section Calls
variable {K : KT} {M : MI} {w : Nat × Nat × Nat} {pc dd : Nat} {L S : List Vv} {mu : Mem} {Qf : Option Vv → Mem → Prop}
theorem aw_iret (C : CX K w M dd) (E : CR K w M Qf) {x : Int} (hd : decode M.2.1 pc = .ok (.ireturn, 1)) (hr : M.2.2.2 = some .int) (hq : Qf (some (vi x)) mu) : AW K M w pc L [vi x] mu := by
  obtain ⟨p, l, e, R, s, m, args, below, meth, c, G, Q⟩ := K
  obtain ⟨hx, hb, hml, hown, hts, hK, hlk, hgb, hRm, hw⟩ := C
  obtain ⟨hret, hQ⟩ := E
  intro ls H locs hl hW hS
  subst hQ
  exact W.iret hx hb (hret.trans hr) (fun t ht hWm => ⟨some (vi x), mu, rfl, hq, by rw [ht]; exact hW, hS.F ht⟩) hS.2.2 hd hlk
theorem aw_zret (C : CX K w M dd) (E : CR K w M Qf) {x : Int} (hd : decode M.2.1 pc = .ok (.ireturn, 1)) (hr : M.2.2.2 = some .boolean) (h01 : x = 0 ∨ x = 1) (hq : Qf (some (vi x)) mu) : AW K M w pc L [vi x] mu := by
  obtain ⟨p, l, e, R, s, m, args, below, meth, c, G, Q⟩ := K
  obtain ⟨hx, hb, hml, hown, hts, hK, hlk, hgb, hRm, hw⟩ := C
  obtain ⟨hret, hQ⟩ := E
  intro ls H locs hl hW hS
  subst hQ
  exact W.zret hx hb (hret.trans hr) (by rcases h01 with rfl | rfl <;> rfl) (fun t ht hWm => ⟨some (vi x), mu, rfl, hq, by rw [ht]; exact hW, hS.F ht⟩) hS.2.2 hd hlk
theorem aw_lret (C : CX K w M dd) (E : CR K w M Qf) {x : Int} (hd : decode M.2.1 pc = .ok (.lreturn, 1)) (hr : M.2.2.2 = some .long) (hq : Qf (some (vl x)) mu) : AW K M w pc L [vl x] mu := by
  obtain ⟨p, l, e, R, s, m, args, below, meth, c, G, Q⟩ := K
  obtain ⟨hx, hb, hml, hown, hts, hK, hlk, hgb, hRm, hw⟩ := C
  obtain ⟨hret, hQ⟩ := E
  intro ls H locs hl hW hS
  subst hQ
  exact W.lret hx hb (hret.trans hr) (fun t ht hWm => ⟨some (vl x), mu, rfl, hq, by rw [ht]; exact hW, hS.F ht⟩) hS.2.2 hd hlk
theorem aw_vret (C : CX K w M dd) (E : CR K w M Qf) (hd : decode M.2.1 pc = .ok (.return_, 1)) (hr : M.2.2.2 = none) (hq : Qf none mu) : AW K M w pc L [] mu := by
  obtain ⟨p, l, e, R, s, m, args, below, meth, c, G, Q⟩ := K
  obtain ⟨hx, hb, hml, hown, hts, hK, hlk, hgb, hRm, hw⟩ := C
  obtain ⟨hret, hQ⟩ := E
  intro ls H locs hl hW hS
  subst hQ
  exact W.vret hx hb (hret.trans hr) (fun t ht hWm => ⟨none, mu, rfl, hq, by rw [ht]; exact hW, hS.F ht⟩) hS.2.2 hd hlk
theorem map_tl (b : Nat) (r : Option Vv) (S : List Vv) : (r.toList ++ S).map (cv b) = (r.map (cv b)).toList ++ S.map (cv b) := by
  cases r <;> rfl
/-- behind a call -/
theorem call_on {p : Program} {l : Launch} {e : Env} {R : Room} {s : State} {m : MethodId} {args : Array Value} {below : List Frame} {meth : Method} {c : Code} {G : Gv} {Q : State → Prop} {H : Heap} {locs : List Loc} {ls : Array Slot} {a : Array Value} {St : List Vv} {n2 mc ms : Nat}
    (hr : va_Run p l e R s m args below meth c H locs w.2.1 w.2.2 mc ms (F0 m pc ls (St.map (cv (gb G)))) (S.map (cv (gb G))) (QC G n2 Qf a) (AG G)) (hl : LH (gb G) M.2.2.1 L ls) (hS : va_S (AG G) s.heap H locs)
    (kk : ∀ r mu2, Qf r mu2 → AW (p, l, e, R, s, m, args, below, meth, c, G, Q) M (n2, w.2.1 + mc, w.2.2 + ms) (pc + 3) L (r.toList ++ S) mu2) : W p l e R s m args below meth c H locs w.2.1 w.2.2 Q (F0 m pc ls (St.map (cv (gb G)))) := by
  intro T hT X
  obtain ⟨v, st₀, t, T', L', h0, X', hL', e1, e2, ⟨r, mu2, hv, hQ, hWD2, hF⟩, st⟩ := hr T hT X
  cases hv
  unfold va_F at hF
  rw [h0, ← e1] at hF
  have k2 := kk r mu2 hQ ls T'.heap (locs ++ L') hl (by rw [e1]; exact hWD2) ⟨Nat.le_trans hS.1 hF.1, fun q h1 h2 => (hF.2 q (Nat.lt_of_lt_of_le h1 hS.1) h2).trans (hS.2.1 q h1 h2), fun q hq => by
    rcases List.mem_append.mp hq with h | h
    · exact hS.2.2 q h
    · exact hL' q h⟩
  rw [map_tl] at k2
  obtain ⟨t2, a1, b1⟩ := k2 T' rfl X'
  exact ⟨t2, st t2 a1, b1⟩
theorem aw_call (C : CX K w M dd) {i n k d ci : Nat} {M2 : MI} {As St : List Vv} (hd : decode M.2.1 pc = .ok (.invokevirtual i, 3)) (hl : ML M.1.cls i M2) (hv : MV M2 n) (ht : Tr d M2 (vr k :: As) mu Qf) (hst : St = As.reverse ++ vr k :: S) (hn : As.length = n) (hN : w.1 = NC) (hs : Sh w.1 k ci 0) (hc : (vwCl[ci]?).map (fun q => q.1) = some M2.1.cls)
    (hr : d + 1 ≤ dd ∧ 19 + M2.2.2.1 + 38 * d ≤ 38 * dd) (hrest : wsum S ≤ 8) (kk : ∀ r mu2, Qf r mu2 → AW K M w (pc + 3) L (r.toList ++ S) mu2) : AW K M w pc L St mu := by
  obtain ⟨p, l, e, R, s, m, args, below, meth, c, G, Q⟩ := K
  obtain ⟨hx, hb, hml, hown, hts, hK, hlk, hgb, hRm, hw⟩ := C
  intro ls H locs hLL hW hS
  obtain ⟨w1, w2, w3⟩ := w
  dsimp only at hN hw kk hW hs ⊢
  subst hN
  obtain ⟨v1, v2, v3, v4, v5⟩ := hv
  have he := wl_at (G := G) (mu := mu) hs.2
  cases hq : vwCl[ci]? with
  | none => rw [hq] at hc; cases hc
  | some q =>
    rw [hq] at hc
    have hc2 : q.1 = M2.1.cls := Option.some.inj hc
    have hci : ci < 6 := (List.getElem?_eq_some_iff.mp hq).1
    rw [hs.1, ent_o G (by omega)] at he
    have hrecv := va_recv hK hW.1 hq he
    rw [hc2] at hrecv
    have hcb := callB_of (R := R) (s := s) (args := args) (own := M.1.cls) (index := i) (rm := rmD d 0 0) (mc := 0) (ms := 0) n hts (good_tb v4) rfl rfl rfl (hts _ v3) (hts _ hl) v5 ⟨Nat.le_trans hr.1 hRm.1, Nat.le_trans (by show 8 + (M2.2.2.1 + 11) + 38 * d ≤ 38 * dd; omega) hRm.2⟩
    exact call_on (w := (NC, w2, w3)) (va_runV (As := As.map (cv (gb G))) (b := gb G + k) ⟨hx, hb, hml, hown, hts⟩ (ht l G) ⟨hcb, hts _ v1, hts _ v2⟩ ⟨PW.blind G NC mu _, hrecv, fun U hU hWm => ⟨rfl, by rw [hU]; exact hW, va_K.moved hWm.alike hK, by rw [hU]; exact Nat.le_trans hgb hS.1, fun h => absurd h (Nat.lt_irrefl _)⟩⟩ rfl (by rw [List.length_map]; exact hn) hLL.1 (by rw [hst]; simp [F0, cv, vr]) (lv_room (by rw [wsum_ok]; exact hrest)) hd ⟨hw.1, hw.2⟩) hLL hS kk
theorem aw_callS (C : CX K w M dd) {i n d : Nat} {M2 : MI} {As St : List Vv} (hd : decode M.2.1 pc = .ok (.invokestatic i, 3)) (hl : ML M.1.cls i M2) (hv : MS M2 n) (ht : Tr d M2 As mu Qf) (hst : St = As.reverse ++ S) (hn : As.length = n) (hN : w.1 = NC)
    (hr : d + 1 ≤ dd ∧ 19 + M2.2.2.1 + 38 * d ≤ 38 * dd) (hrest : wsum S ≤ 8) (kk : ∀ r mu2, Qf r mu2 → AW K M w (pc + 3) L (r.toList ++ S) mu2) : AW K M w pc L St mu := by
  obtain ⟨p, l, e, R, s, m, args, below, meth, c, G, Q⟩ := K
  obtain ⟨hx, hb, hml, hown, hts, hK, hlk, hgb, hRm, hw⟩ := C
  intro ls H locs hLL hW hS
  obtain ⟨w1, w2, w3⟩ := w
  dsimp only at hN hw kk hW ⊢
  subst hN
  obtain ⟨v1, v3, v4, v5⟩ := hv
  have hcb := callB_of (R := R) (s := s) (args := args) (own := M.1.cls) (index := i) (rm := rmD d 0 0) (mc := 0) (ms := 0) n hts (good_tb v4) rfl rfl rfl (hts _ v3) (hts _ hl) v5 ⟨Nat.le_trans hr.1 hRm.1, Nat.le_trans (by show 8 + (M2.2.2.1 + 11) + 38 * d ≤ 38 * dd; omega) hRm.2⟩
  exact call_on (w := (NC, w2, w3)) (va_runS (As := As.map (cv (gb G))) ⟨hx, hb, hml, hown, hts⟩ (ht l G) ⟨hcb, hts _ v1⟩ ⟨PW.blind G NC mu _, fun U hU hWm => ⟨rfl, by rw [hU]; exact hW, va_K.moved hWm.alike hK, by rw [hU]; exact Nat.le_trans hgb hS.1, fun h => absurd h (Nat.lt_irrefl _)⟩⟩ rfl (by rw [List.length_map]; exact hn) hLL.1 (by rw [hst]; simp [F0]) (lv_room (by rw [wsum_ok]; exact hrest)) hd ⟨hw.1, hw.2⟩) hLL hS kk
theorem aw_call1 (C : CX K w M dd) {i n k d ci : Nat} {M2 : MI} {As St : List Vv} {v : Vv} {mu2 : Mem} (hd : decode M.2.1 pc = .ok (.invokevirtual i, 3)) (hl : ML M.1.cls i M2) (hv : MV M2 n) (ht : TrE d M2 (vr k :: As) mu (some v) mu2) (hst : St = As.reverse ++ vr k :: S) (hn : As.length = n) (hN : w.1 = NC) (hs : Sh w.1 k ci 0) (hc : (vwCl[ci]?).map (fun q => q.1) = some M2.1.cls)
    (hr : d + 1 ≤ dd ∧ 19 + M2.2.2.1 + 38 * d ≤ 38 * dd) (hrest : wsum S ≤ 8) (kk : AW K M w (pc + 3) L (v :: S) mu2) : AW K M w pc L St mu :=
  aw_call C hd hl hv ht hst hn hN hs hc hr hrest (fun r m h => by obtain ⟨rfl, rfl⟩ := h; exact kk)
theorem aw_call0 (C : CX K w M dd) {i n k d ci : Nat} {M2 : MI} {As St : List Vv} {mu2 : Mem} (hd : decode M.2.1 pc = .ok (.invokevirtual i, 3)) (hl : ML M.1.cls i M2) (hv : MV M2 n) (ht : TrE d M2 (vr k :: As) mu none mu2) (hst : St = As.reverse ++ vr k :: S) (hn : As.length = n) (hN : w.1 = NC) (hs : Sh w.1 k ci 0) (hc : (vwCl[ci]?).map (fun q => q.1) = some M2.1.cls)
    (hr : d + 1 ≤ dd ∧ 19 + M2.2.2.1 + 38 * d ≤ 38 * dd) (hrest : wsum S ≤ 8) (kk : AW K M w (pc + 3) L S mu2) : AW K M w pc L St mu :=
  aw_call C hd hl hv ht hst hn hN hs hc hr hrest (fun r m h => by obtain ⟨rfl, rfl⟩ := h; exact kk)
theorem aw_callS1 (C : CX K w M dd) {i n d : Nat} {M2 : MI} {As St : List Vv} {v : Vv} {mu2 : Mem} (hd : decode M.2.1 pc = .ok (.invokestatic i, 3)) (hl : ML M.1.cls i M2) (hv : MS M2 n) (ht : TrE d M2 As mu (some v) mu2) (hst : St = As.reverse ++ S) (hn : As.length = n) (hN : w.1 = NC)
    (hr : d + 1 ≤ dd ∧ 19 + M2.2.2.1 + 38 * d ≤ 38 * dd) (hrest : wsum S ≤ 8) (kk : AW K M w (pc + 3) L (v :: S) mu2) : AW K M w pc L St mu :=
  aw_callS C hd hl hv ht hst hn hN hr hrest (fun r m h => by obtain ⟨rfl, rfl⟩ := h; exact kk)
end Calls

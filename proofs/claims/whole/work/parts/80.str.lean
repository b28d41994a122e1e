/-! the reference's texts: where they lie, what they hold -/
abbrev gK (K : KT) : Gv := K.2.2.2.2.2.2.2.2.2.2.1
def ak (G : Gv) (i : Nat) : Nat := G.2.1 100 i
def av_ (G : Gv) (i : Nat) : Nat := G.2.1 101 i
def lenS : List Nat := [3, 2, 4, 2]
def bytS : List (List Int32) := [[114, 97, 121], [97, 116], [108, 111, 97, 100], [111, 110]]
def ixT : List Nat := [166, 168, 169, 171]
def txS : List String := ["ray", "at", "load", "on"]
def XS (G : Gv) (U : State) (H : Heap) : Prop := vk_S 4 lenS bytS (ak G) (av_ G) (AG G) U H ∧ (∀ i : Nat, i < 4 → vk_R RX6 (ixT.getD i 0) (txS.getD i "") (ak G i) U) ∧ va_Z "java/lang/String" "COMPACT_STRINGS" "Z" (.int 1) (AG G) U H ∧ va_Zq "jdk/internal/util/Preconditions" "SIOOBE_FORMATTER" "Ljava/util/function/BiFunction;" (AG G) U H
theorem XS.to {G : Gv} {s U : State} {H : Heap} (h : XS G s s.heap) (hW : s.WarmedH U.vm) (hq : ∀ a : Nat, a < s.heap.size → ¬ AG G a → H[a]? = s.heap[a]?) : XS G U H := by
  obtain ⟨h1, h2, h3, h4⟩ := h
  exact ⟨vk_S.moved hW.alike (h1.kept hq), fun i hi => (h2 i hi).warm hW, va_Z.moved hW.alike (h3.kept hq), va_Zq.moved hW.alike (h4.kept hq)⟩
def XK (K : KT) : Prop := match K with
  | (_, _, _, _, s, _, _, _, _, _, G, _) => XS G s s.heap
/-- a contract of a method that may look at the texts -/
def TrS (d : Nat) (M : MI) (avf : Gv → List Vv) (mu : Mem) (Qf : Option Vv → Mem → Prop) : Prop :=
  ∀ (l : Launch) (G : Gv), Met l M.1 (wc M :: TB) (rmD d 0 0) (va_Pc ((avf G).map (cv (gb G))) (fun U => PW G NC mu U ∧ XS G U U.heap)) (QC G NC Qf) 0 0 (AG G)
theorem PWX.blind (G : Gv) (mu : Mem) (av : List Value) : FrameBlind (va_Pc av (fun U => PW G NC mu U ∧ XS G U U.heap)) := by
  intro a U g mk q
  obtain ⟨q0, ⟨q1, q2, q3, q4⟩, x1, x2, x3, x4⟩ := q
  exact ⟨q0, ⟨q1, va_K.moved (u := U) (U := U.calling g mk a) (Vm.Alike.refl U.vm) q2, q3, q4⟩, vk_S.moved (u := U) (U := U.calling g mk a) (Vm.Alike.refl U.vm) x1, fun i hi => (x2 i hi).same rfl, va_Z.moved (u := U) (U := U.calling g mk a) (Vm.Alike.refl U.vm) x3, va_Zq.moved (u := U) (U := U.calling g mk a) (Vm.Alike.refl U.vm) x4⟩
theorem TrS.of {d : Nat} {M : MI} {avf : Gv → List Vv} {mu : Mem} {Qf : Option Vv → Mem → Prop} (hy : plainFor M.1 = true) (hlen : ∀ G, (entL (avf G)).length ≤ M.2.2.1)
    (body : ∀ K : KT, CX K (NC, 0, 0) M d → CR K (NC, 0, 0) M Qf → XK K → AW K M (NC, 0, 0) 0 (padL M.2.2.1 (entL (avf (gK K)))) [] mu) : TrS d M avf mu Qf := by
  intro l G
  refine MetFree.of_bodySF (code := M.2.1) (maxLocals := M.2.2.1) (ret := M.2.2.2) hy (fun args s m h hn => ?_) (fun p e s m args below meth c s₁ B hml hv _ => ?_)
  · obtain ⟨meth, c, h1, h2, h3, h4, h5, h6, -, -⟩ := Cond.code_spec hn (atoms_spec (ws := wc M :: TB) h _ List.mem_cons_self)
    exact ⟨meth, c, h1, h2, h3, h4, h5, h6⟩
  · obtain ⟨rfl, ⟨hWD, hKK, hgb, hsz⟩, hX⟩ := hv
    have hts := atoms_spec (ws := wc M :: TB) B.pre
    have hown : s.vm.findClass M.1.cls = some m.cls := findClass_of_methodNamed B.named
    have hl := lv_entry ((avf G).map (cv (gb G))) (n := M.2.2.1) (by rw [entL_len]; exact hlen G)
    have hW := body (p, l, e, rmD d 0 0, s, m, _, below, meth, c, G, MQ below (QC G NC Qf) _ s 0 0 (AG G)) ⟨B.exec, B.bytes, hml, hown, fun w hw => hts w (List.mem_cons_of_mem _ hw), hKK, B.notSynchronized, hgb, ⟨Nat.le_refl _, Nat.le_refl _⟩, ⟨Nat.zero_le _, Nat.zero_le _⟩⟩ ⟨B.returns, rfl⟩ hX _ s.heap [] (LH.entry hl) hWD va_S.rf
    rw [lg_entry_eq]
    obtain ⟨t, a1, o, b1, b2, b3⟩ := hW s₁ (by rw [B.state]; rfl) (Stand.of_body B)
    exact ⟨t, o, a1, b1, b2, ⟨b3.1, b3.2⟩⟩
section Str
variable {K : KT} {M : MI} {w : Nat × Nat × Nat} {pc dd : Nat} {L S : List Vv} {mu : Mem} {Qf : Option Vv → Mem → Prop}
theorem aw_callX (C : CX K w M dd) (hX : XK K) {i n k d ci : Nat} {M2 : MI} {avf : Gv → List Vv} {As St : List Vv} (hd : decode M.2.1 pc = .ok (.invokevirtual i, 3)) (hl : ML M.1.cls i M2) (hv : MV M2 n) (ht : TrS d M2 avf mu Qf) (hav : avf (gK K) = vr k :: As) (hst : St = As.reverse ++ vr k :: S) (hn : As.length = n) (hN : w.1 = NC) (hs : Sh w.1 k ci 0) (hc : (vwCl[ci]?).map (fun q => q.1) = some M2.1.cls)
    (hr : d + 1 ≤ dd ∧ 19 + M2.2.2.1 + 38 * d ≤ 38 * dd) (hrest : wsum S ≤ 8) (kk : ∀ r mu2, Qf r mu2 → AW K M w (pc + 3) L (r.toList ++ S) mu2) : AW K M w pc L St mu := by
  obtain ⟨p, l, e, R, s, m, args, below, meth, c, G, Q⟩ := K
  obtain ⟨hx, hb, hml, hown, hts, hK, hlk, hgb, hRm, hw⟩ := C
  have hX : XS G s s.heap := hX
  have hav : avf G = vr k :: As := hav
  intro ls H locs hLL hW hS
  obtain ⟨w1, w2, w3⟩ := w
  dsimp only at hN hw kk hW hs ⊢
  subst hN
  obtain ⟨v1, v2, v3, v4, v5⟩ := hv
  have he := wl_at (G := G) (mu := mu) hs.2
  cases hq : vwCl[ci]? with
  | none => rw [hq] at hc; cases hc
  | some q =>
    rw [hq] at hc
    have hc2 : q.1 = M2.1.cls := Option.some.inj hc
    have hci : ci < 6 := (List.getElem?_eq_some_iff.mp hq).1
    rw [hs.1, ent_o G (by omega)] at he
    have hrecv := va_recv hK hW.1 hq he
    rw [hc2] at hrecv
    have hcb := callB_of (R := R) (s := s) (args := args) (own := M.1.cls) (index := i) (rm := rmD d 0 0) (mc := 0) (ms := 0) n hts (good_tb v4) rfl rfl rfl (hts _ v3) (hts _ hl) v5 ⟨Nat.le_trans hr.1 hRm.1, Nat.le_trans (by show 8 + (M2.2.2.1 + 11) + 38 * d ≤ 38 * dd; omega) hRm.2⟩
    have ht2 := ht l G
    rw [hav] at ht2
    exact call_on (w := (NC, w2, w3)) (va_runV (As := As.map (cv (gb G))) (b := gb G + k) ⟨hx, hb, hml, hown, hts⟩ ht2 ⟨hcb, hts _ v1, hts _ v2⟩ ⟨PWX.blind G mu _, hrecv, fun U hU hWm => ⟨rfl, ⟨by rw [hU]; exact hW, va_K.moved hWm.alike hK, by rw [hU]; exact Nat.le_trans hgb hS.1, fun h => absurd h (Nat.lt_irrefl _)⟩, by rw [hU]; exact hX.to hWm hS.2.1⟩⟩ rfl (by rw [List.length_map]; exact hn) hLL.1 (by rw [hst]; simp [F0, cv, vr]) (lv_room (by rw [wsum_ok]; exact hrest)) hd ⟨hw.1, hw.2⟩) hLL hS kk
theorem aw_callSX (C : CX K w M dd) (hX : XK K) {i n d : Nat} {M2 : MI} {avf : Gv → List Vv} {As St : List Vv} (hd : decode M.2.1 pc = .ok (.invokestatic i, 3)) (hl : ML M.1.cls i M2) (hv : MS M2 n) (ht : TrS d M2 avf mu Qf) (hav : avf (gK K) = As) (hst : St = As.reverse ++ S) (hn : As.length = n) (hN : w.1 = NC)
    (hr : d + 1 ≤ dd ∧ 19 + M2.2.2.1 + 38 * d ≤ 38 * dd) (hrest : wsum S ≤ 8) (kk : ∀ r mu2, Qf r mu2 → AW K M w (pc + 3) L (r.toList ++ S) mu2) : AW K M w pc L St mu := by
  obtain ⟨p, l, e, R, s, m, args, below, meth, c, G, Q⟩ := K
  obtain ⟨hx, hb, hml, hown, hts, hK, hlk, hgb, hRm, hw⟩ := C
  have hX : XS G s s.heap := hX
  have hav : avf G = As := hav
  intro ls H locs hLL hW hS
  obtain ⟨w1, w2, w3⟩ := w
  dsimp only at hN hw kk hW ⊢
  subst hN
  obtain ⟨v1, v3, v4, v5⟩ := hv
  have hcb := callB_of (R := R) (s := s) (args := args) (own := M.1.cls) (index := i) (rm := rmD d 0 0) (mc := 0) (ms := 0) n hts (good_tb v4) rfl rfl rfl (hts _ v3) (hts _ hl) v5 ⟨Nat.le_trans hr.1 hRm.1, Nat.le_trans (by show 8 + (M2.2.2.1 + 11) + 38 * d ≤ 38 * dd; omega) hRm.2⟩
  have ht2 := ht l G
  rw [hav] at ht2
  exact call_on (w := (NC, w2, w3)) (va_runS (As := As.map (cv (gb G))) ⟨hx, hb, hml, hown, hts⟩ ht2 ⟨hcb, hts _ v1⟩ ⟨PWX.blind G mu _, fun U hU hWm => ⟨rfl, ⟨by rw [hU]; exact hW, va_K.moved hWm.alike hK, by rw [hU]; exact Nat.le_trans hgb hS.1, fun h => absurd h (Nat.lt_irrefl _)⟩, by rw [hU]; exact hX.to hWm hS.2.1⟩⟩ rfl (by rw [List.length_map]; exact hn) hLL.1 (by rw [hst]; simp [F0]) (lv_room (by rw [wsum_ok]; exact hrest)) hd ⟨hw.1, hw.2⟩) hLL hS kk
/-- a method of a text -/
theorem aw_callQ (C : CX K w M dd) (hX : XK K) {i n j d : Nat} {M2 : MI} {avf : Gv → List Vv} {As St : List Vv} (hd : decode M.2.1 pc = .ok (.invokevirtual i, 3)) (hl : ML M.1.cls i M2) (hv : MV M2 n) (ht : TrS d M2 avf mu Qf) (hj : j < 4) (hav : avf (gK K) = vq (ak (gK K) j) :: As) (hst : St = As.reverse ++ vq (ak (gK K) j) :: S) (hn : As.length = n) (hN : w.1 = NC) (hc : M2.1.cls = "java/lang/String")
    (hr : d + 1 ≤ dd ∧ 19 + M2.2.2.1 + 38 * d ≤ 38 * dd) (hrest : wsum S ≤ 8) (kk : ∀ r mu2, Qf r mu2 → AW K M w (pc + 3) L (r.toList ++ S) mu2) : AW K M w pc L St mu := by
  obtain ⟨p, l, e, R, s, m, args, below, meth, c, G, Q⟩ := K
  obtain ⟨hx, hb, hml, hown, hts, hK, hlk, hgb, hRm, hw⟩ := C
  have hX : XS G s s.heap := hX
  have hav : avf G = vq (ak G j) :: As := hav
  have hst : St = As.reverse ++ vq (ak G j) :: S := hst
  intro ls H locs hLL hW hS
  obtain ⟨w1, w2, w3⟩ := w
  dsimp only at hN hw kk hW ⊢
  subst hN
  obtain ⟨v1, v2, v3, v4, v5⟩ := hv
  have hrecv := vk_recv hX.1 hj hS
  rw [← hc] at hrecv
  have hcb := callB_of (R := R) (s := s) (args := args) (own := M.1.cls) (index := i) (rm := rmD d 0 0) (mc := 0) (ms := 0) n hts (good_tb v4) rfl rfl rfl (hts _ v3) (hts _ hl) v5 ⟨Nat.le_trans hr.1 hRm.1, Nat.le_trans (by show 8 + (M2.2.2.1 + 11) + 38 * d ≤ 38 * dd; omega) hRm.2⟩
  have ht2 := ht l G
  rw [hav] at ht2
  exact call_on (w := (NC, w2, w3)) (va_runV (As := As.map (cv (gb G))) (b := ak G j) ⟨hx, hb, hml, hown, hts⟩ ht2 ⟨hcb, hts _ v1, hts _ v2⟩ ⟨PWX.blind G mu _, hrecv, fun U hU hWm => ⟨rfl, ⟨by rw [hU]; exact hW, va_K.moved hWm.alike hK, by rw [hU]; exact Nat.le_trans hgb hS.1, fun h => absurd h (Nat.lt_irrefl _)⟩, by rw [hU]; exact hX.to hWm hS.2.1⟩⟩ rfl (by rw [List.length_map]; exact hn) hLL.1 (by rw [hst]; simp [F0, cv, vq]) (lv_room (by rw [wsum_ok]; exact hrest)) hd ⟨hw.1, hw.2⟩) hLL hS kk
theorem aw_ldcS (C : CX K w M dd) (hX : XK K) {index i : Nat} (hi : i < 4) (hix : ixT.getD i 0 = index) (hcls : M.1.cls = RX6) (hd : decode M.2.1 pc = .ok (.ldc index, 2)) (kk : AW K M w (pc + 2) L (vq (ak (gK K) i) :: S) mu) : AW K M w pc L S mu := by
  obtain ⟨p, l, e, R, s, m, args, below, meth, c, G, Q⟩ := K
  obtain ⟨hx, hb, hml, hown, hts, hK, hlk, hgb, hRm, hw⟩ := C
  intro ls H locs hLL hW hS
  have hX : XS G s s.heap := hX
  have z := hX.2.1 i hi
  rw [hix] at z
  exact va_ldcS hx hb (by rw [hcls] at hown; exact hown) z hd (kk ls H locs hLL hW hS)
theorem aw_getV9 (C : CX K w M dd) (hX : XK K) {i : Nat} (hi : i < 4) (hcls : M.1.cls = RJ0) (hd : decode M.2.1 pc = .ok (.getfield 9, 3)) (kk : AW K M w (pc + 3) L (vq (av_ (gK K) i) :: S) mu) : AW K M w pc L (vq (ak (gK K) i) :: S) mu := by
  obtain ⟨p, l, e, R, s, m, args, below, meth, c, G, Q⟩ := K
  obtain ⟨hx, hb, hml, hown, hts, hK, hlk, hgb, hRm, hw⟩ := C
  intro ls H locs hLL hW hS
  have hX : XS G s s.heap := hX
  exact vk_getf hx hb (hX.1.1 i hi).2.2.1 hS (by rw [hcls] at hown; exact hown) (hts _ (tb_t 1461 (by decide +kernel) (by decide +kernel))) (fun _ z => z) hd (kk ls H locs hLL hW hS)
theorem aw_get15 (C : CX K w M dd) (hX : XK K) {i : Nat} (hi : i < 4) (hcls : M.1.cls = RJ0) (hd : decode M.2.1 pc = .ok (.getfield 15, 3)) (kk : AW K M w (pc + 3) L (vi 0 :: S) mu) : AW K M w pc L (vq (ak (gK K) i) :: S) mu := by
  obtain ⟨p, l, e, R, s, m, args, below, meth, c, G, Q⟩ := K
  obtain ⟨hx, hb, hml, hown, hts, hK, hlk, hgb, hRm, hw⟩ := C
  intro ls H locs hLL hW hS
  have hX : XS G s s.heap := hX
  exact vk_getf hx hb (hX.1.1 i hi).2.1 hS (by rw [hcls] at hown; exact hown) (hts _ (tb_t 1462 (by decide +kernel) (by decide +kernel))) (fun _ z => z) hd (kk ls H locs hLL hW hS)
theorem aw_gets38 (C : CX K w M dd) (hX : XK K) (hcls : M.1.cls = RJ0) (hd : decode M.2.1 pc = .ok (.getstatic 38, 3)) (kk : AW K M w (pc + 3) L (vi 1 :: S) mu) : AW K M w pc L S mu := by
  obtain ⟨p, l, e, R, s, m, args, below, meth, c, G, Q⟩ := K
  obtain ⟨hx, hb, hml, hown, hts, hK, hlk, hgb, hRm, hw⟩ := C
  intro ls H locs hLL hW hS
  have hX : XS G s s.heap := hX
  exact va_gets hx hb hX.2.2.1 hS (by rw [hcls] at hown; exact hown) (hts _ (tb_t 1050 (by decide +kernel) (by decide +kernel))) (fun _ z => z) hd (kk ls H locs hLL hW hS)
theorem aw_gets1053 (C : CX K w M dd) (hX : XK K) (hcls : M.1.cls = RJ0) (hd : decode M.2.1 pc = .ok (.getstatic 1053, 3)) (kk : ∀ v : Vv, (v = vx ∨ ∃ t, v = vq t) → AW K M w (pc + 3) L (v :: S) mu) : AW K M w pc L S mu := by
  obtain ⟨p, l, e, R, s, m, args, below, meth, c, G, Q⟩ := K
  obtain ⟨hx, hb, hml, hown, hts, hK, hlk, hgb, hRm, hw⟩ := C
  intro ls H locs hLL hW hS
  have hX : XS G s s.heap := hX
  rcases hX.2.2.2 with z | ⟨t, z⟩
  · exact va_gets hx hb z hS (by rw [hcls] at hown; exact hown) (hts _ (tb_t 1066 (by decide +kernel) (by decide +kernel))) (fun _ z => z) hd (kk vx (Or.inl rfl) ls H locs hLL hW hS)
  · exact va_gets hx hb z hS (by rw [hcls] at hown; exact hown) (hts _ (tb_t 1066 (by decide +kernel) (by decide +kernel))) (fun _ z => z) hd (kk (vq t) (Or.inr ⟨t, rfl⟩) ls H locs hLL hW hS)
theorem aw_slen (C : CX K w M dd) (hX : XK K) {i : Nat} (hi : i < 4) (hd : decode M.2.1 pc = .ok (.arraylength, 1)) (kk : AW K M w (pc + 1) L (vi (lenS.getD i 0 : Nat) :: S) mu) : AW K M w pc L (vq (av_ (gK K) i) :: S) mu := by
  obtain ⟨p, l, e, R, s, m, args, below, meth, c, G, Q⟩ := K
  obtain ⟨hx, hb, hml, hown, hts, hK, hlk, hgb, hRm, hw⟩ := C
  intro ls H locs hLL hW hS
  have hX : XS G s s.heap := hX
  exact va_tlen hx hb (hX.1.1 i hi).2.2.2 hS (Int32.ofInt_eq_ofNat).symm hd (kk ls H locs hLL hW hS)
theorem aw_sbald (C : CX K w M dd) (hX : XK K) {i : Nat} {k : Int} (hi : i < 4) (h0 : 0 ≤ k) (h1 : k < (lenS.getD i 0 : Nat)) (hd : decode M.2.1 pc = .ok (.baload, 1)) (kk : AW K M w (pc + 1) L (vi ((bytS.getD i []).getD k.toNat 0).toInt :: S) mu) : AW K M w pc L (vi k :: vq (av_ (gK K) i) :: S) mu := by
  obtain ⟨p, l, e, R, s, m, args, below, meth, c, G, Q⟩ := K
  obtain ⟨hx, hb, hml, hown, hts, hK, hlk, hgb, hRm, hw⟩ := C
  intro ls H locs hLL hW hS
  have hX : XS G s s.heap := hX
  have l4 : lenS.getD i 0 ≤ 4 := by
    match i, hi with
    | 0, _ => decide
    | 1, _ => decide
    | 2, _ => decide
    | 3, _ => decide
  refine va_tb hx hb (hX.1.1 i hi).2.2.2 hS (i_in h0 h1 (by omega)) (v := .int ((bytS.getD i []).getD k.toNat 0)) (by rw [i_cl (by unfold R32; omega) h0]) hd ?_
  have := kk ls H locs hLL hW hS
  rw [List.map_cons] at this
  rw [show cv (gb G) (vi ((bytS.getD i []).getD k.toNat 0).toInt) = .int ((bytS.getD i []).getD k.toNat 0) from by show Value.int (Int32.ofInt (Int32.toInt _)) = _; rw [Int32.ofInt_toInt]] at this
  exact this
theorem aw_cret (C : CX K w M dd) (E : CR K w M Qf) {x : Int} {ty : FieldType} (hd : decode M.2.1 pc = .ok (.ireturn, 1)) (hr : M.2.2.2 = some ty) (hn : narrow ty (.int (Int32.ofInt x)) = .int (Int32.ofInt x)) (hq : Qf (some (vi x)) mu) : AW K M w pc L [vi x] mu := by
  obtain ⟨p, l, e, R, s, m, args, below, meth, c, G, Q⟩ := K
  obtain ⟨hx, hb, hml, hown, hts, hK, hlk, hgb, hRm, hw⟩ := C
  obtain ⟨hret, hQ⟩ := E
  intro ls H locs hl hW hS
  subst hQ
  exact W.zret hx hb (hret.trans hr) hn (fun t ht hWm => ⟨some (vi x), mu, rfl, hq, by rw [ht]; exact hW, hS.F ht⟩) hS.2.2 hd hlk
end Str

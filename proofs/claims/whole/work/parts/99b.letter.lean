theorem TrX.of {d : Nat} {M : MI} {av : List Vv} {mu : Mem} {Qf : Option Vv → Mem → Prop} {Px : Prop} (hy : plainName M.1.cls = true) (hlen : (entL av).length ≤ M.2.2.1)
    (body : ∀ (p : Program) (l : Launch) (e : Env) (s : State) (m : MethodId) (args : Array Value) (below : List Frame) (meth : Method) (c : Code) (G : Gv), CX (p, l, e, rmD d 1 6, s, m, args, below, meth, c, G, vx_MQ below (QC G NC Qf) (XCX G mu Px) args s 1 6 (AG G)) (NC, 0, 0) M d → meth.sig.returnType = M.2.2.2 → l.stackTraces = false → TX G s s.heap → (∀ x ∈ c.exceptionTable.toList, False) → AW (p, l, e, rmD d 1 6, s, m, args, below, meth, c, G, vx_MQ below (QC G NC Qf) (XCX G mu Px) args s 1 6 (AG G)) M (NC, 0, 0) 0 (padL M.2.2.1 (entL av)) [] mu) : TrX d M av mu Qf Px := by
  intro l G hl
  refine vx_ofW (cc := M.2.1) (maxL := M.2.2.1) (ret := M.2.2.2) hy rfl (fun p e s m args below meth c s₁ B hml hex hv => ?_)
  obtain ⟨rfl, ⟨hWD, hKK, hgb, hsz⟩, hT⟩ := hv
  have hts := atoms_spec (ws := wc M :: TB) B.pre
  have hown : s.vm.findClass M.1.cls = some m.cls := findClass_of_methodNamed B.named
  have hle := lv_entry (av.map (cv (gb G))) (n := M.2.2.1) (by rw [entL_len]; exact hlen)
  have hW := body p l e s m _ below meth c G ⟨B.exec, B.bytes, hml, hown, fun w hw => hts w (List.mem_cons_of_mem _ hw), hKK, B.notSynchronized, hgb, ⟨Nat.le_refl _, Nat.le_refl _⟩, ⟨Nat.zero_le _, Nat.zero_le _⟩⟩ B.returns hl hT hex _ s.heap [] (LH.entry hle) hWD va_S.rf
  rw [lg_entry_eq]
  exact hW
def ltP (mu : Mem) (f : Nat) (i k : Int) : Prop := (0 ≤ i ∧ i < mu f 1) ∧ 0 ≤ k ∧ k < (nlen 6 (mu 13 i.toNat).toNat : Nat)
def ltQ (mu : Mem) (f : Nat) (i k : Int) : Option Vv → Mem → Prop := fun r m2 => ltP mu f i k ∧ r = some (vi (letW (mu 13 i.toNat).toNat k.toNat)) ∧ m2 = mu
/-- the word of a load's name, 0 if there is none -/
def nmo (mu : Mem) (f : Nat) (i : Int) : Int := if 0 ≤ i ∧ i < mu f 1 then mu 13 i.toNat else 0
theorem t_X5_nameOf {mu : Mem} {f : Nat} {i : Int} (h : cF mu f) (hi : R32 i) : TrE 1 mX5_nameOf [vr 0, vi i] mu (some (vi (nmo mu f i))) mu := by
  refine Tr.of (by decide +kernel) (Nat.le_of_ble_eq_true rfl) (fun K C E => ?_)
  have hr := hi
  unfold R32 at hr
  have hl6 : mu f 1 ≤ 6 := h.2.2.1.2.1.2
  unfold nmo at E
  by_cases hI : 0 ≤ i ∧ i < mu f 1
  · rw [if_pos hI] at E
    have k1 : b01 (0 ≤ i ∧ i < mu f 1) = 1 := b01_t hI
    refine aw_aload_n C dX5_nameOf_0 rfl ?_
    refine aw_iload_n C dX5_nameOf_1 rfl ?_
    refine aw_call1 C dX5_nameOf_2 lX5_165 vX5_hasLoad (t_X5_hasLoad h hi) rfl rfl rfl ⟨rfl, by decide⟩ rfl ⟨by decide, by decide⟩ (Nat.le_of_ble_eq_true rfl) ?_
    refine aw_if_eq C dX5_nameOf_5 (tgt := 26) (by decide) ⟨by omega, by omega⟩ (fun c1 => ?_) (fun c1 => ?_)
    · exfalso; omega
    · refine aw_iload_n C dX5_nameOf_8 rfl ?_
      refine aw_aload_n C dX5_nameOf_9 rfl ?_
      refine aw_getS C dX5_nameOf_10 fX5_34 ⟨rfl, by decide⟩ rfl rfl (srf 0 3 13 (by decide)) ?_
      refine aw_alen C dX5_nameOf_13 ⟨rfl, by decide⟩ (by decide) ?_
      refine aw_icmp_ge C dX5_nameOf_14 (tgt := 26) (by decide) ⟨by omega, by omega⟩ ⟨by omega, by omega⟩ (fun c2 => ?_) (fun c2 => ?_)
      · exfalso; omega
      · refine aw_aload_n C dX5_nameOf_17 rfl ?_
        refine aw_getS C dX5_nameOf_18 fX5_34 ⟨rfl, by decide⟩ rfl rfl (srf 0 3 13 (by decide)) ?_
        refine aw_iload_n C dX5_nameOf_21 rfl ?_
        refine aw_iald C dX5_nameOf_22 ⟨rfl, by decide⟩ (by decide) (by omega) (by omega) ?_
        refine aw_goto C dX5_nameOf_23 (tgt := 27) (by decide) ?_
        exact aw_iret C E dX5_nameOf_27 rfl ⟨rfl, rfl⟩
  · rw [if_neg hI] at E
    have k0 : b01 (0 ≤ i ∧ i < mu f 1) = 0 := b01_f hI
    refine aw_aload_n C dX5_nameOf_0 rfl ?_
    refine aw_iload_n C dX5_nameOf_1 rfl ?_
    refine aw_call1 C dX5_nameOf_2 lX5_165 vX5_hasLoad (t_X5_hasLoad h hi) rfl rfl rfl ⟨rfl, by decide⟩ rfl ⟨by decide, by decide⟩ (Nat.le_of_ble_eq_true rfl) ?_
    refine aw_if_eq C dX5_nameOf_5 (tgt := 26) (by decide) ⟨by omega, by omega⟩ (fun c1 => ?_) (fun c1 => ?_)
    · refine aw_iconst C dX5_nameOf_26 ?_
      exact aw_iret C E dX5_nameOf_27 rfl ⟨rfl, rfl⟩
    · exfalso; omega
theorem t_X5_letter {mu : Mem} {f : Nat} {i k : Int} (h : cF mu f) (hi : R32 i) (hk : R32 k) (hw : ∀ d : Nat, (d : Int) < mu f 1 → 0 ≤ mu 13 d ∧ mu 13 d < 1073741824) : TrX 6 mX5_letter [vr 0, vi i, vi k] mu (ltQ mu f i k) (¬ ltP mu f i k) := by
  refine TrX.of (by decide +kernel) (Nat.le_of_ble_eq_true rfl) (fun p l e s m args below meth c G C hret hl hT hex => ?_)
  unfold R32 at hi hk
  have thr : ∀ {v9 : Vv}, ¬ ltP mu f i k → AW (p, l, e, rmD 6 1 6, s, m, args, below, meth, c, G, vx_MQ below (QC G NC (ltQ mu f i k)) (XCX G mu (¬ ltP mu f i k)) args s 1 6 (AG G)) mX5_letter (NC, 0, 0) 18 [vr 0, vi i, vi k, v9] [] mu := fun hn =>
    aw_throw C rfl hl hT hex dX5_letter_18 dX5_letter_21 dX5_letter_22 dX5_letter_25 (by decide) (by decide) ⟨by decide, by decide⟩ hn
  have fin : ∀ {v9 : Vv}, ltP mu f i k → AW (p, l, e, rmD 6 1 6, s, m, args, below, meth, c, G, vx_MQ below (QC G NC (ltQ mu f i k)) (XCX G mu (¬ ltP mu f i k)) args s 1 6 (AG G)) mX5_letter (NC, 0, 0) 31 [vr 0, vi i, vi k, v9] [vi (letW (mu 13 i.toNat).toNat k.toNat)] mu := fun hn => by
    refine aw_widen (c2 := 1) (s2 := 6) (by decide) (by decide) (aw_vxret ?_)
    obtain ⟨hx, hb, hml, hown, hts, hK, hlk, hgb, hRm, hw9⟩ := C
    exact aw_iret (w := (NC, 1, 6)) (dd := 6) (Qf := ltQ mu f i k) ⟨hx, hb, hml, hown, hts, hK, hlk, hgb, hRm, ⟨Nat.le_refl _, Nat.le_refl _⟩⟩ ⟨hret, rfl⟩ dX5_letter_31 rfl ⟨hn, rfl, rfl⟩
  by_cases hI : 0 ≤ i ∧ i < mu f 1
  case neg =>
    have n0 : nmo mu f i = ((0 : Nat) : Int) := if_neg hI
    have l0 : nlen 6 0 = 0 := by decide +kernel
    refine aw_aload_n C dX5_letter_0 rfl ?_
    refine aw_iload_n C dX5_letter_1 rfl ?_
    refine aw_call1 C dX5_letter_2 lX5_283 vX5_nameOf (t_X5_nameOf h ⟨by omega, by omega⟩) rfl rfl rfl ⟨rfl, by decide⟩ rfl ⟨by decide, by decide⟩ (Nat.le_of_ble_eq_true rfl) ?_
    rw [n0]
    refine aw_istore_n C dX5_letter_5 (by decide) ?_
    refine aw_iload_n C dX5_letter_6 rfl ?_
    refine aw_if_lt C dX5_letter_7 (tgt := 18) (by decide) ⟨by omega, by omega⟩ (fun c1 => ?_) (fun c1 => ?_)
    · exact thr (fun w => hI w.1)
    · refine aw_iload_n C dX5_letter_10 rfl ?_
      refine aw_iload_n C dX5_letter_11 rfl ?_
      refine aw_callS1 C dX5_letter_12 lX5_286 vX3_lengthOf (t_X3_lengthOf (W := 0) (by decide)) rfl rfl rfl ⟨by decide, by decide⟩ (Nat.le_of_ble_eq_true rfl) ?_
      rw [l0]
      refine aw_icmp_lt C dX5_letter_15 (tgt := 26) (by decide) ⟨by omega, by omega⟩ ⟨by omega, by omega⟩ (fun c2 => ?_) (fun c2 => ?_)
      · exfalso; omega
      · exact thr (fun w => hI w.1)
  have w0 := hw i.toNat (by omega)
  obtain ⟨W, eW⟩ : ∃ W : Nat, mu 13 i.toNat = W := ⟨(mu 13 i.toNat).toNat, by omega⟩
  have eWn : (mu 13 i.toNat).toNat = W := by omega
  have nW : nmo mu f i = (W : Int) := (if_pos hI).trans eW
  have eP : ltP mu f i k ↔ 0 ≤ k ∧ k < (nlen 6 W : Nat) := by
    unfold ltP
    rw [eWn]
    exact ⟨fun w => w.2, fun w => ⟨hI, w⟩⟩
  rw [eWn] at fin
  have W30 : W < 2 ^ 30 := by rw [show (2 : Nat) ^ 30 = 1073741824 by decide]; omega
  have hn6 := nlen_le 6 W
  rcases Int.lt_or_le k 0 with hk0 | hk0
  · refine aw_aload_n C dX5_letter_0 rfl ?_
    refine aw_iload_n C dX5_letter_1 rfl ?_
    refine aw_call1 C dX5_letter_2 lX5_283 vX5_nameOf (t_X5_nameOf h ⟨by omega, by omega⟩) rfl rfl rfl ⟨rfl, by decide⟩ rfl ⟨by decide, by decide⟩ (Nat.le_of_ble_eq_true rfl) ?_
    rw [nW]
    refine aw_istore_n C dX5_letter_5 (by decide) ?_
    refine aw_iload_n C dX5_letter_6 rfl ?_
    refine aw_if_lt C dX5_letter_7 (tgt := 18) (by decide) ⟨by omega, by omega⟩ (fun c1 => ?_) (fun c1 => ?_)
    · exact thr (fun w => by have := eP.mp w; omega)
    · exfalso; omega
  obtain ⟨kn, rfl⟩ := Int.eq_ofNat_of_zero_le hk0
  refine aw_aload_n C dX5_letter_0 rfl ?_
  refine aw_iload_n C dX5_letter_1 rfl ?_
  refine aw_call1 C dX5_letter_2 lX5_283 vX5_nameOf (t_X5_nameOf h ⟨by omega, by omega⟩) rfl rfl rfl ⟨rfl, by decide⟩ rfl ⟨by decide, by decide⟩ (Nat.le_of_ble_eq_true rfl) ?_
  rw [nW]
  refine aw_istore_n C dX5_letter_5 (by decide) ?_
  refine aw_iload_n C dX5_letter_6 rfl ?_
  refine aw_if_lt C dX5_letter_7 (tgt := 18) (by decide) ⟨by omega, by omega⟩ (fun c1 => ?_) (fun c1 => ?_)
  · exfalso; omega
  · refine aw_iload_n C dX5_letter_10 rfl ?_
    refine aw_iload_n C dX5_letter_11 rfl ?_
    refine aw_callS1 C dX5_letter_12 lX5_286 vX3_lengthOf (t_X3_lengthOf W30) rfl rfl rfl ⟨by decide, by decide⟩ (Nat.le_of_ble_eq_true rfl) ?_
    refine aw_icmp_lt C dX5_letter_15 (tgt := 26) (by decide) ⟨by omega, by omega⟩ ⟨by omega, by omega⟩ (fun c2 => ?_) (fun c2 => ?_)
    · refine aw_iload_n C dX5_letter_26 rfl ?_
      refine aw_iload_n C dX5_letter_27 rfl ?_
      refine aw_callS1 C dX5_letter_28 lX5_292 vX3_letterOf (t_X3_letterOf W30 (by omega)) rfl rfl rfl ⟨by decide, by decide⟩ (Nat.le_of_ble_eq_true rfl) ?_
      exact fin (eP.mpr ⟨by omega, by omega⟩)
    · exact thr (fun w => by have := eP.mp w; omega)

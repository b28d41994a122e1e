theorem TrX.of {d : Nat} {M : MI} {av : List Vv} {mu : Mem} {Qf : Option Vv → Mem → Prop} {Px : Prop} (hy : plainName M.1.cls = true) (hlen : (entL av).length ≤ M.2.2.1)
    (body : ∀ (p : Program) (l : Launch) (e : Env) (s : State) (m : MethodId) (args : Array Value) (below : List Frame) (meth : Method) (c : Code) (G : Gv), CX (p, l, e, rmD d 1 6, s, m, args, below, meth, c, G, vx_MQ below (QC G NC Qf) (XCX G mu Px) args s 1 6 (AG G)) (NC, 0, 0) M d → meth.sig.returnType = M.2.2.2 → l.stackTraces = false → TX G s s.heap → (∀ x ∈ c.exceptionTable.toList, False) → AW (p, l, e, rmD d 1 6, s, m, args, below, meth, c, G, vx_MQ below (QC G NC Qf) (XCX G mu Px) args s 1 6 (AG G)) M (NC, 0, 0) 0 (padL M.2.2.1 (entL av)) [] mu) : TrX d M av mu Qf Px := by
  intro l G hl
  refine vx_ofW (cc := M.2.1) (maxL := M.2.2.1) (ret := M.2.2.2) hy rfl (fun p e s m args below meth c s₁ B hml hex hv => ?_)
  obtain ⟨rfl, ⟨hWD, hKK, hgb, hsz⟩, hT⟩ := hv
  have hts := atoms_spec (ws := wc M :: TB) B.pre
  have hown : s.vm.findClass M.1.cls = some m.cls := findClass_of_methodNamed B.named
  have hle := lv_entry (av.map (cv (gb G))) (n := M.2.2.1) (by rw [entL_len]; exact hlen)
  have hW := body p l e s m _ below meth c G ⟨B.exec, B.bytes, hml, hown, fun w hw => hts w (List.mem_cons_of_mem _ hw), hKK, B.notSynchronized, hgb, ⟨Nat.le_refl _, Nat.le_refl _⟩, ⟨Nat.zero_le _, Nat.zero_le _⟩⟩ B.returns hl hT hex _ s.heap [] (LH.entry hle) hWD va_S.rf
  rw [lg_entry_eq]
  exact hW
def ltP (mu : Mem) (f : Nat) (i k : Int) : Prop := (0 ≤ i ∧ i < mu f 1) ∧ 0 ≤ k ∧ k < (nlen 6 (mu 13 i.toNat).toNat : Nat)
def ltQ (mu : Mem) (f : Nat) (i k : Int) : Option Vv → Mem → Prop := fun r m2 => ltP mu f i k ∧ r = some (vi (letW (mu 13 i.toNat).toNat k.toNat)) ∧ m2 = mu
theorem t_X5_letter {mu : Mem} {f : Nat} {i k : Int} (h : cF mu f) (hi : R32 i) (hk : R32 k) (hw : ∀ d : Nat, (d : Int) < mu f 1 → 0 ≤ mu 13 d ∧ mu 13 d < 1073741824) : TrX 6 mX5_letter [vr 0, vi i, vi k] mu (ltQ mu f i k) (¬ ltP mu f i k) := by
  refine TrX.of (by decide +kernel) (Nat.le_of_ble_eq_true rfl) (fun p l e s m args below meth c G C hret hl hT hex => ?_)
  unfold R32 at hi hk
  have kb := b01_01 (0 ≤ i ∧ i < mu f 1)
  have hl6 : mu f 1 ≤ 6 := h.2.2.1.2.1.2
  have thr : ¬ ltP mu f i k → AW (p, l, e, rmD 6 1 6, s, m, args, below, meth, c, G, vx_MQ below (QC G NC (ltQ mu f i k)) (XCX G mu (¬ ltP mu f i k)) args s 1 6 (AG G)) mX5_letter (NC, 0, 0) 25 [vr 0, vi i, vi k] [] mu := fun hn =>
    aw_throw C rfl hl hT hex dX5_letter_25 dX5_letter_28 dX5_letter_29 dX5_letter_32 (by decide) (by decide) ⟨by decide, by decide⟩ hn
  have fin : ltP mu f i k → AW (p, l, e, rmD 6 1 6, s, m, args, below, meth, c, G, vx_MQ below (QC G NC (ltQ mu f i k)) (XCX G mu (¬ ltP mu f i k)) args s 1 6 (AG G)) mX5_letter (NC, 0, 0) 43 [vr 0, vi i, vi k] [vi (letW (mu 13 i.toNat).toNat k.toNat)] mu := fun hn => by
    refine aw_widen (c2 := 1) (s2 := 6) (by decide) (by decide) (aw_vxret ?_)
    obtain ⟨hx, hb, hml, hown, hts, hK, hlk, hgb, hRm, hw9⟩ := C
    exact aw_iret (w := (NC, 1, 6)) (dd := 6) (Qf := ltQ mu f i k) ⟨hx, hb, hml, hown, hts, hK, hlk, hgb, hRm, ⟨Nat.le_refl _, Nat.le_refl _⟩⟩ ⟨hret, rfl⟩ dX5_letter_43 rfl ⟨hn, rfl, rfl⟩
  by_cases hI : 0 ≤ i ∧ i < mu f 1
  case neg =>
    have k0 : b01 (0 ≤ i ∧ i < mu f 1) = 0 := b01_f hI
    refine aw_aload_n C dX5_letter_0 rfl ?_
    refine aw_iload_n C dX5_letter_1 rfl ?_
    refine aw_call1 C dX5_letter_2 lX5_165 vX5_hasLoad (t_X5_hasLoad h ⟨by omega, by omega⟩) rfl rfl rfl ⟨rfl, by decide⟩ rfl ⟨by decide, by decide⟩ (Nat.le_of_ble_eq_true rfl) ?_
    refine aw_if_eq C dX5_letter_5 (tgt := 25) (by decide) ⟨by omega, by omega⟩ (fun c1 => ?_) (fun c1 => ?_)
    · exact thr (fun w => hI w.1)
    · exfalso; omega
  have k1 : b01 (0 ≤ i ∧ i < mu f 1) = 1 := b01_t hI
  have w0 := hw i.toNat (by omega)
  obtain ⟨W, eW⟩ : ∃ W : Nat, mu 13 i.toNat = W := ⟨(mu 13 i.toNat).toNat, by omega⟩
  have eWn : (mu 13 i.toNat).toNat = W := by omega
  have eP : ltP mu f i k ↔ 0 ≤ k ∧ k < (nlen 6 W : Nat) := by
    unfold ltP
    rw [eWn]
    exact ⟨fun w => w.2, fun w => ⟨hI, w⟩⟩
  rw [eWn] at fin
  have W30 : W < 2 ^ 30 := by rw [show (2 : Nat) ^ 30 = 1073741824 by decide]; omega
  have hn6 := nlen_le 6 W
  rcases Int.lt_or_le k 0 with hk0 | hk0
  · refine aw_aload_n C dX5_letter_0 rfl ?_
    refine aw_iload_n C dX5_letter_1 rfl ?_
    refine aw_call1 C dX5_letter_2 lX5_165 vX5_hasLoad (t_X5_hasLoad h ⟨by omega, by omega⟩) rfl rfl rfl ⟨rfl, by decide⟩ rfl ⟨by decide, by decide⟩ (Nat.le_of_ble_eq_true rfl) ?_
    refine aw_if_eq C dX5_letter_5 (tgt := 25) (by decide) ⟨by omega, by omega⟩ (fun c1 => ?_) (fun c1 => ?_)
    · exfalso; omega
    · refine aw_iload_n C dX5_letter_8 rfl ?_
      refine aw_if_lt C dX5_letter_9 (tgt := 25) (by decide) ⟨by omega, by omega⟩ (fun c2 => ?_) (fun c2 => ?_)
      · exact thr (fun w => by have := eP.mp w; omega)
      · exfalso; omega
  obtain ⟨kn, rfl⟩ := Int.eq_ofNat_of_zero_le hk0
  refine aw_aload_n C dX5_letter_0 rfl ?_
  refine aw_iload_n C dX5_letter_1 rfl ?_
  refine aw_call1 C dX5_letter_2 lX5_165 vX5_hasLoad (t_X5_hasLoad h ⟨by omega, by omega⟩) rfl rfl rfl ⟨rfl, by decide⟩ rfl ⟨by decide, by decide⟩ (Nat.le_of_ble_eq_true rfl) ?_
  refine aw_if_eq C dX5_letter_5 (tgt := 25) (by decide) ⟨by omega, by omega⟩ (fun c1 => ?_) (fun c1 => ?_)
  · exfalso; omega
  · refine aw_iload_n C dX5_letter_8 rfl ?_
    refine aw_if_lt C dX5_letter_9 (tgt := 25) (by decide) ⟨by omega, by omega⟩ (fun c2 => ?_) (fun c2 => ?_)
    · exfalso; omega
    · refine aw_iload_n C dX5_letter_12 rfl ?_
      refine aw_aload_n C dX5_letter_13 rfl ?_
      refine aw_getS C dX5_letter_14 fX5_34 ⟨rfl, by decide⟩ rfl rfl (srf 0 3 13 (by decide)) ?_
      refine aw_iload_n C dX5_letter_17 rfl ?_
      refine aw_iald C dX5_letter_18 ⟨rfl, by decide⟩ (by decide) (by omega) (by omega) ?_
      rw [eW]
      refine aw_callS1 C dX5_letter_19 lX5_283 vX3_lengthOf (t_X3_lengthOf W30) rfl rfl rfl ⟨by decide, by decide⟩ (Nat.le_of_ble_eq_true rfl) ?_
      refine aw_icmp_lt C dX5_letter_22 (tgt := 33) (by decide) ⟨by omega, by omega⟩ ⟨by omega, by omega⟩ (fun c3 => ?_) (fun c3 => ?_)
      · refine aw_aload_n C dX5_letter_33 rfl ?_
        refine aw_getS C dX5_letter_34 fX5_34 ⟨rfl, by decide⟩ rfl rfl (srf 0 3 13 (by decide)) ?_
        refine aw_iload_n C dX5_letter_37 rfl ?_
        refine aw_iald C dX5_letter_38 ⟨rfl, by decide⟩ (by decide) (by omega) (by omega) ?_
        rw [eW]
        refine aw_iload_n C dX5_letter_39 rfl ?_
        refine aw_callS1 C dX5_letter_40 lX5_289 vX3_letterOf (t_X3_letterOf W30 (by omega)) rfl rfl rfl ⟨by decide, by decide⟩ (Nat.le_of_ble_eq_true rfl) ?_
        exact fin (eP.mpr ⟨by omega, by omega⟩)
      · exact thr (fun w => by have := eP.mp w; omega)

theorem t_X3_numberOf {mu : Mem} {d i : Int} (h0 : 0 ≤ i) (h1 : i < 12) (h2 : 0 ≤ d) (h3 : d < 6) : TrE 0 mX3_numberOf [vr 1, vi d, vi i] mu (some (vi (mu 5 (d * 12 + i).toNat))) mu := by
  refine Tr.of (by decide +kernel) (Nat.le_of_ble_eq_true rfl) (fun K C E => ?_)
  refine aw_iload_n C dX3_numberOf_0 rfl ?_
  refine aw_bipush C dX3_numberOf_1 rfl ?_
  refine aw_imul C dX3_numberOf_3 ?_
  refine aw_iload_n C dX3_numberOf_4 rfl ?_
  refine aw_iadd C dX3_numberOf_5 ?_
  refine aw_istore_n C dX3_numberOf_6 (by decide) ?_
  refine aw_iload_n C dX3_numberOf_7 rfl ?_
  refine aw_if_lt C dX3_numberOf_8 (tgt := 29) (by decide) ⟨by omega, by omega⟩ (fun c1 => ?_) (fun c1 => ?_)
  · exfalso; omega
  · refine aw_iload_n C dX3_numberOf_11 rfl ?_
    refine aw_aload_n C dX3_numberOf_12 rfl ?_
    refine aw_getS C dX3_numberOf_13 fX3_23 ⟨rfl, by decide⟩ rfl rfl (srf 1 3 5 (by decide)) ?_
    refine aw_alen C dX3_numberOf_16 ⟨rfl, by decide⟩ (by decide) ?_
    refine aw_icmp_ge C dX3_numberOf_17 (tgt := 29) (by decide) ⟨by omega, by omega⟩ ⟨by omega, by omega⟩ (fun c2 => ?_) (fun c2 => ?_)
    · exfalso; omega
    · refine aw_aload_n C dX3_numberOf_20 rfl ?_
      refine aw_getS C dX3_numberOf_21 fX3_23 ⟨rfl, by decide⟩ rfl rfl (srf 1 3 5 (by decide)) ?_
      refine aw_iload_n C dX3_numberOf_24 rfl ?_
      refine aw_iald C dX3_numberOf_25 ⟨rfl, by decide⟩ (by decide) (by omega) (by omega) ?_
      refine aw_goto C dX3_numberOf_26 (tgt := 30) (by decide) ?_
      exact aw_iret C E dX3_numberOf_30 rfl ⟨rfl, rfl⟩
theorem bV_ins {V : FV} (h : bV V) {p : Nat} {x y : Int} {c : Nat → Int} (hn : V.1 < 24) (hx : -60 ≤ x ∧ x ≤ 60) (hy : -60 ≤ y ∧ y ≤ 60) (hc : ∀ d : Nat, (d : Int) < V.2.1 → -2000 ≤ c d ∧ c d ≤ 2000) : bV (insV V p x y c) := by
  obtain ⟨a, b, e, f, g⟩ := h
  refine ⟨by show 0 ≤ V.1 + 1 ∧ V.1 + 1 ≤ 24; omega, b, fun i => ?_, fun i => ?_, fun d i => ?_⟩
  · show -60 ≤ ins V.2.2.1 p x i ∧ ins V.2.2.1 p x i ≤ 60
    unfold ins
    split
    · exact e _
    · split
      · exact hx
      · exact e _
  · show -60 ≤ ins V.2.2.2.1 p y i ∧ ins V.2.2.2.1 p y i ≤ 60
    unfold ins
    split
    · exact f _
    · split
      · exact hy
      · exact f _
  · show -2000 ≤ (if (d : Int) < V.2.1 then ins (V.2.2.2.2 d) p (c d) i else 0) ∧ (if (d : Int) < V.2.1 then ins (V.2.2.2.2 d) p (c d) i else 0) ≤ 2000
    split
    · unfold ins
      split
      · exact g _ _
      · split
        · exact hc d (by assumption)
        · exact g _ _
    · omega
/-- a fan out of rays told one by one -/
noncomputable def bldV (l : Int) (x y : Nat → Int) (c : Nat → Nat → Int) : Nat → FV
  | 0 => (0, l, fun _ => 0, fun _ => 0, fun _ _ => 0)
  | k + 1 => insV (bldV l x y c k) (pos (bldV l x y c k) (x k) (y k)).toNat (x k) (y k) (c k)
theorem bldV_n (l : Int) (x y : Nat → Int) (c : Nat → Nat → Int) : ∀ k, (bldV l x y c k).1 = k ∧ (bldV l x y c k).2.1 = l
  | 0 => ⟨rfl, rfl⟩
  | k + 1 => by
    have ih := bldV_n l x y c k
    refine ⟨?_, ih.2⟩
    show (bldV l x y c k).1 + 1 = _
    rw [ih.1]; omega
theorem bldV_b {l : Int} {x y : Nat → Int} {c : Nat → Nat → Int} (hl : 0 ≤ l ∧ l ≤ 6) : ∀ k : Nat, k ≤ 24 → (∀ j : Nat, j < k → (-60 ≤ x j ∧ x j ≤ 60) ∧ (-60 ≤ y j ∧ y j ≤ 60) ∧ ∀ d : Nat, (d : Int) < l → -2000 ≤ c j d ∧ c j d ≤ 2000) → bV (bldV l x y c k)
  | 0, _, _ => ⟨by show (0 : Int) ≤ 0 ∧ (0 : Int) ≤ 24; omega, hl, fun _ => by show (-60 : Int) ≤ 0 ∧ (0 : Int) ≤ 60; omega, fun _ => by show (-60 : Int) ≤ 0 ∧ (0 : Int) ≤ 60; omega, fun _ _ => by show (-2000 : Int) ≤ 0 ∧ (0 : Int) ≤ 2000; omega⟩
  | k + 1, hk, h => by
    have ih := bldV_b (x := x) (y := y) (c := c) hl k (by omega) (fun j hj => h j (by omega))
    have hn := bldV_n l x y c k
    obtain ⟨a, b, e⟩ := h k (by omega)
    exact bV_ins ih (by rw [hn.1]; omega) a b (fun d hd => e d (by rw [← hn.2]; exact hd))
theorem cut1_0 (A : Nat → Int) : cut1 0 A = fun _ => 0 := by
  funext j; unfold cut1; rw [if_neg (by omega)]
theorem t_X1_build {f : Nat} {mu : Mem} (hf : isF f) (hr : 0 ≤ mu 1 6 ∧ mu 1 6 ≤ 12) (hl : 0 ≤ mu 1 7 ∧ mu 1 7 ≤ 6) (hxy : ∀ j : Nat, (j : Int) < mu 1 6 → (-60 ≤ mu 2 j ∧ mu 2 j ≤ 60) ∧ (-60 ≤ mu 3 j ∧ mu 3 j ≤ 60) ∧ ∀ d : Nat, (d : Int) < mu 1 7 → -2000 ≤ mu 5 (12 * d + j) ∧ mu 5 (12 * d + j) ≤ 2000) :
    Tr 3 mX1_build [vr f, vr 1] mu (fun r m2 => r = none ∧ frm (fanS f) mu m2 ∧ fv m2 f = bldV (mu 1 7) (mu 2) (mu 3) (fun j d => mu 5 (12 * d + j)) (mu 1 6).toNat) := by
  refine Tr.of (by decide +kernel) (Nat.le_of_ble_eq_true rfl) (fun K C E => ?_)
  have hfp : 15 ≤ f := by obtain ⟨t, -, rfl⟩ := hf; omega
  have ky : ∀ m : Mem, frm (fanS f) mu m → m 1 = mu 1 ∧ m 2 = mu 2 ∧ m 3 = mu 3 ∧ m 5 = mu 5 := fun m h => ⟨h 1 (by unfold fanS; omega), h 2 (by unfold fanS; omega), h 3 (by unfold fanS; omega), h 5 (by unfold fanS; omega)⟩
  have loop : ∀ (k : Nat) (i : Int) (v3 v4 : Vv) (m : Mem), 0 ≤ i → i + k = mu 1 6 → frm (fanS f) mu m → fv m f = bldV (mu 1 7) (mu 2) (mu 3) (fun j d => mu 5 (12 * d + j)) i.toNat → AW K mX1_build (NC, 0, 0) 15 [vr f, vr 1, vi i, v3, v4] [] m := by
    intro k
    induction k with
    | zero =>
      intro i v3 v4 m q0 q1 q2 q3
      have e : i = mu 1 6 := by omega
      subst e
      have e6 : m 1 6 = mu 1 6 := by rw [(ky m q2).1]
      refine aw_iload_n C dX1_build_15 rfl ?_
      refine aw_aload_n C dX1_build_16 rfl ?_
      refine aw_getI C dX1_build_17 fX1_39 ⟨rfl, by decide⟩ rfl ?_
      rw [e6]
      refine aw_icmp_ge C dX1_build_20 (tgt := 87) (by decide) ⟨by omega, by omega⟩ ⟨by omega, by omega⟩ (fun c1 => ?_) (fun c1 => ?_)
      · exact aw_vret C E dX1_build_87 rfl ⟨rfl, q2, q3⟩
      · exfalso; omega
    | succ k ih =>
      intro i v3 v4 m q0 q1 q2 q3
      obtain ⟨k1, k2, k3, k5⟩ := ky m q2
      have e6 : m 1 6 = mu 1 6 := by rw [k1]
      have bb := bldV_b (x := mu 2) (y := mu 3) (c := fun j d => mu 5 (12 * d + j)) hl i.toNat (by omega) (fun j hj => hxy j (by omega))
      have bn := bldV_n (mu 1 7) (mu 2) (mu 3) (fun j d => mu 5 (12 * d + j)) i.toNat
      rw [← q3] at bb bn
      have n0 : m f 0 = i := by have := bn.1; have e : (fv m f).1 = m f 0 := rfl; omega
      have n1 : m f 1 = mu 1 7 := bn.2
      obtain ⟨bx, by', bc⟩ := hxy i.toNat (by omega)
      have ex : m 2 i.toNat = mu 2 i.toNat := by rw [k2]
      have ey : m 3 i.toNat = mu 3 i.toNat := by rw [k3]
      have hp : 0 ≤ pos (fv m f) (mu 2 i.toNat) (mu 3 i.toNat) ∧ pos (fv m f) (mu 2 i.toNat) (mu 3 i.toNat) ≤ m f 0 := pos_in (V := fv m f) (by rw [bn.1]; omega) _ _
      have inner : ∀ (m1 : Mem), opR m m1 f (pos (fv m f) (mu 2 i.toNat) (mu 3 i.toNat)).toNat (m f 0) (m f 1) (mu 2 i.toNat) (mu 3 i.toNat) → ∀ (q : Nat) (d : Int) (m2 : Mem), 0 ≤ d → d + q = mu 1 7 → m2 f = m1 f → m2 (f + 1) = m1 (f + 1) → m2 (f + 2) = m1 (f + 2) → (∀ d2 j : Nat, j < 24 → m2 (f + 3) (24 * d2 + j) = if j = (pos (fv m f) (mu 2 i.toNat) (mu 3 i.toNat)).toNat ∧ (d2 : Int) < d then mu 5 (12 * d2 + i.toNat) else m1 (f + 3) (24 * d2 + j)) → frm (fanS f) mu m2 → AW K mX1_build (NC, 0, 0) 52 [vr f, vr 1, vi i, vi (pos (fv m f) (mu 2 i.toNat) (mu 3 i.toNat)), vi d] [] m2 := by
        intro m1 ho q
        induction q with
        | zero =>
          intro d m2 w0 w1 w2 w3 w4 w5 w6
          have e : d = mu 1 7 := by omega
          subst e
          have e1 : m2 f 1 = mu 1 7 := by rw [w2, ho.2.1, n1]
          have hv := op_view (c := fun d => mu 5 (12 * d + i.toNat)) (by omega) ho w2 w3 w4 (fun d j hd hj => by
            rw [n1] at hd
            rw [w5 d j (by omega)]
            by_cases hj2 : j = (pos (fv m f) (mu 2 i.toNat) (mu 3 i.toNat)).toNat
            · rw [if_pos ⟨hj2, hd⟩, if_pos hj2]
            · rw [if_neg (fun q => hj2 q.1), if_neg hj2])
          refine aw_iload C dX1_build_52 rfl ?_
          refine aw_aload_n C dX1_build_54 rfl ?_
          refine aw_getI C dX1_build_55 fX1_25 hf.s0 rfl ?_
          rw [e1]
          refine aw_icmp_ge C dX1_build_58 (tgt := 81) (by decide) ⟨by omega, by omega⟩ ⟨by omega, by omega⟩ (fun c1 => ?_) (fun c1 => ?_)
          · refine aw_iinc C dX1_build_81 rfl ?_
            refine aw_goto C dX1_build_84 (tgt := 15) (by decide) ?_
            refine ih (i + 1) _ _ m2 (by omega) (by omega) w6 ?_
            rw [hv, show (i + 1).toNat = i.toNat + 1 by omega]
            show _ = insV (bldV (mu 1 7) (mu 2) (mu 3) (fun j d => mu 5 (12 * d + j)) i.toNat) _ _ _ _
            rw [← q3]
          · exfalso; omega
        | succ q ihq =>
          intro d m2 w0 w1 w2 w3 w4 w5 w6
          have e1 : m2 f 1 = mu 1 7 := by rw [w2, ho.2.1, n1]
          have e5 : m2 5 (d * 12 + i).toNat = mu 5 (12 * d.toNat + i.toNat) := by rw [(ky m2 w6).2.2.2]; congr 1; omega
          refine aw_iload C dX1_build_52 rfl ?_
          refine aw_aload_n C dX1_build_54 rfl ?_
          refine aw_getI C dX1_build_55 fX1_25 hf.s0 rfl ?_
          rw [e1]
          refine aw_icmp_ge C dX1_build_58 (tgt := 81) (by decide) ⟨by omega, by omega⟩ ⟨by omega, by omega⟩ (fun c1 => ?_) (fun c1 => ?_)
          · exfalso; omega
          · refine aw_aload_n C dX1_build_61 rfl ?_
            refine aw_iload C dX1_build_62 rfl ?_
            refine aw_iload_n C dX1_build_64 rfl ?_
            refine aw_aload_n C dX1_build_65 rfl ?_
            refine aw_iload C dX1_build_66 rfl ?_
            refine aw_iload_n C dX1_build_68 rfl ?_
            refine aw_call1 C dX1_build_69 lX1_48 vX3_numberOf (t_X3_numberOf q0 (by omega) w0 (by omega)) rfl rfl rfl ⟨rfl, by decide⟩ rfl ⟨by decide, by decide⟩ (Nat.le_of_ble_eq_true rfl) ?_
            rw [e5]
            refine aw_call0 C dX1_build_72 lX1_51 vX1_put (t_X1_put hf hp.1 (by omega) w0 (by omega)) rfl rfl rfl hf.s0 rfl ⟨by decide, by decide⟩ (Nat.le_of_ble_eq_true rfl) ?_
            refine aw_iinc C dX1_build_75 rfl ?_
            refine aw_goto C dX1_build_78 (tgt := 52) (by decide) ?_
            refine ihq (d + 1) _ (by omega) (by omega) (by rw [wr_ne (by omega)]; exact w2) (by rw [wr_ne (by omega)]; exact w3) (by rw [wr_ne (by omega)]; exact w4) (fun d2 j hj => ?_) (w6.wr ⟨by omega, by omega⟩)
            rw [wr_at]
            by_cases hx : f + 3 = f + 3 ∧ 24 * d2 + j = (d * 24 + pos (fv m f) (mu 2 i.toNat) (mu 3 i.toNat)).toNat
            · have e9 : d2 = d.toNat := by omega
              rw [if_pos hx, if_pos (by omega), e9]
            · rw [if_neg hx, w5 d2 j hj]
              by_cases hy : j = (pos (fv m f) (mu 2 i.toNat) (mu 3 i.toNat)).toNat ∧ (d2 : Int) < d
              · rw [if_pos hy, if_pos (by omega)]
              · rw [if_neg hy, if_neg (by omega)]
      refine aw_iload_n C dX1_build_15 rfl ?_
      refine aw_aload_n C dX1_build_16 rfl ?_
      refine aw_getI C dX1_build_17 fX1_39 ⟨rfl, by decide⟩ rfl ?_
      rw [e6]
      refine aw_icmp_ge C dX1_build_20 (tgt := 87) (by decide) ⟨by omega, by omega⟩ ⟨by omega, by omega⟩ (fun c1 => ?_) (fun c1 => ?_)
      · exfalso; omega
      · refine aw_iload_n C dX1_build_23 rfl ?_
        refine aw_aload_n C dX1_build_24 rfl ?_
        refine aw_getS C dX1_build_25 fX1_42 ⟨rfl, by decide⟩ rfl rfl (srf 1 0 2 (by decide)) ?_
        refine aw_alen C dX1_build_28 ⟨rfl, by decide⟩ (by decide) ?_
        refine aw_icmp_ge C dX1_build_29 (tgt := 87) (by decide) ⟨by omega, by omega⟩ ⟨by omega, by omega⟩ (fun c2 => ?_) (fun c2 => ?_)
        · exfalso; omega
        · refine aw_aload_n C dX1_build_32 rfl ?_
          refine aw_aload_n C dX1_build_33 rfl ?_
          refine aw_getS C dX1_build_34 fX1_42 ⟨rfl, by decide⟩ rfl rfl (srf 1 0 2 (by decide)) ?_
          refine aw_iload_n C dX1_build_37 rfl ?_
          refine aw_iald C dX1_build_38 ⟨rfl, by decide⟩ (by decide) (by omega) (by omega) ?_
          rw [ex]
          refine aw_aload_n C dX1_build_39 rfl ?_
          refine aw_getS C dX1_build_40 fX1_43 ⟨rfl, by decide⟩ rfl rfl (srf 1 1 3 (by decide)) ?_
          refine aw_iload_n C dX1_build_43 rfl ?_
          refine aw_iald C dX1_build_44 ⟨rfl, by decide⟩ (by decide) (by omega) (by omega) ?_
          rw [ey]
          refine aw_call C dX1_build_45 lX1_44 vX1_open (t_X1_open hf bb (by omega) bx by') rfl rfl rfl hf.s0 rfl ⟨by decide, by decide⟩ (Nat.le_of_ble_eq_true rfl) (fun r3 mu3 hq3 => ?_)
          obtain ⟨rfl, hq⟩ := hq3
          show AW _ _ _ _ _ (vi (pos (fv m f) (mu 2 i.toNat) (mu 3 i.toNat)) :: _) _
          refine aw_istore_n C dX1_build_48 (by decide) ?_
          refine aw_iconst C dX1_build_49 ?_
          refine aw_istore C dX1_build_50 (by decide) ?_
          exact inner _ hq (mu 1 7).toNat 0 _ (by omega) (by omega) rfl rfl rfl (fun d2 j _ => by rw [if_neg (by omega)]) (q2.tr hq.2.2.2.2)
  have hv0 : fv (wr (wr mu f 0 0) f 1 (wr mu f 0 0 1 7)) f = bldV (mu 1 7) (mu 2) (mu 3) (fun j d => mu 5 (12 * d + j)) 0 := by
    show _ = ((0 : Int), mu 1 7, (fun _ => (0 : Int)), (fun _ => (0 : Int)), fun _ _ => (0 : Int))
    have e0 : wr (wr mu f 0 0) f 1 (wr mu f 0 0 1 7) f 0 = 0 := by rw [wr_at, if_neg (by omega), wr_at, if_pos ⟨rfl, rfl⟩]
    have e1 : wr (wr mu f 0 0) f 1 (wr mu f 0 0 1 7) f 1 = mu 1 7 := by rw [wr_at, if_pos ⟨rfl, rfl⟩, wr_ne (by omega)]
    unfold fv
    rw [e0, e1, cut1_0, cut1_0]
    refine congrArg _ (congrArg _ (congrArg _ (congrArg _ ?_)))
    funext d j; unfold cut2; rw [if_neg (by omega)]
  refine aw_aload_n C dX1_build_0 rfl ?_
  refine aw_iconst C dX1_build_1 ?_
  refine aw_putI C dX1_build_2 fX1_21 hf.s0 rfl rfl rfl ?_
  refine aw_aload_n C dX1_build_5 rfl ?_
  refine aw_aload_n C dX1_build_6 rfl ?_
  refine aw_getI C dX1_build_7 fX1_34 ⟨rfl, by decide⟩ rfl ?_
  refine aw_putI C dX1_build_10 fX1_25 hf.s0 rfl rfl rfl ?_
  refine aw_iconst C dX1_build_13 ?_
  refine aw_istore_n C dX1_build_14 (by decide) ?_
  exact loop (mu 1 6).toNat 0 _ _ _ (by omega) (by omega) ((frm.rf.wr ⟨by omega, by omega⟩).wr ⟨by omega, by omega⟩) hv0

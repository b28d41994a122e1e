theorem cpF_view {mu : Mem} {f g : Nat} (hf : isF f) (hg : isF g) (hne : f ≠ g) (hn : mu g 0 ≤ 24) (hl : mu g 1 ≤ 6) : fv (cpy (cpy (cpy (wr (wr mu f 0 (mu g 0)) f 1 (wr mu f 0 (mu g 0) g 1)) (g + 1) (f + 1) 24) (g + 2) (f + 2) 24) (g + 3) (f + 3) 144) f = fv mu g ∧ frm (fanS f) mu (cpy (cpy (cpy (wr (wr mu f 0 (mu g 0)) f 1 (wr mu f 0 (mu g 0) g 1)) (g + 1) (f + 1) 24) (g + 2) (f + 2) 24) (g + 3) (f + 3) 144) := by
  obtain ⟨t, h1, rfl⟩ := hf
  obtain ⟨u, h2, rfl⟩ := hg
  have hd : t ≠ u := fun e => hne (by rw [e])
  refine ⟨?_, fun a ha => ?_⟩
  · unfold fv
    have e0 : ∀ j, cpy (cpy (cpy (wr (wr mu (15 + 4 * t) 0 (mu (15 + 4 * u) 0)) (15 + 4 * t) 1 (wr mu (15 + 4 * t) 0 (mu (15 + 4 * u) 0) (15 + 4 * u) 1)) (15 + 4 * u + 1) (15 + 4 * t + 1) 24) (15 + 4 * u + 2) (15 + 4 * t + 2) 24) (15 + 4 * u + 3) (15 + 4 * t + 3) 144 (15 + 4 * t) j = if j = 1 then mu (15 + 4 * u) 1 else if j = 0 then mu (15 + 4 * u) 0 else mu (15 + 4 * t) j := by
      intro j
      rw [cpy_ne (by omega), cpy_ne (by omega), cpy_ne (by omega), wr_at, wr_at, wr_at]
      simp
    rw [e0 0, e0 1, if_neg (by decide), if_pos rfl, if_pos rfl]
    refine congrArg _ (congrArg _ (congr (congrArg _ ?_) (congr (congrArg _ ?_) ?_)))
    · funext j
      unfold cut1
      by_cases hj : (j : Int) < mu (15 + 4 * u) 0
      · rw [if_pos hj, if_pos hj, cpy_ne (by omega), cpy_ne (by omega), cpy_self, if_pos (by omega), wr_ne (by omega), wr_ne (by omega)]
      · rw [if_neg hj, if_neg hj]
    · funext j
      unfold cut1
      by_cases hj : (j : Int) < mu (15 + 4 * u) 0
      · rw [if_pos hj, if_pos hj, cpy_ne (by omega), cpy_self, if_pos (by omega), cpy_ne (by omega), wr_ne (by omega), wr_ne (by omega)]
      · rw [if_neg hj, if_neg hj]
    · funext d j
      unfold cut2
      dsimp only
      by_cases hj : (d : Int) < mu (15 + 4 * u) 1 ∧ (j : Int) < mu (15 + 4 * u) 0
      · rw [if_pos hj, if_pos hj, cpy_self, if_pos (by omega), cpy_ne (by omega), cpy_ne (by omega), wr_ne (by omega), wr_ne (by omega)]
      · rw [if_neg hj, if_neg hj]
  · unfold fanS at ha
    rw [cpy_ne (by omega), cpy_ne (by omega), cpy_ne (by omega), wr_ne (by omega), wr_ne (by omega)]
theorem t_X1_copyFrom {f g : Nat} {mu : Mem} (hf : isF f) (hg : isF g) (hne : f ≠ g) (hn : mu g 0 ≤ 24) (hl : mu g 1 ≤ 6) : Tr 1 mX1_copyFrom [vr f, vr g] mu (fun r m2 => r = none ∧ fv m2 f = fv mu g ∧ frm (fanS f) mu m2) := by
  refine Tr.of (by decide +kernel) (Nat.le_of_ble_eq_true rfl) (fun K C E => ?_)
  refine aw_aload_n C dX1_copyFrom_0 rfl ?_
  refine aw_aload_n C dX1_copyFrom_1 rfl ?_
  refine aw_getI C dX1_copyFrom_2 fX1_21 hg.s0 rfl ?_
  refine aw_putI C dX1_copyFrom_5 fX1_21 hf.s0 rfl rfl rfl ?_
  refine aw_aload_n C dX1_copyFrom_8 rfl ?_
  refine aw_aload_n C dX1_copyFrom_9 rfl ?_
  refine aw_getI C dX1_copyFrom_10 fX1_25 hg.s0 rfl ?_
  refine aw_putI C dX1_copyFrom_13 fX1_25 hf.s0 rfl rfl rfl ?_
  refine aw_aload_n C dX1_copyFrom_16 rfl ?_
  refine aw_getS C dX1_copyFrom_17 fX1_11 hg.s0 rfl rfl hg.x ?_
  refine aw_iconst C dX1_copyFrom_20 ?_
  refine aw_aload_n C dX1_copyFrom_21 rfl ?_
  refine aw_getS C dX1_copyFrom_22 fX1_11 hf.s0 rfl rfl hf.x ?_
  refine aw_iconst C dX1_copyFrom_25 ?_
  refine aw_bipush C dX1_copyFrom_26 rfl ?_
  refine aw_copy C dX1_copyFrom_28 lac_X1_28 hg.s1 hf.s1 rfl (by decide) (by decide) (by decide) (by decide) (Nat.le_of_ble_eq_true rfl) ?_
  refine aw_aload_n C dX1_copyFrom_31 rfl ?_
  refine aw_getS C dX1_copyFrom_32 fX1_15 hg.s0 rfl rfl hg.y ?_
  refine aw_iconst C dX1_copyFrom_35 ?_
  refine aw_aload_n C dX1_copyFrom_36 rfl ?_
  refine aw_getS C dX1_copyFrom_37 fX1_15 hf.s0 rfl rfl hf.y ?_
  refine aw_iconst C dX1_copyFrom_40 ?_
  refine aw_bipush C dX1_copyFrom_41 rfl ?_
  refine aw_copy C dX1_copyFrom_43 lac_X1_28 hg.s2 hf.s2 rfl (by decide) (by decide) (by decide) (by decide) (Nat.le_of_ble_eq_true rfl) ?_
  refine aw_aload_n C dX1_copyFrom_46 rfl ?_
  refine aw_getS C dX1_copyFrom_47 fX1_18 hg.s0 rfl rfl hg.n ?_
  refine aw_iconst C dX1_copyFrom_50 ?_
  refine aw_aload_n C dX1_copyFrom_51 rfl ?_
  refine aw_getS C dX1_copyFrom_52 fX1_18 hf.s0 rfl rfl hf.n ?_
  refine aw_iconst C dX1_copyFrom_55 ?_
  refine aw_sipush C dX1_copyFrom_56 rfl ?_
  refine aw_copy C dX1_copyFrom_59 lac_X1_28 hg.s3 hf.s3 rfl (by decide) (by decide) (by decide) (by decide) (Nat.le_of_ble_eq_true rfl) ?_
  exact aw_vret C E dX1_copyFrom_62 rfl ⟨rfl, cpF_view hf hg hne hn hl⟩
/-- numbers of a load laid anew -/
theorem set_view {mu m : Mem} {f d : Nat} {h : Nat → Int} (hd : (d : Int) < mu f 1) (h0 : m f = mu f) (h1 : m (f + 1) = mu (f + 1)) (h2 : m (f + 2) = mu (f + 2)) (h3 : ∀ d2 j : Nat, (d2 : Int) < mu f 1 → (j : Int) < mu f 0 → m (f + 3) (24 * d2 + j) = if d2 = d then h j else mu (f + 3) (24 * d2 + j)) : fv m f = setN (fv mu f) d h := by
  unfold fv setN
  rw [h0, h1, h2]
  refine congrArg _ (congrArg _ (congr (congrArg _ rfl) (congr (congrArg _ rfl) ?_)))
  funext d2 j
  show cut2 (mu f 1) (mu f 0) (fun d j => m (f + 3) (24 * d + j)) d2 j = if d2 = d then (if (j : Int) < mu f 0 then h j else 0) else cut2 (mu f 1) (mu f 0) (fun d j => mu (f + 3) (24 * d + j)) d2 j
  unfold cut2
  dsimp only
  by_cases hj : (d2 : Int) < mu f 1 ∧ (j : Int) < mu f 0
  · rw [if_pos hj, h3 d2 j hj.1 hj.2]
    by_cases e : d2 = d
    · rw [if_pos e, if_pos e, if_pos hj.2]
    · rw [if_neg e, if_neg e, if_pos hj]
  · rw [if_neg hj]
    by_cases e : d2 = d
    · rw [if_pos e, if_neg (by omega)]
    · rw [if_neg e, if_neg hj]
def hld (v : Int) : Prop := -2000 ≤ v ∧ v ≤ 2000
theorem t_X1_isHeldH {v : Int} {mu : Mem} (hv : R62 v) : TrE 1 mX1_isHeld [vl v] mu (some (vi (b01 (hld v)))) mu := t_X1_isHeld hv
def adR (mu m : Mem) (f : Nat) (d : Int) (h : Int → Int) (r : Option Vv) : Prop := frm (fanS f) mu m ∧ r = some (vi (b01 (∀ j : Int, 0 ≤ j → j < mu f 0 → hld (h j)))) ∧ fv m f = setN (fv mu f) d.toNat (fun j => h j)
theorem gn_m {mu m : Mem} {f : Nat} {d i k : Int} {h : Int → Int} {d0 : Int} (hd0 : 0 ≤ d0) (hi0 : 0 ≤ i) (hi : i < mu f 0) (hn : mu f 0 ≤ 24) (hd : 0 ≤ d) (hdl : d < mu f 1) (hk : k ≤ i)
    (h3 : ∀ d2 j : Nat, j < 24 → m (f + 3) (24 * d2 + j) = if d2 = d0.toNat ∧ (j : Int) < k then h j else mu (f + 3) (24 * d2 + j)) : m (f + 3) (d * 24 + i).toNat = gn (fv mu f) d i := by
  rw [fn_at hi0 hi hd hdl]
  have := h3 d.toNat i.toNat (by omega)
  rw [show 24 * d.toNat + i.toNat = (d * 24 + i).toNat by omega, if_neg (by omega)] at this
  exact this
theorem t_X1_addLoad {f : Nat} {mu : Mem} {d e t : Int} (hf : isF f) (hV : bV (fv mu f)) (h2 : 0 ≤ d) (h3 : d < mu f 1) (h4 : 0 ≤ e) (h5 : e < mu f 1) (ht : -3 ≤ t ∧ t ≤ 3) : Tr 2 mX1_addLoad [vr f, vi d, vi e, vi t] mu (fun r m2 => adR mu m2 f d (fun j => gn (fv mu f) d j + t * gn (fv mu f) e j) r) := by
  refine Tr.of (by decide +kernel) (Nat.le_of_ble_eq_true rfl) (fun K C E => ?_)
  have hn := hV.n
  have hl := hV.l
  have loop : ∀ (k : Nat) (i z : Int) (v6 : Vv) (m : Mem), 0 ≤ i → i + k = mu f 0 → z = b01 (∀ j : Int, 0 ≤ j → j < i → hld (gn (fv mu f) d j + t * gn (fv mu f) e j)) → m f = mu f → m (f + 1) = mu (f + 1) → m (f + 2) = mu (f + 2) → (∀ d2 j : Nat, j < 24 → m (f + 3) (24 * d2 + j) = if d2 = d.toNat ∧ (j : Int) < i then gn (fv mu f) d j + t * gn (fv mu f) e j else mu (f + 3) (24 * d2 + j)) → frm (fanS f) mu m → AW K mX1_addLoad (NC, 0, 0) 6 [vr f, vi d, vi e, vi t, vi z, vi i, v6] [] m := by
    intro k
    induction k with
    | zero =>
      intro i z v6 m q0 q1 qz q2 q3 q4 q5 q6
      have e9 : i = mu f 0 := by omega
      subst e9
      have e0 : m f 0 = mu f 0 := by rw [q2]
      have z01 : z = 0 ∨ z = 1 := by rw [qz]; exact b01_01 _
      refine aw_iload C dX1_addLoad_6 rfl ?_
      refine aw_aload_n C dX1_addLoad_8 rfl ?_
      refine aw_getI C dX1_addLoad_9 fX1_21 hf.s0 rfl ?_
      rw [e0]
      refine aw_icmp_ge C dX1_addLoad_12 (tgt := 70) (by decide) ⟨by omega, by omega⟩ ⟨by omega, by omega⟩ (fun c1 => ?_) (fun c1 => ?_)
      · refine aw_iload C dX1_addLoad_70 rfl ?_
        exact aw_zret C E dX1_addLoad_72 rfl (by omega) ⟨q6, by rw [qz], set_view (by omega) q2 q3 q4 (fun d2 j w1 w2 => by
          rw [q5 d2 j (by omega)]
          by_cases w : d2 = d.toNat
          · rw [if_pos ⟨w, w2⟩, if_pos w]
          · rw [if_neg (fun q => w q.1), if_neg w])⟩
      · exfalso; omega
    | succ k ih =>
      intro i z v6 m q0 q1 qz q2 q3 q4 q5 q6
      have e0 : m f 0 = mu f 0 := by rw [q2]
      have g1 := gn_m (d := d) (h := fun j => gn (fv mu f) d j + t * gn (fv mu f) e j) h2 q0 (by omega) hn.2 h2 h3 (Int.le_refl i) q5
      have g2 := gn_m (d := e) (h := fun j => gn (fv mu f) d j + t * gn (fv mu f) e j) h2 q0 (by omega) hn.2 h4 h5 (Int.le_refl i) q5
      have b1 := hV.g d i
      have b2 := hV.g e i
      have b3 := mulb ht b2
      have z01 : z = 0 ∨ z = 1 := by rw [qz]; exact b01_01 _
      have hb := b01_01 (hld (gn (fv mu f) d i + t * gn (fv mu f) e i))
      have nx : ∀ (z2 : Int) (v6 : Vv), z2 = b01 (∀ j : Int, 0 ≤ j → j < i + 1 → hld (gn (fv mu f) d j + t * gn (fv mu f) e j)) → AW K mX1_addLoad (NC, 0, 0) 6 [vr f, vi d, vi e, vi t, vi z2, vi (i + 1), v6] [] (wr m (f + 3) (d * 24 + i).toNat (gn (fv mu f) d i + t * gn (fv mu f) e i)) := by
        intro z2 v6 hz2
        refine ih (i + 1) z2 v6 _ (by omega) (by omega) hz2 (by rw [wr_ne (by omega)]; exact q2) (by rw [wr_ne (by omega)]; exact q3) (by rw [wr_ne (by omega)]; exact q4) (fun d2 j hj => ?_) (q6.wr ⟨by omega, by omega⟩)
        rw [wr_at]
        by_cases hx : f + 3 = f + 3 ∧ 24 * d2 + j = (d * 24 + i).toNat
        · have e9 : (j : Int) = i := by omega
          rw [if_pos hx, if_pos (by omega), e9]
        · rw [if_neg hx, q5 d2 j hj]
          by_cases hy : d2 = d.toNat ∧ (j : Int) < i
          · rw [if_pos hy, if_pos (by omega)]
          · rw [if_neg hy, if_neg (by omega)]
      have hs : (∀ j : Int, 0 ≤ j → j < i + 1 → hld (gn (fv mu f) d j + t * gn (fv mu f) e j)) ↔ (∀ j : Int, 0 ≤ j → j < i → hld (gn (fv mu f) d j + t * gn (fv mu f) e j)) ∧ hld (gn (fv mu f) d i + t * gn (fv mu f) e i) := by
        refine ⟨fun q => ⟨fun j w1 w2 => q j w1 (by omega), q i q0 (by omega)⟩, fun q j w1 w2 => ?_⟩
        rcases Int.lt_or_eq_of_le (show j ≤ i by omega) with w3 | w3
        · exact q.1 j w1 w3
        · rw [w3]; exact q.2
      refine aw_iload C dX1_addLoad_6 rfl ?_
      refine aw_aload_n C dX1_addLoad_8 rfl ?_
      refine aw_getI C dX1_addLoad_9 fX1_21 hf.s0 rfl ?_
      rw [e0]
      refine aw_icmp_ge C dX1_addLoad_12 (tgt := 70) (by decide) ⟨by omega, by omega⟩ ⟨by omega, by omega⟩ (fun c1 => ?_) (fun c1 => ?_)
      · exfalso; omega
      · refine aw_aload_n C dX1_addLoad_15 rfl ?_
        refine aw_iload_n C dX1_addLoad_16 rfl ?_
        refine aw_iload C dX1_addLoad_17 rfl ?_
        refine aw_call1 C dX1_addLoad_19 lX1_108 vX1_number (t_X1_nm hf q0 (by omega) h2 (by omega)) rfl rfl rfl hf.s0 rfl ⟨by decide, by decide⟩ (Nat.le_of_ble_eq_true rfl) ?_
        rw [g1]
        refine aw_iload_n C dX1_addLoad_22 rfl ?_
        refine aw_aload_n C dX1_addLoad_23 rfl ?_
        refine aw_iload_n C dX1_addLoad_24 rfl ?_
        refine aw_iload C dX1_addLoad_25 rfl ?_
        refine aw_call1 C dX1_addLoad_27 lX1_108 vX1_number (t_X1_nm hf q0 (by omega) h4 (by omega)) rfl rfl rfl hf.s0 rfl ⟨by decide, by decide⟩ (Nat.le_of_ble_eq_true rfl) ?_
        rw [g2]
        refine aw_imul C dX1_addLoad_30 ?_
        refine aw_iadd C dX1_addLoad_31 ?_
        refine aw_istore C dX1_addLoad_32 (by decide) ?_
        refine aw_iload C dX1_addLoad_34 rfl ?_
        refine aw_if_eq C dX1_addLoad_36 (tgt := 52) (by decide) ⟨by omega, by omega⟩ (fun c2 => ?_) (fun c2 => ?_)
        · have hz := b01_f (fun q => b01_niff.mp (qz.symm.trans c2) (hs.mp q).1)
          --go
          refine aw_iconst C dX1_addLoad_52 ?_
          refine aw_istore C dX1_addLoad_53 (by decide) ?_
          refine aw_aload_n C dX1_addLoad_55 rfl ?_
          refine aw_iload_n C dX1_addLoad_56 rfl ?_
          refine aw_iload C dX1_addLoad_57 rfl ?_
          refine aw_iload C dX1_addLoad_59 rfl ?_
          refine aw_call0 C dX1_addLoad_61 lX1_51 vX1_put (t_X1_put hf q0 (by omega) h2 (by omega)) rfl rfl rfl hf.s0 rfl ⟨by decide, by decide⟩ (Nat.le_of_ble_eq_true rfl) ?_
          refine aw_iinc C dX1_addLoad_64 rfl ?_
          refine aw_goto C dX1_addLoad_67 (tgt := 6) (by decide) ?_
          exact nx _ _ hz.symm
        · refine aw_iload C dX1_addLoad_39 rfl ?_
          refine aw_i2l C dX1_addLoad_41 ⟨by omega, by omega⟩ ?_
          refine aw_callS1 C dX1_addLoad_42 lX1_132 vX1_isHeld (t_X1_isHeldH ⟨by omega, by omega⟩) rfl rfl rfl ⟨by decide, by decide⟩ (Nat.le_of_ble_eq_true rfl) ?_
          refine aw_if_eq C dX1_addLoad_45 (tgt := 52) (by decide) ⟨by omega, by omega⟩ (fun c3 => ?_) (fun c3 => ?_)
          · have hz := b01_f (fun q => b01_niff.mp c3 (hs.mp q).2)
            --go
            refine aw_iconst C dX1_addLoad_52 ?_
            refine aw_istore C dX1_addLoad_53 (by decide) ?_
            refine aw_aload_n C dX1_addLoad_55 rfl ?_
            refine aw_iload_n C dX1_addLoad_56 rfl ?_
            refine aw_iload C dX1_addLoad_57 rfl ?_
            refine aw_iload C dX1_addLoad_59 rfl ?_
            refine aw_call0 C dX1_addLoad_61 lX1_51 vX1_put (t_X1_put hf q0 (by omega) h2 (by omega)) rfl rfl rfl hf.s0 rfl ⟨by decide, by decide⟩ (Nat.le_of_ble_eq_true rfl) ?_
            refine aw_iinc C dX1_addLoad_64 rfl ?_
            refine aw_goto C dX1_addLoad_67 (tgt := 6) (by decide) ?_
            exact nx _ _ hz.symm
          · have hz := b01_t (hs.mpr ⟨b01_iff.mp (by omega), b01_iff.mp (show b01 (hld (gn (fv mu f) d i + t * gn (fv mu f) e i)) = 1 by omega)⟩)
            --go
            refine aw_iconst C dX1_addLoad_48 ?_
            refine aw_goto C dX1_addLoad_49 (tgt := 53) (by decide) ?_
            refine aw_istore C dX1_addLoad_53 (by decide) ?_
            refine aw_aload_n C dX1_addLoad_55 rfl ?_
            refine aw_iload_n C dX1_addLoad_56 rfl ?_
            refine aw_iload C dX1_addLoad_57 rfl ?_
            refine aw_iload C dX1_addLoad_59 rfl ?_
            refine aw_call0 C dX1_addLoad_61 lX1_51 vX1_put (t_X1_put hf q0 (by omega) h2 (by omega)) rfl rfl rfl hf.s0 rfl ⟨by decide, by decide⟩ (Nat.le_of_ble_eq_true rfl) ?_
            refine aw_iinc C dX1_addLoad_64 rfl ?_
            refine aw_goto C dX1_addLoad_67 (tgt := 6) (by decide) ?_
            exact nx _ _ hz.symm
  refine aw_iconst C dX1_addLoad_0 ?_
  refine aw_istore C dX1_addLoad_1 (by decide) ?_
  refine aw_iconst C dX1_addLoad_3 ?_
  refine aw_istore C dX1_addLoad_4 (by decide) ?_
  exact loop (mu f 0).toNat 0 1 _ mu (by omega) (by omega) (b01_t (fun j w1 w2 => by omega)).symm rfl rfl rfl (fun d2 j _ => by rw [if_neg (by omega)]) frm.rf
theorem t_X1_addWhole {f : Nat} {mu : Mem} {d a b : Int} (hf : isF f) (hV : bV (fv mu f)) (h2 : 0 ≤ d) (h3 : d < mu f 1) (ha : -20 ≤ a ∧ a ≤ 20) (hbb : -20 ≤ b ∧ b ≤ 20) : Tr 2 mX1_addWhole [vr f, vi d, vi a, vi b] mu (fun r m2 => adR mu m2 f d (fun j => gn (fv mu f) d j + a * gx (fv mu f) j + b * gy (fv mu f) j) r) := by
  refine Tr.of (by decide +kernel) (Nat.le_of_ble_eq_true rfl) (fun K C E => ?_)
  have hn := hV.n
  have hl := hV.l
  have loop : ∀ (k : Nat) (i z : Int) (v6 : Vv) (m : Mem), 0 ≤ i → i + k = mu f 0 → z = b01 (∀ j : Int, 0 ≤ j → j < i → hld (gn (fv mu f) d j + a * gx (fv mu f) j + b * gy (fv mu f) j)) → m f = mu f → m (f + 1) = mu (f + 1) → m (f + 2) = mu (f + 2) → (∀ d2 j : Nat, j < 24 → m (f + 3) (24 * d2 + j) = if d2 = d.toNat ∧ (j : Int) < i then gn (fv mu f) d j + a * gx (fv mu f) j + b * gy (fv mu f) j else mu (f + 3) (24 * d2 + j)) → frm (fanS f) mu m → AW K mX1_addWhole (NC, 0, 0) 6 [vr f, vi d, vi a, vi b, vi z, vi i, v6] [] m := by
    intro k
    induction k with
    | zero =>
      intro i z v6 m q0 q1 qz q2 q3 q4 q5 q6
      have e9 : i = mu f 0 := by omega
      subst e9
      have e0 : m f 0 = mu f 0 := by rw [q2]
      have z01 : z = 0 ∨ z = 1 := by rw [qz]; exact b01_01 _
      refine aw_iload C dX1_addWhole_6 rfl ?_
      refine aw_aload_n C dX1_addWhole_8 rfl ?_
      refine aw_getI C dX1_addWhole_9 fX1_21 hf.s0 rfl ?_
      rw [e0]
      refine aw_icmp_ge C dX1_addWhole_12 (tgt := 78) (by decide) ⟨by omega, by omega⟩ ⟨by omega, by omega⟩ (fun c1 => ?_) (fun c1 => ?_)
      · refine aw_iload C dX1_addWhole_78 rfl ?_
        exact aw_zret C E dX1_addWhole_80 rfl (by omega) ⟨q6, by rw [qz], set_view (by omega) q2 q3 q4 (fun d2 j w1 w2 => by
          rw [q5 d2 j (by omega)]
          by_cases w : d2 = d.toNat
          · rw [if_pos ⟨w, w2⟩, if_pos w]
          · rw [if_neg (fun q => w q.1), if_neg w])⟩
      · exfalso; omega
    | succ k ih =>
      intro i z v6 m q0 q1 qz q2 q3 q4 q5 q6
      have e0 : m f 0 = mu f 0 := by rw [q2]
      have g1 := gn_m (d := d) (h := fun j => gn (fv mu f) d j + a * gx (fv mu f) j + b * gy (fv mu f) j) h2 q0 (by omega) hn.2 h2 h3 (Int.le_refl i) q5
      have g2 : m (f + 1) i.toNat = gx (fv mu f) i := by rw [q3, fx_at q0 (by omega)]
      have g3 : m (f + 2) i.toNat = gy (fv mu f) i := by rw [q4, fy_at q0 (by omega)]
      have b1 := hV.g d i
      have b2 := mulb ha (hV.x i)
      have b3 := mulb hbb (hV.y i)
      have z01 : z = 0 ∨ z = 1 := by rw [qz]; exact b01_01 _
      have hb := b01_01 (hld (gn (fv mu f) d i + a * gx (fv mu f) i + b * gy (fv mu f) i))
      have nx : ∀ (z2 : Int) (v6 : Vv), z2 = b01 (∀ j : Int, 0 ≤ j → j < i + 1 → hld (gn (fv mu f) d j + a * gx (fv mu f) j + b * gy (fv mu f) j)) → AW K mX1_addWhole (NC, 0, 0) 6 [vr f, vi d, vi a, vi b, vi z2, vi (i + 1), v6] [] (wr m (f + 3) (d * 24 + i).toNat (gn (fv mu f) d i + a * gx (fv mu f) i + b * gy (fv mu f) i)) := by
        intro z2 v6 hz2
        refine ih (i + 1) z2 v6 _ (by omega) (by omega) hz2 (by rw [wr_ne (by omega)]; exact q2) (by rw [wr_ne (by omega)]; exact q3) (by rw [wr_ne (by omega)]; exact q4) (fun d2 j hj => ?_) (q6.wr ⟨by omega, by omega⟩)
        rw [wr_at]
        by_cases hx : f + 3 = f + 3 ∧ 24 * d2 + j = (d * 24 + i).toNat
        · have e9 : (j : Int) = i := by omega
          rw [if_pos hx, if_pos (by omega), e9]
        · rw [if_neg hx, q5 d2 j hj]
          by_cases hy : d2 = d.toNat ∧ (j : Int) < i
          · rw [if_pos hy, if_pos (by omega)]
          · rw [if_neg hy, if_neg (by omega)]
      have hs : (∀ j : Int, 0 ≤ j → j < i + 1 → hld (gn (fv mu f) d j + a * gx (fv mu f) j + b * gy (fv mu f) j)) ↔ (∀ j : Int, 0 ≤ j → j < i → hld (gn (fv mu f) d j + a * gx (fv mu f) j + b * gy (fv mu f) j)) ∧ hld (gn (fv mu f) d i + a * gx (fv mu f) i + b * gy (fv mu f) i) := by
        refine ⟨fun q => ⟨fun j w1 w2 => q j w1 (by omega), q i q0 (by omega)⟩, fun q j w1 w2 => ?_⟩
        rcases Int.lt_or_eq_of_le (show j ≤ i by omega) with w3 | w3
        · exact q.1 j w1 w3
        · rw [w3]; exact q.2
      refine aw_iload C dX1_addWhole_6 rfl ?_
      refine aw_aload_n C dX1_addWhole_8 rfl ?_
      refine aw_getI C dX1_addWhole_9 fX1_21 hf.s0 rfl ?_
      rw [e0]
      refine aw_icmp_ge C dX1_addWhole_12 (tgt := 78) (by decide) ⟨by omega, by omega⟩ ⟨by omega, by omega⟩ (fun c1 => ?_) (fun c1 => ?_)
      · exfalso; omega
      · refine aw_aload_n C dX1_addWhole_15 rfl ?_
        refine aw_iload_n C dX1_addWhole_16 rfl ?_
        refine aw_iload C dX1_addWhole_17 rfl ?_
        refine aw_call1 C dX1_addWhole_19 lX1_108 vX1_number (t_X1_nm hf q0 (by omega) h2 (by omega)) rfl rfl rfl hf.s0 rfl ⟨by decide, by decide⟩ (Nat.le_of_ble_eq_true rfl) ?_
        rw [g1]
        refine aw_iload_n C dX1_addWhole_22 rfl ?_
        refine aw_aload_n C dX1_addWhole_23 rfl ?_
        refine aw_iload C dX1_addWhole_24 rfl ?_
        refine aw_call1 C dX1_addWhole_26 lX1_65 vX1_x (t_X1_xm hf q0 (by omega)) rfl rfl rfl hf.s0 rfl ⟨by decide, by decide⟩ (Nat.le_of_ble_eq_true rfl) ?_
        rw [g2]
        refine aw_imul C dX1_addWhole_29 ?_
        refine aw_iadd C dX1_addWhole_30 ?_
        refine aw_iload_n C dX1_addWhole_31 rfl ?_
        refine aw_aload_n C dX1_addWhole_32 rfl ?_
        refine aw_iload C dX1_addWhole_33 rfl ?_
        refine aw_call1 C dX1_addWhole_35 lX1_68 vX1_y (t_X1_ym hf q0 (by omega)) rfl rfl rfl hf.s0 rfl ⟨by decide, by decide⟩ (Nat.le_of_ble_eq_true rfl) ?_
        rw [g3]
        refine aw_imul C dX1_addWhole_38 ?_
        refine aw_iadd C dX1_addWhole_39 ?_
        refine aw_istore C dX1_addWhole_40 (by decide) ?_
        refine aw_iload C dX1_addWhole_42 rfl ?_
        refine aw_if_eq C dX1_addWhole_44 (tgt := 60) (by decide) ⟨by omega, by omega⟩ (fun c2 => ?_) (fun c2 => ?_)
        · have hz := b01_f (fun q => b01_niff.mp (qz.symm.trans c2) (hs.mp q).1)
          --go
          refine aw_iconst C dX1_addWhole_60 ?_
          refine aw_istore C dX1_addWhole_61 (by decide) ?_
          refine aw_aload_n C dX1_addWhole_63 rfl ?_
          refine aw_iload_n C dX1_addWhole_64 rfl ?_
          refine aw_iload C dX1_addWhole_65 rfl ?_
          refine aw_iload C dX1_addWhole_67 rfl ?_
          refine aw_call0 C dX1_addWhole_69 lX1_51 vX1_put (t_X1_put hf q0 (by omega) h2 (by omega)) rfl rfl rfl hf.s0 rfl ⟨by decide, by decide⟩ (Nat.le_of_ble_eq_true rfl) ?_
          refine aw_iinc C dX1_addWhole_72 rfl ?_
          refine aw_goto C dX1_addWhole_75 (tgt := 6) (by decide) ?_
          exact nx _ _ hz.symm
        · refine aw_iload C dX1_addWhole_47 rfl ?_
          refine aw_i2l C dX1_addWhole_49 ⟨by omega, by omega⟩ ?_
          refine aw_callS1 C dX1_addWhole_50 lX1_132 vX1_isHeld (t_X1_isHeldH ⟨by omega, by omega⟩) rfl rfl rfl ⟨by decide, by decide⟩ (Nat.le_of_ble_eq_true rfl) ?_
          refine aw_if_eq C dX1_addWhole_53 (tgt := 60) (by decide) ⟨by omega, by omega⟩ (fun c3 => ?_) (fun c3 => ?_)
          · have hz := b01_f (fun q => b01_niff.mp c3 (hs.mp q).2)
            --go
            refine aw_iconst C dX1_addWhole_60 ?_
            refine aw_istore C dX1_addWhole_61 (by decide) ?_
            refine aw_aload_n C dX1_addWhole_63 rfl ?_
            refine aw_iload_n C dX1_addWhole_64 rfl ?_
            refine aw_iload C dX1_addWhole_65 rfl ?_
            refine aw_iload C dX1_addWhole_67 rfl ?_
            refine aw_call0 C dX1_addWhole_69 lX1_51 vX1_put (t_X1_put hf q0 (by omega) h2 (by omega)) rfl rfl rfl hf.s0 rfl ⟨by decide, by decide⟩ (Nat.le_of_ble_eq_true rfl) ?_
            refine aw_iinc C dX1_addWhole_72 rfl ?_
            refine aw_goto C dX1_addWhole_75 (tgt := 6) (by decide) ?_
            exact nx _ _ hz.symm
          · have hz := b01_t (hs.mpr ⟨b01_iff.mp (by omega), b01_iff.mp (show b01 (hld (gn (fv mu f) d i + a * gx (fv mu f) i + b * gy (fv mu f) i)) = 1 by omega)⟩)
            --go
            refine aw_iconst C dX1_addWhole_56 ?_
            refine aw_goto C dX1_addWhole_57 (tgt := 61) (by decide) ?_
            refine aw_istore C dX1_addWhole_61 (by decide) ?_
            refine aw_aload_n C dX1_addWhole_63 rfl ?_
            refine aw_iload_n C dX1_addWhole_64 rfl ?_
            refine aw_iload C dX1_addWhole_65 rfl ?_
            refine aw_iload C dX1_addWhole_67 rfl ?_
            refine aw_call0 C dX1_addWhole_69 lX1_51 vX1_put (t_X1_put hf q0 (by omega) h2 (by omega)) rfl rfl rfl hf.s0 rfl ⟨by decide, by decide⟩ (Nat.le_of_ble_eq_true rfl) ?_
            refine aw_iinc C dX1_addWhole_72 rfl ?_
            refine aw_goto C dX1_addWhole_75 (tgt := 6) (by decide) ?_
            exact nx _ _ hz.symm
  refine aw_iconst C dX1_addWhole_0 ?_
  refine aw_istore C dX1_addWhole_1 (by decide) ?_
  refine aw_iconst C dX1_addWhole_3 ?_
  refine aw_istore C dX1_addWhole_4 (by decide) ?_
  exact loop (mu f 0).toNat 0 1 _ mu (by omega) (by omega) (b01_t (fun j w1 w2 => by omega)).symm rfl rfl rfl (fun d2 j _ => by rw [if_neg (by omega)]) frm.rf

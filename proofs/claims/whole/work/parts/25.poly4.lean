def PVo (V : FV) (d k z : Int) : PV := (V.1, V.2.2.1, V.2.2.2.1, fun j => k * V.2.2.2.2 d.toNat j - z)
theorem PVo_x (V : FV) (d k z i : Int) : pX (PVo V d k z) i = gx V i := rfl
theorem PVo_y (V : FV) (d k z i : Int) : pY (PVo V d k z) i = gy V i := rfl
theorem PVo_r (V : FV) (d k z i : Int) : pR (PVo V d k z) i = k * gn V d i - z := rfl
theorem PVo_b {V : FV} (h : bV V) {d k z : Int} (hk : 0 ≤ k ∧ k ≤ 4) (hz : 0 ≤ z ∧ z ≤ 1) : bP (PVo V d k z) := by
  refine ⟨h.1, fun i h0 h1 => ⟨h.x i, h.y i, ?_⟩⟩
  have := mulb (a := k) (A := 4) ⟨by omega, by omega⟩ (h.g d i)
  rw [PVo_r]; omega
/-- two polygons alike as far as their rays go -/
def ePV (P Q : PV) : Prop := P.1 = Q.1 ∧ ∀ i, 0 ≤ i → i < P.1 → pX P i = pX Q i ∧ pY P i = pY Q i ∧ pR P i = pR Q i
theorem ePV.ln {P Q : PV} (h : ePV P Q) {s i : Int} : pln P s i ↔ pln Q s i := by
  unfold pln
  rw [← h.1]
  refine ⟨fun q => ⟨q.1, q.2.1, ?_⟩, fun q => ⟨q.1, q.2.1, ?_⟩⟩
  · rw [← (h.2 i q.1 q.2.1).2.1]; exact q.2.2
  · rw [(h.2 i q.1 q.2.1).2.1]; exact q.2.2
theorem ePV.mn {P Q : PV} (h : ePV P Q) {s m v : Int} : isMn P s m v ↔ isMn Q s m v := by
  have key : ∀ i, pln P s i → ptop P i m / (pY P i * s) = ptop Q i m / (pY Q i * s) := fun i hi => by
    obtain ⟨a, b, c⟩ := h.2 i hi.1 hi.2.1
    unfold ptop
    rw [a, b, c]
  unfold isMn
  refine ⟨fun q => ⟨?_, fun i hi => ?_⟩, fun q => ⟨?_, fun i hi => ?_⟩⟩
  · obtain ⟨i, hi, e⟩ := q.1
    exact ⟨i, h.ln.mp hi, by rw [← key i hi]; exact e⟩
  · rw [← key i (h.ln.mpr hi)]; exact q.2 i (h.ln.mpr hi)
  · obtain ⟨i, hi, e⟩ := q.1
    exact ⟨i, h.ln.mpr hi, by rw [key i (h.ln.mpr hi)]; exact e⟩
  · rw [key i hi]; exact q.2 i (h.ln.mp hi)
theorem ePV.fl {P Q : PV} (h : ePV P Q) (s m : Int) : mfl P s m = mfl Q s m := by
  have : isMn P s m = isMn Q s m := funext fun v => propext h.mn
  unfold mfl
  rw [this]
theorem ePV.b {P Q : PV} (h : ePV P Q) (hQ : bP Q) : bP P := by
  refine ⟨by rw [h.1]; exact hQ.1, fun i h0 h1 => ?_⟩
  obtain ⟨a, b, c⟩ := h.2 i h0 h1
  rw [a, b, c]
  exact hQ.2 i h0 (by rw [← h.1]; exact h1)
theorem ePV.con {P Q : PV} (h : ePV P Q) {i m : Int} (h0 : 0 ≤ i) (h1 : i < P.1) : conP P i m P.1 ↔ conP Q i m Q.1 := by
  obtain ⟨a, b, c⟩ := h.2 i h0 h1
  unfold conP tms far
  rw [a, b, c, ← h.1]
  refine and_congr Iff.rfl ⟨fun q z j w1 w2 w3 => ?_, fun q z j w1 w2 w3 => ?_⟩
  · obtain ⟨a, b, c⟩ := h.2 j w1 w2
    rw [← a, ← b, ← c]; exact q z j w1 w2 (by rw [b]; exact w3)
  · obtain ⟨a, b, c⟩ := h.2 j w1 w2
    rw [a, b, c]; exact q z j w1 w2 (by rw [← b]; exact w3)
def plyS : Nat → Prop := fun a => 9 ≤ a ∧ a ≤ 12
/-- the polygon is laid out for P: its columns are those that can hold a point -/
def isPo (m : Mem) (P : PV) : Prop := ePV (pv m) P ∧ fl2 m ∧ ∀ x : Int, -10000000 ≤ x → x ≤ 10000000 → ((m 9 4 ≤ x ∧ x ≤ m 9 5) ↔ ∀ i, 0 ≤ i → i < P.1 → conP P i x P.1)
noncomputable def cum (P : PV) (a b m : Int) : Int := sm (fun j => mfl P 1 (a + j) + mfl P (-1) (a + j) + 1) (min m b - a + 1).toNat
theorem t_X2_countToP {mu : Mem} {P : PV} {m : Int} (h : isPo mu P) (hP : bP P) (hm : mOk m) (hL1 : ∃ l, pln P 1 l) (hL2 : ∃ l, pln P (-1) l) : TrE 5 mX2_countTo [vr 9, vl m] mu (some (vl (cum P (mu 9 4) (mu 9 5) m))) mu := by
  obtain ⟨h1, h2, h3⟩ := h
  have t := t_X2_countTo (mu := mu) (m := m) (h1.b hP) hm h2.1 h2.2 (by obtain ⟨l, hl⟩ := hL1; exact ⟨l, h1.ln.mpr hl⟩) (by obtain ⟨l, hl⟩ := hL2; exact ⟨l, h1.ln.mpr hl⟩)
  have e : (fun j : Nat => mfl (pv mu) 1 (mu 9 4 + j) + mfl (pv mu) (-1) (mu 9 4 + j) + 1) = fun j : Nat => mfl P 1 (mu 9 4 + j) + mfl P (-1) (mu 9 4 + j) + 1 := by
    funext j; rw [h1.fl, h1.fl]
  rw [e] at t
  exact t
theorem t_X2_countAll {f : Nat} {mu : Mem} {d k z : Int} (hf : isF f) (hV : bV (fv mu f)) (h2 : 0 ≤ d) (h3 : d < mu f 1) (hk : 0 ≤ k ∧ k ≤ 4) (hz : 0 ≤ z ∧ z ≤ 1) (hL1 : ∃ l, pln (PVo (fv mu f) d k z) 1 l) (hL2 : ∃ l, pln (PVo (fv mu f) d k z) (-1) l) :
    Tr 6 mX2_countAll [vr 9, vr f, vi d, vi k, vi z] mu (fun r m2 => frm plyS mu m2 ∧ isPo m2 (PVo (fv mu f) d k z) ∧ r = some (vl (cum (PVo (fv mu f) d k z) (m2 9 4) (m2 9 5) (m2 9 5)))) := by
  refine Tr.of (by decide +kernel) (Nat.le_of_ble_eq_true rfl) (fun K C E => ?_)
  have hn := hV.n
  have hl := hV.l
  have hfp : 15 ≤ f := by obtain ⟨t, -, rfl⟩ := hf; omega
  have hb := PVo_b hV (d := d) hk hz
  have loop : ∀ (q : Nat) (i : Int) (m : Mem), 0 ≤ i → i + q = mu f 0 → frm plyS mu m → m 9 3 = mu f 0 → (∀ j : Int, 0 ≤ j → j < i → m 10 j.toNat = gx (fv mu f) j ∧ m 11 j.toNat = gy (fv mu f) j ∧ m 12 j.toNat = k * gn (fv mu f) d j - z) → AW K mX2_countAll (NC, 0, 0) 16 [vr 9, vr f, vi d, vi k, vi z, vi i] [] m := by
    intro q
    induction q with
    | zero =>
      intro i m q0 q1 q2 q3 q4
      have e : i = mu f 0 := by omega
      subst e
      have hE : ePV (pv m) (PVo (fv mu f) d k z) := ⟨q3, fun i h0 h1 => by
        have h1 : i < m 9 3 := h1
        exact q4 i h0 (by omega)⟩
      refine aw_iload C dX2_countAll_16 rfl ?_
      refine aw_aload_n C dX2_countAll_18 rfl ?_
      refine aw_getI C dX2_countAll_19 fX2_34 ⟨rfl, by decide⟩ rfl ?_
      rw [q3]
      refine aw_icmp_ge C dX2_countAll_22 (tgt := 79) (by decide) ⟨by omega, by omega⟩ ⟨by omega, by omega⟩ (fun c1 => ?_) (fun c1 => ?_)
      · refine aw_aload_n C dX2_countAll_79 rfl ?_
        refine aw_call C dX2_countAll_80 lX2_45 vX2_limitColumns (t_X2_limitColumns (hE.b hb)) rfl rfl rfl ⟨rfl, by decide⟩ rfl ⟨by decide, by decide⟩ (Nat.le_of_ble_eq_true rfl) (fun r2 mu2 hq2 => ?_)
        obtain ⟨rfl, hs, hfl, hc⟩ := hq2
        show AW _ _ _ _ _ [] _
        have hpo : isPo mu2 (PVo (fv mu f) d k z) := by
          have hE2 : ePV (pv mu2) (PVo (fv mu f) d k z) := by rw [hs.pv]; exact hE
          refine ⟨hE2, hfl, fun x w1 w2 => (hc x w1 w2).trans ⟨fun u i y1 y2 => ?_, fun u i y1 y2 => ?_⟩⟩
          · have y3 : i < (pv m).1 := by rw [hE.1]; exact y2
            exact (hE.con y1 y3).mp (u i y1 y3)
          · exact (hE.con y1 y2).mpr (u i y1 (by rw [← hE.1]; exact y2))
        have hfr : frm plyS mu mu2 := fun a ha => by
          rw [← q2 a ha]
          funext b
          exact hs a b (by unfold plyS at ha; omega)
        have hlb := hfl.2
        refine aw_aload_n C dX2_countAll_83 rfl ?_
        refine aw_aload_n C dX2_countAll_84 rfl ?_
        refine aw_getL C dX2_countAll_85 fX2_48 ⟨rfl, by decide⟩ rfl ?_
        refine aw_call1 C dX2_countAll_88 lX2_52 vX2_countTo (t_X2_countToP hpo hb ⟨by omega, by omega⟩ hL1 hL2) rfl rfl rfl ⟨rfl, by decide⟩ rfl ⟨by decide, by decide⟩ (Nat.le_of_ble_eq_true rfl) ?_
        exact aw_lret C E dX2_countAll_91 rfl ⟨hfr, hpo, rfl⟩
      · exfalso; omega
    | succ q ih =>
      intro i m q0 q1 q2 q3 q4
      have eg : fv m f = fv mu f := by
        unfold fv
        rw [q2 f (by unfold plyS; omega), q2 (f + 1) (by unfold plyS; omega), q2 (f + 2) (by unfold plyS; omega), q2 (f + 3) (by unfold plyS; omega)]
      have e0 : m f 0 = mu f 0 := by rw [q2 f (by unfold plyS; omega)]
      have e1 : m f 1 = mu f 1 := by rw [q2 f (by unfold plyS; omega)]
      have n1 := hV.g d i
      have w9 : ∀ (v : Mem) (c j : Nat) (x : Int), c = 10 ∨ c = 11 ∨ c = 12 → fv v f = fv mu f → fv (wr v c j x) f = fv mu f := fun v c j x hc hv => by
        rw [← hv]; unfold fv
        rw [wr_ne (by omega), wr_ne (by omega), wr_ne (by omega), wr_ne (by omega)]
      have w8 : ∀ (v : Mem) (c j b : Nat) (x : Int), c = 10 ∨ c = 11 ∨ c = 12 → wr v c j x f b = v f b := fun v c j b x hc => by rw [wr_ne (by omega)]
      have k1 := w9 m 10 i.toNat (gx (fv mu f) i) (Or.inl rfl) eg
      have k2 := w9 _ 11 i.toNat (gy (fv mu f) i) (Or.inr (Or.inl rfl)) k1
      refine aw_iload C dX2_countAll_16 rfl ?_
      refine aw_aload_n C dX2_countAll_18 rfl ?_
      refine aw_getI C dX2_countAll_19 fX2_34 ⟨rfl, by decide⟩ rfl ?_
      rw [q3]
      refine aw_icmp_ge C dX2_countAll_22 (tgt := 79) (by decide) ⟨by omega, by omega⟩ ⟨by omega, by omega⟩ (fun c1 => ?_) (fun c1 => ?_)
      · exfalso; omega
      · refine aw_aload_n C dX2_countAll_25 rfl ?_
        refine aw_getS C dX2_countAll_26 fX2_11 ⟨rfl, by decide⟩ rfl rfl (srf 9 0 10 (by decide)) ?_
        refine aw_iload C dX2_countAll_29 rfl ?_
        refine aw_aload_n C dX2_countAll_31 rfl ?_
        refine aw_iload C dX2_countAll_32 rfl ?_
        refine aw_call1 C dX2_countAll_34 lX2_35 vX1_x (t_X1_x hf (by rw [eg]; exact hV) q0 (by omega)) rfl rfl rfl hf.s0 rfl ⟨by decide, by decide⟩ (Nat.le_of_ble_eq_true rfl) ?_
        rw [eg]
        refine aw_iast C dX2_countAll_37 ⟨rfl, by decide⟩ (by decide) (by omega) (by omega) ?_
        refine aw_aload_n C dX2_countAll_38 rfl ?_
        refine aw_getS C dX2_countAll_39 fX2_17 ⟨rfl, by decide⟩ rfl rfl (srf 9 1 11 (by decide)) ?_
        refine aw_iload C dX2_countAll_42 rfl ?_
        refine aw_aload_n C dX2_countAll_44 rfl ?_
        refine aw_iload C dX2_countAll_45 rfl ?_
        refine aw_call1 C dX2_countAll_47 lX2_39 vX1_y (t_X1_y hf (by rw [k1]; exact hV) q0 (by rw [w8 _ _ _ _ _ (by omega)]; omega)) rfl rfl rfl hf.s0 rfl ⟨by decide, by decide⟩ (Nat.le_of_ble_eq_true rfl) ?_
        rw [k1]
        refine aw_iast C dX2_countAll_50 ⟨rfl, by decide⟩ (by decide) (by omega) (by omega) ?_
        refine aw_aload_n C dX2_countAll_51 rfl ?_
        refine aw_getS C dX2_countAll_52 fX2_20 ⟨rfl, by decide⟩ rfl rfl (srf 9 2 12 (by decide)) ?_
        refine aw_iload C dX2_countAll_55 rfl ?_
        refine aw_iload_n C dX2_countAll_57 rfl ?_
        refine aw_i2l C dX2_countAll_58 ⟨by omega, by omega⟩ ?_
        refine aw_aload_n C dX2_countAll_59 rfl ?_
        refine aw_iload_n C dX2_countAll_60 rfl ?_
        refine aw_iload C dX2_countAll_61 rfl ?_
        refine aw_call1 C dX2_countAll_63 lX2_42 vX1_number (t_X1_number hf (by rw [k2]; exact hV) q0 (by rw [w8 _ _ _ _ _ (by omega), w8 _ _ _ _ _ (by omega)]; omega) h2 (by rw [w8 _ _ _ _ _ (by omega), w8 _ _ _ _ _ (by omega)]; omega)) rfl rfl rfl hf.s0 rfl ⟨by decide, by decide⟩ (Nat.le_of_ble_eq_true rfl) ?_
        rw [k2]
        refine aw_i2l C dX2_countAll_66 ⟨by omega, by omega⟩ ?_
        refine aw_lmul C dX2_countAll_67 ?_
        refine aw_iload C dX2_countAll_68 rfl ?_
        refine aw_i2l C dX2_countAll_70 ⟨by omega, by omega⟩ ?_
        refine aw_lsub C dX2_countAll_71 ?_
        refine aw_last C dX2_countAll_72 ⟨rfl, by decide⟩ (by decide) (by omega) (by omega) ?_
        refine aw_iinc C dX2_countAll_73 rfl ?_
        refine aw_goto C dX2_countAll_76 (tgt := 16) (by decide) ?_
        refine ih (i + 1) _ (by omega) (by omega) (((q2.wr ⟨by omega, by omega⟩).wr ⟨by omega, by omega⟩).wr ⟨by omega, by omega⟩) (by rw [wr_ne (by omega), wr_ne (by omega), wr_ne (by omega)]; exact q3) (fun j z0 z1 => ?_)
        rcases Int.lt_or_eq_of_le (show j ≤ i by omega) with w | w
        · obtain ⟨a, b, c⟩ := q4 j z0 w
          refine ⟨?_, ?_, ?_⟩
          · rw [wr_ne (by omega), wr_ne (by omega), wr_at, if_neg (by omega)]; exact a
          · rw [wr_ne (by omega), wr_at, if_neg (by omega), wr_ne (by omega)]; exact b
          · rw [wr_at, if_neg (by omega), wr_ne (by omega), wr_ne (by omega)]; exact c
        · subst w
          refine ⟨?_, ?_, ?_⟩
          · rw [wr_ne (by omega), wr_ne (by omega), wr_at, if_pos ⟨rfl, rfl⟩]
          · rw [wr_ne (by omega), wr_at, if_pos ⟨rfl, rfl⟩]
          · rw [wr_at, if_pos ⟨rfl, rfl⟩]
  have e1 : min (mu f 0) 24 = mu f 0 := by omega
  refine aw_aload_n C dX2_countAll_0 rfl ?_
  refine aw_aload_n C dX2_countAll_1 rfl ?_
  refine aw_getI C dX2_countAll_2 fX2_24 hf.s0 rfl ?_
  refine aw_bipush C dX2_countAll_5 rfl ?_
  refine aw_callS1 C dX2_countAll_7 lX2_28 vJ9_min_7cf53 (t_J9_min_7cf53 ⟨by omega, by omega⟩ ⟨by omega, by omega⟩) rfl rfl rfl ⟨by decide, by decide⟩ (Nat.le_of_ble_eq_true rfl) ?_
  rw [e1]
  refine aw_putI C dX2_countAll_10 fX2_34 ⟨rfl, by decide⟩ rfl rfl rfl ?_
  refine aw_iconst C dX2_countAll_13 ?_
  refine aw_istore C dX2_countAll_14 (by decide) ?_
  exact loop (mu f 0).toNat 0 _ (by omega) (by omega) (frm.rf.wr ⟨by omega, by omega⟩) (by rw [wr_at, if_pos ⟨rfl, rfl⟩]) (fun j w1 w2 => by omega)
theorem t_X2_columnOf {mu : Mem} {P : PV} {i : Int} (h : isPo mu P) (hP : bP P) (hL1 : ∃ l, pln P 1 l) (hL2 : ∃ l, pln P (-1) l) (hi : 0 ≤ i) (hi2 : R64 i) (hc : i < cum P (mu 9 4) (mu 9 5) (mu 9 5)) (hR : ∀ x, R64 (cum P (mu 9 4) (mu 9 5) x)) : Tr 6 mX2_columnOf [vr 9, vl i] mu (fun r m2 => mu = m2 ∧ ∃ x, r = some (vl x) ∧ mu 9 4 ≤ x ∧ x ≤ mu 9 5 ∧ cum P (mu 9 4) (mu 9 5) (x - 1) ≤ i ∧ i < cum P (mu 9 4) (mu 9 5) x) := by
  refine Tr.of (by decide +kernel) (Nat.le_of_ble_eq_true rfl) (fun K C E => ?_)
  obtain ⟨⟨f1, f2⟩, ⟨f3, f4⟩⟩ := h.2.1
  have c0 : ∀ x, x < mu 9 4 → cum P (mu 9 4) (mu 9 5) x = 0 := fun x hx => by
    unfold cum; rw [show (min x (mu 9 5) - mu 9 4 + 1).toNat = 0 by omega]; rfl
  have hfl : mu 9 4 ≤ mu 9 5 := by
    rcases Int.lt_or_le (mu 9 5) (mu 9 4) with w | w
    · have := c0 _ w; omega
    · exact w
  have loop : ∀ (k : Nat) (lo hi t : Int) (v8 v9 : Vv), mu 9 4 ≤ lo → lo ≤ hi → hi ≤ mu 9 5 → cum P (mu 9 4) (mu 9 5) (lo - 1) ≤ i → i < cum P (mu 9 4) (mu 9 5) hi → hi - lo < 2 ^ k → 0 ≤ t → t + k < 64 → AW K mX2_columnOf (NC, 0, 0) 14 [vr 9, vl i, vx, vl lo, vx, vl hi, vx, vi t, v8, v9] [] mu := by
    intro k
    induction k with
    | zero =>
      intro lo hi t v8 v9 q0 q1 q2 q3 q4 q5 q6 q7
      have e : hi = lo := by simp at q5; omega
      subst e
      refine aw_iload C dX2_columnOf_14 rfl ?_
      refine aw_bipush C dX2_columnOf_16 rfl ?_
      refine aw_icmp_ge C dX2_columnOf_18 (tgt := 69) (by decide) ⟨by omega, by omega⟩ ⟨by omega, by omega⟩ (fun c1 => ?_) (fun c1 => ?_)
      · exfalso; omega
      · refine aw_lload_n C dX2_columnOf_21 rfl ?_
        refine aw_lload C dX2_columnOf_22 rfl ?_
        refine aw_lcmp_ge C dX2_columnOf_24 dX2_columnOf_25 (tgt := 69) (by decide) ⟨by omega, by omega⟩ ⟨by omega, by omega⟩ (fun c2 => ?_) (fun c2 => ?_)
        · refine aw_lload_n C dX2_columnOf_69 rfl ?_
          exact aw_lret C E dX2_columnOf_70 rfl ⟨rfl, hi, rfl, q0, q2, q3, q4⟩
        · exfalso; omega
    | succ k ih =>
      intro lo hi t v8 v9 q0 q1 q2 q3 q4 q5 q6 q7
      rw [Int.pow_succ] at q5
      have hr := hR ((lo + hi) / 2)
      refine aw_iload C dX2_columnOf_14 rfl ?_
      refine aw_bipush C dX2_columnOf_16 rfl ?_
      refine aw_icmp_ge C dX2_columnOf_18 (tgt := 69) (by decide) ⟨by omega, by omega⟩ ⟨by omega, by omega⟩ (fun c1 => ?_) (fun c1 => ?_)
      · exfalso; omega
      · refine aw_lload_n C dX2_columnOf_21 rfl ?_
        refine aw_lload C dX2_columnOf_22 rfl ?_
        refine aw_lcmp_ge C dX2_columnOf_24 dX2_columnOf_25 (tgt := 69) (by decide) ⟨by omega, by omega⟩ ⟨by omega, by omega⟩ (fun c2 => ?_) (fun c2 => ?_)
        · have e : hi = lo := by omega
          subst e
          --go
          refine aw_lload_n C dX2_columnOf_69 rfl ?_
          exact aw_lret C E dX2_columnOf_70 rfl ⟨rfl, _, rfl, q0, q2, q3, q4⟩
        · refine aw_lload_n C dX2_columnOf_28 rfl ?_
          refine aw_lload C dX2_columnOf_29 rfl ?_
          refine aw_ladd C dX2_columnOf_31 ?_
          refine aw_ldc2 C dX2_columnOf_32 kX2_59 (z := 2) (by decide +kernel) ?_
          refine aw_callS1 C dX2_columnOf_35 lX2_61 vJ9_floorDiv_f86c9 (t_J9_floorDiv_f86c9 ⟨by omega, by omega⟩ ⟨by omega, by omega⟩ (by omega)) rfl rfl rfl ⟨by decide, by decide⟩ (Nat.le_of_ble_eq_true rfl) ?_
          refine aw_lstore C dX2_columnOf_38 (by decide) ?_
          refine aw_aload_n C dX2_columnOf_40 rfl ?_
          refine aw_lload C dX2_columnOf_41 rfl ?_
          refine aw_call1 C dX2_columnOf_43 lX2_52 vX2_countTo (t_X2_countToP h hP ⟨by omega, by omega⟩ hL1 hL2) rfl rfl rfl ⟨rfl, by decide⟩ rfl ⟨by decide, by decide⟩ (Nat.le_of_ble_eq_true rfl) ?_
          refine aw_lload_n C dX2_columnOf_46 rfl ?_
          refine aw_lcmp_le C dX2_columnOf_47 dX2_columnOf_48 (tgt := 58) (by decide) hr hi2 (fun c3 => ?_) (fun c3 => ?_)
          · refine aw_lload C dX2_columnOf_58 rfl ?_
            refine aw_lconst C dX2_columnOf_60 (v := 1) rfl ?_
            refine aw_ladd C dX2_columnOf_61 ?_
            refine aw_lstore_n C dX2_columnOf_62 (by decide) ?_
            refine aw_iinc C dX2_columnOf_63 rfl ?_
            refine aw_goto C dX2_columnOf_66 (tgt := 14) (by decide) ?_
            first
              | exact ih lo ((lo + hi) / 2) (t + 1) _ _ (by omega) (by omega) (by omega) q3 (by omega) (by omega) (by omega) (by omega)
              | exact ih ((lo + hi) / 2 + 1) hi (t + 1) _ _ (by omega) (by omega) (by omega) (by rw [Int.add_sub_cancel]; omega) q4 (by omega) (by omega) (by omega)
          · refine aw_lload C dX2_columnOf_51 rfl ?_
            refine aw_lstore C dX2_columnOf_53 (by decide) ?_
            refine aw_goto C dX2_columnOf_55 (tgt := 63) (by decide) ?_
            refine aw_iinc C dX2_columnOf_63 rfl ?_
            refine aw_goto C dX2_columnOf_66 (tgt := 14) (by decide) ?_
            first
              | exact ih lo ((lo + hi) / 2) (t + 1) _ _ (by omega) (by omega) (by omega) q3 (by omega) (by omega) (by omega) (by omega)
              | exact ih ((lo + hi) / 2 + 1) hi (t + 1) _ _ (by omega) (by omega) (by omega) (by rw [Int.add_sub_cancel]; omega) q4 (by omega) (by omega) (by omega)
  have p25 : (2 : Int) ^ 25 = 33554432 := by decide
  refine aw_aload_n C dX2_columnOf_0 rfl ?_
  refine aw_getL C dX2_columnOf_1 fX2_56 ⟨rfl, by decide⟩ rfl ?_
  refine aw_lstore_n C dX2_columnOf_4 (by decide) ?_
  refine aw_aload_n C dX2_columnOf_5 rfl ?_
  refine aw_getL C dX2_columnOf_6 fX2_48 ⟨rfl, by decide⟩ rfl ?_
  refine aw_lstore C dX2_columnOf_9 (by decide) ?_
  refine aw_iconst C dX2_columnOf_11 ?_
  refine aw_istore C dX2_columnOf_12 (by decide) ?_
  exact loop 25 (mu 9 4) (mu 9 5) 0 _ _ (by omega) hfl (by omega) (by rw [c0 _ (by omega)]; exact hi) hc (by rw [p25]; omega) (by omega) (by omega)
theorem t_X2_heightOf {mu : Mem} {P : PV} {i m : Int} (h : isPo mu P) (hP : bP P) (hL1 : ∃ l, pln P 1 l) (hL2 : ∃ l, pln P (-1) l) (hm : -10000000 ≤ m ∧ m ≤ 10000000) : TrE 6 mX2_heightOf [vr 9, vl i, vl m] mu (some (vl (i - cum P (mu 9 4) (mu 9 5) (m - 1) - mfl P 1 m))) mu := by
  refine Tr.of (by decide +kernel) (Nat.le_of_ble_eq_true rfl) (fun K C E => ?_)
  have hPm := h.1.b hP
  have hn : 0 ≤ mu 9 3 ∧ mu 9 3 ≤ 24 := hPm.1
  rw [← h.1.fl] at E
  refine aw_aload_n C dX2_heightOf_0 rfl ?_
  refine aw_iconst C dX2_heightOf_1 ?_
  refine aw_lload_n C dX2_heightOf_2 rfl ?_
  refine aw_call C dX2_heightOf_3 lX2_65 vX2_leastLine (t_X2_leastLine hPm (Or.inl rfl) ⟨by omega, by omega⟩) rfl rfl rfl ⟨rfl, by decide⟩ rfl ⟨by decide, by decide⟩ (Nat.le_of_ble_eq_true rfl) (fun r1 mu1 hq1 => ?_)
  obtain ⟨l, rfl, rfl, hl⟩ := hq1
  have hl : lst (pv mu) 1 l m := by
    rcases hl with ⟨-, hl⟩ | hl
    · obtain ⟨j, hj⟩ := hL1
      exact absurd (h.1.ln.mpr hj) (hl j)
    · exact hl
  have l0 : 0 ≤ l := hl.1.1
  have l1 : l < mu 9 3 := hl.1.2.1
  have b2 : -60 ≤ mu 11 l.toNat ∧ mu 11 l.toNat ≤ 60 := (hPm.2 l l0 l1).2.1
  have b4 : 0 < mu 11 l.toNat * 1 := hl.1.2.2
  have b5 := hPm.top l0 l1 (m := m) ⟨by omega, by omega⟩
  have e : mfl (pv mu) 1 m = ptop (pv mu) l m / mu 11 l.toNat := by
    rw [lst.mn hl.1 (fun j hj => hl.le hj)]
    show _ / (mu 11 l.toNat * 1) = _
    rw [Int.mul_one]
  show AW _ _ _ _ _ (vi l :: _) _
  refine aw_istore C dX2_heightOf_6 (by decide) ?_
  refine aw_iload C dX2_heightOf_8 rfl ?_
  refine aw_iconst C dX2_heightOf_10 ?_
  refine aw_icmp_ne C dX2_heightOf_11 (tgt := 16) (by decide) ⟨by omega, by omega⟩ ⟨by omega, by omega⟩ (fun c2 => ?_) (fun c2 => ?_)
  · refine aw_lload_n C dX2_heightOf_16 rfl ?_
    refine aw_aload_n C dX2_heightOf_17 rfl ?_
    refine aw_lload_n C dX2_heightOf_18 rfl ?_
    refine aw_lconst C dX2_heightOf_19 (v := 1) rfl ?_
    refine aw_lsub C dX2_heightOf_20 ?_
    refine aw_call1 C dX2_heightOf_21 lX2_52 vX2_countTo (t_X2_countToP h hP ⟨by omega, by omega⟩ hL1 hL2) rfl rfl rfl ⟨rfl, by decide⟩ rfl ⟨by decide, by decide⟩ (Nat.le_of_ble_eq_true rfl) ?_
    refine aw_lsub C dX2_heightOf_24 ?_
    refine aw_aload_n C dX2_heightOf_25 rfl ?_
    refine aw_iload C dX2_heightOf_26 rfl ?_
    refine aw_lload_n C dX2_heightOf_28 rfl ?_
    refine aw_call1 C dX2_heightOf_29 lX2_69 vX2_topOf (t_X2_topOf hPm l0 l1) rfl rfl rfl ⟨rfl, by decide⟩ rfl ⟨by decide, by decide⟩ (Nat.le_of_ble_eq_true rfl) ?_
    refine aw_aload_n C dX2_heightOf_32 rfl ?_
    refine aw_getS C dX2_heightOf_33 fX2_17 ⟨rfl, by decide⟩ rfl rfl (srf 9 1 11 (by decide)) ?_
    refine aw_iload C dX2_heightOf_36 rfl ?_
    refine aw_iald C dX2_heightOf_38 ⟨rfl, by decide⟩ (by decide) (by omega) (by omega) ?_
    refine aw_i2l C dX2_heightOf_39 ⟨by omega, by omega⟩ ?_
    refine aw_callS1 C dX2_heightOf_40 lX2_73 vX4_floorBy (t_X4_floorBy ⟨by omega, by omega⟩ ⟨by omega, by omega⟩ (by omega)) rfl rfl rfl ⟨by decide, by decide⟩ (Nat.le_of_ble_eq_true rfl) ?_
    refine aw_lsub C dX2_heightOf_43 ?_
    exact aw_lret C E dX2_heightOf_44 rfl ⟨by rw [e], rfl⟩
  · exfalso; omega

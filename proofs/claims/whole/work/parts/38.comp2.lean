def qMs (V : FV) : Int × Int := if 0 < V.1 then (meas V, mcd V) else (-1, 1)
theorem cE.w {mu m : Mem} {c d : Int} (h : cE mu m c) : cE mu (wr m 0 11 d) d := ⟨h.1.w (Or.inl ⟨rfl, rfl⟩), by rw [wr_at, if_pos ⟨rfl, rfl⟩]⟩
theorem t_X5_isThereB {mu : Mem} {f : Nat} (h : cF mu f) : TrE 0 mX5_isThere [vr 0] mu (some (vi (b01 (0 < mu f 0)))) mu := t_X5_isThere h
abbrev NTH : Int := -9223372036854775808
theorem t_X5_measure {mu : Mem} {f : Nat} (h : cF mu f) : Tr 5 mX5_measure [vr 0] mu (fun r m2 => r = some (vi (qMs (fv mu f)).1) ∧ cE mu m2 (qMs (fv mu f)).2) := by
  refine Tr.of (by decide +kernel) (Nat.le_of_ble_eq_true rfl) (fun K C E => ?_)
  have hf := h.1
  have hV := h.2.2.1
  have hn := hV.n
  have hl := hV.l
  have en0 : (fv mu f).1 = mu f 0 := rfl
  have el0 : (fv mu f).2.1 = mu f 1 := rfl
  unfold qMs at E
  have k1 := b01_01 (0 < mu f 0)
  have k1t : b01 (0 < mu f 0) = 1 → 0 < mu f 0 := b01_iff.mp
  have k1f : b01 (0 < mu f 0) = 0 → ¬ 0 < mu f 0 := b01_niff.mp
  have fin : ∀ (c : Int), (c = 0 ∧ 0 < mu f 0) ∨ (c = 1 ∧ ¬ 0 < mu f 0) → AW K mX5_measure (NC, 0, 0) 13 [vr 0] [vi c, vr 0] mu := by
    rintro c (⟨rfl, q⟩ | ⟨rfl, q⟩)
    · rw [if_pos (show 0 < (fv mu f).1 from q)] at E
      have cl := (h.2.2.cl (Or.inl q)).1
      have mb := meas_b cl
      refine aw_putI C dX5_measure_13 fX5_62 ⟨rfl, by decide⟩ rfl rfl rfl ?_
      have hc : cE mu (wr mu 0 11 0) 0 := cE_w
      generalize wr mu 0 11 0 = m1 at *
      obtain ⟨e5, ev, hV1, en, el, e11⟩ := hc.all h
      refine aw_aload_n C dX5_measure_16 rfl ?_
      refine aw_getI C dX5_measure_17 fX5_62 ⟨rfl, by decide⟩ rfl ?_
      rw [e11]
      refine aw_if_eq C dX5_measure_20 (tgt := 27) (by decide) ⟨by omega, by omega⟩ (fun c1 => ?_) (fun c1 => ?_)
      · refine aw_aload_n C dX5_measure_27 rfl ?_
        refine aw_call1 C dX5_measure_28 lX5_122 vX5_measured (t_X5_measured (h.e hc) (by rw [ev]; exact cl)) rfl rfl rfl ⟨rfl, by decide⟩ rfl ⟨by decide, by decide⟩ (Nat.le_of_ble_eq_true rfl) ?_
        rw [ev]
        refine aw_l2i C dX5_measure_31 ?_
        exact aw_iret C E dX5_measure_32 rfl ⟨rfl, hc.w⟩
      · exfalso; omega
    · rw [if_neg (show ¬ 0 < (fv mu f).1 from q)] at E
      refine aw_putI C dX5_measure_13 fX5_62 ⟨rfl, by decide⟩ rfl rfl rfl ?_
      have hc : cE mu (wr mu 0 11 1) 1 := cE_w
      generalize wr mu 0 11 1 = m1 at *
      obtain ⟨e5, ev, hV1, en, el, e11⟩ := hc.all h
      refine aw_aload_n C dX5_measure_16 rfl ?_
      refine aw_getI C dX5_measure_17 fX5_62 ⟨rfl, by decide⟩ rfl ?_
      rw [e11]
      refine aw_if_eq C dX5_measure_20 (tgt := 27) (by decide) ⟨by omega, by omega⟩ (fun c1 => ?_) (fun c1 => ?_)
      · exfalso; omega
      · refine aw_iconst C dX5_measure_23 ?_
        refine aw_goto C dX5_measure_24 (tgt := 32) (by decide) ?_
        exact aw_iret C E dX5_measure_32 rfl ⟨rfl, hc⟩
  refine aw_aload_n C dX5_measure_0 rfl ?_
  refine aw_aload_n C dX5_measure_1 rfl ?_
  refine aw_call1 C dX5_measure_2 lX5_100 vX5_isThere (t_X5_isThere h) rfl rfl rfl ⟨rfl, by decide⟩ rfl ⟨by decide, by decide⟩ (Nat.le_of_ble_eq_true rfl) ?_
  refine aw_if_eq C dX5_measure_5 (tgt := 12) (by decide) ⟨by omega, by omega⟩ (fun c1 => ?_) (fun c1 => ?_)
  · refine aw_iconst C dX5_measure_12 ?_
    first
    | exact fin 0 (Or.inl ⟨rfl, k1t (by omega)⟩)
    | exact fin 1 (Or.inr ⟨rfl, k1f (by omega)⟩)
  · refine aw_iconst C dX5_measure_8 ?_
    refine aw_goto C dX5_measure_9 (tgt := 13) (by decide) ?_
    first
    | exact fin 0 (Or.inl ⟨rfl, k1t (by omega)⟩)
    | exact fin 1 (Or.inr ⟨rfl, k1f (by omega)⟩)
theorem cE.ch {mu m : Mem} {c a b n : Int} (h : cE mu m c) : cE mu (chS m a b n) c := ⟨fun x y hx => by
  rw [chS_at, if_neg (fun w => hx (Or.inr (by omega)))]; exact h.1 x y hx, by rw [chS_at, if_neg (by decide)]; exact h.2⟩
theorem kq_b {V : FV} {i : Int} (h : clo V ∧ prm V) (h0 : 0 ≤ i) (h1 : i < V.1) : 0 ≤ kq V i ∧ kq V i < trn V i := by
  have := kq_ok (h.2 i h0 h1) (h.1.2 i h0 h1)
  exact ⟨this.1, this.2.1⟩
theorem cln_b : ∀ (k : Nat) (a b : Int), 0 ≤ cln k a b ∧ cln k a b ≤ k
  | 0, _, _ => by show (0 : Int) ≤ 0 ∧ (0 : Int) ≤ ((0 : Nat) : Int); omega
  | k + 1, a, b => by
    have e : cln (k + 1) a b = if b ≤ 0 then 0 else 1 + cln k b (cN a b) := rfl
    rw [e]
    have := cln_b k b (cN a b)
    split <;> omega
noncomputable def aRy (V : FV) (i w : Int) : Int := if w = 0 then gx V i else if w = 1 then gy V i else if w = 2 then trn V i else if w = 3 then kq V i else cls (trn V i) (kq V i)
noncomputable def qRy (V : FV) (i w : Int) : Int × Int := if (0 ≤ i ∧ i < V.1) ∧ 0 ≤ w ∧ w ≤ 4 then (aRy V i w, 0) else (NTH, 1)
theorem t_X5_ray {mu : Mem} {f : Nat} {i w : Int} (h : cF mu f) (hi : R32 i) (hw : R32 w) : Tr 4 mX5_ray [vr 0, vi i, vi w] mu (fun r m2 => r = some (vl (qRy (fv mu f) i w).1) ∧ cE mu m2 (qRy (fv mu f) i w).2) := by
  refine Tr.of (by decide +kernel) (Nat.le_of_ble_eq_true rfl) (fun K C E => ?_)
  have hf := h.1
  have hV := h.2.2.1
  have hn := hV.n
  have hl := hV.l
  have en0 : (fv mu f).1 = mu f 0 := rfl
  have el0 : (fv mu f).2.1 = mu f 1 := rfl
  unfold qRy at E
  have k1 := b01_01 (0 ≤ i ∧ i < mu f 0)
  have k1t : b01 (0 ≤ i ∧ i < mu f 0) = 1 → 0 ≤ i ∧ i < mu f 0 := b01_iff.mp
  have k1f : b01 (0 ≤ i ∧ i < mu f 0) = 0 → ¬ (0 ≤ i ∧ i < mu f 0) := b01_niff.mp
  have fin : ∀ (c : Int), (c = 0 ∧ (0 ≤ i ∧ i < mu f 0) ∧ 0 ≤ w ∧ w ≤ 4) ∨ (c = 1 ∧ ¬ ((0 ≤ i ∧ i < mu f 0) ∧ 0 ≤ w ∧ w ≤ 4)) → AW K mX5_ray (NC, 0, 0) 23 [vr 0, vi i, vi w] [vi c, vr 0] mu := by
    rintro c (⟨rfl, q⟩ | ⟨rfl, q⟩)
    · rw [if_pos (show (0 ≤ i ∧ i < (fv mu f).1) ∧ 0 ≤ w ∧ w ≤ 4 from q)] at E
      have cl := h.2.2.cl (Or.inl (show 0 < (fv mu f).1 by omega))
      have b1 := hV.x i
      have b2 := hV.y i
      have b3 := hV.trn i
      have b4 := kq_b cl q.1.1 q.1.2
      have b5 := cln_b (kq (fv mu f) i).toNat (trn (fv mu f) i) (kq (fv mu f) i)
      have b6 : cls (trn (fv mu f) i) (kq (fv mu f) i) = cln (kq (fv mu f) i).toNat (trn (fv mu f) i) (kq (fv mu f) i) := rfl
      refine aw_putI C dX5_ray_23 fX5_62 ⟨rfl, by decide⟩ rfl rfl rfl ?_
      have hc : cE mu (wr mu 0 11 0) 0 := cE_w
      generalize wr mu 0 11 0 = m1 at *
      obtain ⟨e5, ev, hV1, en, el, e11⟩ := hc.all h
      refine aw_aload_n C dX5_ray_26 rfl ?_
      refine aw_getI C dX5_ray_27 fX5_62 ⟨rfl, by decide⟩ rfl ?_
      rw [e11]
      refine aw_if_eq C dX5_ray_30 (tgt := 37) (by decide) ⟨by omega, by omega⟩ (fun c1 => ?_) (fun c1 => ?_)
      · refine aw_iload_n C dX5_ray_37 rfl ?_
        refine aw_tsw C (tgt := 108) [68, 78, 88, 98] dX5_ray_38 ⟨by omega, by omega⟩ (by decide) (by decide) (by decide) ⟨fun cw => ?_, fun cw => ?_, fun cw => ?_, fun cw => ?_, trivial⟩ (fun cw => ?_)
        · refine aw_aload_n C dX5_ray_68 rfl ?_
          refine aw_getR C dX5_ray_69 fX5_43 ⟨rfl, by decide⟩ rfl e5 ?_
          refine aw_iload_n C dX5_ray_72 rfl ?_
          refine aw_call1 C dX5_ray_73 lX5_132 vX1_x (t_X1_x hf hV1 (by omega) (by omega)) rfl rfl rfl hf.s0 rfl ⟨by decide, by decide⟩ (Nat.le_of_ble_eq_true rfl) ?_
          rw [ev]
          refine aw_i2l C dX5_ray_76 ⟨by omega, by omega⟩ ?_
          exact aw_lret C E dX5_ray_77 rfl ⟨by rw [show w = 0 by omega]; rfl, hc⟩
        · refine aw_aload_n C dX5_ray_78 rfl ?_
          refine aw_getR C dX5_ray_79 fX5_43 ⟨rfl, by decide⟩ rfl e5 ?_
          refine aw_iload_n C dX5_ray_82 rfl ?_
          refine aw_call1 C dX5_ray_83 lX5_135 vX1_y (t_X1_y hf hV1 (by omega) (by omega)) rfl rfl rfl hf.s0 rfl ⟨by decide, by decide⟩ (Nat.le_of_ble_eq_true rfl) ?_
          rw [ev]
          refine aw_i2l C dX5_ray_86 ⟨by omega, by omega⟩ ?_
          exact aw_lret C E dX5_ray_87 rfl ⟨by rw [show w = 1 by omega]; rfl, hc⟩
        · refine aw_aload_n C dX5_ray_88 rfl ?_
          refine aw_getR C dX5_ray_89 fX5_43 ⟨rfl, by decide⟩ rfl e5 ?_
          refine aw_iload_n C dX5_ray_92 rfl ?_
          refine aw_call1 C dX5_ray_93 lX5_138 vX1_turn (t_X1_turn hf hV1 (by omega) (by omega)) rfl rfl rfl hf.s0 rfl ⟨by decide, by decide⟩ (Nat.le_of_ble_eq_true rfl) ?_
          rw [ev]
          refine aw_i2l C dX5_ray_96 ⟨by omega, by omega⟩ ?_
          exact aw_lret C E dX5_ray_97 rfl ⟨by rw [show w = 2 by omega]; rfl, hc⟩
        · refine aw_aload_n C dX5_ray_98 rfl ?_
          refine aw_getR C dX5_ray_99 fX5_43 ⟨rfl, by decide⟩ rfl e5 ?_
          refine aw_iload_n C dX5_ray_102 rfl ?_
          refine aw_call1 C dX5_ray_103 lX5_141 vX1_kind (t_X1_kind hf hV1 (by rw [ev]; exact cl.1) (by rw [ev]; exact cl.2) (by omega) (by omega)) rfl rfl rfl hf.s0 rfl ⟨by decide, by decide⟩ (Nat.le_of_ble_eq_true rfl) ?_
          rw [ev]
          refine aw_i2l C dX5_ray_106 ⟨by omega, by omega⟩ ?_
          exact aw_lret C E dX5_ray_107 rfl ⟨by rw [show w = 3 by omega]; rfl, hc⟩
        · refine aw_aload_n C dX5_ray_108 rfl ?_
          refine aw_getS C dX5_ray_109 fX5_21 ⟨rfl, by decide⟩ rfl rfl (srf 0 1 8 (by decide)) ?_
          refine aw_aload_n C dX5_ray_112 rfl ?_
          refine aw_getR C dX5_ray_113 fX5_43 ⟨rfl, by decide⟩ rfl e5 ?_
          refine aw_iload_n C dX5_ray_116 rfl ?_
          refine aw_call1 C dX5_ray_117 lX5_138 vX1_turn (t_X1_turn hf hV1 (by omega) (by omega)) rfl rfl rfl hf.s0 rfl ⟨by decide, by decide⟩ (Nat.le_of_ble_eq_true rfl) ?_
          rw [ev]
          refine aw_aload_n C dX5_ray_120 rfl ?_
          refine aw_getR C dX5_ray_121 fX5_43 ⟨rfl, by decide⟩ rfl e5 ?_
          refine aw_iload_n C dX5_ray_124 rfl ?_
          refine aw_call1 C dX5_ray_125 lX5_141 vX1_kind (t_X1_kind hf hV1 (by rw [ev]; exact cl.1) (by rw [ev]; exact cl.2) (by omega) (by omega)) rfl rfl rfl hf.s0 rfl ⟨by decide, by decide⟩ (Nat.le_of_ble_eq_true rfl) ?_
          rw [ev]
          refine aw_call0 C dX5_ray_128 lX5_144 vX0_start (t_X0_start) rfl rfl rfl ⟨rfl, by decide⟩ rfl ⟨by decide, by decide⟩ (Nat.le_of_ble_eq_true rfl) ?_
          refine aw_aload_n C dX5_ray_131 rfl ?_
          refine aw_getS C dX5_ray_132 fX5_21 ⟨rfl, by decide⟩ rfl rfl (srf 0 1 8 (by decide)) ?_
          refine aw_call C dX5_ray_135 lX5_148 vX0_countAll (t_X0_countAll b4.1 b4.2 (by omega)) rfl rfl rfl ⟨rfl, by decide⟩ rfl ⟨by decide, by decide⟩ (Nat.le_of_ble_eq_true rfl) (fun r2 mu2 hq2 => ?_)
          obtain ⟨rfl, a2, b2x, rfl⟩ := hq2
          show AW _ _ _ _ _ [vi (cls (trn (fv mu f) i) (kq (fv mu f) i))] _
          refine aw_i2l C dX5_ray_138 ⟨by omega, by omega⟩ ?_
          exact aw_lret C E dX5_ray_139 rfl ⟨by rw [show w = 4 by omega]; rfl, hc.ch⟩
      · exfalso; omega
    · rw [if_neg (show ¬ ((0 ≤ i ∧ i < (fv mu f).1) ∧ 0 ≤ w ∧ w ≤ 4) from q)] at E
      refine aw_putI C dX5_ray_23 fX5_62 ⟨rfl, by decide⟩ rfl rfl rfl ?_
      have hc : cE mu (wr mu 0 11 1) 1 := cE_w
      generalize wr mu 0 11 1 = m1 at *
      obtain ⟨e5, ev, hV1, en, el, e11⟩ := hc.all h
      refine aw_aload_n C dX5_ray_26 rfl ?_
      refine aw_getI C dX5_ray_27 fX5_62 ⟨rfl, by decide⟩ rfl ?_
      rw [e11]
      refine aw_if_eq C dX5_ray_30 (tgt := 37) (by decide) ⟨by omega, by omega⟩ (fun c1 => ?_) (fun c1 => ?_)
      · exfalso; omega
      · refine aw_ldc2 C dX5_ray_33 kX5_130 (z := -9223372036854775808) (by decide +kernel) ?_
        exact aw_lret C E dX5_ray_36 rfl ⟨rfl, hc⟩
  refine aw_aload_n C dX5_ray_0 rfl ?_
  refine aw_aload_n C dX5_ray_1 rfl ?_
  refine aw_iload_n C dX5_ray_2 rfl ?_
  refine aw_call1 C dX5_ray_3 lX5_126 vX5_hasRay (t_X5_hasRay h hi) rfl rfl rfl ⟨rfl, by decide⟩ rfl ⟨by decide, by decide⟩ (Nat.le_of_ble_eq_true rfl) ?_
  refine aw_if_eq C dX5_ray_6 (tgt := 22) (by decide) ⟨by omega, by omega⟩ (fun c1 => ?_) (fun c1 => ?_)
  · refine aw_iconst C dX5_ray_22 ?_
    first
    | exact fin 0 (Or.inl ⟨rfl, k1t (by omega), by omega, by omega⟩)
    | exact fin 1 (Or.inr ⟨rfl, fun z => by omega⟩)
    | exact fin 1 (Or.inr ⟨rfl, fun z => k1f (by omega) z.1⟩)
  · refine aw_iload_n C dX5_ray_9 rfl ?_
    refine aw_if_lt C dX5_ray_10 (tgt := 22) (by decide) ⟨by omega, by omega⟩ (fun c2 => ?_) (fun c2 => ?_)
    · refine aw_iconst C dX5_ray_22 ?_
      first
      | exact fin 0 (Or.inl ⟨rfl, k1t (by omega), by omega, by omega⟩)
      | exact fin 1 (Or.inr ⟨rfl, fun z => by omega⟩)
      | exact fin 1 (Or.inr ⟨rfl, fun z => k1f (by omega) z.1⟩)
    · refine aw_iload_n C dX5_ray_13 rfl ?_
      refine aw_iconst C dX5_ray_14 ?_
      refine aw_icmp_gt C dX5_ray_15 (tgt := 22) (by decide) ⟨by omega, by omega⟩ ⟨by omega, by omega⟩ (fun c3 => ?_) (fun c3 => ?_)
      · refine aw_iconst C dX5_ray_22 ?_
        first
        | exact fin 0 (Or.inl ⟨rfl, k1t (by omega), by omega, by omega⟩)
        | exact fin 1 (Or.inr ⟨rfl, fun z => by omega⟩)
        | exact fin 1 (Or.inr ⟨rfl, fun z => k1f (by omega) z.1⟩)
      · refine aw_iconst C dX5_ray_18 ?_
        refine aw_goto C dX5_ray_19 (tgt := 23) (by decide) ?_
        first
        | exact fin 0 (Or.inl ⟨rfl, k1t (by omega), by omega, by omega⟩)
        | exact fin 1 (Or.inr ⟨rfl, fun z => by omega⟩)
        | exact fin 1 (Or.inr ⟨rfl, fun z => k1f (by omega) z.1⟩)
theorem cit_b : ∀ (k : Nat) (a b : Int), 0 ≤ b → b ≤ a → a ≤ 7200 → 0 ≤ (cit k a b).2 ∧ (cit k a b).2 ≤ (cit k a b).1 ∧ (cit k a b).1 ≤ 7200
  | 0, a, b, h0, h1, h2 => ⟨h0, h1, h2⟩
  | k + 1, a, b, h0, h1, h2 => by
    have e : cit (k + 1) a b = if b ≤ 0 then (a, b) else cit k b (cN a b) := rfl
    rw [e]
    split
    · exact ⟨h0, h1, h2⟩
    · have := cN_in (a := a) (b := b) (by omega)
      exact cit_b k b (cN a b) (by omega) (by omega) (by omega)
noncomputable def aCh (V : FV) (i k : Int) : Int := if b01 (0 < (cit k.toNat (trn V i) (kq V i)).2) = 1 then cB (cit k.toNat (trn V i) (kq V i)).1 (cit k.toNat (trn V i) (kq V i)).2 else -2
noncomputable def qCh (V : FV) (i k : Int) : Int × Int := if (0 ≤ i ∧ i < V.1) ∧ 0 ≤ k then (aCh V i k, 0) else (-1, 1)
theorem t_X5_chain {mu : Mem} {f : Nat} {i k : Int} (h : cF mu f) (hi : R32 i) (hk : R32 k) : Tr 4 mX5_chain [vr 0, vi i, vi k] mu (fun r m2 => r = some (vi (qCh (fv mu f) i k).1) ∧ cE mu m2 (qCh (fv mu f) i k).2) := by
  refine Tr.of (by decide +kernel) (Nat.le_of_ble_eq_true rfl) (fun K C E => ?_)
  have hf := h.1
  have hV := h.2.2.1
  have hn := hV.n
  have hl := hV.l
  have en0 : (fv mu f).1 = mu f 0 := rfl
  have el0 : (fv mu f).2.1 = mu f 1 := rfl
  unfold qCh at E
  have k1 := b01_01 (0 ≤ i ∧ i < mu f 0)
  have k1t : b01 (0 ≤ i ∧ i < mu f 0) = 1 → 0 ≤ i ∧ i < mu f 0 := b01_iff.mp
  have k1f : b01 (0 ≤ i ∧ i < mu f 0) = 0 → ¬ (0 ≤ i ∧ i < mu f 0) := b01_niff.mp
  have fin : ∀ (c : Int), (c = 0 ∧ (0 ≤ i ∧ i < mu f 0) ∧ 0 ≤ k) ∨ (c = 1 ∧ ¬ ((0 ≤ i ∧ i < mu f 0) ∧ 0 ≤ k)) → AW K mX5_chain (NC, 0, 0) 18 [vr 0, vi i, vi k] [vi c, vr 0] mu := by
    rintro c (⟨rfl, q⟩ | ⟨rfl, q⟩)
    · rw [if_pos (show (0 ≤ i ∧ i < (fv mu f).1) ∧ 0 ≤ k from q)] at E
      have cl := h.2.2.cl (Or.inl (show 0 < (fv mu f).1 by omega))
      have b3 := hV.trn i
      have b4 := kq_b cl q.1.1 q.1.2
      have b5 := cit_b k.toNat (trn (fv mu f) i) (kq (fv mu f) i) b4.1 (by omega) (by omega)
      have b7 := b01_01 (0 < (cit k.toNat (trn (fv mu f) i) (kq (fv mu f) i)).2)
      unfold aCh at E
      refine aw_putI C dX5_chain_18 fX5_62 ⟨rfl, by decide⟩ rfl rfl rfl ?_
      have hc : cE mu (wr mu 0 11 0) 0 := cE_w
      generalize wr mu 0 11 0 = m1 at *
      obtain ⟨e5, ev, hV1, en, el, e11⟩ := hc.all h
      refine aw_aload_n C dX5_chain_21 rfl ?_
      refine aw_getI C dX5_chain_22 fX5_62 ⟨rfl, by decide⟩ rfl ?_
      rw [e11]
      refine aw_if_eq C dX5_chain_25 (tgt := 30) (by decide) ⟨by omega, by omega⟩ (fun c1 => ?_) (fun c1 => ?_)
      · refine aw_aload_n C dX5_chain_30 rfl ?_
        refine aw_getS C dX5_chain_31 fX5_21 ⟨rfl, by decide⟩ rfl rfl (srf 0 1 8 (by decide)) ?_
        refine aw_aload_n C dX5_chain_34 rfl ?_
        refine aw_getR C dX5_chain_35 fX5_43 ⟨rfl, by decide⟩ rfl e5 ?_
        refine aw_iload_n C dX5_chain_38 rfl ?_
        refine aw_call1 C dX5_chain_39 lX5_138 vX1_turn (t_X1_turn hf hV1 (by omega) (by omega)) rfl rfl rfl hf.s0 rfl ⟨by decide, by decide⟩ (Nat.le_of_ble_eq_true rfl) ?_
        rw [ev]
        refine aw_aload_n C dX5_chain_42 rfl ?_
        refine aw_getR C dX5_chain_43 fX5_43 ⟨rfl, by decide⟩ rfl e5 ?_
        refine aw_iload_n C dX5_chain_46 rfl ?_
        refine aw_call1 C dX5_chain_47 lX5_141 vX1_kind (t_X1_kind hf hV1 (by rw [ev]; exact cl.1) (by rw [ev]; exact cl.2) (by omega) (by omega)) rfl rfl rfl hf.s0 rfl ⟨by decide, by decide⟩ (Nat.le_of_ble_eq_true rfl) ?_
        rw [ev]
        refine aw_call0 C dX5_chain_50 lX5_144 vX0_start (t_X0_start) rfl rfl rfl ⟨rfl, by decide⟩ rfl ⟨by decide, by decide⟩ (Nat.le_of_ble_eq_true rfl) ?_
        refine aw_aload_n C dX5_chain_53 rfl ?_
        refine aw_getS C dX5_chain_54 fX5_21 ⟨rfl, by decide⟩ rfl rfl (srf 0 1 8 (by decide)) ?_
        refine aw_iload_n C dX5_chain_57 rfl ?_
        refine aw_call1 C dX5_chain_58 lX5_151 vX0_skipTo (t_X0_skipTo b4.1 b4.2 (by omega) (by omega) hk) rfl rfl rfl ⟨rfl, by decide⟩ rfl ⟨by decide, by decide⟩ (Nat.le_of_ble_eq_true rfl) ?_
        refine aw_if_eq C dX5_chain_61 (tgt := 74) (by decide) ⟨by omega, by omega⟩ (fun c1 => ?_) (fun c1 => ?_)
        · rw [if_neg (show ¬ b01 (0 < (cit k.toNat (trn (fv mu f) i) (kq (fv mu f) i)).2) = 1 by omega)] at E
          --go
          refine aw_bipush C dX5_chain_74 rfl ?_
          exact aw_iret C E dX5_chain_76 rfl ⟨rfl, hc.ch⟩
        · rw [if_pos (show b01 (0 < (cit k.toNat (trn (fv mu f) i) (kq (fv mu f) i)).2) = 1 by omega)] at E
          --go
          refine aw_aload_n C dX5_chain_64 rfl ?_
          refine aw_getS C dX5_chain_65 fX5_21 ⟨rfl, by decide⟩ rfl rfl (srf 0 1 8 (by decide)) ?_
          refine aw_call1 C dX5_chain_68 lX5_154 vX0_step (t_X0_step (b01_iff.mp (by omega)) b5.2.1 b5.2.2) rfl rfl rfl ⟨rfl, by decide⟩ rfl ⟨by decide, by decide⟩ (Nat.le_of_ble_eq_true rfl) ?_
          refine aw_goto C dX5_chain_71 (tgt := 76) (by decide) ?_
          exact aw_iret C E dX5_chain_76 rfl ⟨rfl, hc.ch⟩
      · exfalso; omega
    · rw [if_neg (show ¬ ((0 ≤ i ∧ i < (fv mu f).1) ∧ 0 ≤ k) from q)] at E
      refine aw_putI C dX5_chain_18 fX5_62 ⟨rfl, by decide⟩ rfl rfl rfl ?_
      have hc : cE mu (wr mu 0 11 1) 1 := cE_w
      generalize wr mu 0 11 1 = m1 at *
      obtain ⟨e5, ev, hV1, en, el, e11⟩ := hc.all h
      refine aw_aload_n C dX5_chain_21 rfl ?_
      refine aw_getI C dX5_chain_22 fX5_62 ⟨rfl, by decide⟩ rfl ?_
      rw [e11]
      refine aw_if_eq C dX5_chain_25 (tgt := 30) (by decide) ⟨by omega, by omega⟩ (fun c1 => ?_) (fun c1 => ?_)
      · exfalso; omega
      · refine aw_iconst C dX5_chain_28 ?_
        exact aw_iret C E dX5_chain_29 rfl ⟨rfl, hc⟩
  refine aw_aload_n C dX5_chain_0 rfl ?_
  refine aw_aload_n C dX5_chain_1 rfl ?_
  refine aw_iload_n C dX5_chain_2 rfl ?_
  refine aw_call1 C dX5_chain_3 lX5_126 vX5_hasRay (t_X5_hasRay h hi) rfl rfl rfl ⟨rfl, by decide⟩ rfl ⟨by decide, by decide⟩ (Nat.le_of_ble_eq_true rfl) ?_
  refine aw_if_eq C dX5_chain_6 (tgt := 17) (by decide) ⟨by omega, by omega⟩ (fun c1 => ?_) (fun c1 => ?_)
  · refine aw_iconst C dX5_chain_17 ?_
    first
    | exact fin 0 (Or.inl ⟨rfl, k1t (by omega), by omega⟩)
    | exact fin 1 (Or.inr ⟨rfl, fun z => by omega⟩)
    | exact fin 1 (Or.inr ⟨rfl, fun z => k1f (by omega) z.1⟩)
  · refine aw_iload_n C dX5_chain_9 rfl ?_
    refine aw_if_lt C dX5_chain_10 (tgt := 17) (by decide) ⟨by omega, by omega⟩ (fun c2 => ?_) (fun c2 => ?_)
    · refine aw_iconst C dX5_chain_17 ?_
      first
      | exact fin 0 (Or.inl ⟨rfl, k1t (by omega), by omega⟩)
      | exact fin 1 (Or.inr ⟨rfl, fun z => by omega⟩)
      | exact fin 1 (Or.inr ⟨rfl, fun z => k1f (by omega) z.1⟩)
    · refine aw_iconst C dX5_chain_13 ?_
      refine aw_goto C dX5_chain_14 (tgt := 18) (by decide) ?_
      first
      | exact fin 0 (Or.inl ⟨rfl, k1t (by omega), by omega⟩)
      | exact fin 1 (Or.inr ⟨rfl, fun z => by omega⟩)
      | exact fin 1 (Or.inr ⟨rfl, fun z => k1f (by omega) z.1⟩)
noncomputable def qCo (V : FV) (x y : Int) : Int × Int := if ¬ 0 < V.1 then (-1, 1) else if b01 (fra x y) = 1 ∨ (x = 0 ∧ y = 0) then (-1, 2) else (cof V x y, 0)
theorem fra_n {x y : Int} (h : b01 (fra x y) = 0) : (-60 ≤ x ∧ x ≤ 60) ∧ (-60 ≤ y ∧ y ≤ 60) := by
  have := b01_niff.mp h
  unfold fra at this
  omega
theorem t_X5_cone {mu : Mem} {f : Nat} {x y : Int} (h : cF mu f) (hx : R32 x) (hy : R32 y) : Tr 2 mX5_cone [vr 0, vi x, vi y] mu (fun r m2 => r = some (vi (qCo (fv mu f) x y).1) ∧ cE mu m2 (qCo (fv mu f) x y).2) := by
  refine Tr.of (by decide +kernel) (Nat.le_of_ble_eq_true rfl) (fun K C E => ?_)
  have hf := h.1
  have hV := h.2.2.1
  have hn := hV.n
  have hl := hV.l
  have en0 : (fv mu f).1 = mu f 0 := rfl
  have el0 : (fv mu f).2.1 = mu f 1 := rfl
  unfold qCo at E
  have k1 := b01_01 (0 < mu f 0)
  have k1t : b01 (0 < mu f 0) = 1 → 0 < mu f 0 := b01_iff.mp
  have k1f : b01 (0 < mu f 0) = 0 → ¬ 0 < mu f 0 := b01_niff.mp
  have k2 := b01_01 (fra x y)
  have fin : ∀ (c : Int), (c = 0 ∧ 0 < mu f 0 ∧ b01 (fra x y) = 0 ∧ ¬ (x = 0 ∧ y = 0)) ∨ (c = 1 ∧ ¬ 0 < mu f 0) ∨ (c = 2 ∧ 0 < mu f 0 ∧ (b01 (fra x y) = 1 ∨ (x = 0 ∧ y = 0))) → AW K mX5_cone (NC, 0, 0) 33 [vr 0, vi x, vi y] [vi c, vr 0] mu := by
    rintro c (⟨rfl, q⟩ | ⟨rfl, q⟩ | ⟨rfl, q⟩)
    · rw [if_neg (show ¬ ¬ 0 < (fv mu f).1 from fun z => z q.1), if_neg (show ¬ (b01 (fra x y) = 1 ∨ (x = 0 ∧ y = 0)) from fun z => by omega)] at E
      have b1 := fra_n q.2.1
      refine aw_putI C dX5_cone_33 fX5_62 ⟨rfl, by decide⟩ rfl rfl rfl ?_
      have hc : cE mu (wr mu 0 11 0) 0 := cE_w
      generalize wr mu 0 11 0 = m1 at *
      obtain ⟨e5, ev, hV1, en, el, e11⟩ := hc.all h
      refine aw_aload_n C dX5_cone_36 rfl ?_
      refine aw_getI C dX5_cone_37 fX5_62 ⟨rfl, by decide⟩ rfl ?_
      rw [e11]
      refine aw_if_eq C dX5_cone_40 (tgt := 47) (by decide) ⟨by omega, by omega⟩ (fun c1 => ?_) (fun c1 => ?_)
      · refine aw_aload_n C dX5_cone_47 rfl ?_
        refine aw_getR C dX5_cone_48 fX5_43 ⟨rfl, by decide⟩ rfl e5 ?_
        refine aw_iload_n C dX5_cone_51 rfl ?_
        refine aw_iload_n C dX5_cone_52 rfl ?_
        refine aw_call1 C dX5_cone_53 lX5_161 vX1_coneOf (t_X1_coneOf hf hV1 b1.1 b1.2) rfl rfl rfl hf.s0 rfl ⟨by decide, by decide⟩ (Nat.le_of_ble_eq_true rfl) ?_
        try rw [ev]
        exact aw_iret C E dX5_cone_56 rfl ⟨rfl, hc⟩
      · exfalso; omega
    · rw [if_pos (show ¬ 0 < (fv mu f).1 from q)] at E
      refine aw_putI C dX5_cone_33 fX5_62 ⟨rfl, by decide⟩ rfl rfl rfl ?_
      have hc : cE mu (wr mu 0 11 1) 1 := cE_w
      generalize wr mu 0 11 1 = m1 at *
      obtain ⟨e5, ev, hV1, en, el, e11⟩ := hc.all h
      refine aw_aload_n C dX5_cone_36 rfl ?_
      refine aw_getI C dX5_cone_37 fX5_62 ⟨rfl, by decide⟩ rfl ?_
      rw [e11]
      refine aw_if_eq C dX5_cone_40 (tgt := 47) (by decide) ⟨by omega, by omega⟩ (fun c1 => ?_) (fun c1 => ?_)
      · exfalso; omega
      · refine aw_iconst C dX5_cone_43 ?_
        refine aw_goto C dX5_cone_44 (tgt := 56) (by decide) ?_
        exact aw_iret C E dX5_cone_56 rfl ⟨rfl, hc⟩
    · rw [if_neg (show ¬ ¬ 0 < (fv mu f).1 from fun z => z q.1), if_pos q.2] at E
      refine aw_putI C dX5_cone_33 fX5_62 ⟨rfl, by decide⟩ rfl rfl rfl ?_
      have hc : cE mu (wr mu 0 11 2) 2 := cE_w
      generalize wr mu 0 11 2 = m1 at *
      obtain ⟨e5, ev, hV1, en, el, e11⟩ := hc.all h
      refine aw_aload_n C dX5_cone_36 rfl ?_
      refine aw_getI C dX5_cone_37 fX5_62 ⟨rfl, by decide⟩ rfl ?_
      rw [e11]
      refine aw_if_eq C dX5_cone_40 (tgt := 47) (by decide) ⟨by omega, by omega⟩ (fun c1 => ?_) (fun c1 => ?_)
      · exfalso; omega
      · refine aw_iconst C dX5_cone_43 ?_
        refine aw_goto C dX5_cone_44 (tgt := 56) (by decide) ?_
        exact aw_iret C E dX5_cone_56 rfl ⟨rfl, hc⟩
  refine aw_aload_n C dX5_cone_0 rfl ?_
  refine aw_aload_n C dX5_cone_1 rfl ?_
  refine aw_call1 C dX5_cone_2 lX5_100 vX5_isThere (t_X5_isThere h) rfl rfl rfl ⟨rfl, by decide⟩ rfl ⟨by decide, by decide⟩ (Nat.le_of_ble_eq_true rfl) ?_
  refine aw_if_ne C dX5_cone_5 (tgt := 12) (by decide) ⟨by omega, by omega⟩ (fun c1 => ?_) (fun c1 => ?_)
  · refine aw_iload_n C dX5_cone_12 rfl ?_
    refine aw_iload_n C dX5_cone_13 rfl ?_
    refine aw_callS1 C dX5_cone_14 lX5_157 vX5_isFar (t_X5_isFar hx hy) rfl rfl rfl ⟨by decide, by decide⟩ (Nat.le_of_ble_eq_true rfl) ?_
    refine aw_if_ne C dX5_cone_17 (tgt := 28) (by decide) ⟨by omega, by omega⟩ (fun c2 => ?_) (fun c2 => ?_)
    · refine aw_iconst C dX5_cone_28 ?_
      refine aw_goto C dX5_cone_29 (tgt := 33) (by decide) ?_
      first
      | exact fin 1 (Or.inr (Or.inl ⟨rfl, k1f (by omega)⟩))
      | exact fin 0 (Or.inl ⟨rfl, k1t (by omega), by omega, by omega⟩)
      | exact fin 2 (Or.inr (Or.inr ⟨rfl, k1t (by omega), by omega⟩))
    · refine aw_iload_n C dX5_cone_20 rfl ?_
      refine aw_if_ne C dX5_cone_21 (tgt := 32) (by decide) ⟨by omega, by omega⟩ (fun c3 => ?_) (fun c3 => ?_)
      · refine aw_iconst C dX5_cone_32 ?_
        first
        | exact fin 1 (Or.inr (Or.inl ⟨rfl, k1f (by omega)⟩))
        | exact fin 0 (Or.inl ⟨rfl, k1t (by omega), by omega, by omega⟩)
        | exact fin 2 (Or.inr (Or.inr ⟨rfl, k1t (by omega), by omega⟩))
      · refine aw_iload_n C dX5_cone_24 rfl ?_
        refine aw_if_ne C dX5_cone_25 (tgt := 32) (by decide) ⟨by omega, by omega⟩ (fun c4 => ?_) (fun c4 => ?_)
        · refine aw_iconst C dX5_cone_32 ?_
          first
          | exact fin 1 (Or.inr (Or.inl ⟨rfl, k1f (by omega)⟩))
          | exact fin 0 (Or.inl ⟨rfl, k1t (by omega), by omega, by omega⟩)
          | exact fin 2 (Or.inr (Or.inr ⟨rfl, k1t (by omega), by omega⟩))
        · refine aw_iconst C dX5_cone_28 ?_
          refine aw_goto C dX5_cone_29 (tgt := 33) (by decide) ?_
          first
          | exact fin 1 (Or.inr (Or.inl ⟨rfl, k1f (by omega)⟩))
          | exact fin 0 (Or.inl ⟨rfl, k1t (by omega), by omega, by omega⟩)
          | exact fin 2 (Or.inr (Or.inr ⟨rfl, k1t (by omega), by omega⟩))
  · refine aw_iconst C dX5_cone_8 ?_
    refine aw_goto C dX5_cone_9 (tgt := 33) (by decide) ?_
    first
    | exact fin 1 (Or.inr (Or.inl ⟨rfl, k1f (by omega)⟩))
    | exact fin 0 (Or.inl ⟨rfl, k1t (by omega), by omega, by omega⟩)
    | exact fin 2 (Or.inr (Or.inr ⟨rfl, k1t (by omega), by omega⟩))
noncomputable def qLd (V : FV) (d i : Int) : Int × Int := if (0 ≤ d ∧ d < V.2.1) ∧ 0 ≤ i ∧ i < V.1 then (gn V d i, 0) else (NTH, 1)
theorem t_X5_load {mu : Mem} {f : Nat} {d i : Int} (h : cF mu f) (hd : R32 d) (hi : R32 i) : Tr 1 mX5_load [vr 0, vi d, vi i] mu (fun r m2 => r = some (vl (qLd (fv mu f) d i).1) ∧ cE mu m2 (qLd (fv mu f) d i).2) := by
  refine Tr.of (by decide +kernel) (Nat.le_of_ble_eq_true rfl) (fun K C E => ?_)
  have hf := h.1
  have hV := h.2.2.1
  have hn := hV.n
  have hl := hV.l
  have en0 : (fv mu f).1 = mu f 0 := rfl
  have el0 : (fv mu f).2.1 = mu f 1 := rfl
  unfold qLd at E
  have k1 := b01_01 (0 ≤ i ∧ i < mu f 0)
  have k1t : b01 (0 ≤ i ∧ i < mu f 0) = 1 → 0 ≤ i ∧ i < mu f 0 := b01_iff.mp
  have k1f : b01 (0 ≤ i ∧ i < mu f 0) = 0 → ¬ (0 ≤ i ∧ i < mu f 0) := b01_niff.mp
  have k2 := b01_01 (0 ≤ d ∧ d < mu f 1)
  have k2t : b01 (0 ≤ d ∧ d < mu f 1) = 1 → 0 ≤ d ∧ d < mu f 1 := b01_iff.mp
  have k2f : b01 (0 ≤ d ∧ d < mu f 1) = 0 → ¬ (0 ≤ d ∧ d < mu f 1) := b01_niff.mp
  have fin : ∀ (c : Int), (c = 0 ∧ (0 ≤ d ∧ d < mu f 1) ∧ 0 ≤ i ∧ i < mu f 0) ∨ (c = 1 ∧ ¬ ((0 ≤ d ∧ d < mu f 1) ∧ 0 ≤ i ∧ i < mu f 0)) → AW K mX5_load (NC, 0, 0) 22 [vr 0, vi d, vi i] [vi c, vr 0] mu := by
    rintro c (⟨rfl, q⟩ | ⟨rfl, q⟩)
    · rw [if_pos (show (0 ≤ d ∧ d < (fv mu f).2.1) ∧ 0 ≤ i ∧ i < (fv mu f).1 from q)] at E
      have b1 := hV.g d i
      refine aw_putI C dX5_load_22 fX5_62 ⟨rfl, by decide⟩ rfl rfl rfl ?_
      have hc : cE mu (wr mu 0 11 0) 0 := cE_w
      generalize wr mu 0 11 0 = m1 at *
      obtain ⟨e5, ev, hV1, en, el, e11⟩ := hc.all h
      refine aw_aload_n C dX5_load_25 rfl ?_
      refine aw_getI C dX5_load_26 fX5_62 ⟨rfl, by decide⟩ rfl ?_
      rw [e11]
      refine aw_if_eq C dX5_load_29 (tgt := 38) (by decide) ⟨by omega, by omega⟩ (fun c1 => ?_) (fun c1 => ?_)
      · refine aw_aload_n C dX5_load_38 rfl ?_
        refine aw_getR C dX5_load_39 fX5_43 ⟨rfl, by decide⟩ rfl e5 ?_
        refine aw_iload_n C dX5_load_42 rfl ?_
        refine aw_iload_n C dX5_load_43 rfl ?_
        refine aw_call1 C dX5_load_44 lX5_168 vX1_number (t_X1_number hf hV1 (by omega) (by omega) (by omega) (by omega)) rfl rfl rfl hf.s0 rfl ⟨by decide, by decide⟩ (Nat.le_of_ble_eq_true rfl) ?_
        rw [ev]
        refine aw_i2l C dX5_load_47 ⟨by omega, by omega⟩ ?_
        exact aw_lret C E dX5_load_48 rfl ⟨rfl, hc⟩
      · exfalso; omega
    · rw [if_neg (show ¬ ((0 ≤ d ∧ d < (fv mu f).2.1) ∧ 0 ≤ i ∧ i < (fv mu f).1) from q)] at E
      refine aw_putI C dX5_load_22 fX5_62 ⟨rfl, by decide⟩ rfl rfl rfl ?_
      have hc : cE mu (wr mu 0 11 1) 1 := cE_w
      generalize wr mu 0 11 1 = m1 at *
      obtain ⟨e5, ev, hV1, en, el, e11⟩ := hc.all h
      refine aw_aload_n C dX5_load_25 rfl ?_
      refine aw_getI C dX5_load_26 fX5_62 ⟨rfl, by decide⟩ rfl ?_
      rw [e11]
      refine aw_if_eq C dX5_load_29 (tgt := 38) (by decide) ⟨by omega, by omega⟩ (fun c1 => ?_) (fun c1 => ?_)
      · exfalso; omega
      · refine aw_ldc2 C dX5_load_32 kX5_130 (z := -9223372036854775808) (by decide +kernel) ?_
        refine aw_goto C dX5_load_35 (tgt := 48) (by decide) ?_
        exact aw_lret C E dX5_load_48 rfl ⟨rfl, hc⟩
  refine aw_aload_n C dX5_load_0 rfl ?_
  refine aw_aload_n C dX5_load_1 rfl ?_
  refine aw_iload_n C dX5_load_2 rfl ?_
  refine aw_call1 C dX5_load_3 lX5_165 vX5_hasLoad (t_X5_hasLoad h hd) rfl rfl rfl ⟨rfl, by decide⟩ rfl ⟨by decide, by decide⟩ (Nat.le_of_ble_eq_true rfl) ?_
  refine aw_if_eq C dX5_load_6 (tgt := 21) (by decide) ⟨by omega, by omega⟩ (fun c1 => ?_) (fun c1 => ?_)
  · refine aw_iconst C dX5_load_21 ?_
    first
    | exact fin 0 (Or.inl ⟨rfl, k2t (by omega), k1t (by omega)⟩)
    | exact fin 1 (Or.inr ⟨rfl, fun z => k2f (by omega) z.1⟩)
    | exact fin 1 (Or.inr ⟨rfl, fun z => k1f (by omega) z.2⟩)
  · refine aw_aload_n C dX5_load_9 rfl ?_
    refine aw_iload_n C dX5_load_10 rfl ?_
    refine aw_call1 C dX5_load_11 lX5_126 vX5_hasRay (t_X5_hasRay h hi) rfl rfl rfl ⟨rfl, by decide⟩ rfl ⟨by decide, by decide⟩ (Nat.le_of_ble_eq_true rfl) ?_
    refine aw_if_eq C dX5_load_14 (tgt := 21) (by decide) ⟨by omega, by omega⟩ (fun c2 => ?_) (fun c2 => ?_)
    · refine aw_iconst C dX5_load_21 ?_
      first
      | exact fin 0 (Or.inl ⟨rfl, k2t (by omega), k1t (by omega)⟩)
      | exact fin 1 (Or.inr ⟨rfl, fun z => k2f (by omega) z.1⟩)
      | exact fin 1 (Or.inr ⟨rfl, fun z => k1f (by omega) z.2⟩)
    · refine aw_iconst C dX5_load_17 ?_
      refine aw_goto C dX5_load_18 (tgt := 22) (by decide) ?_
      first
      | exact fin 0 (Or.inl ⟨rfl, k2t (by omega), k1t (by omega)⟩)
      | exact fin 1 (Or.inr ⟨rfl, fun z => k2f (by omega) z.1⟩)
      | exact fin 1 (Or.inr ⟨rfl, fun z => k1f (by omega) z.2⟩)

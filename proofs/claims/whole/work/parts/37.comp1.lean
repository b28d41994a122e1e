/-! the component's questions -/
def gV (V : FV) : Prop := bV V ∧ ((V.1 = 0 ∧ V.2.1 = 0) ∨ (clo V ∧ prm V))
def cF (mu : Mem) (f : Nat) : Prop := isF f ∧ mu 0 5 = (f : Int) ∧ gV (fv mu f)
def qS : Nat → Nat → Prop := fun a b => (a = 0 ∧ b = 11) ∨ (8 ≤ a ∧ a ≤ 12)
def cE (mu m2 : Mem) (c : Int) : Prop := frc qS mu m2 ∧ m2 0 11 = c
theorem isF.ge {f : Nat} (h : isF f) : 15 ≤ f ∧ f ≤ 51 := by obtain ⟨t, h1, rfl⟩ := h; omega
theorem cE.fv {mu m2 : Mem} {c : Int} {f : Nat} (h : cE mu m2 c) (hf : isF f) : fv m2 f = fv mu f := by
  have hg := hf.ge
  have e : ∀ a, 15 ≤ a → m2 a = mu a := fun a ha => funext fun j => h.1 a j (by unfold qS; omega)
  unfold Jvm.Pilot.@@N@@.fv
  rw [e f (by omega), e (f + 1) (by omega), e (f + 2) (by omega), e (f + 3) (by omega)]
theorem cE_w {mu : Mem} {c : Int} : cE mu (wr mu 0 11 c) c := ⟨frc.rf.w (Or.inl ⟨rfl, rfl⟩), by rw [wr_at, if_pos ⟨rfl, rfl⟩]⟩
theorem cE.all {mu m1 : Mem} {c : Int} {f : Nat} (h : cE mu m1 c) (hF : cF mu f) : m1 0 5 = (f : Int) ∧ Jvm.Pilot.@@N@@.fv m1 f = Jvm.Pilot.@@N@@.fv mu f ∧ bV (Jvm.Pilot.@@N@@.fv m1 f) ∧ m1 f 0 = mu f 0 ∧ m1 f 1 = mu f 1 ∧ m1 0 11 = c := by
  have e := h.fv hF.1
  refine ⟨(h.1 0 5 (by unfold qS; omega)).trans hF.2.1, e, by rw [e]; exact hF.2.2.1, congrArg (fun z : FV => z.1) e, congrArg (fun z : FV => z.2.1) e, h.2⟩
theorem cF.e {mu m1 : Mem} {c : Int} {f : Nat} (hF : cF mu f) (h : cE mu m1 c) : cF m1 f := ⟨hF.1, (h.all hF).1, by rw [h.fv hF.1]; exact hF.2.2⟩
theorem gV.cl {V : FV} (h : gV V) (h2 : 0 < V.1 ∨ 0 < V.2.1) : clo V ∧ prm V := by rcases h.2 with q | q; omega; exact q
theorem t_X5_isThere {mu : Mem} {f : Nat} (h : cF mu f) : TrE 0 mX5_isThere [vr 0] mu (some (vi (b01 (0 < mu f 0)))) mu := by
  refine Tr.of (by decide +kernel) (Nat.le_of_ble_eq_true rfl) (fun K C E => ?_)
  obtain ⟨hf, efn, hV, hG⟩ := h
  have hn := hV.n
  refine aw_aload_n C dX5_isThere_0 rfl ?_
  refine aw_getR C dX5_isThere_1 fX5_43 ⟨rfl, by decide⟩ rfl efn ?_
  refine aw_getI C dX5_isThere_4 fX5_97 hf.s0 rfl ?_
  refine aw_if_le C dX5_isThere_7 (tgt := 14) (by decide) ⟨by omega, by omega⟩ (fun c1 => ?_) (fun c1 => ?_)
  · rw [b01_f (by omega)] at E
    --go
    refine aw_iconst C dX5_isThere_14 ?_
    exact aw_zret C E dX5_isThere_15 rfl (by omega) ⟨rfl, rfl⟩
  · rw [b01_t (by omega)] at E
    --go
    refine aw_iconst C dX5_isThere_10 ?_
    refine aw_goto C dX5_isThere_11 (tgt := 15) (by decide) ?_
    exact aw_zret C E dX5_isThere_15 rfl (by omega) ⟨rfl, rfl⟩
theorem t_X5_hasRay {mu : Mem} {f : Nat} {i : Int} (h : cF mu f) (hi : R32 i) : TrE 0 mX5_hasRay [vr 0, vi i] mu (some (vi (b01 (0 ≤ i ∧ i < mu f 0)))) mu := by
  refine Tr.of (by decide +kernel) (Nat.le_of_ble_eq_true rfl) (fun K C E => ?_)
  obtain ⟨hf, efn, hV, hG⟩ := h
  have hn := hV.n
  refine aw_iload_n C dX5_hasRay_0 rfl ?_
  refine aw_if_lt C dX5_hasRay_1 (tgt := 19) (by decide) ⟨by omega, by omega⟩ (fun c1 => ?_) (fun c1 => ?_)
  · rw [b01_f (by omega)] at E
    --go
    refine aw_iconst C dX5_hasRay_19 ?_
    exact aw_zret C E dX5_hasRay_20 rfl (by omega) ⟨rfl, rfl⟩
  · refine aw_iload_n C dX5_hasRay_4 rfl ?_
    refine aw_aload_n C dX5_hasRay_5 rfl ?_
    refine aw_getR C dX5_hasRay_6 fX5_43 ⟨rfl, by decide⟩ rfl efn ?_
    refine aw_getI C dX5_hasRay_9 fX5_97 hf.s0 rfl ?_
    refine aw_icmp_ge C dX5_hasRay_12 (tgt := 19) (by decide) ⟨by omega, by omega⟩ ⟨by omega, by omega⟩ (fun c2 => ?_) (fun c2 => ?_)
    · rw [b01_f (by omega)] at E
      --go
      refine aw_iconst C dX5_hasRay_19 ?_
      exact aw_zret C E dX5_hasRay_20 rfl (by omega) ⟨rfl, rfl⟩
    · rw [b01_t (by omega)] at E
      --go
      refine aw_iconst C dX5_hasRay_15 ?_
      refine aw_goto C dX5_hasRay_16 (tgt := 20) (by decide) ?_
      exact aw_zret C E dX5_hasRay_20 rfl (by omega) ⟨rfl, rfl⟩
theorem t_X5_hasLoad {mu : Mem} {f : Nat} {i : Int} (h : cF mu f) (hi : R32 i) : TrE 0 mX5_hasLoad [vr 0, vi i] mu (some (vi (b01 (0 ≤ i ∧ i < mu f 1)))) mu := by
  refine Tr.of (by decide +kernel) (Nat.le_of_ble_eq_true rfl) (fun K C E => ?_)
  obtain ⟨hf, efn, hV, hG⟩ := h
  have hn := hV.l
  refine aw_iload_n C dX5_hasLoad_0 rfl ?_
  refine aw_if_lt C dX5_hasLoad_1 (tgt := 19) (by decide) ⟨by omega, by omega⟩ (fun c1 => ?_) (fun c1 => ?_)
  · rw [b01_f (by omega)] at E
    --go
    refine aw_iconst C dX5_hasLoad_19 ?_
    exact aw_zret C E dX5_hasLoad_20 rfl (by omega) ⟨rfl, rfl⟩
  · refine aw_iload_n C dX5_hasLoad_4 rfl ?_
    refine aw_aload_n C dX5_hasLoad_5 rfl ?_
    refine aw_getR C dX5_hasLoad_6 fX5_43 ⟨rfl, by decide⟩ rfl efn ?_
    refine aw_getI C dX5_hasLoad_9 fX5_103 hf.s0 rfl ?_
    refine aw_icmp_ge C dX5_hasLoad_12 (tgt := 19) (by decide) ⟨by omega, by omega⟩ ⟨by omega, by omega⟩ (fun c2 => ?_) (fun c2 => ?_)
    · rw [b01_f (by omega)] at E
      --go
      refine aw_iconst C dX5_hasLoad_19 ?_
      exact aw_zret C E dX5_hasLoad_20 rfl (by omega) ⟨rfl, rfl⟩
    · rw [b01_t (by omega)] at E
      --go
      refine aw_iconst C dX5_hasLoad_15 ?_
      refine aw_goto C dX5_hasLoad_16 (tgt := 20) (by decide) ?_
      exact aw_zret C E dX5_hasLoad_20 rfl (by omega) ⟨rfl, rfl⟩
def fra (x y : Int) : Prop := (x < -60 ∨ 60 < x) ∨ (y < -60 ∨ 60 < y)
theorem t_X5_isFar {mu : Mem} {x y : Int} (hx : R32 x) (hy : R32 y) : TrE 1 mX5_isFar [vi x, vi y] mu (some (vi (b01 (fra x y)))) mu := by
  refine Tr.of (by decide +kernel) (Nat.le_of_ble_eq_true rfl) (fun K C E => ?_)
  have h1 := b01_01 (x < -60 ∨ 60 < x)
  have h2 := b01_01 (y < -60 ∨ 60 < y)
  refine aw_iload_n C dX5_isFar_0 rfl ?_
  refine aw_i2l C dX5_isFar_1 ⟨by omega, by omega⟩ ?_
  refine aw_ldc2 C dX5_isFar_2 kX5_295 (z := 60) (by decide +kernel) ?_
  refine aw_callS1 C dX5_isFar_5 lX5_230 vX4_isBeyond (t_X4_isBeyondB ⟨by omega, by omega⟩ ⟨by omega, by omega⟩ ⟨by omega, by omega⟩) rfl rfl rfl ⟨by decide, by decide⟩ (Nat.le_of_ble_eq_true rfl) ?_
  refine aw_if_ne C dX5_isFar_8 (tgt := 22) (by decide) ⟨by omega, by omega⟩ (fun c1 => ?_) (fun c1 => ?_)
  · rw [b01_t (show fra x y from Or.inl (b01_iff.mp (by omega)))] at E
    --go
    refine aw_iconst C dX5_isFar_22 ?_
    refine aw_goto C dX5_isFar_23 (tgt := 27) (by decide) ?_
    exact aw_zret C E dX5_isFar_27 rfl (by omega) ⟨rfl, rfl⟩
  · refine aw_iload_n C dX5_isFar_11 rfl ?_
    refine aw_i2l C dX5_isFar_12 ⟨by omega, by omega⟩ ?_
    refine aw_ldc2 C dX5_isFar_13 kX5_295 (z := 60) (by decide +kernel) ?_
    refine aw_callS1 C dX5_isFar_16 lX5_230 vX4_isBeyond (t_X4_isBeyondB ⟨by omega, by omega⟩ ⟨by omega, by omega⟩ ⟨by omega, by omega⟩) rfl rfl rfl ⟨by decide, by decide⟩ (Nat.le_of_ble_eq_true rfl) ?_
    refine aw_if_eq C dX5_isFar_19 (tgt := 26) (by decide) ⟨by omega, by omega⟩ (fun c2 => ?_) (fun c2 => ?_)
    · rw [b01_f (show ¬ fra x y from fun z => by rcases z with z | z; exact b01_niff.mp (by omega) z; exact b01_niff.mp (by omega) z)] at E
      --go
      refine aw_iconst C dX5_isFar_26 ?_
      exact aw_zret C E dX5_isFar_27 rfl (by omega) ⟨rfl, rfl⟩
    · rw [b01_t (show fra x y from Or.inr (b01_iff.mp (by omega)))] at E
      --go
      refine aw_iconst C dX5_isFar_22 ?_
      refine aw_goto C dX5_isFar_23 (tgt := 27) (by decide) ?_
      exact aw_zret C E dX5_isFar_27 rfl (by omega) ⟨rfl, rfl⟩
theorem t_X5_isMultiple {mu : Mem} {k : Int} (hk : R32 k) : TrE 0 mX5_isMultiple [vi k] mu (some (vi (b01 (0 ≤ k ∧ k ≤ 4)))) mu := by
  refine Tr.of (by decide +kernel) (Nat.le_of_ble_eq_true rfl) (fun K C E => ?_)
  refine aw_iload_n C dX5_isMultiple_0 rfl ?_
  refine aw_if_lt C dX5_isMultiple_1 (tgt := 13) (by decide) ⟨by omega, by omega⟩ (fun c1 => ?_) (fun c1 => ?_)
  · rw [b01_f (by omega)] at E
    --go
    refine aw_iconst C dX5_isMultiple_13 ?_
    exact aw_zret C E dX5_isMultiple_14 rfl (by omega) ⟨rfl, rfl⟩
  · refine aw_iload_n C dX5_isMultiple_4 rfl ?_
    refine aw_iconst C dX5_isMultiple_5 ?_
    refine aw_icmp_gt C dX5_isMultiple_6 (tgt := 13) (by decide) ⟨by omega, by omega⟩ ⟨by omega, by omega⟩ (fun c2 => ?_) (fun c2 => ?_)
    · rw [b01_f (by omega)] at E
      --go
      refine aw_iconst C dX5_isMultiple_13 ?_
      exact aw_zret C E dX5_isMultiple_14 rfl (by omega) ⟨rfl, rfl⟩
    · rw [b01_t (by omega)] at E
      --go
      refine aw_iconst C dX5_isMultiple_9 ?_
      refine aw_goto C dX5_isMultiple_10 (tgt := 14) (by decide) ?_
      exact aw_zret C E dX5_isMultiple_14 rfl (by omega) ⟨rfl, rfl⟩
theorem msr_b {V : FV} (hc : clo V) : ∀ (k : Nat) (i v : Int), 0 ≤ i → i + k ≤ V.1 → 0 ≤ v ∧ v ≤ 1000000 → -1 ≤ msr V k i v ∧ msr V k i v ≤ 1000000
  | 0, i, v, _, _, h => by show -1 ≤ v ∧ v ≤ 1000000; omega
  | k + 1, i, v, h0, h1, h => by
    have e : msr V (k + 1) i v = if v.tdiv (Int.gcd v (trn V i)) * trn V i > 1000000 then -1 else msr V k (i + 1) (v.tdiv (Int.gcd v (trn V i)) * trn V i) := rfl
    rw [e]
    have ht := hc.2 i h0 (by omega)
    have hd := tdiv_pos_b (v := v) (g := (Int.gcd v (trn V i) : Int)) h.1 (by omega)
    have hp : 0 ≤ v.tdiv (Int.gcd v (trn V i)) * trn V i := Int.mul_nonneg hd.1 (by omega)
    split
    · omega
    · exact msr_b hc k (i + 1) _ (by omega) (by omega) ⟨hp, by omega⟩
theorem meas_b {V : FV} (hc : clo V) : -1 ≤ meas V ∧ meas V ≤ 1000000 := msr_b hc _ 0 1 (by omega) (by have := hc.1; omega) (by omega)
def mcd (V : FV) : Int := if meas V = -1 then 3 else 0
theorem t_X5_measured {mu : Mem} {f : Nat} (h : cF mu f) (hc : clo (fv mu f)) : TrE 4 mX5_measured [vr 0] mu (some (vl (meas (fv mu f)))) (wr mu 0 11 (mcd (fv mu f))) := by
  refine Tr.of (by decide +kernel) (Nat.le_of_ble_eq_true rfl) (fun K C E => ?_)
  obtain ⟨hf, efn, hV, hG⟩ := h
  have hb := meas_b hc
  unfold mcd at E
  refine aw_aload_n C dX5_measured_0 rfl ?_
  refine aw_getR C dX5_measured_1 fX5_43 ⟨rfl, by decide⟩ rfl efn ?_
  refine aw_call1 C dX5_measured_4 lX5_297 vX1_commonTurn (t_X1_commonTurn hf hV hc) rfl rfl rfl hf.s0 rfl ⟨by decide, by decide⟩ (Nat.le_of_ble_eq_true rfl) ?_
  refine aw_lstore_n C dX5_measured_7 (by decide) ?_
  refine aw_aload_n C dX5_measured_8 rfl ?_
  refine aw_lload_n C dX5_measured_9 rfl ?_
  refine aw_ldc2 C dX5_measured_10 kX5_203 (z := -1) (by decide +kernel) ?_
  refine aw_lcmp_ne C dX5_measured_13 dX5_measured_14 (tgt := 21) (by decide) ⟨by omega, by omega⟩ ⟨by omega, by omega⟩ (fun c1 => ?_) (fun c1 => ?_)
  · rw [if_neg c1] at E
    --go
    refine aw_iconst C dX5_measured_21 ?_
    refine aw_putI C dX5_measured_22 fX5_62 ⟨rfl, by decide⟩ rfl rfl rfl ?_
    refine aw_lload_n C dX5_measured_25 rfl ?_
    exact aw_lret C E dX5_measured_26 rfl ⟨rfl, rfl⟩
  · rw [if_pos c1] at E
    --go
    refine aw_iconst C dX5_measured_17 ?_
    refine aw_goto C dX5_measured_18 (tgt := 22) (by decide) ?_
    refine aw_putI C dX5_measured_22 fX5_62 ⟨rfl, by decide⟩ rfl rfl rfl ?_
    refine aw_lload_n C dX5_measured_25 rfl ?_
    exact aw_lret C E dX5_measured_26 rfl ⟨rfl, rfl⟩
noncomputable def aAb (V : FV) (ac w : Int) : Int := if w = 0 then V.1 else if w = 1 then V.2.1 else if w = 2 then whS V else if w = 3 then gtS V else if w = 4 then ixS V else if w = 5 then ac else if w = 6 then bts (cgo V) V.1.toNat else bts (lit V) V.1.toNat
noncomputable def qAb (V : FV) (ac w : Int) : Int × Int := if 0 < V.1 ∧ 0 ≤ w ∧ w ≤ 7 then (aAb V ac w, 0) else (-1, 1)
theorem t_X5_about {mu : Mem} {f : Nat} {w : Int} (h : cF mu f) (hw : R32 w) : Tr 6 mX5_about [vr 0, vi w] mu (fun r m2 => r = some (vi (qAb (fv mu f) (mu 0 8) w).1) ∧ cE mu m2 (qAb (fv mu f) (mu 0 8) w).2) := by
  refine Tr.of (by decide +kernel) (Nat.le_of_ble_eq_true rfl) (fun K C E => ?_)
  have hf := h.1
  have h01 := b01_01 (0 < mu f 0)
  have h0i : b01 (0 < mu f 0) = 1 → 0 < (fv mu f).1 := fun z => b01_iff.mp z
  have h0n : b01 (0 < mu f 0) = 0 → ¬ 0 < (fv mu f).1 := fun z => b01_niff.mp z
  unfold qAb at E
  have fin : ∀ c, (c = 0 ∧ 0 < (fv mu f).1 ∧ 0 ≤ w ∧ w ≤ 7) ∨ (c = 1 ∧ ¬ (0 < (fv mu f).1 ∧ 0 ≤ w ∧ w ≤ 7)) → AW K mX5_about (NC, 0, 0) 23 [vr 0, vi w] [vi c, vr 0] mu := by
    rintro c (⟨rfl, q⟩ | ⟨rfl, q⟩)
    · rw [if_pos q] at E
      refine aw_putI C dX5_about_23 fX5_62 ⟨rfl, by decide⟩ rfl rfl rfl ?_
      have hc : cE mu (wr mu 0 11 0) 0 := cE_w
      generalize wr mu 0 11 0 = m1 at *
      obtain ⟨e5, ev, hV1, en, el, e11⟩ := hc.all h
      refine aw_aload_n C dX5_about_26 rfl ?_
      refine aw_getI C dX5_about_27 fX5_62 ⟨rfl, by decide⟩ rfl ?_
      rw [e11]
      refine aw_if_eq C dX5_about_30 (tgt := 35) (by decide) ⟨by omega, by omega⟩ (fun c1 => ?_) (fun c1 => ?_)
      · refine aw_iload_n C dX5_about_35 rfl ?_
        refine aw_tsw C (tgt := 133) [80, 88, 96, 104, 112, 120, 125] dX5_about_36 ⟨by omega, by omega⟩ (by decide) (by decide) (by decide) ⟨fun cw => ?_, fun cw => ?_, fun cw => ?_, fun cw => ?_, fun cw => ?_, fun cw => ?_, fun cw => ?_, trivial⟩ (fun cw => ?_)
        · refine aw_aload_n C dX5_about_80 rfl ?_
          refine aw_getR C dX5_about_81 fX5_43 ⟨rfl, by decide⟩ rfl e5 ?_
          refine aw_getI C dX5_about_84 fX5_97 hf.s0 rfl ?_
          exact aw_iret C E dX5_about_87 rfl ⟨by rw [en, show w = 0 by omega]; rfl, hc⟩
        · refine aw_aload_n C dX5_about_88 rfl ?_
          refine aw_getR C dX5_about_89 fX5_43 ⟨rfl, by decide⟩ rfl e5 ?_
          refine aw_getI C dX5_about_92 fX5_103 hf.s0 rfl ?_
          exact aw_iret C E dX5_about_95 rfl ⟨by rw [el, show w = 1 by omega]; rfl, hc⟩
        · refine aw_aload_n C dX5_about_96 rfl ?_
          refine aw_getR C dX5_about_97 fX5_43 ⟨rfl, by decide⟩ rfl e5 ?_
          refine aw_call1 C dX5_about_100 lX5_106 vX1_wholeCones (t_X1_wholeCones hf hV1) rfl rfl rfl hf.s0 rfl ⟨by decide, by decide⟩ (Nat.le_of_ble_eq_true rfl) ?_
          exact aw_iret C E dX5_about_103 rfl ⟨by rw [ev, show w = 2 by omega]; rfl, hc⟩
        · refine aw_aload_n C dX5_about_104 rfl ?_
          refine aw_getR C dX5_about_105 fX5_43 ⟨rfl, by decide⟩ rfl e5 ?_
          refine aw_call1 C dX5_about_108 lX5_110 vX1_greatestTurn (t_X1_greatestTurn hf hV1) rfl rfl rfl hf.s0 rfl ⟨by decide, by decide⟩ (Nat.le_of_ble_eq_true rfl) ?_
          exact aw_iret C E dX5_about_111 rfl ⟨by rw [ev, show w = 3 by omega]; rfl, hc⟩
        · refine aw_aload_n C dX5_about_112 rfl ?_
          refine aw_getR C dX5_about_113 fX5_43 ⟨rfl, by decide⟩ rfl e5 ?_
          refine aw_call1 C dX5_about_116 lX5_113 vX1_index (t_X1_index hf hV1) rfl rfl rfl hf.s0 rfl ⟨by decide, by decide⟩ (Nat.le_of_ble_eq_true rfl) ?_
          exact aw_iret C E dX5_about_119 rfl ⟨by rw [ev, show w = 4 by omega]; rfl, hc⟩
        · refine aw_aload_n C dX5_about_120 rfl ?_
          refine aw_getI C dX5_about_121 fX5_94 ⟨rfl, by decide⟩ rfl ?_
          exact aw_iret C E dX5_about_124 rfl ⟨by rw [hc.1 0 8 (by unfold qS; omega), show w = 5 by omega]; rfl, hc⟩
        · refine aw_aload_n C dX5_about_125 rfl ?_
          refine aw_getR C dX5_about_126 fX5_43 ⟨rfl, by decide⟩ rfl e5 ?_
          refine aw_call1 C dX5_about_129 lX5_116 vX1_goers (t_X1_goers hf hV1) rfl rfl rfl hf.s0 rfl ⟨by decide, by decide⟩ (Nat.le_of_ble_eq_true rfl) ?_
          exact aw_iret C E dX5_about_132 rfl ⟨by rw [ev, en, show w = 6 by omega]; rfl, hc⟩
        · refine aw_aload_n C dX5_about_133 rfl ?_
          refine aw_getR C dX5_about_134 fX5_43 ⟨rfl, by decide⟩ rfl e5 ?_
          refine aw_call1 C dX5_about_137 lX5_119 vX1_lights (t_X1_lights hf hV1) rfl rfl rfl hf.s0 rfl ⟨by decide, by decide⟩ (Nat.le_of_ble_eq_true rfl) ?_
          exact aw_iret C E dX5_about_140 rfl ⟨by rw [ev, en, show w = 7 by omega]; rfl, hc⟩
      · exfalso; omega
    · rw [if_neg q] at E
      refine aw_putI C dX5_about_23 fX5_62 ⟨rfl, by decide⟩ rfl rfl rfl ?_
      have hc : cE mu (wr mu 0 11 1) 1 := cE_w
      generalize wr mu 0 11 1 = m1 at *
      obtain ⟨e5, ev, hV1, en, el, e11⟩ := hc.all h
      refine aw_aload_n C dX5_about_26 rfl ?_
      refine aw_getI C dX5_about_27 fX5_62 ⟨rfl, by decide⟩ rfl ?_
      rw [e11]
      refine aw_if_eq C dX5_about_30 (tgt := 35) (by decide) ⟨by omega, by omega⟩ (fun c1 => ?_) (fun c1 => ?_)
      · exfalso; omega
      · refine aw_iconst C dX5_about_33 ?_
        exact aw_iret C E dX5_about_34 rfl ⟨rfl, hc⟩
  refine aw_aload_n C dX5_about_0 rfl ?_
  refine aw_aload_n C dX5_about_1 rfl ?_
  refine aw_call1 C dX5_about_2 lX5_100 vX5_isThere (t_X5_isThere h) rfl rfl rfl ⟨rfl, by decide⟩ rfl ⟨by decide, by decide⟩ (Nat.le_of_ble_eq_true rfl) ?_
  refine aw_if_eq C dX5_about_5 (tgt := 22) (by decide) ⟨by omega, by omega⟩ (fun c1 => ?_) (fun c1 => ?_)
  · refine aw_iconst C dX5_about_22 ?_
    first
    | exact fin 0 (Or.inl ⟨rfl, h0i (by omega), by omega, by omega⟩)
    | exact fin 1 (Or.inr ⟨rfl, fun z => by omega⟩)
    | exact fin 1 (Or.inr ⟨rfl, fun z => h0n (by omega) z.1⟩)
  · refine aw_iload_n C dX5_about_8 rfl ?_
    refine aw_if_lt C dX5_about_9 (tgt := 22) (by decide) ⟨by omega, by omega⟩ (fun c2 => ?_) (fun c2 => ?_)
    · refine aw_iconst C dX5_about_22 ?_
      first
      | exact fin 0 (Or.inl ⟨rfl, h0i (by omega), by omega, by omega⟩)
      | exact fin 1 (Or.inr ⟨rfl, fun z => by omega⟩)
      | exact fin 1 (Or.inr ⟨rfl, fun z => h0n (by omega) z.1⟩)
    · refine aw_iload_n C dX5_about_12 rfl ?_
      refine aw_bipush C dX5_about_13 rfl ?_
      refine aw_icmp_gt C dX5_about_15 (tgt := 22) (by decide) ⟨by omega, by omega⟩ ⟨by omega, by omega⟩ (fun c3 => ?_) (fun c3 => ?_)
      · refine aw_iconst C dX5_about_22 ?_
        first
        | exact fin 0 (Or.inl ⟨rfl, h0i (by omega), by omega, by omega⟩)
        | exact fin 1 (Or.inr ⟨rfl, fun z => by omega⟩)
        | exact fin 1 (Or.inr ⟨rfl, fun z => h0n (by omega) z.1⟩)
      · refine aw_iconst C dX5_about_18 ?_
        refine aw_goto C dX5_about_19 (tgt := 23) (by decide) ?_
        first
        | exact fin 0 (Or.inl ⟨rfl, h0i (by omega), by omega, by omega⟩)
        | exact fin 1 (Or.inr ⟨rfl, fun z => by omega⟩)
        | exact fin 1 (Or.inr ⟨rfl, fun z => h0n (by omega) z.1⟩)

/-! what a column leaves -/
def lvs (P : PV) (m : Int) : Prop := (∀ i, 0 ≤ i → i < P.1 → pY P i = 0 → 0 ≤ ptop P i m) ∧ 0 ≤ mfl P 1 m + mfl P (-1) m
theorem pair_id (a b c d e f m : Int) : (c * b - a * d) * m + (f * b - e * d) = (e + m * a) * -d + (f + m * c) * b := by
  simp only [Int.sub_mul, Int.mul_sub, Int.add_mul, Int.mul_add, Int.mul_neg]
  simp only [Int.mul_assoc, Int.mul_comm, Int.mul_left_comm]
  omega
theorem col_lvs {P : PV} (h1 : ∃ l, pln P 1 l) (h2 : ∃ l, pln P (-1) l) (m : Int) : (lvs P m → col P m = mfl P 1 m + mfl P (-1) m + 1) ∧ (¬ lvs P m → col P m = 0) := by
  have nn := col_nn h1 h2 m
  have b1 := mn_ex (m := m) h1
  have b2 := mn_ex (m := m) h2
  by_cases hc : ∀ i, 0 ≤ i → i < P.1 → conP P i m P.1
  · rw [col_t hc] at nn ⊢
    refine ⟨fun _ => rfl, fun hl => ?_⟩
    have : ¬ 0 ≤ mfl P 1 m + mfl P (-1) m := fun w => hl ⟨fun i q0 q1 q2 => by
      have := (hc i q0 q1).1 q2
      unfold ptop
      rw [Int.mul_comm m]
      omega, w⟩
    omega
  · rw [col_f hc]
    refine ⟨fun hl => ?_, fun _ => rfl⟩
    refine absurd (fun i q0 q1 => ⟨fun q2 => ?_, fun q2 j j0 j1 j2 => ?_⟩) hc
    · have := hl.1 i q0 q1 q2
      unfold ptop at this
      rw [Int.mul_comm m] at this
      omega
    · have c1 := b1.2 i ⟨q0, q1, by omega⟩
      have c2 := b2.2 j ⟨j0, j1, by omega⟩
      have hl2 := hl.2
      generalize mfl P 1 m = p at *
      generalize mfl P (-1) m = q at *
      have d1 : p * (pY P i * 1) ≤ ptop P i m := Int.mul_le_of_le_ediv (by omega) c1
      have d2 : q * (pY P j * -1) ≤ ptop P j m := Int.mul_le_of_le_ediv (by omega) c2
      rw [Int.mul_one] at d1
      rw [show pY P j * -1 = -pY P j by omega] at d2
      have e := pair_id (pX P i) (pY P i) (pX P j) (pY P j) (pR P i) (pR P j) m
      unfold tms far
      rw [e]
      have f1 := Int.mul_le_mul_of_nonneg_right d1 (show 0 ≤ -pY P j by omega)
      have f2 := Int.mul_le_mul_of_nonneg_right d2 (show 0 ≤ pY P i by omega)
      unfold ptop at f1 f2
      have f3 : 0 ≤ (p + q) * (pY P i * -pY P j) := Int.mul_nonneg hl2 (Int.mul_nonneg (by omega) (by omega))
      rw [Int.add_mul] at f3
      rw [Int.mul_assoc] at f1 f2
      rw [Int.mul_comm (-pY P j) (pY P i)] at f2
      omega
/-- the least so far of a side -/
def pmn (P : PV) (s m i w : Int) : Prop := (∀ j, 0 ≤ j → j < i → 0 < pY P j * s → w ≤ ptop P j m / (pY P j * s)) ∧ ((∃ j, 0 ≤ j ∧ j < i ∧ 0 < pY P j * s ∧ w = ptop P j m / (pY P j * s)) ∨ 9223372036854775807 ≤ w)
theorem pmn_s {P : PV} {s m i w : Int} (h : pmn P s m i w) (hs : 0 < pY P i * s → w ≤ ptop P i m / (pY P i * s)) : pmn P s m (i + 1) w := by
  refine ⟨fun j j0 j1 j2 => ?_, ?_⟩
  · by_cases e : j = i
    · rw [e] at j2 ⊢; exact hs j2
    · exact h.1 j j0 (by omega) j2
  · rcases h.2 with ⟨j, j0, j1, j2, j3⟩ | q
    · exact Or.inl ⟨j, j0, by omega, j2, j3⟩
    · exact Or.inr q
theorem pmn_n {P : PV} {s m i w v : Int} (h : pmn P s m i w) (h0 : 0 ≤ i) (hs : 0 < pY P i * s) (hv : v = ptop P i m / (pY P i * s)) (hw : v ≤ w) : pmn P s m (i + 1) v := by
  refine ⟨fun j j0 j1 j2 => ?_, Or.inl ⟨i, h0, by omega, hs, hv⟩⟩
  by_cases e : j = i
  · rw [e, hv]; exact Int.le_refl _
  · exact Int.le_trans hw (h.1 j j0 (by omega) j2)
theorem pmn_z {P : PV} {s m w : Int} (h : 9223372036854775807 ≤ w) : pmn P s m 0 w := ⟨fun j j0 j1 => by omega, Or.inr h⟩
theorem ediv_b {T y B : Int} (hy : 0 < y) (h : -B ≤ T ∧ T ≤ B) (hB : 0 ≤ B) : -B ≤ T / y ∧ T / y ≤ B := by
  constructor
  · refine Int.le_ediv_of_mul_le hy ?_
    have := Int.mul_le_mul_of_nonneg_left (show 1 ≤ y by omega) hB
    rw [Int.neg_mul]
    omega
  · rcases Int.lt_or_le T 0 with q | q
    · have : T / y < 0 := Int.ediv_lt_of_lt_mul hy (by omega)
      omega
    · have := Int.ediv_le_self y q
      omega
theorem pmn_e {P : PV} (hP : bP P) {s m w : Int} (hm : mOk m) (h : pmn P s m P.1 w) (hl : ∃ l, pln P s l) : mfl P s m = w := by
  apply mfl_eq
  obtain ⟨l, l0, l1, l2⟩ := hl
  have b := ediv_b l2 (hP.top l0 l1 hm) (by decide)
  have b2 := h.1 l l0 l1 l2
  refine ⟨?_, fun i hi => h.1 i hi.1 hi.2.1 hi.2.2⟩
  rcases h.2 with ⟨j, j0, j1, j2, j3⟩ | q
  · exact ⟨j, ⟨j0, j1, j2⟩, j3⟩
  · exfalso; omega
def lnS : Nat → Nat → Prop := fun a b => a = 55 ∧ (b = 40 ∨ b = 41)
theorem lnS.mv {mu m : Mem} (h : frc lnS mu m) : mv m = mv mu := by
  have e1 : m 55 29 = mu 55 29 := h _ _ (by unfold lnS; omega)
  have e2 : m 55 30 = mu 55 30 := h _ _ (by unfold lnS; omega)
  have e3 : m 64 = mu 64 := funext fun b => h _ _ (by unfold lnS; omega)
  have e4 : m 65 = mu 65 := funext fun b => h _ _ (by unfold lnS; omega)
  have e5 : m 66 = mu 66 := funext fun b => h _ _ (by unfold lnS; omega)
  unfold Jvm.Pilot.@@N@@.mv
  rw [e1, e2, e3, e4, e5]
theorem t_X6_leaves {mu : Mem} {V : FV} {d k z m : Int} (eV0 : mv mu = V) (hV : bV V) (hcl : clo V) (h2 : 0 ≤ d) (h3 : d < V.2.1) (hk : 0 ≤ k ∧ k ≤ 4) (hz : 0 ≤ z ∧ z ≤ 1) (hm : mOk m) : Tr 2 mX6_leaves [vr 55, vi d, vi k, vi z, vl m] mu (fun r m2 => r = some (vi (b01 (lvs (PVo V d k z) m))) ∧ frc lnS mu m2 ∧ (lvs (PVo V d k z) m → m2 55 40 = -mfl (PVo V d k z) 1 m ∧ m2 55 41 = mfl (PVo V d k z) (-1) m)) := by
  refine Tr.of (by decide +kernel) (Nat.le_of_ble_eq_true rfl) (fun K C E => ?_)
  have hn := hV.1
  have hl := hV.2.1
  have hP := PVo_b hV (d := d) hk hz
  have hL := clo_ln hcl d k z
  have n0 : (PVo V d k z).1 = V.1 := rfl
  unfold mOk at hm
  obtain ⟨P, eP⟩ : ∃ P, P = PVo V d k z := ⟨_, rfl⟩
  rw [← eP] at E hP hL n0
  have pgy : ∀ i, pY P i = gy V i := fun i => by rw [eP]; rfl
  have loop : ∀ (q : Nat) (i : Int) (m2 : Mem) (v7 : Vv), 0 ≤ i → i + q = V.1 → frc lnS mu m2 → pmn P 1 m i (-(m2 55 40)) → -1200008001 ≤ -(m2 55 40) ∧ -(m2 55 40) ≤ 9223372036854775808 → pmn P (-1) m i (m2 55 41) → -1200008001 ≤ m2 55 41 ∧ m2 55 41 ≤ 9223372036854775807 → (∀ j, 0 ≤ j → j < i → pY P j = 0 → 0 ≤ ptop P j m) → AW K mX6_leaves (NC, 0, 0) 17 [vr 55, vi d, vi k, vi z, vl m, vx, vi i, v7, vx] [] m2 := by
    intro q
    induction q with
    | zero =>
      intro i m2 v7 h0 h1 hf p1 r1 p2 r2 y0
      have e1 := mv1 ((lnS.mv hf).trans eV0)
      have e : i = P.1 := by omega
      rw [e] at p1 p2 y0
      have g1 := pmn_e hP hm p1 hL.1
      have g2 := pmn_e hP hm p2 hL.2
      have hlv : lvs P m ↔ m2 55 40 ≤ m2 55 41 := by
        unfold lvs
        rw [g1, g2]
        exact ⟨fun w => by have := w.2; omega, fun w => ⟨y0, by omega⟩⟩
      refine aw_iload C dX6_leaves_17 rfl ?_
      refine aw_aload_n C dX6_leaves_19 rfl ?_
      refine aw_getI C dX6_leaves_20 fX6_255 ⟨rfl, by decide⟩ rfl ?_
      refine aw_icmp_ge C dX6_leaves_23 (tgt := 178) (by decide) ⟨by omega, by omega⟩ ⟨by omega, by omega⟩ (fun c1 => ?_) (fun c1 => ?_)
      · refine aw_aload_n C dX6_leaves_178 rfl ?_
        refine aw_getL C dX6_leaves_179 fX6_364 ⟨rfl, by decide⟩ rfl ?_
        refine aw_aload_n C dX6_leaves_182 rfl ?_
        refine aw_getL C dX6_leaves_183 fX6_369 ⟨rfl, by decide⟩ rfl ?_
        refine aw_lcmp_gt C dX6_leaves_186 dX6_leaves_187 (tgt := 194) (by decide) ⟨by omega, by omega⟩ ⟨by omega, by omega⟩ (fun c2 => ?_) (fun c2 => ?_)
        · refine aw_iconst C dX6_leaves_194 ?_
          exact aw_zret C E dX6_leaves_195 rfl (by omega) ⟨by first | rw [b01_t (hlv.mpr (by omega))] | rw [b01_f (fun w => by have := hlv.mp w; omega)], hf, fun _ => ⟨by omega, by omega⟩⟩
        · refine aw_iconst C dX6_leaves_190 ?_
          refine aw_goto C dX6_leaves_191 (tgt := 195) (by decide) ?_
          exact aw_zret C E dX6_leaves_195 rfl (by omega) ⟨by first | rw [b01_t (hlv.mpr (by omega))] | rw [b01_f (fun w => by have := hlv.mp w; omega)], hf, fun _ => ⟨by omega, by omega⟩⟩
      · exfalso; omega
    | succ q ih =>
      intro i m2 v7 h0 h1 hf p1 r1 p2 r2 y0
      have eV := (lnS.mv hf).trans eV0
      have e1 := mv1 eV
      have hi : i < V.1 := by omega
      have bx := hV.x i
      have by_ := hV.y i
      have bg := hV.g d i
      have fx := mxV eV h0 hi
      have fy := myV eV h0 hi
      have bk := mulb (a := k) (A := 4) ⟨by omega, by omega⟩ bg
      have bm := mulb (a := m) (A := 20000000) hm bx
      have hT : z - k * gn V d i - gx V i * m = -ptop P i m := by
        rw [eP]
        show _ = -((k * gn V d i - z) + m * gx V i)
        rw [Int.mul_comm (gx V i)]
        omega
      have bT := hP.top (i := i) (m := m) h0 (by omega) hm
      have gyi := pgy i
      have ys := pmn_s (i := i) p1
      have half2 : ∀ (m3 : Mem), frc lnS mu m3 → pmn P 1 m (i + 1) (-(m3 55 40)) → -1200008001 ≤ -(m3 55 40) ∧ -(m3 55 40) ≤ 9223372036854775808 → m3 55 41 = m2 55 41 → (pY P i = 0 → 0 ≤ ptop P i m) → AW K mX6_leaves (NC, 0, 0) 120 [vr 55, vi d, vi k, vi z, vl m, vx, vi i, vl (-ptop P i m), vx] [] m3 := by
        intro m3 hf3 pp rr e41 hy0
        have eV3 := (lnS.mv hf3).trans eV0
        have fy3 := myV eV3 h0 hi
        have y1 : ∀ j, 0 ≤ j → j < i + 1 → pY P j = 0 → 0 ≤ ptop P j m := fun j j0 j1 j2 => by
          by_cases e : j = i
          · rw [e] at j2 ⊢; exact hy0 j2
          · exact y0 j j0 (by omega) j2
        rw [← e41] at p2 r2
        have eq : -1 * gy V i = -gy V i := by omega
        have dq : ∀ hy : gy V i < 0, -1200008001 ≤ ptop P i m / (-gy V i) ∧ ptop P i m / (-gy V i) ≤ 1200008001 := fun hy => ediv_b (by omega) bT (by decide)
        have eqs : pY P i * -1 = -gy V i := by omega
        refine aw_aload_n C dX6_leaves_120 rfl ?_
        refine aw_getS C dX6_leaves_121 fX6_44 ⟨rfl, by decide⟩ rfl rfl (srf 55 24 65 (by decide)) ?_
        refine aw_iload C dX6_leaves_124 rfl ?_
        refine aw_iald C dX6_leaves_126 ⟨rfl, by decide⟩ (by decide) (by omega) (by omega) ?_
        rw [fy3]
        refine aw_if_ge C dX6_leaves_127 (tgt := 172) (by decide) ⟨by omega, by omega⟩ (fun c1 => ?_) (fun c1 => ?_)
        · --go
          refine aw_iinc C dX6_leaves_172 rfl ?_
          refine aw_goto C dX6_leaves_175 (tgt := 17) (by decide) ?_
          exact ih (i + 1) m3 _ (by omega) (by omega) hf3 pp rr (pmn_s p2 (fun w => by rw [eqs] at w; omega)) r2 y1
        · have dq := dq (by omega)
          --go
          refine aw_lload C dX6_leaves_130 rfl ?_
          refine aw_lneg C dX6_leaves_132 ?_
          rw [Int.neg_neg]
          refine aw_aload_n C dX6_leaves_133 rfl ?_
          refine aw_getS C dX6_leaves_134 fX6_44 ⟨rfl, by decide⟩ rfl rfl (srf 55 24 65 (by decide)) ?_
          refine aw_iload C dX6_leaves_137 rfl ?_
          refine aw_iald C dX6_leaves_139 ⟨rfl, by decide⟩ (by decide) (by omega) (by omega) ?_
          rw [fy3]
          refine aw_ineg C dX6_leaves_140 ?_
          refine aw_i2l C dX6_leaves_141 ⟨by omega, by omega⟩ ?_
          refine aw_callS1 C dX6_leaves_142 lX6_85 vX6_down (t_X6_down ⟨by omega, by omega⟩ ⟨by omega, by omega⟩ (by omega)) rfl rfl rfl ⟨by decide, by decide⟩ (Nat.le_of_ble_eq_true rfl) ?_
          refine aw_aload_n C dX6_leaves_145 rfl ?_
          refine aw_getL C dX6_leaves_146 fX6_369 ⟨rfl, by decide⟩ rfl ?_
          refine aw_lcmp_ge C dX6_leaves_149 dX6_leaves_150 (tgt := 172) (by decide) ⟨by omega, by omega⟩ ⟨by omega, by omega⟩ (fun c2 => ?_) (fun c2 => ?_)
          · --go
            refine aw_iinc C dX6_leaves_172 rfl ?_
            refine aw_goto C dX6_leaves_175 (tgt := 17) (by decide) ?_
            exact ih (i + 1) m3 _ (by omega) (by omega) hf3 pp rr (pmn_s p2 (fun w => by rw [eqs]; omega)) r2 y1
          · refine aw_aload_n C dX6_leaves_153 rfl ?_
            refine aw_lload C dX6_leaves_154 rfl ?_
            refine aw_lneg C dX6_leaves_156 ?_
            rw [Int.neg_neg]
            refine aw_aload_n C dX6_leaves_157 rfl ?_
            refine aw_getS C dX6_leaves_158 fX6_44 ⟨rfl, by decide⟩ rfl rfl (srf 55 24 65 (by decide)) ?_
            refine aw_iload C dX6_leaves_161 rfl ?_
            refine aw_iald C dX6_leaves_163 ⟨rfl, by decide⟩ (by decide) (by omega) (by omega) ?_
            rw [fy3]
            refine aw_ineg C dX6_leaves_164 ?_
            refine aw_i2l C dX6_leaves_165 ⟨by omega, by omega⟩ ?_
            refine aw_callS1 C dX6_leaves_166 lX6_85 vX6_down (t_X6_down ⟨by omega, by omega⟩ ⟨by omega, by omega⟩ (by omega)) rfl rfl rfl ⟨by decide, by decide⟩ (Nat.le_of_ble_eq_true rfl) ?_
            refine aw_putL C dX6_leaves_169 fX6_369 ⟨rfl, by decide⟩ rfl rfl rfl ?_
            refine aw_iinc C dX6_leaves_172 rfl ?_
            refine aw_goto C dX6_leaves_175 (tgt := 17) (by decide) ?_
            exact ih (i + 1) _ _ (by omega) (by omega) (hf3.w ⟨rfl, Or.inr rfl⟩) (by rw [wr_at, if_neg (by decide)]; exact pp) (by rw [wr_at, if_neg (by decide)]; exact rr) (by rw [wr_at, if_pos ⟨rfl, rfl⟩]; exact pmn_n p2 h0 (by rw [eqs]; omega) (by rw [eqs]) (by omega)) (by rw [wr_at, if_pos ⟨rfl, rfl⟩]; omega) y1
      have dq : ∀ hy : 0 < gy V i, -1200008001 ≤ ptop P i m / gy V i ∧ ptop P i m / gy V i ≤ 1200008001 := fun hy => ediv_b (by omega) bT (by decide)
      have eqs : pY P i * 1 = gy V i := by omega
      refine aw_iload C dX6_leaves_17 rfl ?_
      refine aw_aload_n C dX6_leaves_19 rfl ?_
      refine aw_getI C dX6_leaves_20 fX6_255 ⟨rfl, by decide⟩ rfl ?_
      refine aw_icmp_ge C dX6_leaves_23 (tgt := 178) (by decide) ⟨by omega, by omega⟩ ⟨by omega, by omega⟩ (fun c1 => ?_) (fun c1 => ?_)
      · exfalso; omega
      · refine aw_iload_n C dX6_leaves_26 rfl ?_
        refine aw_i2l C dX6_leaves_27 ⟨by omega, by omega⟩ ?_
        refine aw_iload_n C dX6_leaves_28 rfl ?_
        refine aw_i2l C dX6_leaves_29 ⟨by omega, by omega⟩ ?_
        refine aw_aload_n C dX6_leaves_30 rfl ?_
        refine aw_iload_n C dX6_leaves_31 rfl ?_
        refine aw_iload C dX6_leaves_32 rfl ?_
        refine aw_call1 C dX6_leaves_34 lX6_331 vX6_numberOf (t_X6_numberOf eV hV (by omega) (by omega) (by omega) (by omega)) rfl rfl rfl ⟨rfl, by decide⟩ rfl ⟨by decide, by decide⟩ (Nat.le_of_ble_eq_true rfl) ?_
        refine aw_lmul C dX6_leaves_37 ?_
        refine aw_lsub C dX6_leaves_38 ?_
        refine aw_aload_n C dX6_leaves_39 rfl ?_
        refine aw_getS C dX6_leaves_40 fX6_41 ⟨rfl, by decide⟩ rfl rfl (srf 55 23 64 (by decide)) ?_
        refine aw_iload C dX6_leaves_43 rfl ?_
        refine aw_iald C dX6_leaves_45 ⟨rfl, by decide⟩ (by decide) (by omega) (by omega) ?_
        rw [fx]
        refine aw_i2l C dX6_leaves_46 ⟨by omega, by omega⟩ ?_
        refine aw_lload C dX6_leaves_47 rfl ?_
        refine aw_lmul C dX6_leaves_49 ?_
        refine aw_lsub C dX6_leaves_50 ?_
        rw [hT]
        refine aw_lstore C dX6_leaves_51 (by decide) ?_
        refine aw_aload_n C dX6_leaves_53 rfl ?_
        refine aw_getS C dX6_leaves_54 fX6_44 ⟨rfl, by decide⟩ rfl rfl (srf 55 24 65 (by decide)) ?_
        refine aw_iload C dX6_leaves_57 rfl ?_
        refine aw_iald C dX6_leaves_59 ⟨rfl, by decide⟩ (by decide) (by omega) (by omega) ?_
        rw [fy]
        refine aw_if_ne C dX6_leaves_60 (tgt := 72) (by decide) ⟨by omega, by omega⟩ (fun c2 => ?_) (fun c2 => ?_)
        · refine aw_aload_n C dX6_leaves_72 rfl ?_
          refine aw_getS C dX6_leaves_73 fX6_44 ⟨rfl, by decide⟩ rfl rfl (srf 55 24 65 (by decide)) ?_
          refine aw_iload C dX6_leaves_76 rfl ?_
          refine aw_iald C dX6_leaves_78 ⟨rfl, by decide⟩ (by decide) (by omega) (by omega) ?_
          rw [fy]
          refine aw_if_le C dX6_leaves_79 (tgt := 120) (by decide) ⟨by omega, by omega⟩ (fun c3 => ?_) (fun c3 => ?_)
          · --go
            exact half2 m2 hf (ys (fun w => by rw [eqs] at w; omega)) r1 rfl (fun w => by omega)
          · have dq := dq (by omega)
            --go
            refine aw_lload C dX6_leaves_82 rfl ?_
            refine aw_aload_n C dX6_leaves_84 rfl ?_
            refine aw_getS C dX6_leaves_85 fX6_44 ⟨rfl, by decide⟩ rfl rfl (srf 55 24 65 (by decide)) ?_
            refine aw_iload C dX6_leaves_88 rfl ?_
            refine aw_iald C dX6_leaves_90 ⟨rfl, by decide⟩ (by decide) (by omega) (by omega) ?_
            rw [fy]
            refine aw_i2l C dX6_leaves_91 ⟨by omega, by omega⟩ ?_
            refine aw_callS1 C dX6_leaves_92 lX6_372 vX6_up (t_X6_up ⟨by omega, by omega⟩ ⟨by omega, by omega⟩ (by omega)) rfl rfl rfl ⟨by decide, by decide⟩ (Nat.le_of_ble_eq_true rfl) ?_
            rw [Int.neg_neg]
            refine aw_aload_n C dX6_leaves_95 rfl ?_
            refine aw_getL C dX6_leaves_96 fX6_364 ⟨rfl, by decide⟩ rfl ?_
            refine aw_lcmp_le C dX6_leaves_99 dX6_leaves_100 (tgt := 120) (by decide) ⟨by omega, by omega⟩ ⟨by omega, by omega⟩ (fun c4 => ?_) (fun c4 => ?_)
            · --go
              exact half2 m2 hf (ys (fun w => by rw [eqs]; omega)) r1 rfl (fun w => by omega)
            · refine aw_aload_n C dX6_leaves_103 rfl ?_
              refine aw_lload C dX6_leaves_104 rfl ?_
              refine aw_aload_n C dX6_leaves_106 rfl ?_
              refine aw_getS C dX6_leaves_107 fX6_44 ⟨rfl, by decide⟩ rfl rfl (srf 55 24 65 (by decide)) ?_
              refine aw_iload C dX6_leaves_110 rfl ?_
              refine aw_iald C dX6_leaves_112 ⟨rfl, by decide⟩ (by decide) (by omega) (by omega) ?_
              rw [fy]
              refine aw_i2l C dX6_leaves_113 ⟨by omega, by omega⟩ ?_
              refine aw_callS1 C dX6_leaves_114 lX6_372 vX6_up (t_X6_up ⟨by omega, by omega⟩ ⟨by omega, by omega⟩ (by omega)) rfl rfl rfl ⟨by decide, by decide⟩ (Nat.le_of_ble_eq_true rfl) ?_
              rw [Int.neg_neg]
              refine aw_putL C dX6_leaves_117 fX6_364 ⟨rfl, by decide⟩ rfl rfl rfl ?_
              exact half2 _ (hf.w ⟨rfl, Or.inl rfl⟩) (by rw [wr_at, if_pos ⟨rfl, rfl⟩, Int.neg_neg]; exact pmn_n p1 h0 (by rw [eqs]; omega) (by rw [eqs]) (by omega)) (by rw [wr_at, if_pos ⟨rfl, rfl⟩, Int.neg_neg]; omega) (by rw [wr_at, if_neg (by decide)]) (fun w => by omega)
        · refine aw_lload C dX6_leaves_63 rfl ?_
          refine aw_lconst C dX6_leaves_65 (v := 0) rfl ?_
          refine aw_lcmp_le C dX6_leaves_66 dX6_leaves_67 (tgt := 72) (by decide) ⟨by omega, by omega⟩ ⟨by omega, by omega⟩ (fun c5 => ?_) (fun c5 => ?_)
          · refine aw_aload_n C dX6_leaves_72 rfl ?_
            refine aw_getS C dX6_leaves_73 fX6_44 ⟨rfl, by decide⟩ rfl rfl (srf 55 24 65 (by decide)) ?_
            refine aw_iload C dX6_leaves_76 rfl ?_
            refine aw_iald C dX6_leaves_78 ⟨rfl, by decide⟩ (by decide) (by omega) (by omega) ?_
            rw [fy]
            refine aw_if_le C dX6_leaves_79 (tgt := 120) (by decide) ⟨by omega, by omega⟩ (fun c6 => ?_) (fun c6 => ?_)
            · --go
              exact half2 m2 hf (ys (fun w => by rw [eqs] at w; omega)) r1 rfl (fun w => by omega)
            · have dq := dq (by omega)
              --go
              refine aw_lload C dX6_leaves_82 rfl ?_
              refine aw_aload_n C dX6_leaves_84 rfl ?_
              refine aw_getS C dX6_leaves_85 fX6_44 ⟨rfl, by decide⟩ rfl rfl (srf 55 24 65 (by decide)) ?_
              refine aw_iload C dX6_leaves_88 rfl ?_
              refine aw_iald C dX6_leaves_90 ⟨rfl, by decide⟩ (by decide) (by omega) (by omega) ?_
              rw [fy]
              refine aw_i2l C dX6_leaves_91 ⟨by omega, by omega⟩ ?_
              refine aw_callS1 C dX6_leaves_92 lX6_372 vX6_up (t_X6_up ⟨by omega, by omega⟩ ⟨by omega, by omega⟩ (by omega)) rfl rfl rfl ⟨by decide, by decide⟩ (Nat.le_of_ble_eq_true rfl) ?_
              rw [Int.neg_neg]
              refine aw_aload_n C dX6_leaves_95 rfl ?_
              refine aw_getL C dX6_leaves_96 fX6_364 ⟨rfl, by decide⟩ rfl ?_
              refine aw_lcmp_le C dX6_leaves_99 dX6_leaves_100 (tgt := 120) (by decide) ⟨by omega, by omega⟩ ⟨by omega, by omega⟩ (fun c7 => ?_) (fun c7 => ?_)
              · --go
                exact half2 m2 hf (ys (fun w => by rw [eqs]; omega)) r1 rfl (fun w => by omega)
              · refine aw_aload_n C dX6_leaves_103 rfl ?_
                refine aw_lload C dX6_leaves_104 rfl ?_
                refine aw_aload_n C dX6_leaves_106 rfl ?_
                refine aw_getS C dX6_leaves_107 fX6_44 ⟨rfl, by decide⟩ rfl rfl (srf 55 24 65 (by decide)) ?_
                refine aw_iload C dX6_leaves_110 rfl ?_
                refine aw_iald C dX6_leaves_112 ⟨rfl, by decide⟩ (by decide) (by omega) (by omega) ?_
                rw [fy]
                refine aw_i2l C dX6_leaves_113 ⟨by omega, by omega⟩ ?_
                refine aw_callS1 C dX6_leaves_114 lX6_372 vX6_up (t_X6_up ⟨by omega, by omega⟩ ⟨by omega, by omega⟩ (by omega)) rfl rfl rfl ⟨by decide, by decide⟩ (Nat.le_of_ble_eq_true rfl) ?_
                rw [Int.neg_neg]
                refine aw_putL C dX6_leaves_117 fX6_364 ⟨rfl, by decide⟩ rfl rfl rfl ?_
                exact half2 _ (hf.w ⟨rfl, Or.inl rfl⟩) (by rw [wr_at, if_pos ⟨rfl, rfl⟩, Int.neg_neg]; exact pmn_n p1 h0 (by rw [eqs]; omega) (by rw [eqs]) (by omega)) (by rw [wr_at, if_pos ⟨rfl, rfl⟩, Int.neg_neg]; omega) (by rw [wr_at, if_neg (by decide)]) (fun w => by omega)
          · refine aw_iconst C dX6_leaves_70 ?_
            exact aw_zret C E dX6_leaves_71 rfl (by omega) ⟨by rw [b01_f (fun w => by have := w.1 i h0 (by omega) (by omega); omega)], hf, fun w => by have := w.1 i h0 (by omega) (by omega); omega⟩
  refine aw_aload_n C dX6_leaves_0 rfl ?_
  refine aw_ldc2 C dX6_leaves_1 kX6_83 (z := -9223372036854775808) (by decide +kernel) ?_
  refine aw_putL C dX6_leaves_4 fX6_364 ⟨rfl, by decide⟩ rfl rfl rfl ?_
  refine aw_aload_n C dX6_leaves_7 rfl ?_
  refine aw_ldc2 C dX6_leaves_8 kX6_367 (z := 9223372036854775807) (by decide +kernel) ?_
  refine aw_putL C dX6_leaves_11 fX6_369 ⟨rfl, by decide⟩ rfl rfl rfl ?_
  refine aw_iconst C dX6_leaves_14 ?_
  refine aw_istore C dX6_leaves_15 (by decide) ?_
  exact loop V.1.toNat 0 _ _ (by omega) (by omega) ((frc.rf.w ⟨rfl, Or.inl rfl⟩).w ⟨rfl, Or.inr rfl⟩) (pmn_z (by rw [wr_at, if_neg (by decide), wr_at, if_pos ⟨rfl, rfl⟩]; decide)) (by rw [wr_at, if_neg (by decide), wr_at, if_pos ⟨rfl, rfl⟩]; decide) (pmn_z (by rw [wr_at, if_pos ⟨rfl, rfl⟩]; decide)) (by rw [wr_at, if_pos ⟨rfl, rfl⟩]; decide) (fun j j0 j1 => by omega)

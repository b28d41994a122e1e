def sb (mu m2 : Mem) : Prop := ∀ a b, ¬ (a = 9 ∧ (b = 4 ∨ b = 5)) → m2 a b = mu a b
theorem sb.rf {mu : Mem} : sb mu mu := fun _ _ _ => rfl
theorem sb.tr {mu m2 m3 : Mem} (h1 : sb mu m2) (h2 : sb m2 m3) : sb mu m3 := fun a b h => (h2 a b h).trans (h1 a b h)
theorem sb.pv {mu m2 : Mem} (h : sb mu m2) : Jvm.Pilot.@@N@@.pv m2 = Jvm.Pilot.@@N@@.pv mu := by
  unfold Jvm.Pilot.@@N@@.pv
  rw [h 9 3 (by omega), show m2 10 = mu 10 from funext fun j => h 10 j (by omega), show m2 11 = mu 11 from funext fun j => h 11 j (by omega), show m2 12 = mu 12 from funext fun j => h 12 j (by omega)]
def fl2 (mu : Mem) : Prop := (-10000000 ≤ mu 9 4 ∧ mu 9 4 ≤ 10000000) ∧ (-10000001 ≤ mu 9 5 ∧ mu 9 5 ≤ 10000000)
theorem t_X2_limit {mu : Mem} {t g : Int} (h : fl2 mu) (ht : -7200 ≤ t ∧ t ≤ 7200) (hg : -960120 ≤ g ∧ g ≤ 960120) : Tr 2 mX2_limit [vr 9, vl t, vl g] mu (fun r m2 => r = none ∧ sb mu m2 ∧ fl2 m2 ∧ ∀ m : Int, -10000000 ≤ m → m ≤ 10000000 → ((m2 9 4 ≤ m ∧ m ≤ m2 9 5) ↔ (mu 9 4 ≤ m ∧ m ≤ mu 9 5) ∧ 0 ≤ t * m + g)) := by
  refine Tr.of (by decide +kernel) (Nat.le_of_ble_eq_true rfl) (fun K C E => ?_)
  obtain ⟨h1, h2⟩ := h
  have dv : ∀ u : Int, 0 < u → -960120 ≤ g / u ∧ g / u ≤ 960120 := fun u hu => by
    have w1 := Int.ediv_le_ediv hu hg.2
    have w2 := Int.ediv_le_self (a := 960120) u (by omega)
    have w3 : -960120 ≤ g / u := Int.le_ediv_of_mul_le hu (by
      have := Int.mul_le_mul_of_nonneg_left (show (1 : Int) ≤ u by omega) (show (0 : Int) ≤ 960120 by omega)
      omega)
    omega
  have e4 : ∀ v, wr mu 9 4 v 9 4 = v ∧ wr mu 9 4 v 9 5 = mu 9 5 ∧ sb mu (wr mu 9 4 v) := fun v => ⟨by rw [wr_at]; simp, by rw [wr_at]; simp, fun a b q => by rw [wr_at, if_neg (by omega)]⟩
  have e5 : ∀ v, wr mu 9 5 v 9 5 = v ∧ wr mu 9 5 v 9 4 = mu 9 4 ∧ sb mu (wr mu 9 5 v) := fun v => ⟨by rw [wr_at]; simp, by rw [wr_at]; simp, fun a b q => by rw [wr_at, if_neg (by omega)]⟩
  refine aw_lload_n C dX2_limit_0 rfl ?_
  refine aw_lconst C dX2_limit_1 (v := 0) rfl ?_
  refine aw_lcmp_le C dX2_limit_2 dX2_limit_3 (tgt := 26) (by decide) ⟨by omega, by omega⟩ ⟨by omega, by omega⟩ (fun c1 => ?_) (fun c1 => ?_)
  · refine aw_lload_n C dX2_limit_26 rfl ?_
    refine aw_lconst C dX2_limit_27 (v := 0) rfl ?_
    refine aw_lcmp_ge C dX2_limit_28 dX2_limit_29 (tgt := 52) (by decide) ⟨by omega, by omega⟩ ⟨by omega, by omega⟩ (fun c2 => ?_) (fun c2 => ?_)
    · have z : t = 0 := by omega
      subst z
      --go
      refine aw_lload_n C dX2_limit_52 rfl ?_
      refine aw_lconst C dX2_limit_53 (v := 0) rfl ?_
      refine aw_lcmp_ge C dX2_limit_54 dX2_limit_55 (tgt := 65) (by decide) ⟨by omega, by omega⟩ ⟨by omega, by omega⟩ (fun c3 => ?_) (fun c3 => ?_)
      · exact aw_vret C E dX2_limit_65 rfl (by
      first
        | exact ⟨rfl, hfin⟩
        | (refine ⟨rfl, (e5 (-10000001)).2.2, ?_, fun m _ _ => ?_⟩
           · unfold fl2; rw [(e5 (-10000001)).1, (e5 (-10000001)).2.1]; omega
           · rw [(e5 (-10000001)).1, (e5 (-10000001)).2.1, Int.zero_mul]; omega)
        | (refine ⟨rfl, sb.rf, ⟨h1, h2⟩, fun m _ _ => ?_⟩
           rw [Int.zero_mul]; omega))
      · refine aw_aload_n C dX2_limit_58 rfl ?_
        refine aw_ldc2 C dX2_limit_59 kX2_91 (z := -10000001) (by decide +kernel) ?_
        refine aw_putL C dX2_limit_62 fX2_48 ⟨rfl, by decide⟩ rfl rfl rfl ?_
        exact aw_vret C E dX2_limit_65 rfl (by
      first
        | exact ⟨rfl, hfin⟩
        | (refine ⟨rfl, (e5 (-10000001)).2.2, ?_, fun m _ _ => ?_⟩
           · unfold fl2; rw [(e5 (-10000001)).1, (e5 (-10000001)).2.1]; omega
           · rw [(e5 (-10000001)).1, (e5 (-10000001)).2.1, Int.zero_mul]; omega)
        | (refine ⟨rfl, sb.rf, ⟨h1, h2⟩, fun m _ _ => ?_⟩
           rw [Int.zero_mul]; omega))
    · have d := dv (-t) (by omega)
      --go
      refine aw_aload_n C dX2_limit_32 rfl ?_
      refine aw_aload_n C dX2_limit_33 rfl ?_
      refine aw_getL C dX2_limit_34 fX2_48 ⟨rfl, by decide⟩ rfl ?_
      refine aw_lload_n C dX2_limit_37 rfl ?_
      refine aw_lload_n C dX2_limit_38 rfl ?_
      refine aw_lneg C dX2_limit_39 ?_
      refine aw_callS1 C dX2_limit_40 lX2_73 vX4_floorBy (t_X4_floorBy ⟨by omega, by omega⟩ ⟨by omega, by omega⟩ (by omega)) rfl rfl rfl ⟨by decide, by decide⟩ (Nat.le_of_ble_eq_true rfl) ?_
      refine aw_callS1 C dX2_limit_43 lX2_89 vJ9_min_f86c9 (t_J9_min_f86c9 ⟨by omega, by omega⟩ ⟨by omega, by omega⟩) rfl rfl rfl ⟨by decide, by decide⟩ (Nat.le_of_ble_eq_true rfl) ?_
      refine aw_putL C dX2_limit_46 fX2_48 ⟨rfl, by decide⟩ rfl rfl rfl ?_
      obtain ⟨f1, f2, f3⟩ := e5 (min (mu 9 5) (g / (-t)))
      have key : ∀ m : Int, m ≤ g / (-t) ↔ 0 ≤ t * m + g := fun m => by
        have := Int.le_ediv_iff_mul_le (a := m) (b := g) (show 0 < -t by omega)
        rw [Int.mul_neg, Int.mul_comm] at this
        omega
      have hfin : sb mu (wr mu 9 5 (min (mu 9 5) (g / (-t)))) ∧ fl2 (wr mu 9 5 (min (mu 9 5) (g / (-t)))) ∧ ∀ m : Int, -10000000 ≤ m → m ≤ 10000000 → ((wr mu 9 5 (min (mu 9 5) (g / (-t))) 9 4 ≤ m ∧ m ≤ wr mu 9 5 (min (mu 9 5) (g / (-t))) 9 5) ↔ (mu 9 4 ≤ m ∧ m ≤ mu 9 5) ∧ 0 ≤ t * m + g) := by
        refine ⟨f3, ?_, fun m _ _ => ?_⟩
        · unfold fl2; rw [f1, f2]; omega
        · rw [f1, f2]; have := key m; omega
      refine aw_goto C dX2_limit_49 (tgt := 65) (by decide) ?_
      exact aw_vret C E dX2_limit_65 rfl (by
      first
        | exact ⟨rfl, hfin⟩
        | (refine ⟨rfl, (e5 (-10000001)).2.2, ?_, fun m _ _ => ?_⟩
           · unfold fl2; rw [(e5 (-10000001)).1, (e5 (-10000001)).2.1]; omega
           · rw [(e5 (-10000001)).1, (e5 (-10000001)).2.1, Int.zero_mul]; omega)
        | (refine ⟨rfl, sb.rf, ⟨h1, h2⟩, fun m _ _ => ?_⟩
           rw [Int.zero_mul]; omega))
  · have d := dv t (by omega)
    --go
    refine aw_aload_n C dX2_limit_6 rfl ?_
    refine aw_aload_n C dX2_limit_7 rfl ?_
    refine aw_getL C dX2_limit_8 fX2_56 ⟨rfl, by decide⟩ rfl ?_
    refine aw_lload_n C dX2_limit_11 rfl ?_
    refine aw_lload_n C dX2_limit_12 rfl ?_
    refine aw_callS1 C dX2_limit_13 lX2_73 vX4_floorBy (t_X4_floorBy ⟨by omega, by omega⟩ ⟨by omega, by omega⟩ (by omega)) rfl rfl rfl ⟨by decide, by decide⟩ (Nat.le_of_ble_eq_true rfl) ?_
    refine aw_lneg C dX2_limit_16 ?_
    refine aw_callS1 C dX2_limit_17 lX2_86 vJ9_max_f86c9 (t_J9_max_f86c9 ⟨by omega, by omega⟩ ⟨by omega, by omega⟩) rfl rfl rfl ⟨by decide, by decide⟩ (Nat.le_of_ble_eq_true rfl) ?_
    refine aw_putL C dX2_limit_20 fX2_56 ⟨rfl, by decide⟩ rfl rfl rfl ?_
    have fin : _ := E
    obtain ⟨f1, f2, f3⟩ := e4 (max (mu 9 4) (-(g / t)))
    have key : ∀ m : Int, -(g / t) ≤ m ↔ 0 ≤ t * m + g := fun m => by
      have := Int.le_ediv_iff_mul_le (a := -m) (b := g) (show 0 < t by omega)
      rw [Int.neg_mul, Int.mul_comm] at this
      omega
    have hfin : sb mu (wr mu 9 4 (max (mu 9 4) (-(g / t)))) ∧ fl2 (wr mu 9 4 (max (mu 9 4) (-(g / t)))) ∧ ∀ m : Int, -10000000 ≤ m → m ≤ 10000000 → ((wr mu 9 4 (max (mu 9 4) (-(g / t))) 9 4 ≤ m ∧ m ≤ wr mu 9 4 (max (mu 9 4) (-(g / t))) 9 5) ↔ (mu 9 4 ≤ m ∧ m ≤ mu 9 5) ∧ 0 ≤ t * m + g) := by
      refine ⟨f3, ?_, fun m _ _ => ?_⟩
      · unfold fl2; rw [f1, f2]; omega
      · rw [f1, f2]; have := key m; omega
    refine aw_goto C dX2_limit_23 (tgt := 65) (by decide) ?_
    exact aw_vret C E dX2_limit_65 rfl (by
      first
        | exact ⟨rfl, hfin⟩
        | (refine ⟨rfl, (e5 (-10000001)).2.2, ?_, fun m _ _ => ?_⟩
           · unfold fl2; rw [(e5 (-10000001)).1, (e5 (-10000001)).2.1]; omega
           · rw [(e5 (-10000001)).1, (e5 (-10000001)).2.1, Int.zero_mul]; omega)
        | (refine ⟨rfl, sb.rf, ⟨h1, h2⟩, fun m _ _ => ?_⟩
           rw [Int.zero_mul]; omega))
def tms (P : PV) (i j : Int) : Int := pX P j * pY P i - pX P i * pY P j
def far (P : PV) (i j : Int) : Int := pR P j * pY P i - pR P i * pY P j
def conP (P : PV) (i m : Int) (q : Int) : Prop := (pY P i = 0 → 0 ≤ pX P i * m + pR P i) ∧ (0 < pY P i → ∀ j, 0 ≤ j → j < q → pY P j < 0 → 0 ≤ tms P i j * m + far P i j)
theorem t_X2_limitColumns {mu : Mem} (hP : bP (pv mu)) : Tr 3 mX2_limitColumns [vr 9] mu (fun r m2 => r = none ∧ sb mu m2 ∧ fl2 m2 ∧ ∀ m : Int, -10000000 ≤ m → m ≤ 10000000 → ((m2 9 4 ≤ m ∧ m ≤ m2 9 5) ↔ ∀ i, 0 ≤ i → i < mu 9 3 → conP (pv mu) i m (mu 9 3))) := by
  refine Tr.of (by decide +kernel) (Nat.le_of_ble_eq_true rfl) (fun K C E => ?_)
  have hn : 0 ≤ mu 9 3 ∧ mu 9 3 ≤ 24 := hP.1
  have ext : ∀ (i m : Int) (Q : Int → Prop), 0 ≤ i → ((∀ i2, 0 ≤ i2 → i2 < i + 1 → Q i2) ↔ (∀ i2, 0 ≤ i2 → i2 < i → Q i2) ∧ Q i) := fun i m Q h0 => by
    refine ⟨fun q => ⟨fun j w1 w2 => q j w1 (by omega), q i h0 (by omega)⟩, fun q j w1 w2 => ?_⟩
    rcases Int.lt_or_eq_of_le (show j ≤ i by omega) with w | w
    · exact q.1 j w1 w
    · rw [w]; exact q.2
  have loop : ∀ (k : Nat) (i : Int) (v2 : Vv) (m1 : Mem), 0 ≤ i → i + k = mu 9 3 → sb mu m1 → fl2 m1 → (∀ m : Int, -10000000 ≤ m → m ≤ 10000000 → ((m1 9 4 ≤ m ∧ m ≤ m1 9 5) ↔ ∀ i2, 0 ≤ i2 → i2 < i → conP (pv mu) i2 m (mu 9 3))) → AW K mX2_limitColumns (NC, 0, 0) 16 [vr 9, vi i, v2] [] m1 := by
    intro k
    induction k with
    | zero =>
      intro i v2 m1 q0 q1 q2 q3 q4
      have e3 : m1 9 3 = mu 9 3 := q2 9 3 (by omega)
      have e : i = mu 9 3 := by omega
      subst e
      refine aw_iload_n C dX2_limitColumns_16 rfl ?_
      refine aw_aload_n C dX2_limitColumns_17 rfl ?_
      refine aw_getI C dX2_limitColumns_18 fX2_34 ⟨rfl, by decide⟩ rfl ?_
      rw [e3]
      refine aw_icmp_ge C dX2_limitColumns_21 (tgt := 154) (by decide) ⟨by omega, by omega⟩ ⟨by omega, by omega⟩ (fun c1 => ?_) (fun c1 => ?_)
      · exact aw_vret C E dX2_limitColumns_154 rfl ⟨rfl, q2, q3, q4⟩
      · exfalso; omega
    | succ k ih =>
      intro i v2 m1 q0 q1 q2 q3 q4
      have hi : i < mu 9 3 := by omega
      have inner : ∀ (q : Nat) (j : Int) (m2 : Mem), 0 ≤ j → j + q = mu 9 3 → sb mu m2 → fl2 m2 → (∀ m : Int, -10000000 ≤ m → m ≤ 10000000 → ((m2 9 4 ≤ m ∧ m ≤ m2 9 5) ↔ (∀ i2, 0 ≤ i2 → i2 < i → conP (pv mu) i2 m (mu 9 3)) ∧ conP (pv mu) i m j)) → AW K mX2_limitColumns (NC, 0, 0) 52 [vr 9, vi i, vi j] [] m2 := by
        intro q
        induction q with
        | zero =>
          intro j m2 w0 w1 w2 w3 w4
          have e3 : m2 9 3 = mu 9 3 := w2 9 3 (by omega)
          have e : j = mu 9 3 := by omega
          subst e
          refine aw_iload_n C dX2_limitColumns_52 rfl ?_
          refine aw_aload_n C dX2_limitColumns_53 rfl ?_
          refine aw_getI C dX2_limitColumns_54 fX2_34 ⟨rfl, by decide⟩ rfl ?_
          rw [e3]
          refine aw_icmp_ge C dX2_limitColumns_57 (tgt := 148) (by decide) ⟨by omega, by omega⟩ ⟨by omega, by omega⟩ (fun c1 => ?_) (fun c1 => ?_)
          · refine aw_iinc C dX2_limitColumns_148 rfl ?_
            refine aw_goto C dX2_limitColumns_151 (tgt := 16) (by decide) ?_
            exact ih (i + 1) _ _ (by omega) (by omega) w2 w3 (fun m z1 z2 => (w4 m z1 z2).trans (ext i m (fun i2 => conP (pv mu) i2 m (mu 9 3)) q0).symm)
          · exfalso; omega
        | succ q ihq =>
          intro j m2 w0 w1 w2 w3 w4
          have hj : j < mu 9 3 := by omega
          have e3 : m2 9 3 = mu 9 3 := w2 9 3 (by omega)
          obtain ⟨a1, a2, a3⟩ := hP.2 i q0 hi
          obtain ⟨b1, b2, b3⟩ := hP.2 j w0 hj
          have f1 : m2 11 i.toNat = pY (pv mu) i := w2 11 _ (by omega)
          have f2 : m2 11 j.toNat = pY (pv mu) j := w2 11 _ (by omega)
          have f3 : m2 10 i.toNat = pX (pv mu) i := w2 10 _ (by omega)
          have f4 : m2 10 j.toNat = pX (pv mu) j := w2 10 _ (by omega)
          have f5 : m2 12 i.toNat = pR (pv mu) i := w2 12 _ (by omega)
          have f6 : m2 12 j.toNat = pR (pv mu) j := w2 12 _ (by omega)
          have g1 := mulb b1 a2
          have g2 := mulb a1 b2
          have g3 := mulb b3 a2
          have g4 := mulb a3 b2
          have ht : -7200 ≤ tms (pv mu) i j ∧ tms (pv mu) i j ≤ 7200 := by unfold tms; omega
          have hg : -960120 ≤ far (pv mu) i j ∧ far (pv mu) i j ≤ 960120 := by unfold far; omega
          have et : pX (pv mu) j * pY (pv mu) i - pX (pv mu) i * pY (pv mu) j = tms (pv mu) i j := rfl
          have eg : pR (pv mu) j * pY (pv mu) i - pR (pv mu) i * pY (pv mu) j = far (pv mu) i j := rfl
          refine aw_iload_n C dX2_limitColumns_52 rfl ?_
          refine aw_aload_n C dX2_limitColumns_53 rfl ?_
          refine aw_getI C dX2_limitColumns_54 fX2_34 ⟨rfl, by decide⟩ rfl ?_
          rw [e3]
          refine aw_icmp_ge C dX2_limitColumns_57 (tgt := 148) (by decide) ⟨by omega, by omega⟩ ⟨by omega, by omega⟩ (fun c1 => ?_) (fun c1 => ?_)
          · exfalso; omega
          · refine aw_aload_n C dX2_limitColumns_60 rfl ?_
            refine aw_getS C dX2_limitColumns_61 fX2_17 ⟨rfl, by decide⟩ rfl rfl (srf 9 1 11 (by decide)) ?_
            refine aw_iload_n C dX2_limitColumns_64 rfl ?_
            refine aw_iald C dX2_limitColumns_65 ⟨rfl, by decide⟩ (by decide) (by omega) (by omega) ?_
            rw [f1]
            refine aw_if_le C dX2_limitColumns_66 (tgt := 148) (by decide) ⟨by omega, by omega⟩ (fun c2 => ?_) (fun c2 => ?_)
            · refine aw_iinc C dX2_limitColumns_148 rfl ?_
              refine aw_goto C dX2_limitColumns_151 (tgt := 16) (by decide) ?_
              refine ih (i + 1) _ _ (by omega) (by omega) w2 w3 (fun m z1 z2 => (w4 m z1 z2).trans ?_)
              rw [ext i m (fun i2 => conP (pv mu) i2 m (mu 9 3)) q0]
              refine and_congr Iff.rfl ?_
              unfold conP
              refine and_congr Iff.rfl ⟨fun u z => by omega, fun u z => by omega⟩
            · refine aw_aload_n C dX2_limitColumns_69 rfl ?_
              refine aw_getS C dX2_limitColumns_70 fX2_17 ⟨rfl, by decide⟩ rfl rfl (srf 9 1 11 (by decide)) ?_
              refine aw_iload_n C dX2_limitColumns_73 rfl ?_
              refine aw_iald C dX2_limitColumns_74 ⟨rfl, by decide⟩ (by decide) (by omega) (by omega) ?_
              rw [f2]
              refine aw_if_ge C dX2_limitColumns_75 (tgt := 142) (by decide) ⟨by omega, by omega⟩ (fun c3 => ?_) (fun c3 => ?_)
              · refine aw_iinc C dX2_limitColumns_142 rfl ?_
                refine aw_goto C dX2_limitColumns_145 (tgt := 52) (by decide) ?_
                first
                  | (refine ihq (j + 1) _ (by omega) (by omega) (w2.tr hq.1) hq.2.1 (fun m z1 z2 => ?_)
                     rw [hq.2.2 m z1 z2, w4 m z1 z2, and_assoc]
                     refine and_congr Iff.rfl ?_
                     unfold conP
                     rw [and_assoc]
                     refine and_congr Iff.rfl ⟨fun u _ => ?_, fun u => ⟨fun z j2 y1 y2 => u z j2 y1 (by omega), u (by omega) j w0 (by omega) (by omega)⟩⟩
                     have := (ext j m (fun j2 => pY (pv mu) j2 < 0 → 0 ≤ tms (pv mu) i j2 * m + far (pv mu) i j2) w0).mpr ⟨fun j2 y1 y2 => u.1 (by omega) j2 y1 y2, fun _ => u.2⟩
                     exact this)
                  | (refine ihq (j + 1) _ (by omega) (by omega) w2 w3 (fun m z1 z2 => ?_)
                     rw [w4 m z1 z2]
                     refine and_congr Iff.rfl ?_
                     unfold conP
                     refine and_congr Iff.rfl ⟨fun u z j2 y1 y2 y3 => ?_, fun u z j2 y1 y2 => u z j2 y1 (by omega)⟩
                     rcases Int.lt_or_eq_of_le (show j2 ≤ j by omega) with y | y
                     · exact u z j2 y1 y y3
                     · subst y; omega)
              · refine aw_aload_n C dX2_limitColumns_78 rfl ?_
                refine aw_aload_n C dX2_limitColumns_79 rfl ?_
                refine aw_getS C dX2_limitColumns_80 fX2_11 ⟨rfl, by decide⟩ rfl rfl (srf 9 0 10 (by decide)) ?_
                refine aw_iload_n C dX2_limitColumns_83 rfl ?_
                refine aw_iald C dX2_limitColumns_84 ⟨rfl, by decide⟩ (by decide) (by omega) (by omega) ?_
                rw [f4]
                refine aw_i2l C dX2_limitColumns_85 ⟨by omega, by omega⟩ ?_
                refine aw_aload_n C dX2_limitColumns_86 rfl ?_
                refine aw_getS C dX2_limitColumns_87 fX2_17 ⟨rfl, by decide⟩ rfl rfl (srf 9 1 11 (by decide)) ?_
                refine aw_iload_n C dX2_limitColumns_90 rfl ?_
                refine aw_iald C dX2_limitColumns_91 ⟨rfl, by decide⟩ (by decide) (by omega) (by omega) ?_
                rw [f1]
                refine aw_i2l C dX2_limitColumns_92 ⟨by omega, by omega⟩ ?_
                refine aw_lmul C dX2_limitColumns_93 ?_
                refine aw_aload_n C dX2_limitColumns_94 rfl ?_
                refine aw_getS C dX2_limitColumns_95 fX2_11 ⟨rfl, by decide⟩ rfl rfl (srf 9 0 10 (by decide)) ?_
                refine aw_iload_n C dX2_limitColumns_98 rfl ?_
                refine aw_iald C dX2_limitColumns_99 ⟨rfl, by decide⟩ (by decide) (by omega) (by omega) ?_
                rw [f3]
                refine aw_i2l C dX2_limitColumns_100 ⟨by omega, by omega⟩ ?_
                refine aw_aload_n C dX2_limitColumns_101 rfl ?_
                refine aw_getS C dX2_limitColumns_102 fX2_17 ⟨rfl, by decide⟩ rfl rfl (srf 9 1 11 (by decide)) ?_
                refine aw_iload_n C dX2_limitColumns_105 rfl ?_
                refine aw_iald C dX2_limitColumns_106 ⟨rfl, by decide⟩ (by decide) (by omega) (by omega) ?_
                rw [f2]
                refine aw_i2l C dX2_limitColumns_107 ⟨by omega, by omega⟩ ?_
                refine aw_lmul C dX2_limitColumns_108 ?_
                refine aw_lsub C dX2_limitColumns_109 ?_
                rw [et]
                refine aw_aload_n C dX2_limitColumns_110 rfl ?_
                refine aw_getS C dX2_limitColumns_111 fX2_20 ⟨rfl, by decide⟩ rfl rfl (srf 9 2 12 (by decide)) ?_
                refine aw_iload_n C dX2_limitColumns_114 rfl ?_
                refine aw_lald C dX2_limitColumns_115 ⟨rfl, by decide⟩ (by decide) (by omega) (by omega) ?_
                rw [f6]
                refine aw_aload_n C dX2_limitColumns_116 rfl ?_
                refine aw_getS C dX2_limitColumns_117 fX2_17 ⟨rfl, by decide⟩ rfl rfl (srf 9 1 11 (by decide)) ?_
                refine aw_iload_n C dX2_limitColumns_120 rfl ?_
                refine aw_iald C dX2_limitColumns_121 ⟨rfl, by decide⟩ (by decide) (by omega) (by omega) ?_
                rw [f1]
                refine aw_i2l C dX2_limitColumns_122 ⟨by omega, by omega⟩ ?_
                refine aw_lmul C dX2_limitColumns_123 ?_
                refine aw_aload_n C dX2_limitColumns_124 rfl ?_
                refine aw_getS C dX2_limitColumns_125 fX2_20 ⟨rfl, by decide⟩ rfl rfl (srf 9 2 12 (by decide)) ?_
                refine aw_iload_n C dX2_limitColumns_128 rfl ?_
                refine aw_lald C dX2_limitColumns_129 ⟨rfl, by decide⟩ (by decide) (by omega) (by omega) ?_
                rw [f5]
                refine aw_aload_n C dX2_limitColumns_130 rfl ?_
                refine aw_getS C dX2_limitColumns_131 fX2_17 ⟨rfl, by decide⟩ rfl rfl (srf 9 1 11 (by decide)) ?_
                refine aw_iload_n C dX2_limitColumns_134 rfl ?_
                refine aw_iald C dX2_limitColumns_135 ⟨rfl, by decide⟩ (by decide) (by omega) (by omega) ?_
                rw [f2]
                refine aw_i2l C dX2_limitColumns_136 ⟨by omega, by omega⟩ ?_
                refine aw_lmul C dX2_limitColumns_137 ?_
                refine aw_lsub C dX2_limitColumns_138 ?_
                rw [eg]
                refine aw_call C dX2_limitColumns_139 lX2_82 vX2_limit (t_X2_limit w3 ht hg) rfl rfl rfl ⟨rfl, by decide⟩ rfl ⟨by decide, by decide⟩ (Nat.le_of_ble_eq_true rfl) (fun r4 mu4 hq4 => ?_)
                obtain ⟨rfl, hq⟩ := hq4
                show AW _ _ _ _ _ [] _
                refine aw_iinc C dX2_limitColumns_142 rfl ?_
                refine aw_goto C dX2_limitColumns_145 (tgt := 52) (by decide) ?_
                first
                  | (refine ihq (j + 1) _ (by omega) (by omega) (w2.tr hq.1) hq.2.1 (fun m z1 z2 => ?_)
                     rw [hq.2.2 m z1 z2, w4 m z1 z2, and_assoc]
                     refine and_congr Iff.rfl ?_
                     unfold conP
                     rw [and_assoc]
                     refine and_congr Iff.rfl ⟨fun u _ => ?_, fun u => ⟨fun z j2 y1 y2 => u z j2 y1 (by omega), u (by omega) j w0 (by omega) (by omega)⟩⟩
                     have := (ext j m (fun j2 => pY (pv mu) j2 < 0 → 0 ≤ tms (pv mu) i j2 * m + far (pv mu) i j2) w0).mpr ⟨fun j2 y1 y2 => u.1 (by omega) j2 y1 y2, fun _ => u.2⟩
                     exact this)
                  | (refine ihq (j + 1) _ (by omega) (by omega) w2 w3 (fun m z1 z2 => ?_)
                     rw [w4 m z1 z2]
                     refine and_congr Iff.rfl ?_
                     unfold conP
                     refine and_congr Iff.rfl ⟨fun u z j2 y1 y2 y3 => ?_, fun u z j2 y1 y2 => u z j2 y1 (by omega)⟩
                     rcases Int.lt_or_eq_of_le (show j2 ≤ j by omega) with y | y
                     · exact u z j2 y1 y y3
                     · subst y; omega)
      have e3 : m1 9 3 = mu 9 3 := q2 9 3 (by omega)
      obtain ⟨a1, a2, a3⟩ := hP.2 i q0 hi
      have f1 : m1 11 i.toNat = pY (pv mu) i := q2 11 _ (by omega)
      have f3 : m1 10 i.toNat = pX (pv mu) i := q2 10 _ (by omega)
      have f5 : m1 12 i.toNat = pR (pv mu) i := q2 12 _ (by omega)
      refine aw_iload_n C dX2_limitColumns_16 rfl ?_
      refine aw_aload_n C dX2_limitColumns_17 rfl ?_
      refine aw_getI C dX2_limitColumns_18 fX2_34 ⟨rfl, by decide⟩ rfl ?_
      rw [e3]
      refine aw_icmp_ge C dX2_limitColumns_21 (tgt := 154) (by decide) ⟨by omega, by omega⟩ ⟨by omega, by omega⟩ (fun c1 => ?_) (fun c1 => ?_)
      · exfalso; omega
      · refine aw_aload_n C dX2_limitColumns_24 rfl ?_
        refine aw_getS C dX2_limitColumns_25 fX2_17 ⟨rfl, by decide⟩ rfl rfl (srf 9 1 11 (by decide)) ?_
        refine aw_iload_n C dX2_limitColumns_28 rfl ?_
        refine aw_iald C dX2_limitColumns_29 ⟨rfl, by decide⟩ (by decide) (by omega) (by omega) ?_
        rw [f1]
        refine aw_if_ne C dX2_limitColumns_30 (tgt := 50) (by decide) ⟨by omega, by omega⟩ (fun c2 => ?_) (fun c2 => ?_)
        · refine aw_iconst C dX2_limitColumns_50 ?_
          refine aw_istore_n C dX2_limitColumns_51 (by decide) ?_
          first
            | (refine inner (mu 9 3).toNat 0 _ (by omega) (by omega) (q2.tr hq.1) hq.2.1 (fun m z1 z2 => ?_)
               rw [hq.2.2 m z1 z2, q4 m z1 z2]
               refine and_congr Iff.rfl ?_
               unfold conP
               exact ⟨fun u => ⟨fun _ => u, fun z => by omega⟩, fun u => u.1 c2⟩)
            | (refine inner (mu 9 3).toNat 0 _ (by omega) (by omega) q2 q3 (fun m z1 z2 => ?_)
               rw [q4 m z1 z2]
               exact ⟨fun u => ⟨u, fun z => absurd z c2, fun z j y1 y2 => by omega⟩, fun u => u.1⟩)
        · refine aw_aload_n C dX2_limitColumns_33 rfl ?_
          refine aw_aload_n C dX2_limitColumns_34 rfl ?_
          refine aw_getS C dX2_limitColumns_35 fX2_11 ⟨rfl, by decide⟩ rfl rfl (srf 9 0 10 (by decide)) ?_
          refine aw_iload_n C dX2_limitColumns_38 rfl ?_
          refine aw_iald C dX2_limitColumns_39 ⟨rfl, by decide⟩ (by decide) (by omega) (by omega) ?_
          rw [f3]
          refine aw_i2l C dX2_limitColumns_40 ⟨by omega, by omega⟩ ?_
          refine aw_aload_n C dX2_limitColumns_41 rfl ?_
          refine aw_getS C dX2_limitColumns_42 fX2_20 ⟨rfl, by decide⟩ rfl rfl (srf 9 2 12 (by decide)) ?_
          refine aw_iload_n C dX2_limitColumns_45 rfl ?_
          refine aw_lald C dX2_limitColumns_46 ⟨rfl, by decide⟩ (by decide) (by omega) (by omega) ?_
          rw [f5]
          refine aw_call C dX2_limitColumns_47 lX2_82 vX2_limit (t_X2_limit q3 (by omega) (by omega)) rfl rfl rfl ⟨rfl, by decide⟩ rfl ⟨by decide, by decide⟩ (Nat.le_of_ble_eq_true rfl) (fun r3 mu3 hq3 => ?_)
          obtain ⟨rfl, hq⟩ := hq3
          show AW _ _ _ _ _ [] _
          refine aw_iconst C dX2_limitColumns_50 ?_
          refine aw_istore_n C dX2_limitColumns_51 (by decide) ?_
          first
            | (refine inner (mu 9 3).toNat 0 _ (by omega) (by omega) (q2.tr hq.1) hq.2.1 (fun m z1 z2 => ?_)
               rw [hq.2.2 m z1 z2, q4 m z1 z2]
               refine and_congr Iff.rfl ?_
               unfold conP
               exact ⟨fun u => ⟨fun _ => u, fun z => by omega⟩, fun u => u.1 c2⟩)
            | (refine inner (mu 9 3).toNat 0 _ (by omega) (by omega) q2 q3 (fun m z1 z2 => ?_)
               rw [q4 m z1 z2]
               exact ⟨fun u => ⟨u, fun z => absurd z c2, fun z j y1 y2 => by omega⟩, fun u => u.1⟩)
  have e0 : sb mu (wr (wr mu 9 4 (-10000000)) 9 5 10000000) := fun a b q => by rw [wr_at, if_neg (by omega), wr_at, if_neg (by omega)]
  have e4 : wr (wr mu 9 4 (-10000000)) 9 5 10000000 9 4 = -10000000 := by rw [wr_at, wr_at]; simp
  have e5 : wr (wr mu 9 4 (-10000000)) 9 5 10000000 9 5 = 10000000 := by rw [wr_at]; simp
  refine aw_aload_n C dX2_limitColumns_0 rfl ?_
  refine aw_ldc2 C dX2_limitColumns_1 kX2_78 (z := -10000000) (by decide +kernel) ?_
  refine aw_putL C dX2_limitColumns_4 fX2_56 ⟨rfl, by decide⟩ rfl rfl rfl ?_
  refine aw_aload_n C dX2_limitColumns_7 rfl ?_
  refine aw_ldc2 C dX2_limitColumns_8 kX2_80 (z := 10000000) (by decide +kernel) ?_
  refine aw_putL C dX2_limitColumns_11 fX2_48 ⟨rfl, by decide⟩ rfl rfl rfl ?_
  refine aw_iconst C dX2_limitColumns_14 ?_
  refine aw_istore_n C dX2_limitColumns_15 (by decide) ?_
  exact loop (mu 9 3).toNat 0 _ _ (by omega) (by omega) e0 (by unfold fl2; rw [e4, e5]; omega) (fun m z1 z2 => by rw [e4, e5]; exact ⟨fun _ i2 y1 y2 => by omega, fun _ => ⟨z1, z2⟩⟩)

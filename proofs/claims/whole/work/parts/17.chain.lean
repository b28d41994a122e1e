def cpy (mu : Mem) (a b n : Nat) : Mem := fun k => if k = b then (fun j => if j < n then mu a j else mu b j) else mu k
theorem cpy_ne {mu : Mem} {a b n k : Nat} (h : k ≠ b) : cpy mu a b n k = mu k := by unfold cpy; rw [if_neg h]
theorem cpy_self (mu : Mem) (a b n j : Nat) : cpy mu a b n b j = if j < n then mu a j else mu b j := by unfold cpy; rw [if_pos rfl]
theorem GI.cpy {mu : Mem} (g : GI mu) {a b n len : Nat} (hs : shp b = (10, len)) : GI (Jvm.Pilot.@@N@@.cpy mu a b n) := by
  have key : ∀ k, (shp k).1 ≠ 10 → Jvm.Pilot.@@N@@.cpy mu a b n k = mu k := fun k h => cpy_ne (fun e => h (by rw [e, hs]))
  obtain ⟨g1, g2, g3, g4, g5⟩ := g
  refine ⟨fun q hq => ?_, fun t ht => ?_, ?_, ?_, fun i hi => ?_⟩
  · rw [key _ (by have := (srl_ok q hq).1; omega)]; exact g1 q hq
  · have e := (shp_fan t ht).1
    rw [key _ (by rw [e]; decide)]; exact g2 t ht
  · rw [key 0 (by decide)]; exact g3
  · rw [key 0 (by decide)]; exact g4
  · rw [key 14 (by decide)]; exact g5 i hi
theorem lac_n : Cond.native arraycopyName ∈ TB := tb_t 336 (by decide +kernel) (by decide +kernel)
theorem lac_s : Cond.static arraycopyName ∈ TB := tb_t 335 (by decide +kernel) (by decide +kernel)
theorem lac_i : Cond.initialized "java/lang/System" ∈ TB := tb_t 9 (by decide +kernel) (by decide +kernel)
theorem lac_X1_28 : Cond.methodLink RX1 28 arraycopyName ∈ TB := tb_t 664 (by decide +kernel) (by decide +kernel)
theorem lac_X5_88 : Cond.methodLink RX5 88 arraycopyName ∈ TB := tb_t 334 (by decide +kernel) (by decide +kernel)
theorem aw_copy {K : KT} {M : MI} {w : Nat × Nat × Nat} {pc dd : Nat} {L S : List Vv} {mu : Mem} (C : CX K w M dd) {i a b la lb n : Nat} {z : Int} (hd : decode M.2.1 pc = .ok (.invokestatic i, 3)) (hl : Cond.methodLink M.1.cls i arraycopyName ∈ TB) (ha : Sh w.1 a 10 la) (hb : Sh w.1 b 10 lb) (hz : z = (n : Int)) (h1 : n ≤ la) (h2 : n ≤ lb) (h3 : n < 2147483648) (hdd : 1 ≤ dd) (hrest : wsum S ≤ 8) (kk : AW K M w (pc + 3) L S (cpy mu a b n)) : AW K M w pc L (vi z :: vi 0 :: vr b :: vi 0 :: vr a :: S) mu := by
  subst hz
  obtain ⟨p, l, e, R, s, m, args, below, meth, c, G, Q⟩ := K
  obtain ⟨hx, hb2, hml, hown, hts, hK, hlk, hgb, hRm, hw⟩ := C
  intro ls H locs hLL hW hS
  have he := wl_at (G := G) (mu := mu) ha.2
  rw [ha.1, ent_i] at he
  have he2 := wl_at (G := G) (mu := mu) hb.2
  rw [hb.1, ent_i] at he2
  have c0 : (Int32.ofInt 0).toNatClampNeg = 0 := by decide
  have cn : (Int32.ofInt (n : Int)).toNatClampNeg = n := by rw [i_cl (by unfold R32; omega) (by omega)]; omega
  refine va_copyi (D := (G.1, G.2.1)) (A := AG G) (ty := .int) hx hb2 (hml.trans hLL.1.symm) hown (hts _ hl) (hts _ lac_n) (hts _ lac_s) (hts _ lac_i) hK hW.1 (wl_D G _ _) hS a b 0 0 he he2 rfl rfl rfl (by decide) (by decide) (by rw [show (0 : Int32) = Int32.ofInt 0 from rfl, i_lt (by unfold R32; omega) (by unfold R32; omega)]; omega) (by rw [c0, cn]; omega) (by rw [c0, cn]; omega) (fun _ _ => rfl) (Nat.le_trans hdd hRm.1) ?_ hd (fun H1 locs1 hP1 _ hS1 => ?_)
  · rw [wsum_ok]
    have e1 : nativeFrameWords "java/lang/System" "arraycopy" 5 = 7 := by decide
    rw [e1]
    have := hRm.2
    omega
  · rw [wl_set (mu2 := cpy mu a b n) (fun q hq => cpy_ne hq) (by
      rw [hb.1, ent_i, c0, cn]
      congr 4
      funext q
      rw [cpy_self]
      unfold va_cpy
      by_cases hq : q < n
      · rw [if_pos hq, if_pos (by omega)]; congr 2; omega
      · rw [if_neg hq, if_neg (by omega)])] at hP1
    exact kk ls H1 locs1 hLL ⟨hP1, fun q => (hW.2 q).cpy hb.1⟩ hS1
/-! the chain -/
def chS (mu : Mem) (a b n : Int) : Mem := wr (wr (wr mu 8 0 a) 8 1 b) 8 2 n
theorem chS_at (mu : Mem) (a b n : Int) (k j : Nat) : chS mu a b n k j = if k = 8 then (if j = 2 then n else if j = 1 then b else if j = 0 then a else mu 8 j) else mu k j := by
  unfold chS
  rw [wr_at, wr_at, wr_at]
  by_cases h : k = 8
  · subst h; simp
  · simp [h]
theorem chS_step (mu : Mem) (a b c n : Int) : wr (wr (chS mu a b n) 8 0 b) 8 1 c = chS mu b c n := by
  funext k j
  rw [wr_at, wr_at, chS_at, chS_at]
  by_cases h : k = 8
  · subst h
    by_cases h1 : j = 1
    · subst h1; simp
    · by_cases h0 : j = 0
      · subst h0; simp
      · simp [h1, h0]
  · simp [h]
def cB (a b : Int) : Int := (a + b - 1) / b
def cN (a b : Int) : Int := cB a b * b - a
theorem cN_in {a b : Int} (hb : 0 < b) : 0 ≤ cN a b ∧ cN a b < b := by
  unfold cN cB
  have e := Int.mul_ediv_add_emod (a + b - 1) b
  have e1 := Int.emod_nonneg (a + b - 1) (show b ≠ 0 by omega)
  have e2 := Int.emod_lt_of_pos (a + b - 1) hb
  rw [Int.mul_comm] at e
  omega
theorem cB_b {a b : Int} (hb : 0 < b) (ha : b ≤ a) (ha2 : a ≤ 7200) : 1 ≤ cB a b ∧ cB a b ≤ 7200 := by
  unfold cB
  refine ⟨Int.le_ediv_of_mul_le hb (by omega), ?_⟩
  have := Int.ediv_le_self (a := a + b - 1) b (by omega)
  have h2 : (a + b - 1) / b ≤ a := by
    apply Int.le_of_lt_add_one
    apply Int.ediv_lt_of_lt_mul hb
    have h3 : (a + 1) * 1 ≤ (a + 1) * b := Int.mul_le_mul_of_nonneg_left (by omega) (by omega)
    have h4 : (a + 1) * b = a * b + b := by rw [Int.add_mul, Int.one_mul]
    have h5 : a * 1 ≤ a * b := Int.mul_le_mul_of_nonneg_left (by omega) (by omega)
    omega
  omega
def cit : Nat → Int → Int → Int × Int
  | 0, a, b => (a, b)
  | k + 1, a, b => if b ≤ 0 then (a, b) else cit k b (cN a b)
def cln : Nat → Int → Int → Int
  | 0, _, _ => 0
  | k + 1, a, b => if b ≤ 0 then 0 else 1 + cln k b (cN a b)
def cls (a b : Int) : Int := cln b.toNat a b
theorem t_X0_start {mu : Mem} {a b : Int} : TrE 0 mX0_start [vr 8, vi a, vi b] mu none (chS mu a b a) := by
  refine Tr.of (by decide +kernel) (Nat.le_of_ble_eq_true rfl) (fun K C E => ?_)
  refine aw_aload_n C dX0_start_0 rfl ?_
  refine aw_iload_n C dX0_start_1 rfl ?_
  refine aw_putI C dX0_start_2 fX0_7 ⟨rfl, by decide⟩ rfl rfl rfl ?_
  refine aw_aload_n C dX0_start_5 rfl ?_
  refine aw_iload_n C dX0_start_6 rfl ?_
  refine aw_putI C dX0_start_7 fX0_13 ⟨rfl, by decide⟩ rfl rfl rfl ?_
  refine aw_aload_n C dX0_start_10 rfl ?_
  refine aw_iload_n C dX0_start_11 rfl ?_
  refine aw_putI C dX0_start_12 fX0_16 ⟨rfl, by decide⟩ rfl rfl rfl ?_
  exact aw_vret C E dX0_start_15 rfl ⟨rfl, rfl⟩
theorem t_X0_goesOn {mu : Mem} {a b n : Int} (hb : R32 b) : TrE 0 mX0_goesOn [vr 8] (chS mu a b n) (some (vi (b01 (0 < b)))) (chS mu a b n) := by
  refine Tr.of (by decide +kernel) (Nat.le_of_ble_eq_true rfl) (fun K C E => ?_)
  have e1 : chS mu a b n 8 1 = b := by rw [chS_at]; rfl
  refine aw_aload_n C dX0_goesOn_0 rfl ?_
  refine aw_getI C dX0_goesOn_1 fX0_13 ⟨rfl, by decide⟩ rfl ?_
  refine aw_if_le C dX0_goesOn_4 (tgt := 11) (by decide) (by rw [e1]; exact hb) (fun c1 => ?_) (fun c1 => ?_)
  · rw [e1] at c1; rw [b01_f (by omega)] at E
    --go
    refine aw_iconst C dX0_goesOn_11 ?_
    exact aw_zret C E dX0_goesOn_12 rfl (by omega) ⟨rfl, rfl⟩
  · rw [e1] at c1; rw [b01_t (by omega)] at E
    --go
    refine aw_iconst C dX0_goesOn_7 ?_
    refine aw_goto C dX0_goesOn_8 (tgt := 12) (by decide) ?_
    exact aw_zret C E dX0_goesOn_12 rfl (by omega) ⟨rfl, rfl⟩
theorem t_X0_step {mu : Mem} {a b n : Int} (hb : 0 < b) (ha : b ≤ a) (ha2 : a ≤ 7200) : TrE 2 mX0_step [vr 8] (chS mu a b n) (some (vi (cB a b))) (chS mu b (cN a b) n) := by
  refine Tr.of (by decide +kernel) (Nat.le_of_ble_eq_true rfl) (fun K C E => ?_)
  have e1 : chS mu a b n 8 1 = b := by rw [chS_at]; rfl
  have e0 : chS mu a b n 8 0 = a := by rw [chS_at]; rfl
  have eB : (a + b - 1) / b = cB a b := rfl
  have eN : cB a b * b - a = cN a b := rfl
  refine aw_aload_n C dX0_step_0 rfl ?_
  refine aw_getI C dX0_step_1 fX0_13 ⟨rfl, by decide⟩ rfl ?_
  rw [e1]
  refine aw_if_gt C dX0_step_4 (tgt := 9) (by decide) ⟨by omega, by omega⟩ (fun c1 => ?_) (fun c1 => ?_)
  · refine aw_aload_n C dX0_step_9 rfl ?_
    refine aw_getI C dX0_step_10 fX0_7 ⟨rfl, by decide⟩ rfl ?_
    rw [e0]
    refine aw_i2l C dX0_step_13 ⟨by omega, by omega⟩ ?_
    refine aw_aload_n C dX0_step_14 rfl ?_
    refine aw_getI C dX0_step_15 fX0_13 ⟨rfl, by decide⟩ rfl ?_
    rw [e1]
    refine aw_i2l C dX0_step_18 ⟨by omega, by omega⟩ ?_
    refine aw_ladd C dX0_step_19 ?_
    refine aw_lconst C dX0_step_20 (v := 1) rfl ?_
    refine aw_lsub C dX0_step_21 ?_
    refine aw_aload_n C dX0_step_22 rfl ?_
    refine aw_getI C dX0_step_23 fX0_13 ⟨rfl, by decide⟩ rfl ?_
    rw [e1]
    refine aw_i2l C dX0_step_26 ⟨by omega, by omega⟩ ?_
    refine aw_callS1 C dX0_step_27 lX0_19 vX4_floorBy (t_X4_floorBy ⟨by omega, by omega⟩ ⟨by omega, by omega⟩ (by omega)) rfl rfl rfl ⟨by decide, by decide⟩ (Nat.le_of_ble_eq_true rfl) ?_
    rw [eB]
    refine aw_l2i C dX0_step_30 ?_
    refine aw_istore_n C dX0_step_31 (by decide) ?_
    refine aw_iload_n C dX0_step_32 rfl ?_
    refine aw_aload_n C dX0_step_33 rfl ?_
    refine aw_getI C dX0_step_34 fX0_13 ⟨rfl, by decide⟩ rfl ?_
    rw [e1]
    refine aw_imul C dX0_step_37 ?_
    refine aw_aload_n C dX0_step_38 rfl ?_
    refine aw_getI C dX0_step_39 fX0_7 ⟨rfl, by decide⟩ rfl ?_
    rw [e0]
    refine aw_isub C dX0_step_42 ?_
    rw [eN]
    refine aw_istore_n C dX0_step_43 (by decide) ?_
    refine aw_aload_n C dX0_step_44 rfl ?_
    refine aw_aload_n C dX0_step_45 rfl ?_
    refine aw_getI C dX0_step_46 fX0_13 ⟨rfl, by decide⟩ rfl ?_
    rw [e1]
    refine aw_putI C dX0_step_49 fX0_7 ⟨rfl, by decide⟩ rfl rfl rfl ?_
    refine aw_aload_n C dX0_step_52 rfl ?_
    refine aw_iload_n C dX0_step_53 rfl ?_
    refine aw_putI C dX0_step_54 fX0_13 ⟨rfl, by decide⟩ rfl rfl rfl ?_
    refine aw_iload_n C dX0_step_57 rfl ?_
    exact aw_iret C E dX0_step_58 rfl ⟨rfl, chS_step mu a b (cN a b) n⟩
  · exfalso; omega
theorem t_X0_step0 {mu : Mem} {a b n : Int} (hb : b ≤ 0) (hb2 : 0 ≤ b) : TrE 2 mX0_step [vr 8] (chS mu a b n) (some (vi 0)) (chS mu a b n) := by
  refine Tr.of (by decide +kernel) (Nat.le_of_ble_eq_true rfl) (fun K C E => ?_)
  have e1 : chS mu a b n 8 1 = b := by rw [chS_at]; rfl
  refine aw_aload_n C dX0_step_0 rfl ?_
  refine aw_getI C dX0_step_1 fX0_13 ⟨rfl, by decide⟩ rfl ?_
  rw [e1]
  refine aw_if_gt C dX0_step_4 (tgt := 9) (by decide) ⟨by omega, by omega⟩ (fun c1 => ?_) (fun c1 => ?_)
  · exfalso; omega
  · refine aw_iconst C dX0_step_7 ?_
    exact aw_iret C E dX0_step_8 rfl ⟨rfl, rfl⟩
theorem t_X0_countAll {mu : Mem} {a b : Int} (h0 : 0 ≤ b) (h1 : b < a) (h2 : a ≤ 7200) : Tr 3 mX0_countAll [vr 8] (chS mu a b a) (fun r m2 => r = some (vi (cls a b)) ∧ ∃ a2 b2, m2 = chS mu a2 b2 a) := by
  refine Tr.of (by decide +kernel) (Nat.le_of_ble_eq_true rfl) (fun K C E => ?_)
  have loop : ∀ (k : Nat) (u v i : Int), 0 ≤ v → v ≤ k → v ≤ u → u ≤ 7200 → 0 ≤ i → i + v < a → cls a b = i + cln k u v → AW K mX0_countAll (NC, 0, 0) 2 [vr 8, vi i] [] (chS mu u v a) := by
    intro k
    induction k with
    | zero =>
      intro u v i q0 q1 q2 q3 q4 q5 q6
      have hb := b01_f (show ¬ 0 < v by omega)
      refine aw_aload_n C dX0_countAll_2 rfl ?_
      refine aw_call1 C dX0_countAll_3 lX0_25 vX0_goesOn (t_X0_goesOn ⟨by omega, by omega⟩) rfl rfl rfl ⟨rfl, by decide⟩ rfl ⟨by decide, by decide⟩ (Nat.le_of_ble_eq_true rfl) ?_
      refine aw_if_eq C dX0_countAll_6 (tgt := 28) (by decide) ⟨by omega, by omega⟩ (fun c1 => ?_) (fun c1 => ?_)
      · refine aw_iload_n C dX0_countAll_28 rfl ?_
        exact aw_iret C E dX0_countAll_29 rfl ⟨by rw [q6]; show _ = some (vi (i + 0)); rw [Int.add_zero], u, v, rfl⟩
      · exfalso; omega
    | succ k ih =>
      intro u v i q0 q1 q2 q3 q4 q5 q6
      have e2 : chS mu u v a 8 2 = a := by rw [chS_at]; rfl
      by_cases hv : v ≤ 0
      · have hb := b01_f (show ¬ 0 < v by omega)
        have hc : cln (k + 1) u v = 0 := if_pos hv
        refine aw_aload_n C dX0_countAll_2 rfl ?_
        refine aw_call1 C dX0_countAll_3 lX0_25 vX0_goesOn (t_X0_goesOn ⟨by omega, by omega⟩) rfl rfl rfl ⟨rfl, by decide⟩ rfl ⟨by decide, by decide⟩ (Nat.le_of_ble_eq_true rfl) ?_
        refine aw_if_eq C dX0_countAll_6 (tgt := 28) (by decide) ⟨by omega, by omega⟩ (fun c1 => ?_) (fun c1 => ?_)
        · refine aw_iload_n C dX0_countAll_28 rfl ?_
          exact aw_iret C E dX0_countAll_29 rfl ⟨by rw [q6, hc, Int.add_zero], u, v, rfl⟩
        · exfalso; omega
      · have hb := b01_t (show 0 < v by omega)
        have hc : cln (k + 1) u v = 1 + cln k v (cN u v) := if_neg hv
        have hN := cN_in (a := u) (b := v) (by omega)
        refine aw_aload_n C dX0_countAll_2 rfl ?_
        refine aw_call1 C dX0_countAll_3 lX0_25 vX0_goesOn (t_X0_goesOn ⟨by omega, by omega⟩) rfl rfl rfl ⟨rfl, by decide⟩ rfl ⟨by decide, by decide⟩ (Nat.le_of_ble_eq_true rfl) ?_
        refine aw_if_eq C dX0_countAll_6 (tgt := 28) (by decide) ⟨by omega, by omega⟩ (fun c1 => ?_) (fun c1 => ?_)
        · exfalso; omega
        · refine aw_iload_n C dX0_countAll_9 rfl ?_
          refine aw_aload_n C dX0_countAll_10 rfl ?_
          refine aw_getI C dX0_countAll_11 fX0_16 ⟨rfl, by decide⟩ rfl ?_
          rw [e2]
          refine aw_icmp_ge C dX0_countAll_14 (tgt := 28) (by decide) ⟨by omega, by omega⟩ ⟨by omega, by omega⟩ (fun c2 => ?_) (fun c2 => ?_)
          · exfalso; omega
          · refine aw_aload_n C dX0_countAll_17 rfl ?_
            refine aw_call1 C dX0_countAll_18 lX0_29 vX0_step (t_X0_step (by omega) (by omega) (by omega)) rfl rfl rfl ⟨rfl, by decide⟩ rfl ⟨by decide, by decide⟩ (Nat.le_of_ble_eq_true rfl) ?_
            refine aw_pop_i C dX0_countAll_21 ?_
            refine aw_iinc C dX0_countAll_22 rfl ?_
            refine aw_goto C dX0_countAll_25 (tgt := 2) (by decide) ?_
            exact ih v (cN u v) (i + 1) (by omega) (by omega) (by omega) (by omega) (by omega) (by omega) (by rw [q6, hc]; omega)
  refine aw_iconst C dX0_countAll_0 ?_
  refine aw_istore_n C dX0_countAll_1 (by decide) ?_
  exact loop b.toNat a b 0 (by omega) (by omega) (by omega) (by omega) (by omega) (by omega) (by rw [Int.zero_add]; rfl)
theorem cit_stop {a b : Int} (h : b ≤ 0) : ∀ k, cit k a b = (a, b)
  | 0 => rfl
  | k + 1 => if_pos h
theorem t_X0_skipTo {mu : Mem} {a b k : Int} (h0 : 0 ≤ b) (h1 : b < a) (h2 : a ≤ 7200) (hk : 0 ≤ k) (hk2 : R32 k) : TrE 3 mX0_skipTo [vr 8, vi k] (chS mu a b a) (some (vi (b01 (0 < (cit k.toNat a b).2)))) (chS mu (cit k.toNat a b).1 (cit k.toNat a b).2 a) := by
  refine Tr.of (by decide +kernel) (Nat.le_of_ble_eq_true rfl) (fun K C E => ?_)
  have loop : ∀ (q : Nat) (u v i : Int), 0 ≤ v → v ≤ q → v ≤ u → u ≤ 7200 → 0 ≤ i → i ≤ k → i + v < a → cit k.toNat a b = cit (k - i).toNat u v → AW K mX0_skipTo (NC, 0, 0) 2 [vr 8, vi k, vi i] [] (chS mu u v a) := by
    intro q
    induction q with
    | zero =>
      intro u v i q0 q1 q2 q3 q4 q7 q5 q6
      have hv : v = 0 := by omega
      subst hv
      rw [cit_stop (a := u) (b := 0) (by omega)] at q6
      rw [q6] at E
      have e2 : chS mu u 0 a 8 2 = a := by rw [chS_at]; rfl
      have hb := b01_f (show ¬ (0 : Int) < 0 by omega)
      refine aw_iload_n C dX0_skipTo_2 rfl ?_
      refine aw_iload_n C dX0_skipTo_3 rfl ?_
      refine aw_icmp_ge C dX0_skipTo_4 (tgt := 33) (by decide) ⟨by omega, by omega⟩ ⟨by omega, by omega⟩ (fun c1 => ?_) (fun c1 => ?_)
      · refine aw_aload_n C dX0_skipTo_33 rfl ?_
        refine aw_call1 C dX0_skipTo_34 lX0_25 vX0_goesOn (t_X0_goesOn ⟨by omega, by omega⟩) rfl rfl rfl ⟨rfl, by decide⟩ rfl ⟨by decide, by decide⟩ (Nat.le_of_ble_eq_true rfl) ?_
        exact aw_zret C E dX0_skipTo_37 rfl (b01_01 _) ⟨rfl, rfl⟩
      · refine aw_iload_n C dX0_skipTo_7 rfl ?_
        refine aw_aload_n C dX0_skipTo_8 rfl ?_
        refine aw_getI C dX0_skipTo_9 fX0_16 ⟨rfl, by decide⟩ rfl ?_
        rw [e2]
        refine aw_icmp_ge C dX0_skipTo_12 (tgt := 33) (by decide) ⟨by omega, by omega⟩ ⟨by omega, by omega⟩ (fun c2 => ?_) (fun c2 => ?_)
        · exfalso; omega
        · refine aw_aload_n C dX0_skipTo_15 rfl ?_
          refine aw_call1 C dX0_skipTo_16 lX0_25 vX0_goesOn (t_X0_goesOn ⟨by omega, by omega⟩) rfl rfl rfl ⟨rfl, by decide⟩ rfl ⟨by decide, by decide⟩ (Nat.le_of_ble_eq_true rfl) ?_
          refine aw_if_eq C dX0_skipTo_19 (tgt := 33) (by decide) ⟨by omega, by omega⟩ (fun c3 => ?_) (fun c3 => ?_)
          · refine aw_aload_n C dX0_skipTo_33 rfl ?_
            refine aw_call1 C dX0_skipTo_34 lX0_25 vX0_goesOn (t_X0_goesOn ⟨by omega, by omega⟩) rfl rfl rfl ⟨rfl, by decide⟩ rfl ⟨by decide, by decide⟩ (Nat.le_of_ble_eq_true rfl) ?_
            exact aw_zret C E dX0_skipTo_37 rfl (b01_01 _) ⟨rfl, rfl⟩
          · exfalso; omega
    | succ q ih =>
      intro u v i q0 q1 q2 q3 q4 q7 q5 q6
      have e2 : chS mu u v a 8 2 = a := by rw [chS_at]; rfl
      by_cases hv : v ≤ 0
      · rw [cit_stop (a := u) (b := v) (by omega)] at q6
        rw [q6] at E
        have hb := b01_f (show ¬ 0 < v by omega)
        refine aw_iload_n C dX0_skipTo_2 rfl ?_
        refine aw_iload_n C dX0_skipTo_3 rfl ?_
        refine aw_icmp_ge C dX0_skipTo_4 (tgt := 33) (by decide) ⟨by omega, by omega⟩ ⟨by omega, by omega⟩ (fun c1 => ?_) (fun c1 => ?_)
        · refine aw_aload_n C dX0_skipTo_33 rfl ?_
          refine aw_call1 C dX0_skipTo_34 lX0_25 vX0_goesOn (t_X0_goesOn ⟨by omega, by omega⟩) rfl rfl rfl ⟨rfl, by decide⟩ rfl ⟨by decide, by decide⟩ (Nat.le_of_ble_eq_true rfl) ?_
          exact aw_zret C E dX0_skipTo_37 rfl (b01_01 _) ⟨rfl, rfl⟩
        · refine aw_iload_n C dX0_skipTo_7 rfl ?_
          refine aw_aload_n C dX0_skipTo_8 rfl ?_
          refine aw_getI C dX0_skipTo_9 fX0_16 ⟨rfl, by decide⟩ rfl ?_
          rw [e2]
          refine aw_icmp_ge C dX0_skipTo_12 (tgt := 33) (by decide) ⟨by omega, by omega⟩ ⟨by omega, by omega⟩ (fun c2 => ?_) (fun c2 => ?_)
          · exfalso; omega
          · refine aw_aload_n C dX0_skipTo_15 rfl ?_
            refine aw_call1 C dX0_skipTo_16 lX0_25 vX0_goesOn (t_X0_goesOn ⟨by omega, by omega⟩) rfl rfl rfl ⟨rfl, by decide⟩ rfl ⟨by decide, by decide⟩ (Nat.le_of_ble_eq_true rfl) ?_
            refine aw_if_eq C dX0_skipTo_19 (tgt := 33) (by decide) ⟨by omega, by omega⟩ (fun c3 => ?_) (fun c3 => ?_)
            · refine aw_aload_n C dX0_skipTo_33 rfl ?_
              refine aw_call1 C dX0_skipTo_34 lX0_25 vX0_goesOn (t_X0_goesOn ⟨by omega, by omega⟩) rfl rfl rfl ⟨rfl, by decide⟩ rfl ⟨by decide, by decide⟩ (Nat.le_of_ble_eq_true rfl) ?_
              exact aw_zret C E dX0_skipTo_37 rfl (b01_01 _) ⟨rfl, rfl⟩
            · exfalso; omega
      · have hb := b01_t (show 0 < v by omega)
        have hN := cN_in (a := u) (b := v) (by omega)
        refine aw_iload_n C dX0_skipTo_2 rfl ?_
        refine aw_iload_n C dX0_skipTo_3 rfl ?_
        refine aw_icmp_ge C dX0_skipTo_4 (tgt := 33) (by decide) ⟨by omega, by omega⟩ ⟨by omega, by omega⟩ (fun c1 => ?_) (fun c1 => ?_)
        · rw [show (k - i).toNat = 0 by omega] at q6
          rw [q6] at E
          --go
          refine aw_aload_n C dX0_skipTo_33 rfl ?_
          refine aw_call1 C dX0_skipTo_34 lX0_25 vX0_goesOn (t_X0_goesOn ⟨by omega, by omega⟩) rfl rfl rfl ⟨rfl, by decide⟩ rfl ⟨by decide, by decide⟩ (Nat.le_of_ble_eq_true rfl) ?_
          exact aw_zret C E dX0_skipTo_37 rfl (b01_01 _) ⟨rfl, rfl⟩
        · refine aw_iload_n C dX0_skipTo_7 rfl ?_
          refine aw_aload_n C dX0_skipTo_8 rfl ?_
          refine aw_getI C dX0_skipTo_9 fX0_16 ⟨rfl, by decide⟩ rfl ?_
          rw [e2]
          refine aw_icmp_ge C dX0_skipTo_12 (tgt := 33) (by decide) ⟨by omega, by omega⟩ ⟨by omega, by omega⟩ (fun c2 => ?_) (fun c2 => ?_)
          · exfalso; omega
          · refine aw_aload_n C dX0_skipTo_15 rfl ?_
            refine aw_call1 C dX0_skipTo_16 lX0_25 vX0_goesOn (t_X0_goesOn ⟨by omega, by omega⟩) rfl rfl rfl ⟨rfl, by decide⟩ rfl ⟨by decide, by decide⟩ (Nat.le_of_ble_eq_true rfl) ?_
            refine aw_if_eq C dX0_skipTo_19 (tgt := 33) (by decide) ⟨by omega, by omega⟩ (fun c3 => ?_) (fun c3 => ?_)
            · exfalso; omega
            · refine aw_aload_n C dX0_skipTo_22 rfl ?_
              refine aw_call1 C dX0_skipTo_23 lX0_29 vX0_step (t_X0_step (by omega) (by omega) (by omega)) rfl rfl rfl ⟨rfl, by decide⟩ rfl ⟨by decide, by decide⟩ (Nat.le_of_ble_eq_true rfl) ?_
              refine aw_pop_i C dX0_skipTo_26 ?_
              refine aw_iinc C dX0_skipTo_27 rfl ?_
              refine aw_goto C dX0_skipTo_30 (tgt := 2) (by decide) ?_
              refine ih v (cN u v) (i + 1) (by omega) (by omega) (by omega) (by omega) (by omega) (by omega) (by omega) ?_
              rw [q6, show (k - i).toNat = (k - (i + 1)).toNat + 1 by omega]
              exact if_neg hv
  refine aw_iconst C dX0_skipTo_0 ?_
  refine aw_istore_n C dX0_skipTo_1 (by decide) ?_
  exact loop b.toNat a b 0 (by omega) (by omega) (by omega) (by omega) (by omega) (by omega) (by omega) (by rw [Int.sub_zero])

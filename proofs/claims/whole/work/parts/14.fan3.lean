/-- the first of k places from i on where it holds; z without one -/
noncomputable def fst (P : Int → Prop) (z : Int) : Nat → Int → Int
  | 0, _ => z
  | k + 1, i => if b01 (P i) = 1 then i else fst P z k (i + 1)
theorem fst_t {P : Int → Prop} {z i : Int} {k : Nat} (h : P i) : fst P z (k + 1) i = i := by
  show (if b01 (P i) = 1 then i else _) = i
  rw [b01_t h]; rfl
theorem fst_f {P : Int → Prop} {z i : Int} {k : Nat} (h : ¬ P i) : fst P z (k + 1) i = fst P z k (i + 1) := by
  show (if b01 (P i) = 1 then i else _) = _
  rw [b01_f h]; rfl
theorem fst_none {P : Int → Prop} {z : Int} : ∀ (k : Nat) (i : Int), (∀ j, i ≤ j → j < i + k → ¬ P j) → fst P z k i = z
  | 0, _, _ => rfl
  | k + 1, i, h => by
    rw [fst_f (h i (by omega) (by omega))]
    exact fst_none k (i + 1) (fun j h1 h2 => h j (by omega) (by omega))
theorem fst_some {P : Int → Prop} {z : Int} : ∀ (k : Nat) (i j : Int), i ≤ j → j < i + k → P j → (∀ q, i ≤ q → q < j → ¬ P q) → fst P z k i = j
  | 0, i, j, h1, h2, _, _ => by omega
  | k + 1, i, j, h1, h2, h3, h4 => by
    rcases Int.lt_or_eq_of_le h1 with q | q
    · rw [fst_f (h4 i (by omega) q)]
      exact fst_some k (i + 1) j (by omega) (by omega) h3 (fun q q1 q2 => h4 q (by omega) q2)
    · subst q; exact fst_t h3
def bit1 (a i : Int) : Int := (Int32.ofInt a ||| Int32.ofInt (Int32.ofInt 1 <<< (Int32.ofInt i &&& 31)).toInt).toInt
def bit0 (a : Int) : Int := (Int32.ofInt a ||| Int32.ofInt 0).toInt
noncomputable def bts (P : Int → Prop) : Nat → Int := fld (fun a j => if b01 (P j) = 1 then bit1 a j else bit0 a) 0
def whS (V : FV) : Int := fld (fun a j => a + (if trn V j = 1 then 1 else 0)) 0 V.1.toNat
def gtS (V : FV) : Int := fld (fun a j => max a (trn V j)) 0 V.1.toNat
def ixS (V : FV) : Int := fld (fun a i => fld (fun b j => (Int.gcd b (crs V i j) : Int)) a i.toNat) 0 V.1.toNat
def msr (V : FV) : Nat → Int → Int → Int
  | 0, _, v => v
  | k + 1, i, v => if v.tdiv (Int.gcd v (trn V i)) * trn V i > 1000000 then -1 else msr V k (i + 1) (v.tdiv (Int.gcd v (trn V i)) * trn V i)
def meas (V : FV) : Int := msr V V.1.toNat 0 1
def cin (V : FV) (x y : Int) (i : Int) : Prop := gx V i * y - gy V i * x ≥ 0 ∧ x * gy V (nxt V i) - y * gx V (nxt V i) > 0
noncomputable def cof (V : FV) (x y : Int) : Int := fst (cin V x y) 0 V.1.toNat 0
theorem t_X1_wholeCones {f : Nat} {mu : Mem} (hf : isF f) (hV : bV (fv mu f)) : TrE 3 mX1_wholeCones [vr f] mu (some (vi (whS (fv mu f)))) mu := by
  refine Tr.of (by decide +kernel) (Nat.le_of_ble_eq_true rfl) (fun K C E => ?_)
  have hn := hV.n
  have loop : ∀ (k : Nat) (i a : Int), 0 ≤ i → i + k = mu f 0 → a = fld (fun a j => a + (if trn (fv mu f) j = 1 then 1 else 0)) 0 i.toNat → AW K mX1_wholeCones (NC, 0, 0) 4 [vr f, vi a, vi i] [] mu := by
    intro k
    induction k with
    | zero =>
      intro i a h0 h1 h2
      have e : i = mu f 0 := by omega
      subst e
      refine aw_iload_n C dX1_wholeCones_4 rfl ?_
      refine aw_aload_n C dX1_wholeCones_5 rfl ?_
      refine aw_getI C dX1_wholeCones_6 fX1_21 hf.s0 rfl ?_
      refine aw_icmp_ge C dX1_wholeCones_9 (tgt := 35) (by decide) ⟨by omega, by omega⟩ ⟨by omega, by omega⟩ (fun c1 => ?_) (fun c1 => ?_)
      · refine aw_iload_n C dX1_wholeCones_35 rfl ?_
        exact aw_iret C E dX1_wholeCones_36 rfl ⟨by rw [h2]; rfl, rfl⟩
      · exfalso; omega
    | succ k ih =>
      intro i a h0 h1 h2
      have ht := hV.trn i
      refine aw_iload_n C dX1_wholeCones_4 rfl ?_
      refine aw_aload_n C dX1_wholeCones_5 rfl ?_
      refine aw_getI C dX1_wholeCones_6 fX1_21 hf.s0 rfl ?_
      refine aw_icmp_ge C dX1_wholeCones_9 (tgt := 35) (by decide) ⟨by omega, by omega⟩ ⟨by omega, by omega⟩ (fun c1 => ?_) (fun c1 => ?_)
      · exfalso; omega
      · refine aw_iload_n C dX1_wholeCones_12 rfl ?_
        refine aw_aload_n C dX1_wholeCones_13 rfl ?_
        refine aw_iload_n C dX1_wholeCones_14 rfl ?_
        refine aw_call1 C dX1_wholeCones_15 lX1_55 vX1_turn (t_X1_turn hf hV (by omega) (by omega)) rfl rfl rfl hf.s0 rfl ⟨by decide, by decide⟩ (Nat.le_of_ble_eq_true rfl) ?_
        refine aw_iconst C dX1_wholeCones_18 ?_
        refine aw_icmp_ne C dX1_wholeCones_19 (tgt := 26) (by decide) ⟨by omega, by omega⟩ ⟨by omega, by omega⟩ (fun c2 => ?_) (fun c2 => ?_)
        · refine aw_iconst C dX1_wholeCones_26 ?_
          refine aw_iadd C dX1_wholeCones_27 ?_
          refine aw_istore_n C dX1_wholeCones_28 (by decide) ?_
          refine aw_iinc C dX1_wholeCones_29 rfl ?_
          refine aw_goto C dX1_wholeCones_32 (tgt := 4) (by decide) ?_
          exact ih (i + 1) _ (by omega) (by omega) (by rw [fld_s h0, ← h2]; first | rw [if_pos (by omega)] | rw [if_neg (by omega)])
        · refine aw_iconst C dX1_wholeCones_22 ?_
          refine aw_goto C dX1_wholeCones_23 (tgt := 27) (by decide) ?_
          refine aw_iadd C dX1_wholeCones_27 ?_
          refine aw_istore_n C dX1_wholeCones_28 (by decide) ?_
          refine aw_iinc C dX1_wholeCones_29 rfl ?_
          refine aw_goto C dX1_wholeCones_32 (tgt := 4) (by decide) ?_
          exact ih (i + 1) _ (by omega) (by omega) (by rw [fld_s h0, ← h2]; first | rw [if_pos (by omega)] | rw [if_neg (by omega)])
  refine aw_iconst C dX1_wholeCones_0 ?_
  refine aw_istore_n C dX1_wholeCones_1 (by decide) ?_
  refine aw_iconst C dX1_wholeCones_2 ?_
  refine aw_istore_n C dX1_wholeCones_3 (by decide) ?_
  exact loop (mu f 0).toNat 0 0 (by omega) (by omega) rfl
theorem t_X1_greatestTurn {f : Nat} {mu : Mem} (hf : isF f) (hV : bV (fv mu f)) : TrE 3 mX1_greatestTurn [vr f] mu (some (vi (gtS (fv mu f)))) mu := by
  refine Tr.of (by decide +kernel) (Nat.le_of_ble_eq_true rfl) (fun K C E => ?_)
  have hn := hV.n
  have loop : ∀ (k : Nat) (i a : Int), 0 ≤ i → i + k = mu f 0 → 0 ≤ a ∧ a ≤ 7200 → a = fld (fun a j => max a (trn (fv mu f) j)) 0 i.toNat → AW K mX1_greatestTurn (NC, 0, 0) 4 [vr f, vi a, vi i] [] mu := by
    intro k
    induction k with
    | zero =>
      intro i a h0 h1 h3 h2
      have e : i = mu f 0 := by omega
      subst e
      refine aw_iload_n C dX1_greatestTurn_4 rfl ?_
      refine aw_aload_n C dX1_greatestTurn_5 rfl ?_
      refine aw_getI C dX1_greatestTurn_6 fX1_21 hf.s0 rfl ?_
      refine aw_icmp_ge C dX1_greatestTurn_9 (tgt := 28) (by decide) ⟨by omega, by omega⟩ ⟨by omega, by omega⟩ (fun c1 => ?_) (fun c1 => ?_)
      · refine aw_iload_n C dX1_greatestTurn_28 rfl ?_
        exact aw_iret C E dX1_greatestTurn_29 rfl ⟨by rw [h2]; rfl, rfl⟩
      · exfalso; omega
    | succ k ih =>
      intro i a h0 h1 h3 h2
      have ht := hV.trn i
      refine aw_iload_n C dX1_greatestTurn_4 rfl ?_
      refine aw_aload_n C dX1_greatestTurn_5 rfl ?_
      refine aw_getI C dX1_greatestTurn_6 fX1_21 hf.s0 rfl ?_
      refine aw_icmp_ge C dX1_greatestTurn_9 (tgt := 28) (by decide) ⟨by omega, by omega⟩ ⟨by omega, by omega⟩ (fun c1 => ?_) (fun c1 => ?_)
      · exfalso; omega
      · refine aw_iload_n C dX1_greatestTurn_12 rfl ?_
        refine aw_aload_n C dX1_greatestTurn_13 rfl ?_
        refine aw_iload_n C dX1_greatestTurn_14 rfl ?_
        refine aw_call1 C dX1_greatestTurn_15 lX1_55 vX1_turn (t_X1_turn hf hV (by omega) (by omega)) rfl rfl rfl hf.s0 rfl ⟨by decide, by decide⟩ (Nat.le_of_ble_eq_true rfl) ?_
        refine aw_callS1 C dX1_greatestTurn_18 lX1_86 vJ9_max_7cf53 (t_J9_max_7cf53 ⟨by omega, by omega⟩ ⟨by omega, by omega⟩) rfl rfl rfl ⟨by decide, by decide⟩ (Nat.le_of_ble_eq_true rfl) ?_
        refine aw_istore_n C dX1_greatestTurn_21 (by decide) ?_
        refine aw_iinc C dX1_greatestTurn_22 rfl ?_
        refine aw_goto C dX1_greatestTurn_25 (tgt := 4) (by decide) ?_
        exact ih (i + 1) _ (by omega) (by omega) (by omega) (by rw [fld_s h0, ← h2])
  refine aw_iconst C dX1_greatestTurn_0 ?_
  refine aw_istore_n C dX1_greatestTurn_1 (by decide) ?_
  refine aw_iconst C dX1_greatestTurn_2 ?_
  refine aw_istore_n C dX1_greatestTurn_3 (by decide) ?_
  exact loop (mu f 0).toNat 0 0 (by omega) (by omega) (by omega) rfl
theorem gcd_b {a b : Int} (ha : 0 ≤ a ∧ a ≤ 7200) (hb : -7200 ≤ b ∧ b ≤ 7200) : 0 ≤ (Int.gcd a b : Int) ∧ (Int.gcd a b : Int) ≤ 7200 := by
  refine ⟨by omega, ?_⟩
  by_cases h : a = 0
  · subst h; rw [Int.gcd_zero_left]; omega
  · have := Nat.le_of_dvd (by omega) (Int.gcd_dvd_natAbs_left a b)
    omega
theorem t_X1_index {f : Nat} {mu : Mem} (hf : isF f) (hV : bV (fv mu f)) : TrE 3 mX1_index [vr f] mu (some (vi (ixS (fv mu f)))) mu := by
  refine Tr.of (by decide +kernel) (Nat.le_of_ble_eq_true rfl) (fun K C E => ?_)
  have hn := hV.n
  have loop : ∀ (k : Nat) (i a : Int) (v4 : Vv), 0 ≤ i → i + k = mu f 0 → 0 ≤ a ∧ a ≤ 7200 → a = fld (fun a i => fld (fun b j => (Int.gcd b (crs (fv mu f) i j) : Int)) a i.toNat) 0 i.toNat → AW K mX1_index (NC, 0, 0) 4 [vr f, vl a, vx, vi i, v4] [] mu := by
    intro k
    induction k with
    | zero =>
      intro i a v4 h0 h1 h3 h2
      have e : i = mu f 0 := by omega
      subst e
      refine aw_iload_n C dX1_index_4 rfl ?_
      refine aw_aload_n C dX1_index_5 rfl ?_
      refine aw_getI C dX1_index_6 fX1_21 hf.s0 rfl ?_
      refine aw_icmp_ge C dX1_index_9 (tgt := 46) (by decide) ⟨by omega, by omega⟩ ⟨by omega, by omega⟩ (fun c1 => ?_) (fun c1 => ?_)
      · refine aw_lload_n C dX1_index_46 rfl ?_
        refine aw_l2i C dX1_index_47 ?_
        exact aw_iret C E dX1_index_48 rfl ⟨by rw [h2]; rfl, rfl⟩
      · exfalso; omega
    | succ k ih =>
      intro i a v4 h0 h1 h3 h2
      have inner : ∀ (q : Nat) (j b : Int), 0 ≤ j → j + q = i → 0 ≤ b ∧ b ≤ 7200 → b = fld (fun b j => (Int.gcd b (crs (fv mu f) i j) : Int)) a j.toNat → AW K mX1_index (NC, 0, 0) 15 [vr f, vl b, vx, vi i, vi j] [] mu := by
        intro q
        induction q with
        | zero =>
          intro j b q0 q1 q3 q2
          have e : j = i := by omega
          subst e
          refine aw_iload C dX1_index_15 rfl ?_
          refine aw_iload_n C dX1_index_17 rfl ?_
          refine aw_icmp_ge C dX1_index_18 (tgt := 40) (by decide) ⟨by omega, by omega⟩ ⟨by omega, by omega⟩ (fun c1 => ?_) (fun c1 => ?_)
          · refine aw_iinc C dX1_index_40 rfl ?_
            refine aw_goto C dX1_index_43 (tgt := 4) (by decide) ?_
            exact ih (j + 1) _ _ (by omega) (by omega) q3 (by rw [fld_s h0, ← h2, q2])
          · exfalso; omega
        | succ q ihq =>
          intro j b q0 q1 q3 q2
          have hc := hV.crs i j
          refine aw_iload C dX1_index_15 rfl ?_
          refine aw_iload_n C dX1_index_17 rfl ?_
          refine aw_icmp_ge C dX1_index_18 (tgt := 40) (by decide) ⟨by omega, by omega⟩ ⟨by omega, by omega⟩ (fun c1 => ?_) (fun c1 => ?_)
          · exfalso; omega
          · refine aw_lload_n C dX1_index_21 rfl ?_
            refine aw_aload_n C dX1_index_22 rfl ?_
            refine aw_iload_n C dX1_index_23 rfl ?_
            refine aw_iload C dX1_index_24 rfl ?_
            refine aw_call1 C dX1_index_26 lX1_62 vX1_turnBetween (t_X1_turnBetween hf hV (by omega) (by omega) (by omega) (by omega)) rfl rfl rfl hf.s0 rfl ⟨by decide, by decide⟩ (Nat.le_of_ble_eq_true rfl) ?_
            refine aw_i2l C dX1_index_29 ⟨by omega, by omega⟩ ?_
            refine aw_callS1 C dX1_index_30 lX1_91 vX4_common (t_X4_common ⟨by omega, by omega⟩ ⟨by omega, by omega⟩) rfl rfl rfl ⟨by decide, by decide⟩ (Nat.le_of_ble_eq_true rfl) ?_
            refine aw_lstore_n C dX1_index_33 (by decide) ?_
            refine aw_iinc C dX1_index_34 rfl ?_
            refine aw_goto C dX1_index_37 (tgt := 15) (by decide) ?_
            exact ihq (j + 1) _ (by omega) (by omega) (gcd_b q3 hc) (by rw [fld_s q0, ← q2])
      refine aw_iload_n C dX1_index_4 rfl ?_
      refine aw_aload_n C dX1_index_5 rfl ?_
      refine aw_getI C dX1_index_6 fX1_21 hf.s0 rfl ?_
      refine aw_icmp_ge C dX1_index_9 (tgt := 46) (by decide) ⟨by omega, by omega⟩ ⟨by omega, by omega⟩ (fun c1 => ?_) (fun c1 => ?_)
      · exfalso; omega
      · refine aw_iconst C dX1_index_12 ?_
        refine aw_istore C dX1_index_13 (by decide) ?_
        exact inner i.toNat 0 a (by omega) (by omega) h3 rfl
  refine aw_lconst C dX1_index_0 (v := 0) rfl ?_
  refine aw_lstore_n C dX1_index_1 (by decide) ?_
  refine aw_iconst C dX1_index_2 ?_
  refine aw_istore_n C dX1_index_3 (by decide) ?_
  exact loop (mu f 0).toNat 0 0 _ (by omega) (by omega) (by omega) rfl
theorem tdiv_pos_b {v g : Int} (hv : 0 ≤ v) (hg : 0 ≤ g) : 0 ≤ v.tdiv g ∧ v.tdiv g ≤ v := by
  rw [Int.tdiv_eq_ediv_of_nonneg hv]
  exact ⟨Int.ediv_nonneg hv hg, Int.ediv_le_self g hv⟩
theorem t_X1_commonTurn {f : Nat} {mu : Mem} (hf : isF f) (hV : bV (fv mu f)) (hc : clo (fv mu f)) : TrE 3 mX1_commonTurn [vr f] mu (some (vl (meas (fv mu f)))) mu := by
  refine Tr.of (by decide +kernel) (Nat.le_of_ble_eq_true rfl) (fun K C E => ?_)
  have hn := hV.n
  have loop : ∀ (k : Nat) (i v : Int) (v4 v5 : Vv), 0 ≤ i → i + k = mu f 0 → 0 ≤ v ∧ v ≤ 1000000 → meas (fv mu f) = msr (fv mu f) k i v → AW K mX1_commonTurn (NC, 0, 0) 4 [vr f, vl v, vx, vi i, v4, v5] [] mu := by
    intro k
    induction k with
    | zero =>
      intro i v v4 v5 h0 h1 h3 h2
      refine aw_iload_n C dX1_commonTurn_4 rfl ?_
      refine aw_aload_n C dX1_commonTurn_5 rfl ?_
      refine aw_getI C dX1_commonTurn_6 fX1_21 hf.s0 rfl ?_
      refine aw_icmp_ge C dX1_commonTurn_9 (tgt := 52) (by decide) ⟨by omega, by omega⟩ ⟨by omega, by omega⟩ (fun c1 => ?_) (fun c1 => ?_)
      · refine aw_lload_n C dX1_commonTurn_52 rfl ?_
        exact aw_lret C E dX1_commonTurn_53 rfl ⟨by rw [h2]; rfl, rfl⟩
      · exfalso; omega
    | succ k ih =>
      intro i v v4 v5 h0 h1 h3 h2
      have ht := hV.trn i
      have ht2 := hc.2 i h0 (show i < mu f 0 by omega)
      have hg : 0 ≤ (Int.gcd v (trn (fv mu f) i) : Int) ∧ (Int.gcd v (trn (fv mu f) i) : Int) ≤ 7200 := by
        refine ⟨by omega, ?_⟩
        have := Nat.le_of_dvd (by omega) (Int.gcd_dvd_natAbs_right v (trn (fv mu f) i))
        omega
      have hq := tdiv_pos_b h3.1 hg.1
      have hm := mulb (a := v.tdiv (Int.gcd v (trn (fv mu f) i))) (b := trn (fv mu f) i) (A := 1000000) (B := 7200) ⟨by omega, by omega⟩ ⟨by omega, by omega⟩
      have hp : 0 ≤ v.tdiv (Int.gcd v (trn (fv mu f) i)) * trn (fv mu f) i := Int.mul_nonneg hq.1 (by omega)
      rw [show msr (fv mu f) (k + 1) i v = if v.tdiv (Int.gcd v (trn (fv mu f) i)) * trn (fv mu f) i > 1000000 then -1 else msr (fv mu f) k (i + 1) (v.tdiv (Int.gcd v (trn (fv mu f) i)) * trn (fv mu f) i) from rfl] at h2
      refine aw_iload_n C dX1_commonTurn_4 rfl ?_
      refine aw_aload_n C dX1_commonTurn_5 rfl ?_
      refine aw_getI C dX1_commonTurn_6 fX1_21 hf.s0 rfl ?_
      refine aw_icmp_ge C dX1_commonTurn_9 (tgt := 52) (by decide) ⟨by omega, by omega⟩ ⟨by omega, by omega⟩ (fun c1 => ?_) (fun c1 => ?_)
      · exfalso; omega
      · refine aw_aload_n C dX1_commonTurn_12 rfl ?_
        refine aw_iload_n C dX1_commonTurn_13 rfl ?_
        refine aw_call1 C dX1_commonTurn_14 lX1_55 vX1_turn (t_X1_turn hf hV (by omega) (by omega)) rfl rfl rfl hf.s0 rfl ⟨by decide, by decide⟩ (Nat.le_of_ble_eq_true rfl) ?_
        refine aw_i2l C dX1_commonTurn_17 ⟨by omega, by omega⟩ ?_
        refine aw_lstore C dX1_commonTurn_18 (by decide) ?_
        refine aw_lload_n C dX1_commonTurn_20 rfl ?_
        refine aw_lload_n C dX1_commonTurn_21 rfl ?_
        refine aw_lload C dX1_commonTurn_22 rfl ?_
        refine aw_callS1 C dX1_commonTurn_24 lX1_91 vX4_common (t_X4_common ⟨by omega, by omega⟩ ⟨by omega, by omega⟩) rfl rfl rfl ⟨by decide, by decide⟩ (Nat.le_of_ble_eq_true rfl) ?_
        refine aw_callS1 C dX1_commonTurn_27 lX1_79 vX4_by (t_X4_by ⟨by omega, by omega⟩ ⟨by omega, by omega⟩) rfl rfl rfl ⟨by decide, by decide⟩ (Nat.le_of_ble_eq_true rfl) ?_
        refine aw_lload C dX1_commonTurn_30 rfl ?_
        refine aw_lmul C dX1_commonTurn_32 ?_
        refine aw_lstore_n C dX1_commonTurn_33 (by decide) ?_
        refine aw_lload_n C dX1_commonTurn_34 rfl ?_
        refine aw_ldc2 C dX1_commonTurn_35 kX1_94 (z := 1000000) (by decide +kernel) ?_
        refine aw_lcmp_le C dX1_commonTurn_38 dX1_commonTurn_39 (tgt := 46) (by decide) ⟨by omega, by omega⟩ ⟨by omega, by omega⟩ (fun c2 => ?_) (fun c2 => ?_)
        · refine aw_iinc C dX1_commonTurn_46 rfl ?_
          refine aw_goto C dX1_commonTurn_49 (tgt := 4) (by decide) ?_
          exact ih (i + 1) _ _ _ (by omega) (by omega) (by omega) (by rw [h2, if_neg (by omega)])
        · refine aw_ldc2 C dX1_commonTurn_42 kX1_96 (z := -1) (by decide +kernel) ?_
          exact aw_lret C E dX1_commonTurn_45 rfl ⟨by rw [h2, if_pos (by omega)], rfl⟩
  refine aw_lconst C dX1_commonTurn_0 (v := 1) rfl ?_
  refine aw_lstore_n C dX1_commonTurn_1 (by decide) ?_
  refine aw_iconst C dX1_commonTurn_2 ?_
  refine aw_istore_n C dX1_commonTurn_3 (by decide) ?_
  exact loop (mu f 0).toNat 0 1 _ _ (by omega) (by omega) (by omega) rfl
theorem t_X1_canGo {f : Nat} {mu : Mem} {i : Int} (hf : isF f) (hV : bV (fv mu f)) (h0 : 0 ≤ i) (h1 : i < mu f 0) : TrE 3 mX1_canGo [vr f, vi i] mu (some (vi (b01 (cgo (fv mu f) i)))) mu := by
  refine Tr.of (by decide +kernel) (Nat.le_of_ble_eq_true rfl) (fun K C E => ?_)
  have hn := hV.n
  have ha := hV.arn i
  refine aw_aload_n C dX1_canGo_0 rfl ?_
  refine aw_getI C dX1_canGo_1 fX1_21 hf.s0 rfl ?_
  refine aw_iconst C dX1_canGo_4 ?_
  refine aw_icmp_le C dX1_canGo_5 (tgt := 20) (by decide) ⟨by omega, by omega⟩ ⟨by omega, by omega⟩ (fun c1 => ?_) (fun c1 => ?_)
  · refine aw_iconst C dX1_canGo_20 ?_
    exact aw_zret C E dX1_canGo_21 rfl (by omega) ⟨by first | rw [b01_t ⟨show 3 < mu f 0 by omega, by omega⟩] | rw [b01_f (fun q => by have q1 : 3 < mu f 0 := q.1; have q2 := q.2; omega)], rfl⟩
  · refine aw_aload_n C dX1_canGo_8 rfl ?_
    refine aw_iload_n C dX1_canGo_9 rfl ?_
    refine aw_call1 C dX1_canGo_10 lX1_98 vX1_turnAround (t_X1_turnAround hf hV (by omega) (by omega)) rfl rfl rfl hf.s0 rfl ⟨by decide, by decide⟩ (Nat.le_of_ble_eq_true rfl) ?_
    refine aw_if_le C dX1_canGo_13 (tgt := 20) (by decide) ⟨by omega, by omega⟩ (fun c2 => ?_) (fun c2 => ?_)
    · refine aw_iconst C dX1_canGo_20 ?_
      exact aw_zret C E dX1_canGo_21 rfl (by omega) ⟨by first | rw [b01_t ⟨show 3 < mu f 0 by omega, by omega⟩] | rw [b01_f (fun q => by have q1 : 3 < mu f 0 := q.1; have q2 := q.2; omega)], rfl⟩
    · refine aw_iconst C dX1_canGo_16 ?_
      refine aw_goto C dX1_canGo_17 (tgt := 21) (by decide) ?_
      exact aw_zret C E dX1_canGo_21 rfl (by omega) ⟨by first | rw [b01_t ⟨show 3 < mu f 0 by omega, by omega⟩] | rw [b01_f (fun q => by have q1 : 3 < mu f 0 := q.1; have q2 := q.2; omega)], rfl⟩
theorem t_X1_isLight {f : Nat} {mu : Mem} {i : Int} (hf : isF f) (hV : bV (fv mu f)) (h0 : 0 ≤ i) (h1 : i < mu f 0) : TrE 4 mX1_isLight [vr f, vi i] mu (some (vi (b01 (lit (fv mu f) i)))) mu := by
  refine Tr.of (by decide +kernel) (Nat.le_of_ble_eq_true rfl) (fun K C E => ?_)
  have hn := hV.n
  obtain ⟨a1, a2⟩ : 0 ≤ nxt (fv mu f) i ∧ nxt (fv mu f) i < mu f 0 := nxt_in h0 h1
  obtain ⟨a3, a4⟩ : 0 ≤ prv (fv mu f) i ∧ prv (fv mu f) i < mu f 0 := prv_in h0 h1
  have x1 := hV.x i
  have x2 := hV.x (nxt (fv mu f) i)
  have x3 := hV.x (prv (fv mu f) i)
  have y1 := hV.y i
  have y2 := hV.y (nxt (fv mu f) i)
  have y3 := hV.y (prv (fv mu f) i)
  have hb := b01_01 (cgo (fv mu f) i)
  refine aw_aload_n C dX1_isLight_0 rfl ?_
  refine aw_iload_n C dX1_isLight_1 rfl ?_
  refine aw_call1 C dX1_isLight_2 lX1_71 vX1_ahead (t_X1_ahead hf hV (by omega) (by omega)) rfl rfl rfl hf.s0 rfl ⟨by decide, by decide⟩ (Nat.le_of_ble_eq_true rfl) ?_
  refine aw_istore_n C dX1_isLight_5 (by decide) ?_
  refine aw_aload_n C dX1_isLight_6 rfl ?_
  refine aw_iload_n C dX1_isLight_7 rfl ?_
  refine aw_call1 C dX1_isLight_8 lX1_59 vX1_behind (t_X1_behind hf hV (by omega) (by omega)) rfl rfl rfl hf.s0 rfl ⟨by decide, by decide⟩ (Nat.le_of_ble_eq_true rfl) ?_
  refine aw_istore_n C dX1_isLight_11 (by decide) ?_
  refine aw_aload_n C dX1_isLight_12 rfl ?_
  refine aw_iload_n C dX1_isLight_13 rfl ?_
  refine aw_call1 C dX1_isLight_14 lX1_101 vX1_canGo (t_X1_canGo hf hV (by omega) (by omega)) rfl rfl rfl hf.s0 rfl ⟨by decide, by decide⟩ (Nat.le_of_ble_eq_true rfl) ?_
  refine aw_if_eq C dX1_isLight_17 (tgt := 62) (by decide) ⟨by omega, by omega⟩ (fun c1 => ?_) (fun c1 => ?_)
  · have hr : b01 (lit (fv mu f) i) = 0 := b01_f (fun q => b01_niff.mp c1 q.1)
    --go
    refine aw_iconst C dX1_isLight_62 ?_
    exact aw_zret C E dX1_isLight_63 rfl (by omega) ⟨by rw [hr], rfl⟩
  · refine aw_aload_n C dX1_isLight_20 rfl ?_
    refine aw_iload_n C dX1_isLight_21 rfl ?_
    refine aw_call1 C dX1_isLight_22 lX1_65 vX1_x (t_X1_x hf hV (by omega) (by omega)) rfl rfl rfl hf.s0 rfl ⟨by decide, by decide⟩ (Nat.le_of_ble_eq_true rfl) ?_
    refine aw_aload_n C dX1_isLight_25 rfl ?_
    refine aw_iload_n C dX1_isLight_26 rfl ?_
    refine aw_call1 C dX1_isLight_27 lX1_65 vX1_x (t_X1_x hf hV (by omega) (by omega)) rfl rfl rfl hf.s0 rfl ⟨by decide, by decide⟩ (Nat.le_of_ble_eq_true rfl) ?_
    refine aw_aload_n C dX1_isLight_30 rfl ?_
    refine aw_iload_n C dX1_isLight_31 rfl ?_
    refine aw_call1 C dX1_isLight_32 lX1_65 vX1_x (t_X1_x hf hV (by omega) (by omega)) rfl rfl rfl hf.s0 rfl ⟨by decide, by decide⟩ (Nat.le_of_ble_eq_true rfl) ?_
    refine aw_iadd C dX1_isLight_35 ?_
    refine aw_icmp_ne C dX1_isLight_36 (tgt := 62) (by decide) ⟨by omega, by omega⟩ ⟨by omega, by omega⟩ (fun c2 => ?_) (fun c2 => ?_)
    · have hr : b01 (lit (fv mu f) i) = 0 := b01_f (fun q => c2 q.2.1)
      --go
      refine aw_iconst C dX1_isLight_62 ?_
      exact aw_zret C E dX1_isLight_63 rfl (by omega) ⟨by rw [hr], rfl⟩
    · refine aw_aload_n C dX1_isLight_39 rfl ?_
      refine aw_iload_n C dX1_isLight_40 rfl ?_
      refine aw_call1 C dX1_isLight_41 lX1_68 vX1_y (t_X1_y hf hV (by omega) (by omega)) rfl rfl rfl hf.s0 rfl ⟨by decide, by decide⟩ (Nat.le_of_ble_eq_true rfl) ?_
      refine aw_aload_n C dX1_isLight_44 rfl ?_
      refine aw_iload_n C dX1_isLight_45 rfl ?_
      refine aw_call1 C dX1_isLight_46 lX1_68 vX1_y (t_X1_y hf hV (by omega) (by omega)) rfl rfl rfl hf.s0 rfl ⟨by decide, by decide⟩ (Nat.le_of_ble_eq_true rfl) ?_
      refine aw_aload_n C dX1_isLight_49 rfl ?_
      refine aw_iload_n C dX1_isLight_50 rfl ?_
      refine aw_call1 C dX1_isLight_51 lX1_68 vX1_y (t_X1_y hf hV (by omega) (by omega)) rfl rfl rfl hf.s0 rfl ⟨by decide, by decide⟩ (Nat.le_of_ble_eq_true rfl) ?_
      refine aw_iadd C dX1_isLight_54 ?_
      refine aw_icmp_ne C dX1_isLight_55 (tgt := 62) (by decide) ⟨by omega, by omega⟩ ⟨by omega, by omega⟩ (fun c3 => ?_) (fun c3 => ?_)
      · have hr : b01 (lit (fv mu f) i) = 0 := b01_f (fun q => c3 q.2.2)
        --go
        refine aw_iconst C dX1_isLight_62 ?_
        exact aw_zret C E dX1_isLight_63 rfl (by omega) ⟨by rw [hr], rfl⟩
      · have hr : b01 (lit (fv mu f) i) = 1 := b01_t ⟨b01_iff.mp (by omega), c2, c3⟩
        --go
        refine aw_iconst C dX1_isLight_58 ?_
        refine aw_goto C dX1_isLight_59 (tgt := 63) (by decide) ?_
        exact aw_zret C E dX1_isLight_63 rfl (by omega) ⟨by rw [hr], rfl⟩
theorem t_X1_goers {f : Nat} {mu : Mem} (hf : isF f) (hV : bV (fv mu f)) : TrE 4 mX1_goers [vr f] mu (some (vi (bts (cgo (fv mu f)) (mu f 0).toNat))) mu := by
  refine Tr.of (by decide +kernel) (Nat.le_of_ble_eq_true rfl) (fun K C E => ?_)
  have hn := hV.n
  have loop : ∀ (k : Nat) (i a : Int), 0 ≤ i → i + k = mu f 0 → a = bts (cgo (fv mu f)) i.toNat → AW K mX1_goers (NC, 0, 0) 4 [vr f, vi a, vi i] [] mu := by
    intro k
    induction k with
    | zero =>
      intro i a h0 h1 h2
      have e : i = mu f 0 := by omega
      subst e
      refine aw_iload_n C dX1_goers_4 rfl ?_
      refine aw_aload_n C dX1_goers_5 rfl ?_
      refine aw_getI C dX1_goers_6 fX1_21 hf.s0 rfl ?_
      refine aw_icmp_ge C dX1_goers_9 (tgt := 36) (by decide) ⟨by omega, by omega⟩ ⟨by omega, by omega⟩ (fun c1 => ?_) (fun c1 => ?_)
      · refine aw_iload_n C dX1_goers_36 rfl ?_
        exact aw_iret C E dX1_goers_37 rfl ⟨by rw [h2], rfl⟩
      · exfalso; omega
    | succ k ih =>
      intro i a h0 h1 h2
      have hb := b01_01 (cgo (fv mu f) i)
      refine aw_iload_n C dX1_goers_4 rfl ?_
      refine aw_aload_n C dX1_goers_5 rfl ?_
      refine aw_getI C dX1_goers_6 fX1_21 hf.s0 rfl ?_
      refine aw_icmp_ge C dX1_goers_9 (tgt := 36) (by decide) ⟨by omega, by omega⟩ ⟨by omega, by omega⟩ (fun c1 => ?_) (fun c1 => ?_)
      · exfalso; omega
      · refine aw_iload_n C dX1_goers_12 rfl ?_
        refine aw_aload_n C dX1_goers_13 rfl ?_
        refine aw_iload_n C dX1_goers_14 rfl ?_
        refine aw_call1 C dX1_goers_15 lX1_101 vX1_canGo (t_X1_canGo hf hV (by omega) (by omega)) rfl rfl rfl hf.s0 rfl ⟨by decide, by decide⟩ (Nat.le_of_ble_eq_true rfl) ?_
        refine aw_if_eq C dX1_goers_18 (tgt := 27) (by decide) ⟨by omega, by omega⟩ (fun c2 => ?_) (fun c2 => ?_)
        · refine aw_iconst C dX1_goers_27 ?_
          refine aw_ior C dX1_goers_28 ?_
          refine aw_istore_n C dX1_goers_29 (by decide) ?_
          refine aw_iinc C dX1_goers_30 rfl ?_
          refine aw_goto C dX1_goers_33 (tgt := 4) (by decide) ?_
          exact ih (i + 1) _ (by omega) (by omega) (by unfold bts; rw [fld_s h0]; unfold bts at h2; rw [← h2]; first | rw [if_pos (by omega)]; rfl | rw [if_neg (by omega)]; rfl)
        · refine aw_iconst C dX1_goers_21 ?_
          refine aw_iload_n C dX1_goers_22 rfl ?_
          refine aw_ishl C dX1_goers_23 ?_
          refine aw_goto C dX1_goers_24 (tgt := 28) (by decide) ?_
          refine aw_ior C dX1_goers_28 ?_
          refine aw_istore_n C dX1_goers_29 (by decide) ?_
          refine aw_iinc C dX1_goers_30 rfl ?_
          refine aw_goto C dX1_goers_33 (tgt := 4) (by decide) ?_
          exact ih (i + 1) _ (by omega) (by omega) (by unfold bts; rw [fld_s h0]; unfold bts at h2; rw [← h2]; first | rw [if_pos (by omega)]; rfl | rw [if_neg (by omega)]; rfl)
  refine aw_iconst C dX1_goers_0 ?_
  refine aw_istore_n C dX1_goers_1 (by decide) ?_
  refine aw_iconst C dX1_goers_2 ?_
  refine aw_istore_n C dX1_goers_3 (by decide) ?_
  exact loop (mu f 0).toNat 0 0 (by omega) (by omega) rfl
theorem t_X1_lights {f : Nat} {mu : Mem} (hf : isF f) (hV : bV (fv mu f)) : TrE 5 mX1_lights [vr f] mu (some (vi (bts (lit (fv mu f)) (mu f 0).toNat))) mu := by
  refine Tr.of (by decide +kernel) (Nat.le_of_ble_eq_true rfl) (fun K C E => ?_)
  have hn := hV.n
  have loop : ∀ (k : Nat) (i a : Int), 0 ≤ i → i + k = mu f 0 → a = bts (lit (fv mu f)) i.toNat → AW K mX1_lights (NC, 0, 0) 4 [vr f, vi a, vi i] [] mu := by
    intro k
    induction k with
    | zero =>
      intro i a h0 h1 h2
      have e : i = mu f 0 := by omega
      subst e
      refine aw_iload_n C dX1_lights_4 rfl ?_
      refine aw_aload_n C dX1_lights_5 rfl ?_
      refine aw_getI C dX1_lights_6 fX1_21 hf.s0 rfl ?_
      refine aw_icmp_ge C dX1_lights_9 (tgt := 36) (by decide) ⟨by omega, by omega⟩ ⟨by omega, by omega⟩ (fun c1 => ?_) (fun c1 => ?_)
      · refine aw_iload_n C dX1_lights_36 rfl ?_
        exact aw_iret C E dX1_lights_37 rfl ⟨by rw [h2], rfl⟩
      · exfalso; omega
    | succ k ih =>
      intro i a h0 h1 h2
      have hb := b01_01 (lit (fv mu f) i)
      refine aw_iload_n C dX1_lights_4 rfl ?_
      refine aw_aload_n C dX1_lights_5 rfl ?_
      refine aw_getI C dX1_lights_6 fX1_21 hf.s0 rfl ?_
      refine aw_icmp_ge C dX1_lights_9 (tgt := 36) (by decide) ⟨by omega, by omega⟩ ⟨by omega, by omega⟩ (fun c1 => ?_) (fun c1 => ?_)
      · exfalso; omega
      · refine aw_iload_n C dX1_lights_12 rfl ?_
        refine aw_aload_n C dX1_lights_13 rfl ?_
        refine aw_iload_n C dX1_lights_14 rfl ?_
        refine aw_call1 C dX1_lights_15 lX1_105 vX1_isLight (t_X1_isLight hf hV (by omega) (by omega)) rfl rfl rfl hf.s0 rfl ⟨by decide, by decide⟩ (Nat.le_of_ble_eq_true rfl) ?_
        refine aw_if_eq C dX1_lights_18 (tgt := 27) (by decide) ⟨by omega, by omega⟩ (fun c2 => ?_) (fun c2 => ?_)
        · refine aw_iconst C dX1_lights_27 ?_
          refine aw_ior C dX1_lights_28 ?_
          refine aw_istore_n C dX1_lights_29 (by decide) ?_
          refine aw_iinc C dX1_lights_30 rfl ?_
          refine aw_goto C dX1_lights_33 (tgt := 4) (by decide) ?_
          exact ih (i + 1) _ (by omega) (by omega) (by unfold bts; rw [fld_s h0]; unfold bts at h2; rw [← h2]; first | rw [if_pos (by omega)]; rfl | rw [if_neg (by omega)]; rfl)
        · refine aw_iconst C dX1_lights_21 ?_
          refine aw_iload_n C dX1_lights_22 rfl ?_
          refine aw_ishl C dX1_lights_23 ?_
          refine aw_goto C dX1_lights_24 (tgt := 28) (by decide) ?_
          refine aw_ior C dX1_lights_28 ?_
          refine aw_istore_n C dX1_lights_29 (by decide) ?_
          refine aw_iinc C dX1_lights_30 rfl ?_
          refine aw_goto C dX1_lights_33 (tgt := 4) (by decide) ?_
          exact ih (i + 1) _ (by omega) (by omega) (by unfold bts; rw [fld_s h0]; unfold bts at h2; rw [← h2]; first | rw [if_pos (by omega)]; rfl | rw [if_neg (by omega)]; rfl)
  refine aw_iconst C dX1_lights_0 ?_
  refine aw_istore_n C dX1_lights_1 (by decide) ?_
  refine aw_iconst C dX1_lights_2 ?_
  refine aw_istore_n C dX1_lights_3 (by decide) ?_
  exact loop (mu f 0).toNat 0 0 (by omega) (by omega) rfl
theorem t_X1_firstLight {f : Nat} {mu : Mem} (hf : isF f) (hV : bV (fv mu f)) : TrE 5 mX1_firstLight [vr f] mu (some (vi (fst (lit (fv mu f)) (-1) (mu f 0).toNat 0))) mu := by
  refine Tr.of (by decide +kernel) (Nat.le_of_ble_eq_true rfl) (fun K C E => ?_)
  have hn := hV.n
  have loop : ∀ (k : Nat) (i : Int), 0 ≤ i → i + k = mu f 0 → fst (lit (fv mu f)) (-1) (mu f 0).toNat 0 = fst (lit (fv mu f)) (-1) k i → AW K mX1_firstLight (NC, 0, 0) 2 [vr f, vi i] [] mu := by
    intro k
    induction k with
    | zero =>
      intro i h0 h1 h2
      refine aw_iload_n C dX1_firstLight_2 rfl ?_
      refine aw_aload_n C dX1_firstLight_3 rfl ?_
      refine aw_getI C dX1_firstLight_4 fX1_21 hf.s0 rfl ?_
      refine aw_icmp_ge C dX1_firstLight_7 (tgt := 26) (by decide) ⟨by omega, by omega⟩ ⟨by omega, by omega⟩ (fun c1 => ?_) (fun c1 => ?_)
      · refine aw_iconst C dX1_firstLight_26 ?_
        exact aw_iret C E dX1_firstLight_27 rfl ⟨by rw [h2]; rfl, rfl⟩
      · exfalso; omega
    | succ k ih =>
      intro i h0 h1 h2
      have hb := b01_01 (lit (fv mu f) i)
      refine aw_iload_n C dX1_firstLight_2 rfl ?_
      refine aw_aload_n C dX1_firstLight_3 rfl ?_
      refine aw_getI C dX1_firstLight_4 fX1_21 hf.s0 rfl ?_
      refine aw_icmp_ge C dX1_firstLight_7 (tgt := 26) (by decide) ⟨by omega, by omega⟩ ⟨by omega, by omega⟩ (fun c1 => ?_) (fun c1 => ?_)
      · exfalso; omega
      · refine aw_aload_n C dX1_firstLight_10 rfl ?_
        refine aw_iload_n C dX1_firstLight_11 rfl ?_
        refine aw_call1 C dX1_firstLight_12 lX1_105 vX1_isLight (t_X1_isLight hf hV (by omega) (by omega)) rfl rfl rfl hf.s0 rfl ⟨by decide, by decide⟩ (Nat.le_of_ble_eq_true rfl) ?_
        refine aw_if_eq C dX1_firstLight_15 (tgt := 20) (by decide) ⟨by omega, by omega⟩ (fun c2 => ?_) (fun c2 => ?_)
        · refine aw_iinc C dX1_firstLight_20 rfl ?_
          refine aw_goto C dX1_firstLight_23 (tgt := 2) (by decide) ?_
          exact ih (i + 1) (by omega) (by omega) (by rw [h2, fst_f (b01_niff.mp (by omega))])
        · refine aw_iload_n C dX1_firstLight_18 rfl ?_
          exact aw_iret C E dX1_firstLight_19 rfl ⟨by rw [h2, fst_t (b01_iff.mp (by omega))], rfl⟩
  refine aw_iconst C dX1_firstLight_0 ?_
  refine aw_istore_n C dX1_firstLight_1 (by decide) ?_
  exact loop (mu f 0).toNat 0 (by omega) (by omega) rfl
theorem t_X1_coneOf {f : Nat} {mu : Mem} {x y : Int} (hf : isF f) (hV : bV (fv mu f)) (hx : -60 ≤ x ∧ x ≤ 60) (hy : -60 ≤ y ∧ y ≤ 60) : TrE 1 mX1_coneOf [vr f, vi x, vi y] mu (some (vi (cof (fv mu f) x y))) mu := by
  refine Tr.of (by decide +kernel) (Nat.le_of_ble_eq_true rfl) (fun K C E => ?_)
  have hn := hV.n
  have loop : ∀ (k : Nat) (i : Int) (v4 : Vv), 0 ≤ i → i + k = mu f 0 → cof (fv mu f) x y = fst (cin (fv mu f) x y) 0 k i → AW K mX1_coneOf (NC, 0, 0) 2 [vr f, vi x, vi y, vi i, v4] [] mu := by
    intro k
    induction k with
    | zero =>
      intro i v4 h0 h1 h2
      refine aw_iload_n C dX1_coneOf_2 rfl ?_
      refine aw_aload_n C dX1_coneOf_3 rfl ?_
      refine aw_getI C dX1_coneOf_4 fX1_21 hf.s0 rfl ?_
      refine aw_icmp_ge C dX1_coneOf_7 (tgt := 63) (by decide) ⟨by omega, by omega⟩ ⟨by omega, by omega⟩ (fun c1 => ?_) (fun c1 => ?_)
      · refine aw_iconst C dX1_coneOf_63 ?_
        exact aw_iret C E dX1_coneOf_64 rfl ⟨by rw [h2]; rfl, rfl⟩
      · exfalso; omega
    | succ k ih =>
      intro i v4 h0 h1 h2
      obtain ⟨a1, a2⟩ : 0 ≤ nxt (fv mu f) i ∧ nxt (fv mu f) i < mu f 0 := nxt_in h0 (show i < mu f 0 by omega)
      have m1 := mulb (hV.x i) hy
      have m2 := mulb (hV.y i) hx
      have m3 := mulb hx (hV.y (nxt (fv mu f) i))
      have m4 := mulb hy (hV.x (nxt (fv mu f) i))
      refine aw_iload_n C dX1_coneOf_2 rfl ?_
      refine aw_aload_n C dX1_coneOf_3 rfl ?_
      refine aw_getI C dX1_coneOf_4 fX1_21 hf.s0 rfl ?_
      refine aw_icmp_ge C dX1_coneOf_7 (tgt := 63) (by decide) ⟨by omega, by omega⟩ ⟨by omega, by omega⟩ (fun c1 => ?_) (fun c1 => ?_)
      · exfalso; omega
      · refine aw_aload_n C dX1_coneOf_10 rfl ?_
        refine aw_iload_n C dX1_coneOf_11 rfl ?_
        refine aw_call1 C dX1_coneOf_12 lX1_59 vX1_behind (t_X1_behind hf hV (by omega) (by omega)) rfl rfl rfl hf.s0 rfl ⟨by decide, by decide⟩ (Nat.le_of_ble_eq_true rfl) ?_
        refine aw_istore C dX1_coneOf_15 (by decide) ?_
        refine aw_aload_n C dX1_coneOf_17 rfl ?_
        refine aw_iload_n C dX1_coneOf_18 rfl ?_
        refine aw_call1 C dX1_coneOf_19 lX1_65 vX1_x (t_X1_x hf hV (by omega) (by omega)) rfl rfl rfl hf.s0 rfl ⟨by decide, by decide⟩ (Nat.le_of_ble_eq_true rfl) ?_
        refine aw_iload_n C dX1_coneOf_22 rfl ?_
        refine aw_imul C dX1_coneOf_23 ?_
        refine aw_aload_n C dX1_coneOf_24 rfl ?_
        refine aw_iload_n C dX1_coneOf_25 rfl ?_
        refine aw_call1 C dX1_coneOf_26 lX1_68 vX1_y (t_X1_y hf hV (by omega) (by omega)) rfl rfl rfl hf.s0 rfl ⟨by decide, by decide⟩ (Nat.le_of_ble_eq_true rfl) ?_
        refine aw_iload_n C dX1_coneOf_29 rfl ?_
        refine aw_imul C dX1_coneOf_30 ?_
        refine aw_isub C dX1_coneOf_31 ?_
        refine aw_if_lt C dX1_coneOf_32 (tgt := 57) (by decide) ⟨by omega, by omega⟩ (fun c2 => ?_) (fun c2 => ?_)
        · refine aw_iinc C dX1_coneOf_57 rfl ?_
          refine aw_goto C dX1_coneOf_60 (tgt := 2) (by decide) ?_
          exact ih (i + 1) _ (by omega) (by omega) (by rw [h2, fst_f (fun q => by have q1 := q.1; have q2 := q.2; omega)])
        · refine aw_iload_n C dX1_coneOf_35 rfl ?_
          refine aw_aload_n C dX1_coneOf_36 rfl ?_
          refine aw_iload C dX1_coneOf_37 rfl ?_
          refine aw_call1 C dX1_coneOf_39 lX1_68 vX1_y (t_X1_y hf hV (by omega) (by omega)) rfl rfl rfl hf.s0 rfl ⟨by decide, by decide⟩ (Nat.le_of_ble_eq_true rfl) ?_
          refine aw_imul C dX1_coneOf_42 ?_
          refine aw_iload_n C dX1_coneOf_43 rfl ?_
          refine aw_aload_n C dX1_coneOf_44 rfl ?_
          refine aw_iload C dX1_coneOf_45 rfl ?_
          refine aw_call1 C dX1_coneOf_47 lX1_65 vX1_x (t_X1_x hf hV (by omega) (by omega)) rfl rfl rfl hf.s0 rfl ⟨by decide, by decide⟩ (Nat.le_of_ble_eq_true rfl) ?_
          refine aw_imul C dX1_coneOf_50 ?_
          refine aw_isub C dX1_coneOf_51 ?_
          refine aw_if_le C dX1_coneOf_52 (tgt := 57) (by decide) ⟨by omega, by omega⟩ (fun c3 => ?_) (fun c3 => ?_)
          · refine aw_iinc C dX1_coneOf_57 rfl ?_
            refine aw_goto C dX1_coneOf_60 (tgt := 2) (by decide) ?_
            exact ih (i + 1) _ (by omega) (by omega) (by rw [h2, fst_f (fun q => by have q1 := q.1; have q2 := q.2; omega)])
          · refine aw_iload_n C dX1_coneOf_55 rfl ?_
            exact aw_iret C E dX1_coneOf_56 rfl ⟨by rw [h2, fst_t ⟨c2, c3⟩], rfl⟩
  refine aw_iconst C dX1_coneOf_0 ?_
  refine aw_istore_n C dX1_coneOf_1 (by decide) ?_
  exact loop (mu f 0).toNat 0 _ (by omega) (by omega) rfl

/-- 1 for what holds -/
noncomputable def b01 (p : Prop) : Int := @ite _ p (Classical.propDecidable p) 1 0
theorem b01_t {p : Prop} (h : p) : b01 p = 1 := if_pos h
theorem b01_f {p : Prop} (h : ¬ p) : b01 p = 0 := if_neg h
theorem b01_01 (p : Prop) : b01 p = 0 ∨ b01 p = 1 := by
  rcases Classical.em p with h | h
  · exact Or.inr (b01_t h)
  · exact Or.inl (b01_f h)
theorem b01_iff {p : Prop} : b01 p = 1 ↔ p := by
  rcases Classical.em p with h | h
  · exact ⟨fun _ => h, fun _ => b01_t h⟩
  · exact ⟨fun q => absurd ((b01_f h).symm.trans q) (by decide), fun q => absurd q h⟩
theorem b01_niff {p : Prop} : b01 p = 0 ↔ ¬ p := by
  rcases Classical.em p with h | h
  · exact ⟨fun q => absurd ((b01_t h).symm.trans q) (by decide), fun q => absurd h q⟩
  · exact ⟨fun _ => h, fun _ => b01_f h⟩
theorem b01_congr {p q : Prop} (h : p ↔ q) : b01 p = b01 q := by rw [propext h]
theorem gcd_step (a b : Int) : Int.gcd b (a % b) = Int.gcd a b := by
  have h := Int.gcd_mul_left_add_left b (a % b) (a / b)
  rw [Int.mul_ediv_add_emod] at h
  rw [h, Int.gcd_comm]
def R62 (x : Int) : Prop := -4611686018427387904 ≤ x ∧ x ≤ 4611686018427387904
theorem t_X4_common {x y : Int} {mu : Mem} (rx : R62 x) (ry : R62 y) : TrE 2 mX4_common [vl x, vl y] mu (some (vl (Int.gcd x y : Int))) mu := by
  refine Tr.of (by decide +kernel) (Nat.le_of_ble_eq_true rfl) (fun K C E => ?_)
  unfold R62 at rx ry
  have loop : ∀ (k : Nat) (b s t : Int) (v9 v10 : Vv), 0 ≤ s → s ≤ b → b ≤ 4611686018427387904 → Int.gcd b s = Int.gcd x y → b * s < 2 ^ k → 0 ≤ t → t + k < 200 → AW K mX4_common (NC, 0, 0) 15 [vl x, vx, vl y, vx, vl b, vx, vl s, vx, vi t, v9, v10] [] mu := by
    intro k
    induction k with
    | zero =>
      intro b s t v9 v10 h1 h2 h3 h4 h5 h6 h7
      have hs : s = 0 := by
        rcases Int.lt_or_le 0 s with q | q
        · exfalso
          have := Int.mul_pos (show 0 < b by omega) q
          simp at h5
          omega
        · omega
      subst hs
      rw [← h4, Int.gcd_zero_right] at E
      refine aw_iload C dX4_common_15 rfl ?_
      refine aw_sipush C dX4_common_17 rfl ?_
      refine aw_icmp_ge C dX4_common_20 (tgt := 53) (by decide) ⟨by omega, by omega⟩ ⟨by omega, by omega⟩ (fun c1 => ?_) (fun c1 => ?_)
      · exfalso; omega
      · refine aw_lload C dX4_common_23 rfl ?_
        refine aw_lconst C dX4_common_25 (v := 0) rfl ?_
        refine aw_lcmp_eq C dX4_common_26 dX4_common_27 (tgt := 53) (by decide) ⟨by omega, by omega⟩ ⟨by omega, by omega⟩ (fun c2 => ?_) (fun c2 => ?_)
        · refine aw_lload C dX4_common_53 rfl ?_
          exact aw_lret C E dX4_common_55 rfl ⟨by congr 2; omega, rfl⟩
        · exfalso; omega
    | succ k ih =>
      intro b s t v9 v10 h1 h2 h3 h4 h5 h6 h7
      refine aw_iload C dX4_common_15 rfl ?_
      refine aw_sipush C dX4_common_17 rfl ?_
      refine aw_icmp_ge C dX4_common_20 (tgt := 53) (by decide) ⟨by omega, by omega⟩ ⟨by omega, by omega⟩ (fun c1 => ?_) (fun c1 => ?_)
      · exfalso; omega
      · refine aw_lload C dX4_common_23 rfl ?_
        refine aw_lconst C dX4_common_25 (v := 0) rfl ?_
        refine aw_lcmp_eq C dX4_common_26 dX4_common_27 (tgt := 53) (by decide) ⟨by omega, by omega⟩ ⟨by omega, by omega⟩ (fun c2 => ?_) (fun c2 => ?_)
        · refine aw_lload C dX4_common_53 rfl ?_
          exact aw_lret C E dX4_common_55 rfl ⟨by subst c2; rw [← h4, Int.gcd_zero_right]; congr 2; omega, rfl⟩
        · refine aw_lload C dX4_common_30 rfl ?_
          refine aw_lload C dX4_common_32 rfl ?_
          refine aw_callS1 C dX4_common_34 lX4_22 vX4_rest (t_X4_rest ⟨by omega, by omega⟩ ⟨by omega, by omega⟩ (by omega)) rfl rfl rfl ⟨by decide, by decide⟩ (Nat.le_of_ble_eq_true rfl) ?_
          refine aw_lstore C dX4_common_37 (by decide) ?_
          refine aw_lload C dX4_common_39 rfl ?_
          refine aw_lstore C dX4_common_41 (by decide) ?_
          refine aw_lload C dX4_common_43 rfl ?_
          refine aw_lstore C dX4_common_45 (by decide) ?_
          refine aw_iinc C dX4_common_47 rfl ?_
          refine aw_goto C dX4_common_50 (tgt := 15) (by decide) ?_
          have hs : 0 < s := by omega
          have r0 := Int.emod_nonneg b (show s ≠ 0 by omega)
          have r1 := Int.emod_lt_of_pos b hs
          have r2 : 2 * (b % s) < b := by
            have e := Int.mul_ediv_add_emod b s
            have q1 : 1 ≤ b / s := Int.le_ediv_of_mul_le hs (by omega)
            have q2 : s * 1 ≤ s * (b / s) := Int.mul_le_mul_of_nonneg_left q1 h1
            omega
          have r3 : s * (2 * (b % s)) < s * b := Int.mul_lt_mul_of_pos_left r2 hs
          refine ih s (b % s) (t + 1) _ _ r0 (by omega) (by omega) ((gcd_step b s).trans h4) ?_ (by omega) (by omega)
          rw [Int.pow_succ] at h5
          rw [Int.mul_comm s b, Int.mul_left_comm] at r3
          omega
  have fin : ∀ (b s : Int) (t : Int) (v9 v10 : Vv), 0 ≤ s → s ≤ b → b ≤ 4611686018427387904 → Int.gcd b s = Int.gcd x y → 0 ≤ t → t ≤ 1 → AW K mX4_common (NC, 0, 0) 15 [vl x, vx, vl y, vx, vl b, vx, vl s, vx, vi t, v9, v10] [] mu := by
    intro b s t v9 v10 h1 h2 h3 h4 h5 h6
    refine loop 125 b s t v9 v10 h1 h2 h3 h4 ?_ h5 (by omega)
    have q := mulb (a := b) (b := s) (A := 4611686018427387904) (B := 4611686018427387904) ⟨by omega, by omega⟩ ⟨by omega, by omega⟩
    have e : (4611686018427387904 : Int) * 4611686018427387904 < 2 ^ 125 := by decide
    omega
  have hg : Int.gcd (x.natAbs : Int) (y.natAbs : Int) = Int.gcd x y := rfl
  rcases Int.le_total (y.natAbs : Int) (x.natAbs : Int) with q | q
  · refine aw_lload_n C dX4_common_0 rfl ?_
    refine aw_callS1 C dX4_common_1 lX4_16 vJ9_abs_067f4 (t_J9_abs_067f4 ⟨by omega, by omega⟩) rfl rfl rfl ⟨by decide, by decide⟩ (Nat.le_of_ble_eq_true rfl) ?_
    refine aw_lstore C dX4_common_4 (by decide) ?_
    refine aw_lload_n C dX4_common_6 rfl ?_
    refine aw_callS1 C dX4_common_7 lX4_16 vJ9_abs_067f4 (t_J9_abs_067f4 ⟨by omega, by omega⟩) rfl rfl rfl ⟨by decide, by decide⟩ (Nat.le_of_ble_eq_true rfl) ?_
    refine aw_lstore C dX4_common_10 (by decide) ?_
    refine aw_iconst C dX4_common_12 ?_
    refine aw_istore C dX4_common_13 (by decide) ?_
    exact fin _ _ 0 _ _ (by omega) (by omega) (by omega) hg (by omega) (by omega)
  · have hm : (x.natAbs : Int) < (y.natAbs : Int) → (x.natAbs : Int) % (y.natAbs : Int) = x.natAbs := fun h => Int.emod_eq_of_lt (by omega) h
    rcases Int.lt_or_eq_of_le q with q | q
    · refine aw_lload_n C dX4_common_0 rfl ?_
      refine aw_callS1 C dX4_common_1 lX4_16 vJ9_abs_067f4 (t_J9_abs_067f4 ⟨by omega, by omega⟩) rfl rfl rfl ⟨by decide, by decide⟩ (Nat.le_of_ble_eq_true rfl) ?_
      refine aw_lstore C dX4_common_4 (by decide) ?_
      refine aw_lload_n C dX4_common_6 rfl ?_
      refine aw_callS1 C dX4_common_7 lX4_16 vJ9_abs_067f4 (t_J9_abs_067f4 ⟨by omega, by omega⟩) rfl rfl rfl ⟨by decide, by decide⟩ (Nat.le_of_ble_eq_true rfl) ?_
      refine aw_lstore C dX4_common_10 (by decide) ?_
      refine aw_iconst C dX4_common_12 ?_
      refine aw_istore C dX4_common_13 (by decide) ?_
      refine aw_iload C dX4_common_15 rfl ?_
      refine aw_sipush C dX4_common_17 rfl ?_
      refine aw_icmp_ge C dX4_common_20 (tgt := 53) (by decide) ⟨by omega, by omega⟩ ⟨by omega, by omega⟩ (fun c1 => ?_) (fun c1 => ?_)
      · exfalso; omega
      · refine aw_lload C dX4_common_23 rfl ?_
        refine aw_lconst C dX4_common_25 (v := 0) rfl ?_
        refine aw_lcmp_eq C dX4_common_26 dX4_common_27 (tgt := 53) (by decide) ⟨by omega, by omega⟩ ⟨by omega, by omega⟩ (fun c2 => ?_) (fun c2 => ?_)
        · exfalso; omega
        · refine aw_lload C dX4_common_30 rfl ?_
          refine aw_lload C dX4_common_32 rfl ?_
          refine aw_callS1 C dX4_common_34 lX4_22 vX4_rest (t_X4_rest ⟨by omega, by omega⟩ ⟨by omega, by omega⟩ (by omega)) rfl rfl rfl ⟨by decide, by decide⟩ (Nat.le_of_ble_eq_true rfl) ?_
          refine aw_lstore C dX4_common_37 (by decide) ?_
          rw [hm q]
          refine aw_lload C dX4_common_39 rfl ?_
          refine aw_lstore C dX4_common_41 (by decide) ?_
          refine aw_lload C dX4_common_43 rfl ?_
          refine aw_lstore C dX4_common_45 (by decide) ?_
          refine aw_iinc C dX4_common_47 rfl ?_
          refine aw_goto C dX4_common_50 (tgt := 15) (by decide) ?_
          exact fin _ _ 1 _ _ (by omega) (by omega) (by omega) ((Int.gcd_comm _ _).trans hg) (by omega) (by omega)
    · refine aw_lload_n C dX4_common_0 rfl ?_
      refine aw_callS1 C dX4_common_1 lX4_16 vJ9_abs_067f4 (t_J9_abs_067f4 ⟨by omega, by omega⟩) rfl rfl rfl ⟨by decide, by decide⟩ (Nat.le_of_ble_eq_true rfl) ?_
      refine aw_lstore C dX4_common_4 (by decide) ?_
      refine aw_lload_n C dX4_common_6 rfl ?_
      refine aw_callS1 C dX4_common_7 lX4_16 vJ9_abs_067f4 (t_J9_abs_067f4 ⟨by omega, by omega⟩) rfl rfl rfl ⟨by decide, by decide⟩ (Nat.le_of_ble_eq_true rfl) ?_
      refine aw_lstore C dX4_common_10 (by decide) ?_
      refine aw_iconst C dX4_common_12 ?_
      refine aw_istore C dX4_common_13 (by decide) ?_
      exact fin _ _ 0 _ _ (by omega) (by omega) (by omega) hg (by omega) (by omega)
/-! the fan's own questions -/
def clo (V : FV) : Prop := 3 ≤ V.1 ∧ ∀ i : Int, 0 ≤ i → i < V.1 → 0 < trn V i
def cgo (V : FV) (i : Int) : Prop := 3 < V.1 ∧ 0 < arn V i
def lit (V : FV) (i : Int) : Prop := cgo V i ∧ gx V i = gx V (prv V i) + gx V (nxt V i) ∧ gy V i = gy V (prv V i) + gy V (nxt V i)
theorem t_X1_isClosed {f : Nat} {mu : Mem} (hf : isF f) (hV : bV (fv mu f)) : TrE 3 mX1_isClosed [vr f] mu (some (vi (b01 (clo (fv mu f))))) mu := by
  refine Tr.of (by decide +kernel) (Nat.le_of_ble_eq_true rfl) (fun K C E => ?_)
  have hn := hV.n
  have loop : ∀ (k : Nat) (i : Int), 0 ≤ i → i + k = mu f 0 → 3 ≤ mu f 0 → (∀ j : Int, 0 ≤ j → j < i → 0 < trn (fv mu f) j) → AW K mX1_isClosed (NC, 0, 0) 12 [vr f, vi i] [] mu := by
    intro k
    induction k with
    | zero =>
      intro i h0 h1 h3 h4
      rw [b01_t (show clo (fv mu f) from ⟨h3, fun j q1 q2 => h4 j q1 (by have : j < mu f 0 := q2; omega)⟩)] at E
      refine aw_iload_n C dX1_isClosed_12 rfl ?_
      refine aw_aload_n C dX1_isClosed_13 rfl ?_
      refine aw_getI C dX1_isClosed_14 fX1_21 hf.s0 rfl ?_
      refine aw_icmp_ge C dX1_isClosed_17 (tgt := 36) (by decide) ⟨by omega, by omega⟩ ⟨by omega, by omega⟩ (fun c1 => ?_) (fun c1 => ?_)
      · refine aw_iconst C dX1_isClosed_36 ?_
        exact aw_zret C E dX1_isClosed_37 rfl (by omega) ⟨rfl, rfl⟩
      · exfalso; omega
    | succ k ih =>
      intro i h0 h1 h3 h4
      have ht := hV.trn i
      refine aw_iload_n C dX1_isClosed_12 rfl ?_
      refine aw_aload_n C dX1_isClosed_13 rfl ?_
      refine aw_getI C dX1_isClosed_14 fX1_21 hf.s0 rfl ?_
      refine aw_icmp_ge C dX1_isClosed_17 (tgt := 36) (by decide) ⟨by omega, by omega⟩ ⟨by omega, by omega⟩ (fun c1 => ?_) (fun c1 => ?_)
      · exfalso; omega
      · refine aw_aload_n C dX1_isClosed_20 rfl ?_
        refine aw_iload_n C dX1_isClosed_21 rfl ?_
        refine aw_call1 C dX1_isClosed_22 lX1_55 vX1_turn (t_X1_turn hf hV (by omega) (by omega)) rfl rfl rfl hf.s0 rfl ⟨by decide, by decide⟩ (Nat.le_of_ble_eq_true rfl) ?_
        refine aw_if_gt C dX1_isClosed_25 (tgt := 30) (by decide) ⟨by omega, by omega⟩ (fun c2 => ?_) (fun c2 => ?_)
        · refine aw_iinc C dX1_isClosed_30 rfl ?_
          refine aw_goto C dX1_isClosed_33 (tgt := 12) (by decide) ?_
          refine ih (i + 1) (by omega) (by omega) h3 (fun j q1 q2 => ?_)
          rcases Int.lt_or_eq_of_le (show j ≤ i by omega) with q | q
          · exact h4 j q1 q
          · subst q; omega
        · refine aw_iconst C dX1_isClosed_28 ?_
          exact aw_zret C E dX1_isClosed_29 rfl (by omega) ⟨by rw [b01_f (fun q => by have := q.2 i h0 (show i < mu f 0 by omega); omega)], rfl⟩
  refine aw_aload_n C dX1_isClosed_0 rfl ?_
  refine aw_getI C dX1_isClosed_1 fX1_21 hf.s0 rfl ?_
  refine aw_iconst C dX1_isClosed_4 ?_
  refine aw_icmp_ge C dX1_isClosed_5 (tgt := 10) (by decide) ⟨by omega, by omega⟩ ⟨by omega, by omega⟩ (fun c1 => ?_) (fun c1 => ?_)
  · refine aw_iconst C dX1_isClosed_10 ?_
    refine aw_istore_n C dX1_isClosed_11 (by decide) ?_
    exact loop (mu f 0).toNat 0 (by omega) (by omega) (by omega) (fun j q1 q2 => by omega)
  · refine aw_iconst C dX1_isClosed_8 ?_
    exact aw_zret C E dX1_isClosed_9 rfl (by omega) ⟨by rw [b01_f (fun q => by have : 3 ≤ mu f 0 := q.1; omega)], rfl⟩

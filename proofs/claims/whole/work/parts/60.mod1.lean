/-! the reference: what it sees -/
theorem mxV {mu : Mem} {V : FV} (e : mv mu = V) {i : Int} (h0 : 0 ≤ i) (h1 : i < V.1) : mu 64 i.toNat = gx V i := by subst e; exact (mx_at h0 h1).symm
theorem myV {mu : Mem} {V : FV} (e : mv mu = V) {i : Int} (h0 : 0 ≤ i) (h1 : i < V.1) : mu 65 i.toNat = gy V i := by subst e; exact (my_at h0 h1).symm
theorem mnV {mu : Mem} {V : FV} (e : mv mu = V) {d i : Int} (h0 : 0 ≤ i) (h1 : i < V.1) (h2 : 0 ≤ d) (h3 : d < V.2.1) : mu 66 (25 * d + i).toNat = gn V d i := by subst e; exact (mn_at h0 h1 h2 h3).symm
theorem mv1 {mu : Mem} {V : FV} (e : mv mu = V) : mu 55 29 = V.1 := by subst e; rfl
theorem mv2 {mu : Mem} {V : FV} (e : mv mu = V) : mu 55 30 = V.2.1 := by subst e; rfl
/-- what each answer leaves -/
def gd (mu : Mem) (c : Int) : Mem := wr (wr mu 55 1 c) 55 2 (-1)
def mF (mu : Mem) (V : FV) : Prop := mv mu = V ∧ gV V ∧ ((mu 55 32 = 1 ∧ 0 < V.1) ∨ (mu 55 32 = 0 ∧ V.1 = 0 ∧ V.2.1 = 0))
theorem mv_w {mu : Mem} {j : Nat} {v : Int} (h1 : j ≠ 29) (h2 : j ≠ 30) : mv (wr mu 55 j v) = mv mu := by
  have e1 : wr mu 55 j v 55 29 = mu 55 29 := by rw [wr_at, if_neg (fun q => h1 q.2.symm)]
  have e2 : wr mu 55 j v 55 30 = mu 55 30 := by rw [wr_at, if_neg (fun q => h2 q.2.symm)]
  have e3 : wr mu 55 j v 64 = mu 64 := wr_ne (by decide)
  have e4 : wr mu 55 j v 65 = mu 65 := wr_ne (by decide)
  have e5 : wr mu 55 j v 66 = mu 66 := wr_ne (by decide)
  unfold mv
  rw [e1, e2, e3, e4, e5]
theorem mF.t {mu : Mem} {V : FV} (h : mF mu V) : mF (wr mu 55 0 0) V := by
  obtain ⟨h1, h2, h3⟩ := h
  refine ⟨(mv_w (by decide) (by decide)).trans h1, h2, ?_⟩
  rw [show wr mu 55 0 0 55 32 = mu 55 32 from by rw [wr_at, if_neg (by decide)]]
  exact h3
theorem t_X6_thrown {mu : Mem} : TrE 0 mX6_thrown [vr 55] mu (some (vi (mu 55 0))) mu := by
  refine Tr.of (by decide +kernel) (Nat.le_of_ble_eq_true rfl) (fun K C E => ?_)
  refine aw_aload_n C dX6_thrown_0 rfl ?_
  refine aw_getI C dX6_thrown_1 fX6_77 ⟨rfl, by decide⟩ rfl ?_
  exact aw_iret C E dX6_thrown_4 rfl ⟨rfl, rfl⟩
theorem t_X6_refused {mu : Mem} {c : Int} : TrE 0 mX6_refused [vr 55, vi c] mu (some (vi (-1))) (gd mu c) := by
  refine Tr.of (by decide +kernel) (Nat.le_of_ble_eq_true rfl) (fun K C E => ?_)
  refine aw_aload_n C dX6_refused_0 rfl ?_
  refine aw_iload_n C dX6_refused_1 rfl ?_
  refine aw_putI C dX6_refused_2 fX6_80 ⟨rfl, by decide⟩ rfl rfl rfl ?_
  refine aw_aload_n C dX6_refused_5 rfl ?_
  refine aw_iconst C dX6_refused_6 ?_
  refine aw_putI C dX6_refused_7 fX6_11 ⟨rfl, by decide⟩ rfl rfl rfl ?_
  refine aw_iconst C dX6_refused_10 ?_
  exact aw_iret C E dX6_refused_11 rfl ⟨rfl, rfl⟩
theorem t_X6_lost {mu : Mem} {c : Int} : TrE 0 mX6_lost [vr 55, vi c] mu (some (vl NTH)) (gd mu c) := by
  refine Tr.of (by decide +kernel) (Nat.le_of_ble_eq_true rfl) (fun K C E => ?_)
  refine aw_aload_n C dX6_lost_0 rfl ?_
  refine aw_iload_n C dX6_lost_1 rfl ?_
  refine aw_putI C dX6_lost_2 fX6_80 ⟨rfl, by decide⟩ rfl rfl rfl ?_
  refine aw_aload_n C dX6_lost_5 rfl ?_
  refine aw_iconst C dX6_lost_6 ?_
  refine aw_putI C dX6_lost_7 fX6_11 ⟨rfl, by decide⟩ rfl rfl rfl ?_
  refine aw_ldc2 C dX6_lost_10 kX6_83 (z := -9223372036854775808) (by decide +kernel) ?_
  exact aw_lret C E dX6_lost_13 rfl ⟨rfl, rfl⟩
theorem t_X6_good {mu : Mem} {v : Int} : TrE 0 mX6_good [vr 55, vi v] mu (some (vi v)) (gd mu 0) := by
  refine Tr.of (by decide +kernel) (Nat.le_of_ble_eq_true rfl) (fun K C E => ?_)
  refine aw_aload_n C dX6_good_0 rfl ?_
  refine aw_iconst C dX6_good_1 ?_
  refine aw_putI C dX6_good_2 fX6_80 ⟨rfl, by decide⟩ rfl rfl rfl ?_
  refine aw_aload_n C dX6_good_5 rfl ?_
  refine aw_iconst C dX6_good_6 ?_
  refine aw_putI C dX6_good_7 fX6_11 ⟨rfl, by decide⟩ rfl rfl rfl ?_
  refine aw_iload_n C dX6_good_10 rfl ?_
  exact aw_iret C E dX6_good_11 rfl ⟨rfl, rfl⟩
theorem t_X6_told {mu : Mem} {v : Int} : TrE 0 mX6_told [vr 55, vl v] mu (some (vl v)) (gd mu 0) := by
  refine Tr.of (by decide +kernel) (Nat.le_of_ble_eq_true rfl) (fun K C E => ?_)
  refine aw_aload_n C dX6_told_0 rfl ?_
  refine aw_iconst C dX6_told_1 ?_
  refine aw_putI C dX6_told_2 fX6_80 ⟨rfl, by decide⟩ rfl rfl rfl ?_
  refine aw_aload_n C dX6_told_5 rfl ?_
  refine aw_iconst C dX6_told_6 ?_
  refine aw_putI C dX6_told_7 fX6_11 ⟨rfl, by decide⟩ rfl rfl rfl ?_
  refine aw_lload_n C dX6_told_10 rfl ?_
  exact aw_lret C E dX6_told_11 rfl ⟨rfl, rfl⟩
theorem t_X6_done {mu : Mem} {c : Int} (hc : R32 c) : TrE 0 mX6_done [vr 55, vi c] mu (some (vi (if c = 0 then 1 else 0))) (gd mu c) := by
  refine Tr.of (by decide +kernel) (Nat.le_of_ble_eq_true rfl) (fun K C E => ?_)
  refine aw_aload_n C dX6_done_0 rfl ?_
  refine aw_iload_n C dX6_done_1 rfl ?_
  refine aw_putI C dX6_done_2 fX6_80 ⟨rfl, by decide⟩ rfl rfl rfl ?_
  refine aw_aload_n C dX6_done_5 rfl ?_
  refine aw_iconst C dX6_done_6 ?_
  refine aw_putI C dX6_done_7 fX6_11 ⟨rfl, by decide⟩ rfl rfl rfl ?_
  refine aw_iload_n C dX6_done_10 rfl ?_
  refine aw_if_ne C dX6_done_11 (tgt := 18) (by decide) ⟨by omega, by omega⟩ (fun c1 => ?_) (fun c1 => ?_)
  · refine aw_iconst C dX6_done_18 ?_
    exact aw_zret C E dX6_done_19 rfl (by omega) ⟨by first | rw [if_pos (by omega)] | rw [if_neg (by omega)], rfl⟩
  · refine aw_iconst C dX6_done_14 ?_
    refine aw_goto C dX6_done_15 (tgt := 19) (by decide) ?_
    exact aw_zret C E dX6_done_19 rfl (by omega) ⟨by first | rw [if_pos (by omega)] | rw [if_neg (by omega)], rfl⟩
theorem t_X6_in {x a b : Int} {mu : Mem} (rx : R64 x) (ra : R64 a) (rb : R64 b) : TrE 0 mX6_in [vl x, vl a, vl b] mu (some (vi (b01 (a ≤ x ∧ x ≤ b)))) mu := by
  refine Tr.of (by decide +kernel) (Nat.le_of_ble_eq_true rfl) (fun K C E => ?_)
  refine aw_lload_n C dX6_in_0 rfl ?_
  refine aw_lload_n C dX6_in_1 rfl ?_
  refine aw_lcmp_lt C dX6_in_2 dX6_in_3 (tgt := 17) (by decide) ⟨by omega, by omega⟩ ⟨by omega, by omega⟩ (fun c1 => ?_) (fun c1 => ?_)
  · refine aw_iconst C dX6_in_17 ?_
    exact aw_zret C E dX6_in_18 rfl (by omega) ⟨by first | rw [b01_t ⟨by omega, by omega⟩] | rw [b01_f (fun q => by omega)], rfl⟩
  · refine aw_lload_n C dX6_in_6 rfl ?_
    refine aw_lload C dX6_in_7 rfl ?_
    refine aw_lcmp_gt C dX6_in_9 dX6_in_10 (tgt := 17) (by decide) ⟨by omega, by omega⟩ ⟨by omega, by omega⟩ (fun c2 => ?_) (fun c2 => ?_)
    · refine aw_iconst C dX6_in_17 ?_
      exact aw_zret C E dX6_in_18 rfl (by omega) ⟨by first | rw [b01_t ⟨by omega, by omega⟩] | rw [b01_f (fun q => by omega)], rfl⟩
    · refine aw_iconst C dX6_in_13 ?_
      refine aw_goto C dX6_in_14 (tgt := 18) (by decide) ?_
      exact aw_zret C E dX6_in_18 rfl (by omega) ⟨by first | rw [b01_t ⟨by omega, by omega⟩] | rw [b01_f (fun q => by omega)], rfl⟩
theorem t_X6_common {x y : Int} {mu : Mem} (rx : R62 x) (ry : R62 y) : TrE 0 mX6_common [vl x, vl y] mu (some (vl (Int.gcd x y : Int))) mu := by
  refine Tr.of (by decide +kernel) (Nat.le_of_ble_eq_true rfl) (fun K C E => ?_)
  unfold R62 at rx ry
  have loop : ∀ (k : Nat) (a b : Int) (v8 v9 : Vv), 0 ≤ a → a ≤ 4611686018427387904 → 0 ≤ b → b ≤ 4611686018427387904 → b ≤ k → Int.gcd a b = Int.gcd x y → AW K mX6_common (NC, 0, 0) 28 [vl x, vx, vl y, vx, vl a, vx, vl b, vx, v8, v9] [] mu := by
    intro k
    induction k with
    | zero =>
      intro a b v8 v9 h1 h2 h3 h4 h5 h6
      have hb : b = 0 := by omega
      subst hb
      rw [← h6, Int.gcd_zero_right] at E
      refine aw_lload C dX6_common_28 rfl ?_
      refine aw_lconst C dX6_common_30 (v := 0) rfl ?_
      refine aw_lcmp_eq C dX6_common_31 dX6_common_32 (tgt := 53) (by decide) ⟨by omega, by omega⟩ ⟨by omega, by omega⟩ (fun c1 => ?_) (fun c1 => ?_)
      · refine aw_lload C dX6_common_53 rfl ?_
        exact aw_lret C E dX6_common_55 rfl ⟨by congr 2; omega, rfl⟩
      · exfalso; omega
    | succ k ih =>
      intro a b v8 v9 h1 h2 h3 h4 h5 h6
      refine aw_lload C dX6_common_28 rfl ?_
      refine aw_lconst C dX6_common_30 (v := 0) rfl ?_
      refine aw_lcmp_eq C dX6_common_31 dX6_common_32 (tgt := 53) (by decide) ⟨by omega, by omega⟩ ⟨by omega, by omega⟩ (fun c1 => ?_) (fun c1 => ?_)
      · refine aw_lload C dX6_common_53 rfl ?_
        exact aw_lret C E dX6_common_55 rfl ⟨by subst c1; rw [← h6, Int.gcd_zero_right]; congr 2; omega, rfl⟩
      · refine aw_lload C dX6_common_35 rfl ?_
        refine aw_lload C dX6_common_37 rfl ?_
        refine aw_lrem C dX6_common_39 ⟨by omega, by omega⟩ ⟨by omega, by omega⟩ (by omega) ?_
        refine aw_lstore C dX6_common_40 (by decide) ?_
        refine aw_lload C dX6_common_42 rfl ?_
        refine aw_lstore C dX6_common_44 (by decide) ?_
        refine aw_lload C dX6_common_46 rfl ?_
        refine aw_lstore C dX6_common_48 (by decide) ?_
        refine aw_goto C dX6_common_50 (tgt := 28) (by decide) ?_
        have hb : 0 < b := by omega
        rw [Int.tmod_eq_emod_of_nonneg h1]
        have r0 := Int.emod_nonneg a (show b ≠ 0 by omega)
        have r1 := Int.emod_lt_of_pos a hb
        exact ih b (a % b) _ _ h3 h4 r0 (by omega) (by omega) ((gcd_step a b).trans h6)
  have go : ∀ (a b : Int) (v8 v9 : Vv), 0 ≤ a → a ≤ 4611686018427387904 → 0 ≤ b → b ≤ 4611686018427387904 → Int.gcd a b = Int.gcd x y → AW K mX6_common (NC, 0, 0) 28 [vl x, vx, vl y, vx, vl a, vx, vl b, vx, v8, v9] [] mu := fun a b v8 v9 h1 h2 h3 h4 h6 => loop b.toNat a b v8 v9 h1 h2 h3 h4 (by omega) h6
  refine aw_lload_n C dX6_common_0 rfl ?_
  refine aw_lconst C dX6_common_1 (v := 0) rfl ?_
  refine aw_lcmp_ge C dX6_common_2 dX6_common_3 (tgt := 11) (by decide) ⟨by omega, by omega⟩ ⟨by omega, by omega⟩ (fun c1 => ?_) (fun c1 => ?_)
  · refine aw_lload_n C dX6_common_11 rfl ?_
    refine aw_lstore C dX6_common_12 (by decide) ?_
    refine aw_lload_n C dX6_common_14 rfl ?_
    refine aw_lconst C dX6_common_15 (v := 0) rfl ?_
    refine aw_lcmp_ge C dX6_common_16 dX6_common_17 (tgt := 25) (by decide) ⟨by omega, by omega⟩ ⟨by omega, by omega⟩ (fun c2 => ?_) (fun c2 => ?_)
    · refine aw_lload_n C dX6_common_25 rfl ?_
      refine aw_lstore C dX6_common_26 (by decide) ?_
      exact go _ _ _ _ (by omega) (by omega) (by omega) (by omega) (by first | rfl | rw [Int.neg_gcd, Int.gcd_neg] | rw [Int.neg_gcd] | rw [Int.gcd_neg])
    · refine aw_lload_n C dX6_common_20 rfl ?_
      refine aw_lneg C dX6_common_21 ?_
      refine aw_goto C dX6_common_22 (tgt := 26) (by decide) ?_
      refine aw_lstore C dX6_common_26 (by decide) ?_
      exact go _ _ _ _ (by omega) (by omega) (by omega) (by omega) (by first | rfl | rw [Int.neg_gcd, Int.gcd_neg] | rw [Int.neg_gcd] | rw [Int.gcd_neg])
  · refine aw_lload_n C dX6_common_6 rfl ?_
    refine aw_lneg C dX6_common_7 ?_
    refine aw_goto C dX6_common_8 (tgt := 12) (by decide) ?_
    refine aw_lstore C dX6_common_12 (by decide) ?_
    refine aw_lload_n C dX6_common_14 rfl ?_
    refine aw_lconst C dX6_common_15 (v := 0) rfl ?_
    refine aw_lcmp_ge C dX6_common_16 dX6_common_17 (tgt := 25) (by decide) ⟨by omega, by omega⟩ ⟨by omega, by omega⟩ (fun c3 => ?_) (fun c3 => ?_)
    · refine aw_lload_n C dX6_common_25 rfl ?_
      refine aw_lstore C dX6_common_26 (by decide) ?_
      exact go _ _ _ _ (by omega) (by omega) (by omega) (by omega) (by first | rfl | rw [Int.neg_gcd, Int.gcd_neg] | rw [Int.neg_gcd] | rw [Int.gcd_neg])
    · refine aw_lload_n C dX6_common_20 rfl ?_
      refine aw_lneg C dX6_common_21 ?_
      refine aw_goto C dX6_common_22 (tgt := 26) (by decide) ?_
      refine aw_lstore C dX6_common_26 (by decide) ?_
      exact go _ _ _ _ (by omega) (by omega) (by omega) (by omega) (by first | rfl | rw [Int.neg_gcd, Int.gcd_neg] | rw [Int.neg_gcd] | rw [Int.gcd_neg])
theorem t_X6_down {x y : Int} {mu : Mem} (rx : R62 x) (ry : R62 y) (hy : 0 < y) : TrE 0 mX6_down [vl x, vl y] mu (some (vl (x / y))) mu := by
  refine Tr.of (by decide +kernel) (Nat.le_of_ble_eq_true rfl) (fun K C E => ?_)
  unfold R62 at rx ry
  have tb := tmod_b x y
  have ne : y ≠ 0 := by omega
  have e1 : x.tmod y < 0 → x.tdiv y - 1 = x / y := fun h => by
    have hx : x < 0 := by
      rcases Int.lt_or_le x 0 with q | q
      · exact q
      · have := tb.1 q; omega
    refine (fdiv_dvd hy hx).2 (fun q => ?_)
    have := Int.tdiv_mul_add_tmod x y
    omega
  have e2 : ¬ x.tmod y < 0 → x.tdiv y = x / y := fun h => by
    rcases Int.lt_or_le x 0 with q | q
    · refine (fdiv_dvd hy q).1 ?_
      have := Int.tdiv_mul_add_tmod x y
      have := tb.2 (by omega)
      omega
    · exact Int.tdiv_eq_ediv_of_nonneg q
  have rm : -4611686018427387904 ≤ x.tmod y ∧ x.tmod y ≤ 4611686018427387904 := by
    rcases Int.lt_or_le x 0 with q | q
    · have := tb.2 (by omega); omega
    · have := tb.1 q; omega
  refine aw_lload_n C dX6_down_0 rfl ?_
  refine aw_lload_n C dX6_down_1 rfl ?_
  refine aw_ldiv C dX6_down_2 ⟨by omega, by omega⟩ ⟨by omega, by omega⟩ (by omega) ?_
  refine aw_lstore C dX6_down_3 (by decide) ?_
  refine aw_lload_n C dX6_down_5 rfl ?_
  refine aw_lload_n C dX6_down_6 rfl ?_
  refine aw_lrem C dX6_down_7 ⟨by omega, by omega⟩ ⟨by omega, by omega⟩ (by omega) ?_
  refine aw_lconst C dX6_down_8 (v := 0) rfl ?_
  refine aw_lcmp_ge C dX6_down_9 dX6_down_10 (tgt := 20) (by decide) ⟨by omega, by omega⟩ ⟨by omega, by omega⟩ (fun c1 => ?_) (fun c1 => ?_)
  · refine aw_lload C dX6_down_20 rfl ?_
    exact aw_lret C E dX6_down_22 rfl ⟨by first | rw [e1 (by omega)] | rw [e2 (by omega)], rfl⟩
  · refine aw_lload C dX6_down_13 rfl ?_
    refine aw_lconst C dX6_down_15 (v := 1) rfl ?_
    refine aw_lsub C dX6_down_16 ?_
    refine aw_goto C dX6_down_17 (tgt := 22) (by decide) ?_
    exact aw_lret C E dX6_down_22 rfl ⟨by first | rw [e1 (by omega)] | rw [e2 (by omega)], rfl⟩
theorem t_X6_up {x y : Int} {mu : Mem} (rx : R62 x) (ry : R62 y) (hy : 0 < y) : TrE 1 mX6_up [vl x, vl y] mu (some (vl (-(-x / y)))) mu := by
  refine Tr.of (by decide +kernel) (Nat.le_of_ble_eq_true rfl) (fun K C E => ?_)
  unfold R62 at rx ry
  refine aw_lload_n C dX6_up_0 rfl ?_
  refine aw_lneg C dX6_up_1 ?_
  refine aw_lload_n C dX6_up_2 rfl ?_
  refine aw_callS1 C dX6_up_3 lX6_85 vX6_down (t_X6_down ⟨by omega, by omega⟩ ⟨by omega, by omega⟩ hy) rfl rfl rfl ⟨by decide, by decide⟩ (Nat.le_of_ble_eq_true rfl) ?_
  refine aw_lneg C dX6_up_6 ?_
  exact aw_lret C E dX6_up_7 rfl ⟨rfl, rfl⟩
theorem t_X6_cross {a b c d : Int} {mu : Mem} : TrE 0 mX6_cross [vi a, vi b, vi c, vi d] mu (some (vi (a * d - b * c))) mu := by
  refine Tr.of (by decide +kernel) (Nat.le_of_ble_eq_true rfl) (fun K C E => ?_)
  refine aw_iload_n C dX6_cross_0 rfl ?_
  refine aw_iload_n C dX6_cross_1 rfl ?_
  refine aw_imul C dX6_cross_2 ?_
  refine aw_iload_n C dX6_cross_3 rfl ?_
  refine aw_iload_n C dX6_cross_4 rfl ?_
  refine aw_imul C dX6_cross_5 ?_
  refine aw_isub C dX6_cross_6 ?_
  exact aw_iret C E dX6_cross_7 rfl ⟨rfl, rfl⟩
theorem t_X6_half {x y : Int} {mu : Mem} (rx : R32 x) (ry : R32 y) : TrE 0 mX6_half [vi x, vi y] mu (some (vi (1 - b01 (hlf x y)))) mu := by
  refine Tr.of (by decide +kernel) (Nat.le_of_ble_eq_true rfl) (fun K C E => ?_)
  unfold hlf at E
  refine aw_iload_n C dX6_half_0 rfl ?_
  refine aw_if_gt C dX6_half_1 (tgt := 12) (by decide) ⟨by omega, by omega⟩ (fun c1 => ?_) (fun c1 => ?_)
  · refine aw_iconst C dX6_half_12 ?_
    refine aw_goto C dX6_half_13 (tgt := 17) (by decide) ?_
    exact aw_iret C E dX6_half_17 rfl ⟨by first | rw [b01_t (by omega)]; rfl | rw [b01_f (by omega)]; rfl, rfl⟩
  · refine aw_iload_n C dX6_half_4 rfl ?_
    refine aw_if_ne C dX6_half_5 (tgt := 16) (by decide) ⟨by omega, by omega⟩ (fun c2 => ?_) (fun c2 => ?_)
    · refine aw_iconst C dX6_half_16 ?_
      exact aw_iret C E dX6_half_17 rfl ⟨by first | rw [b01_t (by omega)]; rfl | rw [b01_f (by omega)]; rfl, rfl⟩
    · refine aw_iload_n C dX6_half_8 rfl ?_
      refine aw_if_le C dX6_half_9 (tgt := 16) (by decide) ⟨by omega, by omega⟩ (fun c3 => ?_) (fun c3 => ?_)
      · refine aw_iconst C dX6_half_16 ?_
        exact aw_iret C E dX6_half_17 rfl ⟨by first | rw [b01_t (by omega)]; rfl | rw [b01_f (by omega)]; rfl, rfl⟩
      · refine aw_iconst C dX6_half_12 ?_
        refine aw_goto C dX6_half_13 (tgt := 17) (by decide) ?_
        exact aw_iret C E dX6_half_17 rfl ⟨by first | rw [b01_t (by omega)]; rfl | rw [b01_f (by omega)]; rfl, rfl⟩
theorem t_X6_isAhead {a b c d : Int} {mu : Mem} (ha : R32 a) (hb : R32 b) (hc : R32 c) (hd : R32 d) (hx : R32 (a * d - b * c)) : TrE 1 mX6_isAhead [vi a, vi b, vi c, vi d] mu (some (vi (b01 (cbf a b c d)))) mu := by
  refine Tr.of (by decide +kernel) (Nat.le_of_ble_eq_true rfl) (fun K C E => ?_)
  have k1 := b01_01 (hlf a b)
  have k2 := b01_01 (hlf c d)
  have i1 : b01 (hlf a b) = 1 ↔ hlf a b := b01_iff
  have i2 : b01 (hlf c d) = 1 ↔ hlf c d := b01_iff
  unfold cbf at E
  rw [b01_congr (show ((hlf a b ∧ ¬ hlf c d) ∨ ((hlf a b ↔ hlf c d) ∧ a * d - b * c > 0)) ↔ ((b01 (hlf a b) = 1 ∧ b01 (hlf c d) = 0) ∨ (b01 (hlf a b) = b01 (hlf c d) ∧ a * d - b * c > 0)) by
    rcases Classical.em (hlf a b) with u | u <;> rcases Classical.em (hlf c d) with v | v
    · rw [b01_t u, b01_t v]; simp [u, v]
    · rw [b01_t u, b01_f v]; simp [u, v]
    · rw [b01_f u, b01_t v]; simp [u, v]
    · rw [b01_f u, b01_f v]; simp [u, v])] at E
  refine aw_iload_n C dX6_isAhead_0 rfl ?_
  refine aw_iload_n C dX6_isAhead_1 rfl ?_
  refine aw_callS1 C dX6_isAhead_2 lX6_231 vX6_half (t_X6_half (by assumption) (by assumption)) rfl rfl rfl ⟨by decide, by decide⟩ (Nat.le_of_ble_eq_true rfl) ?_
  refine aw_iload_n C dX6_isAhead_5 rfl ?_
  refine aw_iload_n C dX6_isAhead_6 rfl ?_
  refine aw_callS1 C dX6_isAhead_7 lX6_231 vX6_half (t_X6_half (by assumption) (by assumption)) rfl rfl rfl ⟨by decide, by decide⟩ (Nat.le_of_ble_eq_true rfl) ?_
  refine aw_icmp_eq C dX6_isAhead_10 (tgt := 34) (by decide) ⟨by omega, by omega⟩ ⟨by omega, by omega⟩ (fun c1 => ?_) (fun c1 => ?_)
  · refine aw_iload_n C dX6_isAhead_34 rfl ?_
    refine aw_iload_n C dX6_isAhead_35 rfl ?_
    refine aw_iload_n C dX6_isAhead_36 rfl ?_
    refine aw_iload_n C dX6_isAhead_37 rfl ?_
    refine aw_callS1 C dX6_isAhead_38 lX6_227 vX6_cross (t_X6_cross) rfl rfl rfl ⟨by decide, by decide⟩ (Nat.le_of_ble_eq_true rfl) ?_
    refine aw_if_le C dX6_isAhead_41 (tgt := 48) (by decide) ⟨by omega, by omega⟩ (fun c2 => ?_) (fun c2 => ?_)
    · refine aw_iconst C dX6_isAhead_48 ?_
      exact aw_zret C E dX6_isAhead_49 rfl (by omega) ⟨by first | rw [b01_t (by omega)] | rw [b01_f (by omega)], rfl⟩
    · refine aw_iconst C dX6_isAhead_44 ?_
      refine aw_goto C dX6_isAhead_45 (tgt := 49) (by decide) ?_
      exact aw_zret C E dX6_isAhead_49 rfl (by omega) ⟨by first | rw [b01_t (by omega)] | rw [b01_f (by omega)], rfl⟩
  · refine aw_iload_n C dX6_isAhead_13 rfl ?_
    refine aw_iload_n C dX6_isAhead_14 rfl ?_
    refine aw_callS1 C dX6_isAhead_15 lX6_231 vX6_half (t_X6_half (by assumption) (by assumption)) rfl rfl rfl ⟨by decide, by decide⟩ (Nat.le_of_ble_eq_true rfl) ?_
    refine aw_iload_n C dX6_isAhead_18 rfl ?_
    refine aw_iload_n C dX6_isAhead_19 rfl ?_
    refine aw_callS1 C dX6_isAhead_20 lX6_231 vX6_half (t_X6_half (by assumption) (by assumption)) rfl rfl rfl ⟨by decide, by decide⟩ (Nat.le_of_ble_eq_true rfl) ?_
    refine aw_icmp_ge C dX6_isAhead_23 (tgt := 30) (by decide) ⟨by omega, by omega⟩ ⟨by omega, by omega⟩ (fun c3 => ?_) (fun c3 => ?_)
    · refine aw_iconst C dX6_isAhead_30 ?_
      refine aw_goto C dX6_isAhead_31 (tgt := 49) (by decide) ?_
      exact aw_zret C E dX6_isAhead_49 rfl (by omega) ⟨by first | rw [b01_t (by omega)] | rw [b01_f (by omega)], rfl⟩
    · refine aw_iconst C dX6_isAhead_26 ?_
      refine aw_goto C dX6_isAhead_27 (tgt := 49) (by decide) ?_
      exact aw_zret C E dX6_isAhead_49 rfl (by omega) ⟨by first | rw [b01_t (by omega)] | rw [b01_f (by omega)], rfl⟩
theorem t_X6_next {mu : Mem} {V : FV} {i : Int} (eV : mv mu = V) (hV : bV V) (h0 : 0 ≤ i) (h1 : i < V.1) : TrE 0 mX6_next [vr 55, vi i] mu (some (vi (nxt V i))) mu := by
  refine Tr.of (by decide +kernel) (Nat.le_of_ble_eq_true rfl) (fun K C E => ?_)
  have e1 := mv1 eV
  have hn := hV.1
  have e : nxt V i = (i + 1).tmod (mu 55 29) := by
    unfold nxt
    rw [e1, Int.tmod_eq_emod_of_nonneg (by omega)]
    split
    · rw [show i + 1 = V.1 by omega, Int.emod_self]
    · rw [Int.emod_eq_of_lt (by omega) (by omega)]
  rw [e] at E
  refine aw_iload_n C dX6_next_0 rfl ?_
  refine aw_iconst C dX6_next_1 ?_
  refine aw_iadd C dX6_next_2 ?_
  refine aw_aload_n C dX6_next_3 rfl ?_
  refine aw_getI C dX6_next_4 fX6_255 ⟨rfl, by decide⟩ rfl ?_
  refine aw_irem C dX6_next_7 ⟨by omega, by omega⟩ ⟨by omega, by omega⟩ (by omega) ?_
  exact aw_iret C E dX6_next_8 rfl ⟨rfl, rfl⟩
theorem t_X6_last {mu : Mem} {V : FV} {i : Int} (eV : mv mu = V) (hV : bV V) (h0 : 0 ≤ i) (h1 : i < V.1) : TrE 0 mX6_last [vr 55, vi i] mu (some (vi (prv V i))) mu := by
  refine Tr.of (by decide +kernel) (Nat.le_of_ble_eq_true rfl) (fun K C E => ?_)
  have e1 := mv1 eV
  have hn := hV.1
  have e : prv V i = (i + mu 55 29 - 1).tmod (mu 55 29) := by
    unfold prv
    rw [e1, Int.tmod_eq_emod_of_nonneg (by omega)]
    split
    · rw [show i + V.1 - 1 = V.1 - 1 by omega, Int.emod_eq_of_lt (by omega) (by omega)]
    · rw [show i + V.1 - 1 = i - 1 + V.1 by omega, Int.add_emod_right, Int.emod_eq_of_lt (by omega) (by omega)]
  rw [e] at E
  refine aw_iload_n C dX6_last_0 rfl ?_
  refine aw_aload_n C dX6_last_1 rfl ?_
  refine aw_getI C dX6_last_2 fX6_255 ⟨rfl, by decide⟩ rfl ?_
  refine aw_iadd C dX6_last_5 ?_
  refine aw_iconst C dX6_last_6 ?_
  refine aw_isub C dX6_last_7 ?_
  refine aw_aload_n C dX6_last_8 rfl ?_
  refine aw_getI C dX6_last_9 fX6_255 ⟨rfl, by decide⟩ rfl ?_
  refine aw_irem C dX6_last_12 ⟨by omega, by omega⟩ ⟨by omega, by omega⟩ (by omega) ?_
  exact aw_iret C E dX6_last_13 rfl ⟨rfl, rfl⟩
theorem t_X6_crossOf {mu : Mem} {V : FV} {i j : Int} (eV : mv mu = V) (hV : bV V) (h0 : 0 ≤ i) (h1 : i < V.1) (h2 : 0 ≤ j) (h3 : j < V.1) : TrE 1 mX6_crossOf [vr 55, vi i, vi j] mu (some (vi (crs V i j))) mu := by
  refine Tr.of (by decide +kernel) (Nat.le_of_ble_eq_true rfl) (fun K C E => ?_)
  have hn := hV.1
  unfold crs at E
  rw [← mxV eV h0 h1, ← mxV eV h2 h3, ← myV eV h0 h1, ← myV eV h2 h3] at E
  refine aw_aload_n C dX6_crossOf_0 rfl ?_
  refine aw_getS C dX6_crossOf_1 fX6_41 ⟨rfl, by decide⟩ rfl rfl (srf 55 23 64 (by decide)) ?_
  refine aw_iload_n C dX6_crossOf_4 rfl ?_
  refine aw_iald C dX6_crossOf_5 ⟨rfl, by decide⟩ (by decide) (by omega) (by omega) ?_
  refine aw_aload_n C dX6_crossOf_6 rfl ?_
  refine aw_getS C dX6_crossOf_7 fX6_44 ⟨rfl, by decide⟩ rfl rfl (srf 55 24 65 (by decide)) ?_
  refine aw_iload_n C dX6_crossOf_10 rfl ?_
  refine aw_iald C dX6_crossOf_11 ⟨rfl, by decide⟩ (by decide) (by omega) (by omega) ?_
  refine aw_aload_n C dX6_crossOf_12 rfl ?_
  refine aw_getS C dX6_crossOf_13 fX6_41 ⟨rfl, by decide⟩ rfl rfl (srf 55 23 64 (by decide)) ?_
  refine aw_iload_n C dX6_crossOf_16 rfl ?_
  refine aw_iald C dX6_crossOf_17 ⟨rfl, by decide⟩ (by decide) (by omega) (by omega) ?_
  refine aw_aload_n C dX6_crossOf_18 rfl ?_
  refine aw_getS C dX6_crossOf_19 fX6_44 ⟨rfl, by decide⟩ rfl rfl (srf 55 24 65 (by decide)) ?_
  refine aw_iload_n C dX6_crossOf_22 rfl ?_
  refine aw_iald C dX6_crossOf_23 ⟨rfl, by decide⟩ (by decide) (by omega) (by omega) ?_
  refine aw_callS1 C dX6_crossOf_24 lX6_227 vX6_cross (t_X6_cross) rfl rfl rfl ⟨by decide, by decide⟩ (Nat.le_of_ble_eq_true rfl) ?_
  exact aw_iret C E dX6_crossOf_27 rfl ⟨rfl, rfl⟩
theorem t_X6_turn {mu : Mem} {V : FV} {i : Int} (eV : mv mu = V) (hV : bV V) (h0 : 0 ≤ i) (h1 : i < V.1) : TrE 2 mX6_turn [vr 55, vi i] mu (some (vi (trn V i))) mu := by
  refine Tr.of (by decide +kernel) (Nat.le_of_ble_eq_true rfl) (fun K C E => ?_)
  obtain ⟨a1, a2⟩ := nxt_in h0 h1
  refine aw_aload_n C dX6_turn_0 rfl ?_
  refine aw_iload_n C dX6_turn_1 rfl ?_
  refine aw_aload_n C dX6_turn_2 rfl ?_
  refine aw_iload_n C dX6_turn_3 rfl ?_
  refine aw_call1 C dX6_turn_4 lX6_282 vX6_next (t_X6_next eV hV (by omega) (by omega)) rfl rfl rfl ⟨rfl, by decide⟩ rfl ⟨by decide, by decide⟩ (Nat.le_of_ble_eq_true rfl) ?_
  refine aw_call1 C dX6_turn_7 lX6_285 vX6_crossOf (t_X6_crossOf eV hV (by omega) (by omega) (by omega) (by omega)) rfl rfl rfl ⟨rfl, by decide⟩ rfl ⟨by decide, by decide⟩ (Nat.le_of_ble_eq_true rfl) ?_
  exact aw_iret C E dX6_turn_10 rfl ⟨rfl, rfl⟩
def msm (V : FV) : Int := if meas V = -1 then 0 else meas V
theorem t_X6_measureOf {mu : Mem} {V : FV} (eV : mv mu = V) (hV : bV V) (hc : clo V) : TrE 3 mX6_measureOf [vr 55] mu (some (vl (msm V))) mu := by
  refine Tr.of (by decide +kernel) (Nat.le_of_ble_eq_true rfl) (fun K C E => ?_)
  have hn := hV.1
  have e1 := mv1 eV
  unfold msm at E
  have loop : ∀ (k : Nat) (i v : Int), 0 ≤ i → i + k = V.1 → 1 ≤ v ∧ v ≤ 1000000 → meas V = msr V k i v → AW K mX6_measureOf (NC, 0, 0) 4 [vr 55, vl v, vx, vi i] [] mu := by
    intro k
    induction k with
    | zero =>
      intro i v h0 h1 h3 h2
      have h2 : meas V = v := h2
      refine aw_iload_n C dX6_measureOf_4 rfl ?_
      refine aw_aload_n C dX6_measureOf_5 rfl ?_
      refine aw_getI C dX6_measureOf_6 fX6_255 ⟨rfl, by decide⟩ rfl ?_
      refine aw_icmp_ge C dX6_measureOf_9 (tgt := 48) (by decide) ⟨by omega, by omega⟩ ⟨by omega, by omega⟩ (fun c1 => ?_) (fun c1 => ?_)
      · refine aw_lload_n C dX6_measureOf_48 rfl ?_
        exact aw_lret C E dX6_measureOf_49 rfl ⟨by rw [h2, if_neg (by omega)], rfl⟩
      · exfalso; omega
    | succ k ih =>
      intro i v h0 h1 h3 h2
      have ht := hV.trn i
      have ht2 := hc.2 i h0 (by omega)
      have hg : 1 ≤ (Int.gcd v (trn V i) : Int) ∧ (Int.gcd v (trn V i) : Int) ≤ 7200 := by
        have q0 : 0 < Int.gcd v (trn V i) := Nat.pos_of_ne_zero (fun w => by have := (Int.gcd_eq_zero_iff.mp w).2; omega)
        have := Nat.le_of_dvd (by omega) (Int.gcd_dvd_natAbs_right v (trn V i))
        omega
      have hq := tdiv_pos_b (show 0 ≤ v by omega) (show 0 ≤ (Int.gcd v (trn V i) : Int) by omega)
      have hq1 : 1 ≤ v.tdiv (Int.gcd v (trn V i)) := by
        rw [Int.tdiv_eq_ediv_of_nonneg (by omega)]
        refine Int.le_ediv_of_mul_le (by omega) ?_
        have := Nat.le_of_dvd (by omega) (Int.gcd_dvd_natAbs_left v (trn V i))
        omega
      have hm := mulb (a := v.tdiv (Int.gcd v (trn V i))) (b := trn V i) (A := 1000000) (B := 7200) ⟨by omega, by omega⟩ ⟨by omega, by omega⟩
      have hp : 1 ≤ v.tdiv (Int.gcd v (trn V i)) * trn V i := Int.mul_pos (by omega) ht2
      rw [show msr V (k + 1) i v = if v.tdiv (Int.gcd v (trn V i)) * trn V i > 1000000 then -1 else msr V k (i + 1) (v.tdiv (Int.gcd v (trn V i)) * trn V i) from rfl] at h2
      refine aw_iload_n C dX6_measureOf_4 rfl ?_
      refine aw_aload_n C dX6_measureOf_5 rfl ?_
      refine aw_getI C dX6_measureOf_6 fX6_255 ⟨rfl, by decide⟩ rfl ?_
      refine aw_icmp_ge C dX6_measureOf_9 (tgt := 48) (by decide) ⟨by omega, by omega⟩ ⟨by omega, by omega⟩ (fun c1 => ?_) (fun c1 => ?_)
      · exfalso; omega
      · refine aw_lload_n C dX6_measureOf_12 rfl ?_
        refine aw_lload_n C dX6_measureOf_13 rfl ?_
        refine aw_aload_n C dX6_measureOf_14 rfl ?_
        refine aw_iload_n C dX6_measureOf_15 rfl ?_
        refine aw_call1 C dX6_measureOf_16 lX6_288 vX6_turn (t_X6_turn eV hV (by omega) (by omega)) rfl rfl rfl ⟨rfl, by decide⟩ rfl ⟨by decide, by decide⟩ (Nat.le_of_ble_eq_true rfl) ?_
        refine aw_i2l C dX6_measureOf_19 ⟨by omega, by omega⟩ ?_
        refine aw_callS1 C dX6_measureOf_20 lX6_202 vX6_common (t_X6_common ⟨by omega, by omega⟩ ⟨by omega, by omega⟩) rfl rfl rfl ⟨by decide, by decide⟩ (Nat.le_of_ble_eq_true rfl) ?_
        refine aw_ldiv C dX6_measureOf_23 ⟨by omega, by omega⟩ ⟨by omega, by omega⟩ (by omega) ?_
        refine aw_aload_n C dX6_measureOf_24 rfl ?_
        refine aw_iload_n C dX6_measureOf_25 rfl ?_
        refine aw_call1 C dX6_measureOf_26 lX6_288 vX6_turn (t_X6_turn eV hV (by omega) (by omega)) rfl rfl rfl ⟨rfl, by decide⟩ rfl ⟨by decide, by decide⟩ (Nat.le_of_ble_eq_true rfl) ?_
        refine aw_i2l C dX6_measureOf_29 ⟨by omega, by omega⟩ ?_
        refine aw_lmul C dX6_measureOf_30 ?_
        refine aw_lstore_n C dX6_measureOf_31 (by decide) ?_
        refine aw_lload_n C dX6_measureOf_32 rfl ?_
        refine aw_ldc2 C dX6_measureOf_33 kX6_291 (z := 1000000) (by decide +kernel) ?_
        refine aw_lcmp_le C dX6_measureOf_36 dX6_measureOf_37 (tgt := 42) (by decide) ⟨by omega, by omega⟩ ⟨by omega, by omega⟩ (fun c2 => ?_) (fun c2 => ?_)
        · refine aw_iinc C dX6_measureOf_42 rfl ?_
          refine aw_goto C dX6_measureOf_45 (tgt := 4) (by decide) ?_
          exact ih (i + 1) _ (by omega) (by omega) (by omega) (by rw [h2, if_neg (by omega)])
        · refine aw_lconst C dX6_measureOf_40 (v := 0) rfl ?_
          exact aw_lret C E dX6_measureOf_41 rfl ⟨by rw [h2, if_pos (by omega)], rfl⟩
  refine aw_lconst C dX6_measureOf_0 (v := 1) rfl ?_
  refine aw_lstore_n C dX6_measureOf_1 (by decide) ?_
  refine aw_iconst C dX6_measureOf_2 ?_
  refine aw_istore_n C dX6_measureOf_3 (by decide) ?_
  exact loop V.1.toNat 0 1 (by omega) (by omega) (by omega) rfl
theorem t_X6_isRay {mu : Mem} {V : FV} {i : Int} (h : mF mu V) (hi : R32 i) : TrE 1 mX6_isRay [vr 55, vi i] mu (some (vi (b01 (0 ≤ i ∧ i < V.1)))) mu := by
  refine Tr.of (by decide +kernel) (Nat.le_of_ble_eq_true rfl) (fun K C E => ?_)
  have hn := h.2.1.1.1
  have e1 := mv1 h.1
  have h3 := h.2.2
  rw [b01_congr (show (0 ≤ i ∧ i < V.1) ↔ (0 ≤ i ∧ i ≤ mu 55 29 - 1) by omega)] at E
  have k1 := b01_01 (0 ≤ i ∧ i ≤ mu 55 29 - 1)
  refine aw_aload_n C dX6_isRay_0 rfl ?_
  refine aw_getI C dX6_isRay_1 fX6_264 ⟨rfl, by decide⟩ rfl ?_
  refine aw_if_eq C dX6_isRay_4 (tgt := 27) (by decide) ⟨by omega, by omega⟩ (fun c1 => ?_) (fun c1 => ?_)
  · have hr : b01 (0 ≤ i ∧ i ≤ mu 55 29 - 1) = 0 := b01_f (by omega)
    --go
    refine aw_iconst C dX6_isRay_27 ?_
    exact aw_zret C E dX6_isRay_28 rfl (by omega) ⟨by rw [hr], rfl⟩
  · refine aw_iload_n C dX6_isRay_7 rfl ?_
    refine aw_i2l C dX6_isRay_8 ⟨by omega, by omega⟩ ?_
    refine aw_lconst C dX6_isRay_9 (v := 0) rfl ?_
    refine aw_aload_n C dX6_isRay_10 rfl ?_
    refine aw_getI C dX6_isRay_11 fX6_255 ⟨rfl, by decide⟩ rfl ?_
    refine aw_iconst C dX6_isRay_14 ?_
    refine aw_isub C dX6_isRay_15 ?_
    refine aw_i2l C dX6_isRay_16 ⟨by omega, by omega⟩ ?_
    refine aw_callS1 C dX6_isRay_17 lX6_108 vX6_in (t_X6_in ⟨by omega, by omega⟩ ⟨by omega, by omega⟩ ⟨by omega, by omega⟩) rfl rfl rfl ⟨by decide, by decide⟩ (Nat.le_of_ble_eq_true rfl) ?_
    refine aw_if_eq C dX6_isRay_20 (tgt := 27) (by decide) ⟨by omega, by omega⟩ (fun c2 => ?_) (fun c2 => ?_)
    · have hr : b01 (0 ≤ i ∧ i ≤ mu 55 29 - 1) = 0 := by omega
      --go
      refine aw_iconst C dX6_isRay_27 ?_
      exact aw_zret C E dX6_isRay_28 rfl (by omega) ⟨by rw [hr], rfl⟩
    · have hr : b01 (0 ≤ i ∧ i ≤ mu 55 29 - 1) = 1 := by omega
      --go
      refine aw_iconst C dX6_isRay_23 ?_
      refine aw_goto C dX6_isRay_24 (tgt := 28) (by decide) ?_
      exact aw_zret C E dX6_isRay_28 rfl (by omega) ⟨by rw [hr], rfl⟩
theorem t_X6_isLoad {mu : Mem} {V : FV} {i : Int} (h : mF mu V) (hi : R32 i) : TrE 1 mX6_isLoad [vr 55, vi i] mu (some (vi (b01 (0 ≤ i ∧ i < V.2.1)))) mu := by
  refine Tr.of (by decide +kernel) (Nat.le_of_ble_eq_true rfl) (fun K C E => ?_)
  have hn := h.2.1.1.2.1
  have e1 := mv2 h.1
  have h3 := h.2.2
  rw [b01_congr (show (0 ≤ i ∧ i < V.2.1) ↔ (0 ≤ i ∧ i ≤ mu 55 30 - 1) by omega)] at E
  have k1 := b01_01 (0 ≤ i ∧ i ≤ mu 55 30 - 1)
  refine aw_aload_n C dX6_isLoad_0 rfl ?_
  refine aw_getI C dX6_isLoad_1 fX6_264 ⟨rfl, by decide⟩ rfl ?_
  refine aw_if_eq C dX6_isLoad_4 (tgt := 27) (by decide) ⟨by omega, by omega⟩ (fun c1 => ?_) (fun c1 => ?_)
  · have hr : b01 (0 ≤ i ∧ i ≤ mu 55 30 - 1) = 0 := b01_f (by omega)
    --go
    refine aw_iconst C dX6_isLoad_27 ?_
    exact aw_zret C E dX6_isLoad_28 rfl (by omega) ⟨by rw [hr], rfl⟩
  · refine aw_iload_n C dX6_isLoad_7 rfl ?_
    refine aw_i2l C dX6_isLoad_8 ⟨by omega, by omega⟩ ?_
    refine aw_lconst C dX6_isLoad_9 (v := 0) rfl ?_
    refine aw_aload_n C dX6_isLoad_10 rfl ?_
    refine aw_getI C dX6_isLoad_11 fX6_279 ⟨rfl, by decide⟩ rfl ?_
    refine aw_iconst C dX6_isLoad_14 ?_
    refine aw_isub C dX6_isLoad_15 ?_
    refine aw_i2l C dX6_isLoad_16 ⟨by omega, by omega⟩ ?_
    refine aw_callS1 C dX6_isLoad_17 lX6_108 vX6_in (t_X6_in ⟨by omega, by omega⟩ ⟨by omega, by omega⟩ ⟨by omega, by omega⟩) rfl rfl rfl ⟨by decide, by decide⟩ (Nat.le_of_ble_eq_true rfl) ?_
    refine aw_if_eq C dX6_isLoad_20 (tgt := 27) (by decide) ⟨by omega, by omega⟩ (fun c2 => ?_) (fun c2 => ?_)
    · have hr : b01 (0 ≤ i ∧ i ≤ mu 55 30 - 1) = 0 := by omega
      --go
      refine aw_iconst C dX6_isLoad_27 ?_
      exact aw_zret C E dX6_isLoad_28 rfl (by omega) ⟨by rw [hr], rfl⟩
    · have hr : b01 (0 ≤ i ∧ i ≤ mu 55 30 - 1) = 1 := by omega
      --go
      refine aw_iconst C dX6_isLoad_23 ?_
      refine aw_goto C dX6_isLoad_24 (tgt := 28) (by decide) ?_
      exact aw_zret C E dX6_isLoad_28 rfl (by omega) ⟨by rw [hr], rfl⟩
theorem t_X6_canGo {mu : Mem} {V : FV} {i : Int} (eV : mv mu = V) (hV : bV V) (h0 : 0 ≤ i) (h1 : i < V.1) : TrE 2 mX6_canGo [vr 55, vi i] mu (some (vi (b01 (cgo V i)))) mu := by
  refine Tr.of (by decide +kernel) (Nat.le_of_ble_eq_true rfl) (fun K C E => ?_)
  have hn := hV.1
  have e1 := mv1 eV
  have ha : -7200 ≤ crs V (prv V i) (nxt V i) ∧ crs V (prv V i) (nxt V i) ≤ 7200 := hV.arn i
  obtain ⟨a1, a2⟩ := nxt_in h0 h1
  obtain ⟨a3, a4⟩ := prv_in h0 h1
  unfold cgo arn at E
  refine aw_aload_n C dX6_canGo_0 rfl ?_
  refine aw_getI C dX6_canGo_1 fX6_255 ⟨rfl, by decide⟩ rfl ?_
  refine aw_iconst C dX6_canGo_4 ?_
  refine aw_icmp_lt C dX6_canGo_5 (tgt := 29) (by decide) ⟨by omega, by omega⟩ ⟨by omega, by omega⟩ (fun c1 => ?_) (fun c1 => ?_)
  · refine aw_iconst C dX6_canGo_29 ?_
    exact aw_zret C E dX6_canGo_30 rfl (by omega) ⟨by first | rw [b01_t ⟨by omega, by omega⟩] | rw [b01_f (fun q => by omega)], rfl⟩
  · refine aw_aload_n C dX6_canGo_8 rfl ?_
    refine aw_aload_n C dX6_canGo_9 rfl ?_
    refine aw_iload_n C dX6_canGo_10 rfl ?_
    refine aw_call1 C dX6_canGo_11 lX6_293 vX6_last (t_X6_last eV hV (by omega) (by omega)) rfl rfl rfl ⟨rfl, by decide⟩ rfl ⟨by decide, by decide⟩ (Nat.le_of_ble_eq_true rfl) ?_
    refine aw_aload_n C dX6_canGo_14 rfl ?_
    refine aw_iload_n C dX6_canGo_15 rfl ?_
    refine aw_call1 C dX6_canGo_16 lX6_282 vX6_next (t_X6_next eV hV (by omega) (by omega)) rfl rfl rfl ⟨rfl, by decide⟩ rfl ⟨by decide, by decide⟩ (Nat.le_of_ble_eq_true rfl) ?_
    refine aw_call1 C dX6_canGo_19 lX6_285 vX6_crossOf (t_X6_crossOf eV hV (by omega) (by omega) (by omega) (by omega)) rfl rfl rfl ⟨rfl, by decide⟩ rfl ⟨by decide, by decide⟩ (Nat.le_of_ble_eq_true rfl) ?_
    refine aw_if_le C dX6_canGo_22 (tgt := 29) (by decide) ⟨by omega, by omega⟩ (fun c2 => ?_) (fun c2 => ?_)
    · refine aw_iconst C dX6_canGo_29 ?_
      exact aw_zret C E dX6_canGo_30 rfl (by omega) ⟨by first | rw [b01_t ⟨by omega, by omega⟩] | rw [b01_f (fun q => by omega)], rfl⟩
    · refine aw_iconst C dX6_canGo_25 ?_
      refine aw_goto C dX6_canGo_26 (tgt := 30) (by decide) ?_
      exact aw_zret C E dX6_canGo_30 rfl (by omega) ⟨by first | rw [b01_t ⟨by omega, by omega⟩] | rw [b01_f (fun q => by omega)], rfl⟩
theorem t_X6_isLight {mu : Mem} {V : FV} {i : Int} (eV : mv mu = V) (hV : bV V) (h0 : 0 ≤ i) (h1 : i < V.1) : TrE 3 mX6_isLight [vr 55, vi i] mu (some (vi (b01 (lit V i)))) mu := by
  refine Tr.of (by decide +kernel) (Nat.le_of_ble_eq_true rfl) (fun K C E => ?_)
  have hn := hV.1
  obtain ⟨a1, a2⟩ := nxt_in h0 h1
  obtain ⟨a3, a4⟩ := prv_in h0 h1
  have x1 := hV.x i
  have x2 := hV.x (nxt V i)
  have x3 := hV.x (prv V i)
  have y1 := hV.y i
  have y2 := hV.y (nxt V i)
  have y3 := hV.y (prv V i)
  have f1 := mxV eV h0 h1
  have f2 := mxV eV a1 a2
  have f3 := mxV eV a3 a4
  have g1 := myV eV h0 h1
  have g2 := myV eV a1 a2
  have g3 := myV eV a3 a4
  have hb := b01_01 (cgo V i)
  refine aw_aload_n C dX6_isLight_0 rfl ?_
  refine aw_iload_n C dX6_isLight_1 rfl ?_
  refine aw_call1 C dX6_isLight_2 lX6_296 vX6_canGo (t_X6_canGo eV hV (by omega) (by omega)) rfl rfl rfl ⟨rfl, by decide⟩ rfl ⟨by decide, by decide⟩ (Nat.le_of_ble_eq_true rfl) ?_
  refine aw_if_eq C dX6_isLight_5 (tgt := 72) (by decide) ⟨by omega, by omega⟩ (fun c1 => ?_) (fun c1 => ?_)
  · have hr : b01 (lit V i) = 0 := b01_f (fun q => b01_niff.mp c1 q.1)
    --go
    refine aw_iconst C dX6_isLight_72 ?_
    exact aw_zret C E dX6_isLight_73 rfl (by omega) ⟨by rw [hr], rfl⟩
  · refine aw_aload_n C dX6_isLight_8 rfl ?_
    refine aw_getS C dX6_isLight_9 fX6_41 ⟨rfl, by decide⟩ rfl rfl (srf 55 23 64 (by decide)) ?_
    refine aw_iload_n C dX6_isLight_12 rfl ?_
    refine aw_iald C dX6_isLight_13 ⟨rfl, by decide⟩ (by decide) (by omega) (by omega) ?_
    refine aw_aload_n C dX6_isLight_14 rfl ?_
    refine aw_getS C dX6_isLight_15 fX6_41 ⟨rfl, by decide⟩ rfl rfl (srf 55 23 64 (by decide)) ?_
    refine aw_aload_n C dX6_isLight_18 rfl ?_
    refine aw_iload_n C dX6_isLight_19 rfl ?_
    refine aw_call1 C dX6_isLight_20 lX6_293 vX6_last (t_X6_last eV hV (by omega) (by omega)) rfl rfl rfl ⟨rfl, by decide⟩ rfl ⟨by decide, by decide⟩ (Nat.le_of_ble_eq_true rfl) ?_
    refine aw_iald C dX6_isLight_23 ⟨rfl, by decide⟩ (by decide) (by omega) (by omega) ?_
    refine aw_aload_n C dX6_isLight_24 rfl ?_
    refine aw_getS C dX6_isLight_25 fX6_41 ⟨rfl, by decide⟩ rfl rfl (srf 55 23 64 (by decide)) ?_
    refine aw_aload_n C dX6_isLight_28 rfl ?_
    refine aw_iload_n C dX6_isLight_29 rfl ?_
    refine aw_call1 C dX6_isLight_30 lX6_282 vX6_next (t_X6_next eV hV (by omega) (by omega)) rfl rfl rfl ⟨rfl, by decide⟩ rfl ⟨by decide, by decide⟩ (Nat.le_of_ble_eq_true rfl) ?_
    refine aw_iald C dX6_isLight_33 ⟨rfl, by decide⟩ (by decide) (by omega) (by omega) ?_
    refine aw_iadd C dX6_isLight_34 ?_
    refine aw_icmp_ne C dX6_isLight_35 (tgt := 72) (by decide) ⟨by omega, by omega⟩ ⟨by omega, by omega⟩ (fun c2 => ?_) (fun c2 => ?_)
    · have hr : b01 (lit V i) = 0 := b01_f (fun q => by have := q.2.1; omega)
      --go
      refine aw_iconst C dX6_isLight_72 ?_
      exact aw_zret C E dX6_isLight_73 rfl (by omega) ⟨by rw [hr], rfl⟩
    · refine aw_aload_n C dX6_isLight_38 rfl ?_
      refine aw_getS C dX6_isLight_39 fX6_44 ⟨rfl, by decide⟩ rfl rfl (srf 55 24 65 (by decide)) ?_
      refine aw_iload_n C dX6_isLight_42 rfl ?_
      refine aw_iald C dX6_isLight_43 ⟨rfl, by decide⟩ (by decide) (by omega) (by omega) ?_
      refine aw_aload_n C dX6_isLight_44 rfl ?_
      refine aw_getS C dX6_isLight_45 fX6_44 ⟨rfl, by decide⟩ rfl rfl (srf 55 24 65 (by decide)) ?_
      refine aw_aload_n C dX6_isLight_48 rfl ?_
      refine aw_iload_n C dX6_isLight_49 rfl ?_
      refine aw_call1 C dX6_isLight_50 lX6_293 vX6_last (t_X6_last eV hV (by omega) (by omega)) rfl rfl rfl ⟨rfl, by decide⟩ rfl ⟨by decide, by decide⟩ (Nat.le_of_ble_eq_true rfl) ?_
      refine aw_iald C dX6_isLight_53 ⟨rfl, by decide⟩ (by decide) (by omega) (by omega) ?_
      refine aw_aload_n C dX6_isLight_54 rfl ?_
      refine aw_getS C dX6_isLight_55 fX6_44 ⟨rfl, by decide⟩ rfl rfl (srf 55 24 65 (by decide)) ?_
      refine aw_aload_n C dX6_isLight_58 rfl ?_
      refine aw_iload_n C dX6_isLight_59 rfl ?_
      refine aw_call1 C dX6_isLight_60 lX6_282 vX6_next (t_X6_next eV hV (by omega) (by omega)) rfl rfl rfl ⟨rfl, by decide⟩ rfl ⟨by decide, by decide⟩ (Nat.le_of_ble_eq_true rfl) ?_
      refine aw_iald C dX6_isLight_63 ⟨rfl, by decide⟩ (by decide) (by omega) (by omega) ?_
      refine aw_iadd C dX6_isLight_64 ?_
      refine aw_icmp_ne C dX6_isLight_65 (tgt := 72) (by decide) ⟨by omega, by omega⟩ ⟨by omega, by omega⟩ (fun c3 => ?_) (fun c3 => ?_)
      · have hr : b01 (lit V i) = 0 := b01_f (fun q => by have := q.2.2; omega)
        --go
        refine aw_iconst C dX6_isLight_72 ?_
        exact aw_zret C E dX6_isLight_73 rfl (by omega) ⟨by rw [hr], rfl⟩
      · have hr : b01 (lit V i) = 1 := b01_t ⟨b01_iff.mp (by omega), by omega, by omega⟩
        --go
        refine aw_iconst C dX6_isLight_68 ?_
        refine aw_goto C dX6_isLight_69 (tgt := 73) (by decide) ?_
        exact aw_zret C E dX6_isLight_73 rfl (by omega) ⟨by rw [hr], rfl⟩

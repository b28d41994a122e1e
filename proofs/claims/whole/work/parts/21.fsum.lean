/-- sums -/
def sm (h : Nat → Int) : Nat → Int
  | 0 => 0
  | k + 1 => sm h k + h k
theorem sm_congr {h g : Nat → Int} : ∀ k : Nat, (∀ j, j < k → h j = g j) → sm h k = sm g k
  | 0, _ => rfl
  | k + 1, q => by
    show sm h k + h k = sm g k + g k
    rw [sm_congr k (fun j hj => q j (by omega)), q k (by omega)]
theorem sm_add {h g : Nat → Int} : ∀ k : Nat, sm (fun j => h j + g j) k = sm h k + sm g k
  | 0 => rfl
  | k + 1 => by
    show sm (fun j => h j + g j) k + (h k + g k) = (sm h k + h k) + (sm g k + g k)
    rw [sm_add k]; omega
theorem sm_const (c : Int) : ∀ k : Nat, sm (fun _ => c) k = k * c
  | 0 => by show (0 : Int) = ((0 : Nat) : Int) * c; simp
  | k + 1 => by
    show sm (fun _ => c) k + c = ((k + 1 : Nat) : Int) * c
    rw [sm_const c k, Int.natCast_add, Int.add_mul]; omega
theorem sm_front (h : Nat → Int) : ∀ k : Nat, sm h (k + 1) = h 0 + sm (fun j => h (j + 1)) k
  | 0 => by show 0 + h 0 = h 0 + 0; omega
  | k + 1 => by
    have ih := sm_front h k
    show sm h (k + 1) + h (k + 1) = h 0 + (sm (fun j => h (j + 1)) k + h (k + 1))
    rw [ih]; omega
theorem sm_split (h : Nat → Int) (a : Nat) : ∀ b : Nat, sm h (a + b) = sm h a + sm (fun j => h (a + j)) b
  | 0 => by show sm h a = sm h a + 0; omega
  | b + 1 => by
    have ih := sm_split h a b
    show sm h (a + b) + h (a + b) = sm h a + (sm (fun j => h (a + j)) b + h (a + b))
    rw [ih]; omega
/-- the sum over i below n of (a i + b) by c, downwards -/
def fsm (n : Nat) (c a b : Int) : Int := sm (fun i => (a * i + b) / c) n
theorem fsm_swap {c a b : Int} (ha : 0 < a) (hac : a < c) (hb : 0 ≤ b) (hbc : b < c) : ∀ n : Nat, fsm n c a b = fsm ((a * n + b) / c).toNat a c ((a * n + b) % c)
  | 0 => by
    have e : (a * ((0 : Nat) : Int) + b) / c = 0 := by
      rw [show a * ((0 : Nat) : Int) + b = b by simp]; exact Int.ediv_eq_zero_of_lt hb hbc
    rw [e]; rfl
  | n + 1 => by
    have ih := fsm_swap ha hac hb hbc n
    have hc : 0 < c := by omega
    have e1 := Int.mul_ediv_add_emod (a * n + b) c
    have r0 := Int.emod_nonneg (a * n + b) (show c ≠ 0 by omega)
    have r1 := Int.emod_lt_of_pos (a * n + b) hc
    have en : a * ((n + 1 : Nat) : Int) + b = (a * n + b) + a := by rw [Int.natCast_add, Int.mul_add]; simp; omega
    have ht0 : 0 ≤ a * (n : Int) + b := by have := Int.mul_nonneg (show 0 ≤ a by omega) (show (0 : Int) ≤ n by omega); omega
    generalize hq : (a * (n : Int) + b) / c = q at *
    generalize hr : (a * (n : Int) + b) % c = r at *
    have hq0 : 0 ≤ q := by rw [← hq]; exact Int.ediv_nonneg ht0 (by omega)
    have hl : fsm (n + 1) c a b = fsm n c a b + q := by
      show fsm n c a b + (a * (n : Int) + b) / c = _
      rw [hq]
    rw [hl, ih, en]
    by_cases h : r + a < c
    · have q2 : (a * (n : Int) + b + a) / c = q := by
        rw [← e1]
        rw [show c * q + r + a = (r + a) + c * q by omega, Int.add_mul_ediv_left _ _ (by omega), Int.ediv_eq_zero_of_lt (by omega) h]; omega
      have r2 : (a * (n : Int) + b + a) % c = r + a := by
        rw [← e1]
        rw [show c * q + r + a = (r + a) + c * q by omega, Int.add_mul_emod_self_left, Int.emod_eq_of_lt (by omega) h]
      rw [q2, r2]
      unfold fsm
      rw [sm_congr (h := fun j => (c * (j : Int) + (r + a)) / a) (g := fun j => (c * j + r) / a + 1) _ (fun j _ => by
        show (c * (j : Int) + (r + a)) / a = _
        rw [show c * (j : Int) + (r + a) = (c * j + r) + a * 1 by omega, Int.add_mul_ediv_left _ _ (by omega)])]
      rw [sm_add, sm_const]; omega
    · have q2 : (a * (n : Int) + b + a) / c = q + 1 := by
        rw [← e1]
        rw [show c * q + r + a = (r + a - c) + c * (q + 1) by rw [Int.mul_add]; omega, Int.add_mul_ediv_left _ _ (by omega), Int.ediv_eq_zero_of_lt (by omega) (by omega)]; omega
      have r2 : (a * (n : Int) + b + a) % c = r + a - c := by
        rw [← e1]
        rw [show c * q + r + a = (r + a - c) + c * (q + 1) by rw [Int.mul_add]; omega, Int.add_mul_emod_self_left, Int.emod_eq_of_lt (by omega) (by omega)]
      rw [q2, r2, show (q + 1).toNat = q.toNat + 1 by omega]
      unfold fsm
      rw [sm_front]
      have e0 : (c * ((0 : Nat) : Int) + (r + a - c)) / a = 0 := by
        rw [show c * ((0 : Nat) : Int) + (r + a - c) = r + a - c by simp]
        exact Int.ediv_eq_zero_of_lt (by omega) (by omega)
      rw [e0]
      rw [sm_congr (h := fun j => (c * ((j + 1 : Nat) : Int) + (r + a - c)) / a) (g := fun j => (c * j + r) / a + 1) _ (fun j _ => by
        show (c * ((j + 1 : Nat) : Int) + (r + a - c)) / a = _
        rw [show c * ((j + 1 : Nat) : Int) + (r + a - c) = (c * j + r) + a * 1 by rw [Int.natCast_add, Int.mul_add]; simp; omega, Int.add_mul_ediv_left _ _ (by omega)])]
      rw [sm_add, sm_const]; omega
def tri (n : Nat) : Int := sm (fun i => (i : Int)) n
theorem tri_eq : ∀ n : Nat, 2 * tri n = (n : Int) * ((n : Int) - 1)
  | 0 => by simp [tri, sm]
  | n + 1 => by
    have ih := tri_eq n
    show 2 * (tri n + (n : Int)) = ((n + 1 : Nat) : Int) * (((n + 1 : Nat) : Int) - 1)
    rw [Int.mul_add, ih, Int.natCast_add]
    simp only [Int.mul_sub, Int.add_mul, Int.mul_add, Int.mul_one, Int.one_mul]
    simp
    omega
theorem fsm_lin {c : Int} (hc : 0 < c) (a b : Int) : ∀ n : Nat, fsm n c a b = tri n * (a / c) + n * (b / c) + fsm n c (a % c) (b % c)
  | 0 => by simp [fsm, tri, sm]
  | n + 1 => by
    have ih := fsm_lin hc a b n
    show fsm n c a b + (a * (n : Int) + b) / c = (tri n + (n : Int)) * (a / c) + ((n + 1 : Nat) : Int) * (b / c) + (fsm n c (a % c) (b % c) + (a % c * (n : Int) + b % c) / c)
    have ea := Int.mul_ediv_add_emod a c
    have eb := Int.mul_ediv_add_emod b c
    have e : (a * (n : Int) + b) / c = (n : Int) * (a / c) + b / c + (a % c * (n : Int) + b % c) / c := by
      have e1 : a * (n : Int) + b = (a % c * (n : Int) + b % c) + c * ((n : Int) * (a / c) + b / c) := by
        generalize a / c = u at *
        generalize a % c = v at *
        generalize b / c = s at *
        generalize b % c = t at *
        rw [← ea, ← eb]
        simp only [Int.mul_add, Int.add_mul, Int.mul_assoc, Int.mul_comm, Int.mul_left_comm]
        omega
      rw [e1, Int.add_mul_ediv_left _ _ (by omega)]; omega
    rw [ih, e, Int.natCast_add, Int.add_mul, Int.add_mul]
    simp
    omega
theorem fsm_q {a b c n : Int} (hn : 0 ≤ n) (ha : 0 ≤ a) (hac : a < c) (hb : 0 ≤ b) (hbc : b < c) : 0 ≤ (a * n + b) / c ∧ (a * n + b) / c ≤ n := by
  have h1 := Int.mul_nonneg ha hn
  refine ⟨Int.ediv_nonneg (by omega) (by omega), Int.le_of_lt_add_one (Int.ediv_lt_of_lt_mul (by omega) ?_)⟩
  have h2 : a * n ≤ (c - 1) * n := Int.mul_le_mul_of_nonneg_right (by omega) hn
  rw [Int.sub_mul] at h2
  rw [Int.add_mul, Int.mul_comm n c]
  omega
theorem t_X4_floorSum {n c a b : Int} {mu : Mem} (hn : 0 ≤ n) (hn2 : n ≤ 30000000) (hc : 0 < c) (hc2 : c ≤ 60) (ha : -60 ≤ a ∧ a ≤ 60) (hb : -2000000000 ≤ b ∧ b ≤ 2000000000) : TrE 2 mX4_floorSum [vl n, vl c, vl a, vl b] mu (some (vl (fsm n.toNat c a b))) mu := by
  refine Tr.of (by decide +kernel) (Nat.le_of_ble_eq_true rfl) (fun K C E => ?_)
  have loop : ∀ (k : Nat) (s cnt bel slo sta t : Int) (v19 v20 v21 v22 : Vv), 0 ≤ bel → bel ≤ k → bel ≤ 60 → 0 ≤ t → t + bel ≤ 60 → 0 ≤ cnt → cnt ≤ 30000000 → (-60 ≤ slo ∧ slo ≤ 60) → (-2000000000 ≤ sta ∧ sta ≤ 2000000000) → (bel = 0 → cnt = 0) → fsm n.toNat c a b = s + fsm cnt.toNat bel slo sta →
      AW K mX4_floorSum (NC, 0, 0) 20 [vl n, vx, vl c, vx, vl a, vx, vl b, vx, vl s, vx, vl cnt, vx, vl bel, vx, vl slo, vx, vl sta, vx, vi t, v19, v20, v21, v22] [] mu := by
    intro k
    induction k with
    | zero =>
      intro s cnt bel slo sta t v19 v20 v21 v22 q1 q2 q3 q4 q5 q6 q7 q8 q9 q10 q11
      have hz : cnt = 0 := q10 (by omega)
      subst hz
      refine aw_iload C dX4_floorSum_20 rfl ?_
      refine aw_sipush C dX4_floorSum_22 rfl ?_
      refine aw_icmp_ge C dX4_floorSum_25 (tgt := 141) (by decide) ⟨by omega, by omega⟩ ⟨by omega, by omega⟩ (fun c1 => ?_) (fun c1 => ?_)
      · exfalso; omega
      · refine aw_lload C dX4_floorSum_28 rfl ?_
        refine aw_lconst C dX4_floorSum_30 (v := 0) rfl ?_
        refine aw_lcmp_le C dX4_floorSum_31 dX4_floorSum_32 (tgt := 141) (by decide) ⟨by omega, by omega⟩ ⟨by omega, by omega⟩ (fun c2 => ?_) (fun c2 => ?_)
        · refine aw_lload C dX4_floorSum_141 rfl ?_
          exact aw_lret C E dX4_floorSum_143 rfl ⟨by rw [q11]; show _ = some (vl (s + 0)); rw [Int.add_zero], rfl⟩
        · exfalso; omega
    | succ k ih =>
      intro s cnt bel slo sta t v19 v20 v21 v22 q1 q2 q3 q4 q5 q6 q7 q8 q9 q10 q11
      by_cases hz : cnt = 0
      · subst hz
        refine aw_iload C dX4_floorSum_20 rfl ?_
        refine aw_sipush C dX4_floorSum_22 rfl ?_
        refine aw_icmp_ge C dX4_floorSum_25 (tgt := 141) (by decide) ⟨by omega, by omega⟩ ⟨by omega, by omega⟩ (fun c1 => ?_) (fun c1 => ?_)
        · exfalso; omega
        · refine aw_lload C dX4_floorSum_28 rfl ?_
          refine aw_lconst C dX4_floorSum_30 (v := 0) rfl ?_
          refine aw_lcmp_le C dX4_floorSum_31 dX4_floorSum_32 (tgt := 141) (by decide) ⟨by omega, by omega⟩ ⟨by omega, by omega⟩ (fun c2 => ?_) (fun c2 => ?_)
          · refine aw_lload C dX4_floorSum_141 rfl ?_
            exact aw_lret C E dX4_floorSum_143 rfl ⟨by rw [q11]; show _ = some (vl (s + 0)); rw [Int.add_zero], rfl⟩
          · exfalso; omega
      · have hbel : 0 < bel := by
          rcases Int.lt_or_eq_of_le q1 with w | w
          · exact w
          · exact absurd (q10 w.symm) hz
        have s0 := Int.emod_nonneg slo (show bel ≠ 0 by omega)
        have s1 := Int.emod_lt_of_pos slo hbel
        have t0 := Int.emod_nonneg sta (show bel ≠ 0 by omega)
        have t1 := Int.emod_lt_of_pos sta hbel
        have m1 := mulb (a := cnt) (b := cnt - 1) (A := 30000000) (B := 30000000) ⟨by omega, by omega⟩ ⟨by omega, by omega⟩
        have m2 := mulb (a := slo % bel) (b := cnt) (A := 60) (B := 30000000) ⟨by omega, by omega⟩ ⟨by omega, by omega⟩
        have u0 := fsm_q q6 s0 s1 t0 t1
        have u1 := Int.emod_nonneg (slo % bel * cnt + sta % bel) (show bel ≠ 0 by omega)
        have u2 := Int.emod_lt_of_pos (slo % bel * cnt + sta % bel) hbel
        refine aw_iload C dX4_floorSum_20 rfl ?_
        refine aw_sipush C dX4_floorSum_22 rfl ?_
        refine aw_icmp_ge C dX4_floorSum_25 (tgt := 141) (by decide) ⟨by omega, by omega⟩ ⟨by omega, by omega⟩ (fun c1 => ?_) (fun c1 => ?_)
        · exfalso; omega
        · refine aw_lload C dX4_floorSum_28 rfl ?_
          refine aw_lconst C dX4_floorSum_30 (v := 0) rfl ?_
          refine aw_lcmp_le C dX4_floorSum_31 dX4_floorSum_32 (tgt := 141) (by decide) ⟨by omega, by omega⟩ ⟨by omega, by omega⟩ (fun c2 => ?_) (fun c2 => ?_)
          · exfalso; omega
          · refine aw_lload C dX4_floorSum_35 rfl ?_
            refine aw_lconst C dX4_floorSum_37 (v := 0) rfl ?_
            refine aw_lcmp_le C dX4_floorSum_38 dX4_floorSum_39 (tgt := 141) (by decide) ⟨by omega, by omega⟩ ⟨by omega, by omega⟩ (fun c3 => ?_) (fun c3 => ?_)
            · exfalso; omega
            · refine aw_lload C dX4_floorSum_42 rfl ?_
              refine aw_lload C dX4_floorSum_44 rfl ?_
              refine aw_lload C dX4_floorSum_46 rfl ?_
              refine aw_lconst C dX4_floorSum_48 (v := 1) rfl ?_
              refine aw_lsub C dX4_floorSum_49 ?_
              refine aw_lmul C dX4_floorSum_50 ?_
              refine aw_ldc2 C dX4_floorSum_51 kX4_28 (z := 2) (by decide +kernel) ?_
              refine aw_ldiv C dX4_floorSum_54 ⟨by omega, by omega⟩ ⟨by omega, by omega⟩ (by omega) ?_
              refine aw_lload C dX4_floorSum_55 rfl ?_
              refine aw_lload C dX4_floorSum_57 rfl ?_
              refine aw_callS1 C dX4_floorSum_59 lX4_30 vX4_floorBy (t_X4_floorBy ⟨by omega, by omega⟩ ⟨by omega, by omega⟩ hbel) rfl rfl rfl ⟨by decide, by decide⟩ (Nat.le_of_ble_eq_true rfl) ?_
              refine aw_lmul C dX4_floorSum_62 ?_
              refine aw_lload C dX4_floorSum_63 rfl ?_
              refine aw_lload C dX4_floorSum_65 rfl ?_
              refine aw_lload C dX4_floorSum_67 rfl ?_
              refine aw_callS1 C dX4_floorSum_69 lX4_30 vX4_floorBy (t_X4_floorBy ⟨by omega, by omega⟩ ⟨by omega, by omega⟩ hbel) rfl rfl rfl ⟨by decide, by decide⟩ (Nat.le_of_ble_eq_true rfl) ?_
              refine aw_lmul C dX4_floorSum_72 ?_
              refine aw_ladd C dX4_floorSum_73 ?_
              refine aw_ladd C dX4_floorSum_74 ?_
              refine aw_lstore C dX4_floorSum_75 (by decide) ?_
              refine aw_lload C dX4_floorSum_77 rfl ?_
              refine aw_lload C dX4_floorSum_79 rfl ?_
              refine aw_callS1 C dX4_floorSum_81 lX4_22 vX4_rest (t_X4_rest ⟨by omega, by omega⟩ ⟨by omega, by omega⟩ hbel) rfl rfl rfl ⟨by decide, by decide⟩ (Nat.le_of_ble_eq_true rfl) ?_
              refine aw_lstore C dX4_floorSum_84 (by decide) ?_
              refine aw_lload C dX4_floorSum_86 rfl ?_
              refine aw_lload C dX4_floorSum_88 rfl ?_
              refine aw_callS1 C dX4_floorSum_90 lX4_22 vX4_rest (t_X4_rest ⟨by omega, by omega⟩ ⟨by omega, by omega⟩ hbel) rfl rfl rfl ⟨by decide, by decide⟩ (Nat.le_of_ble_eq_true rfl) ?_
              refine aw_lstore C dX4_floorSum_93 (by decide) ?_
              refine aw_lload C dX4_floorSum_95 rfl ?_
              refine aw_lload C dX4_floorSum_97 rfl ?_
              refine aw_lmul C dX4_floorSum_99 ?_
              refine aw_lload C dX4_floorSum_100 rfl ?_
              refine aw_ladd C dX4_floorSum_102 ?_
              refine aw_lstore C dX4_floorSum_103 (by decide) ?_
              refine aw_lload C dX4_floorSum_105 rfl ?_
              refine aw_lload C dX4_floorSum_107 rfl ?_
              refine aw_callS1 C dX4_floorSum_109 lX4_30 vX4_floorBy (t_X4_floorBy ⟨by omega, by omega⟩ ⟨by omega, by omega⟩ hbel) rfl rfl rfl ⟨by decide, by decide⟩ (Nat.le_of_ble_eq_true rfl) ?_
              refine aw_lstore C dX4_floorSum_112 (by decide) ?_
              refine aw_lload C dX4_floorSum_114 rfl ?_
              refine aw_lload C dX4_floorSum_116 rfl ?_
              refine aw_callS1 C dX4_floorSum_118 lX4_22 vX4_rest (t_X4_rest ⟨by omega, by omega⟩ ⟨by omega, by omega⟩ hbel) rfl rfl rfl ⟨by decide, by decide⟩ (Nat.le_of_ble_eq_true rfl) ?_
              refine aw_lstore C dX4_floorSum_121 (by decide) ?_
              refine aw_lload C dX4_floorSum_123 rfl ?_
              refine aw_lstore C dX4_floorSum_125 (by decide) ?_
              refine aw_lload C dX4_floorSum_127 rfl ?_
              refine aw_lstore C dX4_floorSum_129 (by decide) ?_
              refine aw_lload C dX4_floorSum_131 rfl ?_
              refine aw_lstore C dX4_floorSum_133 (by decide) ?_
              refine aw_iinc C dX4_floorSum_135 rfl ?_
              refine aw_goto C dX4_floorSum_138 (tgt := 20) (by decide) ?_
              refine ih _ _ _ _ _ (t + 1) _ _ _ _ s0 (by omega) (by omega) (by omega) (by omega) u0.1 (by omega) (by omega) (by omega) (fun w => ?_) ?_
              · rw [w, Int.zero_mul, Int.zero_add]
                exact Int.ediv_eq_zero_of_lt t0 t1
              · have hT : (cnt * (cnt - 1)).tdiv 2 = tri cnt.toNat := by
                  have w := tri_eq cnt.toNat
                  rw [Int.toNat_of_nonneg q6] at w
                  rw [← w, Int.mul_comm 2, Int.mul_tdiv_cancel _ (by decide)]
                rw [q11, fsm_lin hbel slo sta cnt.toNat, Int.toNat_of_nonneg q6, hT]
                rcases Int.lt_or_eq_of_le s0 with w | w
                · have z := fsm_swap w s1 t0 t1 cnt.toNat
                  rw [Int.toNat_of_nonneg q6] at z
                  rw [z]; omega
                · rw [← w, Int.zero_mul, Int.zero_add, Int.ediv_eq_zero_of_lt t0 t1]
                  have z : fsm cnt.toNat bel 0 (sta % bel) = 0 := by
                    unfold fsm
                    rw [sm_congr (g := fun _ => 0) _ (fun j _ => by
                      show (0 * (j : Int) + sta % bel) / bel = 0
                      rw [Int.zero_mul, Int.zero_add]; exact Int.ediv_eq_zero_of_lt t0 t1), sm_const]; omega
                  rw [z]
                  show s + (_ + 0) = s + _ + 0
                  omega
  refine aw_lconst C dX4_floorSum_0 (v := 0) rfl ?_
  refine aw_lstore C dX4_floorSum_1 (by decide) ?_
  refine aw_lload_n C dX4_floorSum_3 rfl ?_
  refine aw_lstore C dX4_floorSum_4 (by decide) ?_
  refine aw_lload_n C dX4_floorSum_6 rfl ?_
  refine aw_lstore C dX4_floorSum_7 (by decide) ?_
  refine aw_lload C dX4_floorSum_9 rfl ?_
  refine aw_lstore C dX4_floorSum_11 (by decide) ?_
  refine aw_lload C dX4_floorSum_13 rfl ?_
  refine aw_lstore C dX4_floorSum_15 (by decide) ?_
  refine aw_iconst C dX4_floorSum_17 ?_
  refine aw_istore C dX4_floorSum_18 (by decide) ?_
  exact loop c.toNat 0 n c a b 0 _ _ _ _ (by omega) (by omega) (by omega) (by omega) (by omega) (by omega) (by omega) (by omega) (by omega) (by omega) (by rw [Int.zero_add])

theorem ff_step {B s f g : Int} (hs : s ≠ 0) (h : f.natAbs * s.natAbs + g.natAbs * B.natAbs ≤ 60) :
    g.natAbs * (B - B.tdiv s * s).natAbs + (f - B.tdiv s * g).natAbs * s.natAbs ≤ 60 ∧ (f - B.tdiv s * g).natAbs ≤ 60 ∧ (B - B.tdiv s * s).natAbs < s.natAbs := by
  have e1 : B - B.tdiv s * s = B.tmod s := by rw [Int.tmod_def, Int.mul_comm]
  have e2 := Int.natAbs_tmod B s
  have e3 : (B.tdiv s).natAbs = B.natAbs / s.natAbs := Int.natAbs_tdiv B s
  have e4 := Nat.div_add_mod B.natAbs s.natAbs
  have hs0 : 0 < s.natAbs := by omega
  have e5 := Nat.mod_lt B.natAbs hs0
  have e6 := Int.natAbs_sub_le f (B.tdiv s * g)
  rw [Int.natAbs_mul, e3] at e6
  rw [e1, e2]
  generalize hb : B.natAbs = b at *
  generalize hss : s.natAbs = t at *
  generalize hf : f.natAbs = u at *
  generalize hg : g.natAbs = v at *
  generalize (f - B.tdiv s * g).natAbs = w at *
  have e7 : w * t ≤ (u + b / t * v) * t := Nat.mul_le_mul_right t e6
  have e8 : (u + b / t * v) * t = u * t + v * (t * (b / t)) := by
    rw [Nat.add_mul]
    congr 1
    rw [Nat.mul_comm (b / t) v, Nat.mul_assoc, Nat.mul_comm (b / t) t]
  have e9 : v * b = v * (t * (b / t)) + v * (b % t) := by rw [← Nat.mul_add, e4]
  have e10 : w ≤ w * t := Nat.le_mul_of_pos_right w hs0
  omega
/-- what firstFactor answers: with some t it makes the greatest common divisor -/
theorem t_X4_firstFactor {a b : Int} {mu : Mem} (ha : -60 ≤ a ∧ a ≤ 60) (hb : -60 ≤ b ∧ b ≤ 60) : Tr 1 mX4_firstFactor [vi a, vi b] mu (fun r mu2 => ∃ s t : Int, r = some (vi s) ∧ mu = mu2 ∧ (-60 ≤ s ∧ s ≤ 60) ∧ s * a + t * b = (Int.gcd a b : Int)) := by
  refine Tr.of (by decide +kernel) (Nat.le_of_ble_eq_true rfl) (fun K C E => ?_)
  have loop : ∀ (k : Nat) (B s f g n : Int) (p q : Int) (v11 v12 v13 v14 v15 v16 : Vv), s.natAbs ≤ k → 0 ≤ n → n + k ≤ 60 → B.natAbs ≤ 60 → f.natAbs ≤ 60 → g.natAbs ≤ 60 → f.natAbs * s.natAbs + g.natAbs * B.natAbs ≤ 60 → f * a + p * b = B → g * a + q * b = s → Int.gcd B s = Int.gcd a b →
      AW K mX4_firstFactor (NC, 0, 0) 16 [vi a, vi b, vl B, vx, vl s, vx, vl f, vx, vl g, vx, vi n, v11, v12, v13, v14, v15, v16] [] mu := by
    intro k
    induction k with
    | zero =>
      intro B s f g n p q v11 v12 v13 v14 v15 v16 h1 h2 h3 h4 h5 h6 h7 h8 h9 h10
      have hs : s = 0 := by omega
      subst hs
      rw [Int.gcd_zero_right] at h10
      refine aw_iload C dX4_firstFactor_16 rfl ?_
      refine aw_sipush C dX4_firstFactor_18 rfl ?_
      refine aw_icmp_ge C dX4_firstFactor_21 (tgt := 79) (by decide) ⟨by omega, by omega⟩ ⟨by omega, by omega⟩ (fun c1 => ?_) (fun c1 => ?_)
      · exfalso; omega
      · refine aw_lload C dX4_firstFactor_24 rfl ?_
        refine aw_lconst C dX4_firstFactor_26 (v := 0) rfl ?_
        refine aw_lcmp_eq C dX4_firstFactor_27 dX4_firstFactor_28 (tgt := 79) (by decide) ⟨by omega, by omega⟩ ⟨by omega, by omega⟩ (fun c2 => ?_) (fun c2 => ?_)
        · refine aw_lload_n C dX4_firstFactor_79 rfl ?_
          refine aw_lconst C dX4_firstFactor_80 (v := 0) rfl ?_
          refine aw_lcmp_ge C dX4_firstFactor_81 dX4_firstFactor_82 (tgt := 91) (by decide) ⟨by omega, by omega⟩ ⟨by omega, by omega⟩ (fun c3 => ?_) (fun c3 => ?_)
          · have hr : f * a + p * b = (Int.gcd a b : Int) := by rw [h8, ← h10]; omega
            --go
            refine aw_lload C dX4_firstFactor_91 rfl ?_
            refine aw_l2i C dX4_firstFactor_93 ?_
            exact aw_iret C E dX4_firstFactor_94 rfl ⟨_, _, rfl, rfl, by omega, hr⟩
          · have hr : -f * a + -p * b = (Int.gcd a b : Int) := by rw [Int.neg_mul, Int.neg_mul, ← Int.neg_add, h8, ← h10]; omega
            --go
            refine aw_lload C dX4_firstFactor_85 rfl ?_
            refine aw_lneg C dX4_firstFactor_87 ?_
            refine aw_goto C dX4_firstFactor_88 (tgt := 93) (by decide) ?_
            refine aw_l2i C dX4_firstFactor_93 ?_
            exact aw_iret C E dX4_firstFactor_94 rfl ⟨_, _, rfl, rfl, by omega, hr⟩
        · exfalso; omega
    | succ k ih =>
      intro B s f g n p q v11 v12 v13 v14 v15 v16 h1 h2 h3 h4 h5 h6 h7 h8 h9 h10
      by_cases hs : s = 0
      · subst hs
        rw [Int.gcd_zero_right] at h10
        refine aw_iload C dX4_firstFactor_16 rfl ?_
        refine aw_sipush C dX4_firstFactor_18 rfl ?_
        refine aw_icmp_ge C dX4_firstFactor_21 (tgt := 79) (by decide) ⟨by omega, by omega⟩ ⟨by omega, by omega⟩ (fun c1 => ?_) (fun c1 => ?_)
        · exfalso; omega
        · refine aw_lload C dX4_firstFactor_24 rfl ?_
          refine aw_lconst C dX4_firstFactor_26 (v := 0) rfl ?_
          refine aw_lcmp_eq C dX4_firstFactor_27 dX4_firstFactor_28 (tgt := 79) (by decide) ⟨by omega, by omega⟩ ⟨by omega, by omega⟩ (fun c2 => ?_) (fun c2 => ?_)
          · refine aw_lload_n C dX4_firstFactor_79 rfl ?_
            refine aw_lconst C dX4_firstFactor_80 (v := 0) rfl ?_
            refine aw_lcmp_ge C dX4_firstFactor_81 dX4_firstFactor_82 (tgt := 91) (by decide) ⟨by omega, by omega⟩ ⟨by omega, by omega⟩ (fun c3 => ?_) (fun c3 => ?_)
            · have hr : f * a + p * b = (Int.gcd a b : Int) := by rw [h8, ← h10]; omega
              --go
              refine aw_lload C dX4_firstFactor_91 rfl ?_
              refine aw_l2i C dX4_firstFactor_93 ?_
              exact aw_iret C E dX4_firstFactor_94 rfl ⟨_, _, rfl, rfl, by omega, hr⟩
            · have hr : -f * a + -p * b = (Int.gcd a b : Int) := by rw [Int.neg_mul, Int.neg_mul, ← Int.neg_add, h8, ← h10]; omega
              --go
              refine aw_lload C dX4_firstFactor_85 rfl ?_
              refine aw_lneg C dX4_firstFactor_87 ?_
              refine aw_goto C dX4_firstFactor_88 (tgt := 93) (by decide) ?_
              refine aw_l2i C dX4_firstFactor_93 ?_
              exact aw_iret C E dX4_firstFactor_94 rfl ⟨_, _, rfl, rfl, by omega, hr⟩
          · exfalso; omega
      · obtain ⟨z1, z2, z3⟩ := ff_step hs h7
        refine aw_iload C dX4_firstFactor_16 rfl ?_
        refine aw_sipush C dX4_firstFactor_18 rfl ?_
        refine aw_icmp_ge C dX4_firstFactor_21 (tgt := 79) (by decide) ⟨by omega, by omega⟩ ⟨by omega, by omega⟩ (fun c1 => ?_) (fun c1 => ?_)
        · exfalso; omega
        · refine aw_lload C dX4_firstFactor_24 rfl ?_
          refine aw_lconst C dX4_firstFactor_26 (v := 0) rfl ?_
          refine aw_lcmp_eq C dX4_firstFactor_27 dX4_firstFactor_28 (tgt := 79) (by decide) ⟨by omega, by omega⟩ ⟨by omega, by omega⟩ (fun c2 => ?_) (fun c2 => ?_)
          · exfalso; omega
          · refine aw_lload_n C dX4_firstFactor_31 rfl ?_
            refine aw_lload C dX4_firstFactor_32 rfl ?_
            refine aw_callS1 C dX4_firstFactor_34 lX4_25 vX4_by (t_X4_by ⟨by omega, by omega⟩ ⟨by omega, by omega⟩) rfl rfl rfl ⟨by decide, by decide⟩ (Nat.le_of_ble_eq_true rfl) ?_
            refine aw_lstore C dX4_firstFactor_37 (by decide) ?_
            refine aw_lload_n C dX4_firstFactor_39 rfl ?_
            refine aw_lload C dX4_firstFactor_40 rfl ?_
            refine aw_lload C dX4_firstFactor_42 rfl ?_
            refine aw_lmul C dX4_firstFactor_44 ?_
            refine aw_lsub C dX4_firstFactor_45 ?_
            refine aw_lstore C dX4_firstFactor_46 (by decide) ?_
            refine aw_lload C dX4_firstFactor_48 rfl ?_
            refine aw_lload C dX4_firstFactor_50 rfl ?_
            refine aw_lload C dX4_firstFactor_52 rfl ?_
            refine aw_lmul C dX4_firstFactor_54 ?_
            refine aw_lsub C dX4_firstFactor_55 ?_
            refine aw_lstore C dX4_firstFactor_56 (by decide) ?_
            refine aw_lload C dX4_firstFactor_58 rfl ?_
            refine aw_lstore_n C dX4_firstFactor_60 (by decide) ?_
            refine aw_lload C dX4_firstFactor_61 rfl ?_
            refine aw_lstore C dX4_firstFactor_63 (by decide) ?_
            refine aw_lload C dX4_firstFactor_65 rfl ?_
            refine aw_lstore C dX4_firstFactor_67 (by decide) ?_
            refine aw_lload C dX4_firstFactor_69 rfl ?_
            refine aw_lstore C dX4_firstFactor_71 (by decide) ?_
            refine aw_iinc C dX4_firstFactor_73 rfl ?_
            refine aw_goto C dX4_firstFactor_76 (tgt := 16) (by decide) ?_
            refine ih s (B - B.tdiv s * s) g (f - B.tdiv s * g) (n + 1) q (p - B.tdiv s * q) _ _ _ _ _ _ (by omega) (by omega) (by omega) (by omega) h6 z2 z1 h9 ?_ ?_
            · rw [← h8, ← h9, Int.sub_mul, Int.sub_mul, Int.mul_add, Int.mul_assoc, Int.mul_assoc]; omega
            · have e1 := Int.gcd_sub_mul_right_right s B (B.tdiv s)
              rw [e1, Int.gcd_comm]
              exact h10
  refine aw_iload_n C dX4_firstFactor_0 rfl ?_
  refine aw_i2l C dX4_firstFactor_1 ⟨by omega, by omega⟩ ?_
  refine aw_lstore_n C dX4_firstFactor_2 (by decide) ?_
  refine aw_iload_n C dX4_firstFactor_3 rfl ?_
  refine aw_i2l C dX4_firstFactor_4 ⟨by omega, by omega⟩ ?_
  refine aw_lstore C dX4_firstFactor_5 (by decide) ?_
  refine aw_lconst C dX4_firstFactor_7 (v := 1) rfl ?_
  refine aw_lstore C dX4_firstFactor_8 (by decide) ?_
  refine aw_lconst C dX4_firstFactor_10 (v := 0) rfl ?_
  refine aw_lstore C dX4_firstFactor_11 (by decide) ?_
  refine aw_iconst C dX4_firstFactor_13 ?_
  refine aw_istore C dX4_firstFactor_14 (by decide) ?_
  exact loop 60 a b 1 0 0 0 1 _ _ _ _ _ _ (by omega) (by omega) (by omega) (by omega) (by omega) (by omega) (by show 1 * b.natAbs + 0 * a.natAbs ≤ 60; omega) (by omega) (by omega) rfl
/-- q is the kind of the cone of (a, b), (c, d) -/
def isK (a b c d q : Int) : Prop := 0 ≤ q ∧ q < a * d - b * c ∧ (a * d - b * c) ∣ q * a + c ∧ (a * d - b * c) ∣ q * b + d
theorem isK_uniq {a b c d q r : Int} (hp : Int.gcd a b = 1) (h1 : isK a b c d q) (h2 : isK a b c d r) : q = r := by
  obtain ⟨a1, a2, a3, a4⟩ := h1
  obtain ⟨b1, b2, b3, b4⟩ := h2
  generalize a * d - b * c = N at *
  have d1 : N ∣ (q - r) * a := by
    have := Int.dvd_sub a3 b3
    rw [show q * a + c - (r * a + c) = (q - r) * a by rw [Int.sub_mul]; omega] at this
    exact this
  have d2 : N ∣ (q - r) * b := by
    have := Int.dvd_sub a4 b4
    rw [show q * b + d - (r * b + d) = (q - r) * b by rw [Int.sub_mul]; omega] at this
    exact this
  have d3 : N ∣ q - r := by
    have h := Int.dvd_coe_gcd d1 d2
    rw [Int.gcd_mul_left, hp, Nat.mul_one] at h
    exact Int.dvd_natAbs.mp h
  obtain ⟨t, ht⟩ := d3
  rcases Int.lt_trichotomy t 0 with h | h | h
  · have : N * t ≤ N * (-1) := Int.mul_le_mul_of_nonneg_left (by omega) (by omega)
    omega
  · subst h; omega
  · have : N * 1 ≤ N * t := Int.mul_le_mul_of_nonneg_left (by omega) (by omega)
    omega
theorem isK_of {a b c d s t : Int} (h : s * a + t * b = 1) (hN : 0 < a * d - b * c) : isK a b c d ((-(s * c + t * d)) % (a * d - b * c)) := by
  have e := Int.mul_ediv_add_emod (-(s * c + t * d)) (a * d - b * c)
  generalize hq : (-(s * c + t * d)) / (a * d - b * c) = u at e
  refine ⟨Int.emod_nonneg _ (by omega), Int.emod_lt_of_pos _ hN, ?_, ?_⟩
  · generalize (-(s * c + t * d)) % (a * d - b * c) = v at e ⊢
    refine ⟨-t - u * a, ?_⟩
    have e1 : v = -(s * c + t * d) - (a * d - b * c) * u := by omega
    have e2 : v * a + c = v * a + (s * a + t * b) * c := by rw [h, Int.one_mul]
    rw [e2, e1]
    simp only [Int.mul_add, Int.add_mul, Int.sub_mul, Int.mul_sub, Int.neg_mul, Int.mul_neg, Int.neg_neg, Int.mul_one, Int.one_mul, Int.mul_assoc, Int.mul_comm, Int.mul_left_comm]
    omega
  · generalize (-(s * c + t * d)) % (a * d - b * c) = v at e ⊢
    refine ⟨s - u * b, ?_⟩
    have e1 : v = -(s * c + t * d) - (a * d - b * c) * u := by omega
    have e2 : v * b + d = v * b + (s * a + t * b) * d := by rw [h, Int.one_mul]
    rw [e2, e1]
    simp only [Int.mul_add, Int.add_mul, Int.sub_mul, Int.mul_sub, Int.neg_mul, Int.mul_neg, Int.neg_neg, Int.mul_one, Int.one_mul, Int.mul_assoc, Int.mul_comm, Int.mul_left_comm]
    omega
noncomputable def kq (V : FV) (i : Int) : Int := @dite _ (∃ q, isK (gx V i) (gy V i) (gx V (nxt V i)) (gy V (nxt V i)) q) (Classical.propDecidable _) (fun h => h.choose) (fun _ => 0)
theorem kq_eq {V : FV} {i q : Int} (hp : Int.gcd (gx V i) (gy V i) = 1) (h : isK (gx V i) (gy V i) (gx V (nxt V i)) (gy V (nxt V i)) q) : kq V i = q := by
  have hx : ∃ q, isK (gx V i) (gy V i) (gx V (nxt V i)) (gy V (nxt V i)) q := ⟨q, h⟩
  unfold kq
  rw [dif_pos hx]
  exact isK_uniq hp hx.choose_spec h
/-- the rays are whole ones -/
def prm (V : FV) : Prop := ∀ i : Int, 0 ≤ i → i < V.1 → Int.gcd (gx V i) (gy V i) = 1
theorem bez0 : ∀ (n : Nat) (a b : Int), b.natAbs ≤ n → ∃ s t : Int, s * a + t * b = (Int.gcd a b : Int)
  | 0, a, b, h => by
    have hb : b = 0 := by omega
    subst hb
    rw [Int.gcd_zero_right]
    rcases Int.le_total 0 a with q | q
    · exact ⟨1, 0, by omega⟩
    · exact ⟨-1, 0, by omega⟩
  | n + 1, a, b, h => by
    by_cases hb : b = 0
    · exact bez0 n a b (by omega)
    · have h1 := Int.emod_nonneg a hb
      have h2 := Int.emod_lt a hb
      obtain ⟨s, t, q⟩ := bez0 n b (a % b) (by omega)
      rw [gcd_step] at q
      refine ⟨t, s - t * (a / b), ?_⟩
      have e := Int.mul_ediv_add_emod a b
      rw [← q]
      generalize a / b = u at *
      generalize a % b = v at *
      rw [← e]
      simp only [Int.mul_add, Int.add_mul, Int.sub_mul, Int.mul_sub, Int.neg_mul, Int.mul_neg, Int.neg_neg, Int.mul_one, Int.one_mul, Int.mul_assoc, Int.mul_comm, Int.mul_left_comm]
      omega
theorem bez {a b : Int} (h : Int.gcd a b = 1) : ∃ s t : Int, s * a + t * b = 1 := by
  obtain ⟨s, t, q⟩ := bez0 _ a b (Nat.le_refl _)
  exact ⟨s, t, by rw [q, h]; rfl⟩
theorem kq_ok {V : FV} {i : Int} (hp : Int.gcd (gx V i) (gy V i) = 1) (ht : 0 < trn V i) : isK (gx V i) (gy V i) (gx V (nxt V i)) (gy V (nxt V i)) (kq V i) := by
  obtain ⟨s, t, h⟩ := bez hp
  have h2 := isK_of h (c := gx V (nxt V i)) (d := gy V (nxt V i)) ht
  rw [kq_eq hp h2]
  exact h2
theorem t_X1_kind {f : Nat} {mu : Mem} {i : Int} (hf : isF f) (hV : bV (fv mu f)) (hc : clo (fv mu f)) (hp : prm (fv mu f)) (h0 : 0 ≤ i) (h1 : i < mu f 0) : TrE 3 mX1_kind [vr f, vi i] mu (some (vi (kq (fv mu f) i))) mu := by
  refine Tr.of (by decide +kernel) (Nat.le_of_ble_eq_true rfl) (fun K C E => ?_)
  have hn := hV.n
  obtain ⟨a1, a2⟩ : 0 ≤ nxt (fv mu f) i ∧ nxt (fv mu f) i < mu f 0 := nxt_in h0 h1
  have x1 := hV.x i
  have x2 := hV.x (nxt (fv mu f) i)
  have y1 := hV.y i
  have y2 := hV.y (nxt (fv mu f) i)
  have ht := hV.trn i
  have ht2 := hc.2 i h0 h1
  have hg := hp i h0 h1
  have key : ∀ s t : Int, s * gx (fv mu f) i + t * gy (fv mu f) i = 1 → kq (fv mu f) i = (-(s * gx (fv mu f) (nxt (fv mu f) i) + t * gy (fv mu f) (nxt (fv mu f) i))) % trn (fv mu f) i := fun s t h => kq_eq hg (isK_of h ht2)
  refine aw_aload_n C dX1_kind_0 rfl ?_
  refine aw_iload_n C dX1_kind_1 rfl ?_
  refine aw_call1 C dX1_kind_2 lX1_59 vX1_behind (t_X1_behind hf hV (by omega) (by omega)) rfl rfl rfl hf.s0 rfl ⟨by decide, by decide⟩ (Nat.le_of_ble_eq_true rfl) ?_
  refine aw_istore_n C dX1_kind_5 (by decide) ?_
  refine aw_aload_n C dX1_kind_6 rfl ?_
  refine aw_iload_n C dX1_kind_7 rfl ?_
  refine aw_call1 C dX1_kind_8 lX1_65 vX1_x (t_X1_x hf hV (by omega) (by omega)) rfl rfl rfl hf.s0 rfl ⟨by decide, by decide⟩ (Nat.le_of_ble_eq_true rfl) ?_
  refine aw_aload_n C dX1_kind_11 rfl ?_
  refine aw_iload_n C dX1_kind_12 rfl ?_
  refine aw_call1 C dX1_kind_13 lX1_68 vX1_y (t_X1_y hf hV (by omega) (by omega)) rfl rfl rfl hf.s0 rfl ⟨by decide, by decide⟩ (Nat.le_of_ble_eq_true rfl) ?_
  refine aw_callS C dX1_kind_16 lX1_74 vX4_firstFactor (t_X4_firstFactor x1 y1) rfl rfl rfl ⟨by decide, by decide⟩ (Nat.le_of_ble_eq_true rfl) (fun r1 mu1 hq1 => ?_)
  obtain ⟨s, t, rfl, rfl, hs, hst⟩ := hq1
  rw [hg] at hst
  have m1 := mulb hs x1
  have m2 := mulb hs x2
  show AW _ _ _ _ _ (vi s :: _) _
  refine aw_istore_n C dX1_kind_19 (by decide) ?_
  refine aw_aload_n C dX1_kind_20 rfl ?_
  refine aw_iload_n C dX1_kind_21 rfl ?_
  refine aw_call1 C dX1_kind_22 lX1_68 vX1_y (t_X1_y hf hV (by omega) (by omega)) rfl rfl rfl hf.s0 rfl ⟨by decide, by decide⟩ (Nat.le_of_ble_eq_true rfl) ?_
  refine aw_if_ne C dX1_kind_25 (tgt := 32) (by decide) ⟨by omega, by omega⟩ (fun c2 => ?_) (fun c2 => ?_)
  · have et : (1 - s * gx (fv mu f) i).tdiv (gy (fv mu f) i) = t := by
      rw [show 1 - s * gx (fv mu f) i = t * gy (fv mu f) i by omega]
      exact Int.mul_tdiv_cancel t c2
    have kk := key s t (by omega)
    have hq := Int.natAbs_tdiv_le_natAbs (1 - s * gx (fv mu f) i) (gy (fv mu f) i)
    rw [et] at hq
    have m3 := mulb (a := t) (A := 3601) ⟨by omega, by omega⟩ y2
    --go
    refine aw_lconst C dX1_kind_32 (v := 1) rfl ?_
    refine aw_iload_n C dX1_kind_33 rfl ?_
    refine aw_i2l C dX1_kind_34 ⟨by omega, by omega⟩ ?_
    refine aw_aload_n C dX1_kind_35 rfl ?_
    refine aw_iload_n C dX1_kind_36 rfl ?_
    refine aw_call1 C dX1_kind_37 lX1_65 vX1_x (t_X1_x hf hV (by omega) (by omega)) rfl rfl rfl hf.s0 rfl ⟨by decide, by decide⟩ (Nat.le_of_ble_eq_true rfl) ?_
    refine aw_i2l C dX1_kind_40 ⟨by omega, by omega⟩ ?_
    refine aw_lmul C dX1_kind_41 ?_
    refine aw_lsub C dX1_kind_42 ?_
    refine aw_aload_n C dX1_kind_43 rfl ?_
    refine aw_iload_n C dX1_kind_44 rfl ?_
    refine aw_call1 C dX1_kind_45 lX1_68 vX1_y (t_X1_y hf hV (by omega) (by omega)) rfl rfl rfl hf.s0 rfl ⟨by decide, by decide⟩ (Nat.le_of_ble_eq_true rfl) ?_
    refine aw_i2l C dX1_kind_48 ⟨by omega, by omega⟩ ?_
    refine aw_callS1 C dX1_kind_49 lX1_79 vX4_by (t_X4_by ⟨by omega, by omega⟩ ⟨by omega, by omega⟩) rfl rfl rfl ⟨by decide, by decide⟩ (Nat.le_of_ble_eq_true rfl) ?_
    try rw [et]
    refine aw_lstore C dX1_kind_52 (by decide) ?_
    refine aw_iload_n C dX1_kind_54 rfl ?_
    refine aw_i2l C dX1_kind_55 ⟨by omega, by omega⟩ ?_
    refine aw_aload_n C dX1_kind_56 rfl ?_
    refine aw_iload_n C dX1_kind_57 rfl ?_
    refine aw_call1 C dX1_kind_58 lX1_65 vX1_x (t_X1_x hf hV (by omega) (by omega)) rfl rfl rfl hf.s0 rfl ⟨by decide, by decide⟩ (Nat.le_of_ble_eq_true rfl) ?_
    refine aw_i2l C dX1_kind_61 ⟨by omega, by omega⟩ ?_
    refine aw_lmul C dX1_kind_62 ?_
    refine aw_lload C dX1_kind_63 rfl ?_
    refine aw_aload_n C dX1_kind_65 rfl ?_
    refine aw_iload_n C dX1_kind_66 rfl ?_
    refine aw_call1 C dX1_kind_67 lX1_68 vX1_y (t_X1_y hf hV (by omega) (by omega)) rfl rfl rfl hf.s0 rfl ⟨by decide, by decide⟩ (Nat.le_of_ble_eq_true rfl) ?_
    refine aw_i2l C dX1_kind_70 ⟨by omega, by omega⟩ ?_
    refine aw_lmul C dX1_kind_71 ?_
    refine aw_ladd C dX1_kind_72 ?_
    refine aw_lneg C dX1_kind_73 ?_
    refine aw_aload_n C dX1_kind_74 rfl ?_
    refine aw_iload_n C dX1_kind_75 rfl ?_
    refine aw_call1 C dX1_kind_76 lX1_55 vX1_turn (t_X1_turn hf hV (by omega) (by omega)) rfl rfl rfl hf.s0 rfl ⟨by decide, by decide⟩ (Nat.le_of_ble_eq_true rfl) ?_
    refine aw_i2l C dX1_kind_79 ⟨by omega, by omega⟩ ?_
    refine aw_callS1 C dX1_kind_80 lX1_83 vX4_rest (t_X4_rest ⟨by omega, by omega⟩ ⟨by omega, by omega⟩ (by omega)) rfl rfl rfl ⟨by decide, by decide⟩ (Nat.le_of_ble_eq_true rfl) ?_
    refine aw_l2i C dX1_kind_83 ?_
    exact aw_iret C E dX1_kind_84 rfl ⟨by rw [kk], rfl⟩
  · have kk := key s 0 (by rw [c2] at hst; omega)
    have m3 : -0 ≤ (0 : Int) * gy (fv mu f) (nxt (fv mu f) i) ∧ (0 : Int) * gy (fv mu f) (nxt (fv mu f) i) ≤ 216000 := by omega
    --go
    refine aw_lconst C dX1_kind_28 (v := 0) rfl ?_
    refine aw_goto C dX1_kind_29 (tgt := 52) (by decide) ?_
    try rw [et]
    refine aw_lstore C dX1_kind_52 (by decide) ?_
    refine aw_iload_n C dX1_kind_54 rfl ?_
    refine aw_i2l C dX1_kind_55 ⟨by omega, by omega⟩ ?_
    refine aw_aload_n C dX1_kind_56 rfl ?_
    refine aw_iload_n C dX1_kind_57 rfl ?_
    refine aw_call1 C dX1_kind_58 lX1_65 vX1_x (t_X1_x hf hV (by omega) (by omega)) rfl rfl rfl hf.s0 rfl ⟨by decide, by decide⟩ (Nat.le_of_ble_eq_true rfl) ?_
    refine aw_i2l C dX1_kind_61 ⟨by omega, by omega⟩ ?_
    refine aw_lmul C dX1_kind_62 ?_
    refine aw_lload C dX1_kind_63 rfl ?_
    refine aw_aload_n C dX1_kind_65 rfl ?_
    refine aw_iload_n C dX1_kind_66 rfl ?_
    refine aw_call1 C dX1_kind_67 lX1_68 vX1_y (t_X1_y hf hV (by omega) (by omega)) rfl rfl rfl hf.s0 rfl ⟨by decide, by decide⟩ (Nat.le_of_ble_eq_true rfl) ?_
    refine aw_i2l C dX1_kind_70 ⟨by omega, by omega⟩ ?_
    refine aw_lmul C dX1_kind_71 ?_
    refine aw_ladd C dX1_kind_72 ?_
    refine aw_lneg C dX1_kind_73 ?_
    refine aw_aload_n C dX1_kind_74 rfl ?_
    refine aw_iload_n C dX1_kind_75 rfl ?_
    refine aw_call1 C dX1_kind_76 lX1_55 vX1_turn (t_X1_turn hf hV (by omega) (by omega)) rfl rfl rfl hf.s0 rfl ⟨by decide, by decide⟩ (Nat.le_of_ble_eq_true rfl) ?_
    refine aw_i2l C dX1_kind_79 ⟨by omega, by omega⟩ ?_
    refine aw_callS1 C dX1_kind_80 lX1_83 vX4_rest (t_X4_rest ⟨by omega, by omega⟩ ⟨by omega, by omega⟩ (by omega)) rfl rfl rfl ⟨by decide, by decide⟩ (Nat.le_of_ble_eq_true rfl) ?_
    refine aw_l2i C dX1_kind_83 ?_
    exact aw_iret C E dX1_kind_84 rfl ⟨by rw [kk], rfl⟩

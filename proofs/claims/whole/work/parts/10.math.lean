theorem r64_t (a : Int64) : R64 a.toInt := ⟨a.le_toInt, Int.le_of_lt_add_one a.toInt_lt⟩
theorem r32_t (a : Int32) : R32 a.toInt := ⟨a.le_toInt, Int.le_of_lt_add_one a.toInt_lt⟩
theorem r64_of {x : Int} (h : R32 x) : R64 x := by unfold R32 at h; unfold R64; omega
theorem xor_neg {x y : Int} (rx : R64 x) (ry : R64 y) (hy : 0 ≤ y) : (Int64.ofInt x ^^^ Int64.ofInt y).toInt < 0 ↔ x < 0 := by
  have h1 : ∀ a : Int64, a.toInt < 0 ↔ a.toBitVec.msb = true := fun a => by
    rw [← Int64.toInt_toBitVec, BitVec.msb_eq_toInt]
    simp
  have h2 : (Int64.ofInt y).toBitVec.msb = false := by
    have := mt (h1 (Int64.ofInt y)).mpr (by rw [r64 ry]; omega)
    simpa using this
  have h3 := h1 (Int64.ofInt x)
  rw [r64 rx] at h3
  rw [h1, h3, Int64.toBitVec_xor, BitVec.msb_xor, h2]
  simp
theorem fdiv_dvd {x y : Int} (hy : 0 < y) (hx : x < 0) : (x.tdiv y * y = x → x.tdiv y = x / y) ∧ (x.tdiv y * y ≠ x → x.tdiv y - 1 = x / y) := by
  have hs : y.sign = 1 := Int.sign_eq_one_of_pos hy
  have h := Int.tdiv_eq_ediv (a := x) (b := y)
  by_cases hd : y ∣ x
  · rw [if_pos (Or.inr hd)] at h
    refine ⟨fun _ => by omega, fun h2 => absurd ?_ h2⟩
    rw [h, Int.add_zero]
    exact Int.ediv_mul_cancel hd
  · rw [if_neg (by intro q; rcases q with q | q; omega; exact hd q), hs] at h
    exact ⟨fun h2 => absurd ⟨x.tdiv y, by rw [Int.mul_comm]; exact h2.symm⟩ hd, fun _ => by omega⟩
theorem tmod_b (x y : Int) : (0 ≤ x → 0 ≤ x.tmod y ∧ x.tmod y ≤ x) ∧ (x ≤ 0 → x ≤ x.tmod y ∧ x.tmod y ≤ 0) := by
  have h1 := Int.natAbs_tmod x y
  have h2 := Nat.mod_le x.natAbs y.natAbs
  have h4 : 0 ≤ x → 0 ≤ x.tmod y := fun q => Int.tmod_nonneg _ q
  have h5 : x ≤ 0 → x.tmod y ≤ 0 := fun q => by
    have := Int.tmod_nonneg y (show 0 ≤ -x by omega)
    rw [Int.neg_tmod] at this; omega
  rw [← h1] at h2
  refine ⟨fun q => ?_, fun q => ?_⟩
  · have := h4 q; omega
  · have := h5 q; omega
theorem tdm_r {x y : Int} (rx : R64 x) : R64 (x.tdiv y * y) := by
  have h3 : x.tdiv y * y = x - x.tmod y := by rw [Int.tmod_def, Int.mul_comm]; omega
  obtain ⟨h4, h5⟩ := tmod_b x y
  rw [h3]
  unfold R64 at *
  rcases Int.le_total 0 x with q | q
  · have := h4 q; omega
  · have := h5 q; omega
theorem t_J9_floorDiv_f86c9 {x y : Int} {mu : Mem} (rx : R64 x) (ry : R64 y) (hy : 0 < y) : TrE 0 mJ9_floorDiv_f86c9 [vl x, vl y] mu (some (vl (x / y))) mu := by
  refine Tr.of (by decide +kernel) (Nat.le_of_ble_eq_true rfl) (fun K C E => ?_)
  have hxor := xor_neg rx ry (by omega)
  have hz := r64_t (Int64.ofInt x ^^^ Int64.ofInt y)
  have hr := tdm_r (y := y) rx
  refine aw_lload_n C dJ9_floorDiv_f86c9_0 rfl ?_
  refine aw_lload_n C dJ9_floorDiv_f86c9_1 rfl ?_
  refine aw_ldiv C dJ9_floorDiv_f86c9_2 rx ry (by omega) ?_
  refine aw_lstore C dJ9_floorDiv_f86c9_3 (by decide) ?_
  refine aw_lload_n C dJ9_floorDiv_f86c9_5 rfl ?_
  refine aw_lload_n C dJ9_floorDiv_f86c9_6 rfl ?_
  refine aw_lxor C dJ9_floorDiv_f86c9_7 ?_
  refine aw_lconst C dJ9_floorDiv_f86c9_8 (v := 0) rfl ?_
  refine aw_lcmp_ge C dJ9_floorDiv_f86c9_9 dJ9_floorDiv_f86c9_10 (tgt := 27) (by decide) hz ⟨by omega, by omega⟩ (fun c1 => ?_) (fun c1 => ?_)
  · have hx0 : 0 ≤ x := by omega
    rw [show x / y = x.tdiv y from (Int.tdiv_eq_ediv_of_nonneg hx0).symm] at E
    --go
    refine aw_lload C dJ9_floorDiv_f86c9_27 rfl ?_
    exact aw_lret C E dJ9_floorDiv_f86c9_29 rfl ⟨rfl, rfl⟩
  · refine aw_lload C dJ9_floorDiv_f86c9_13 rfl ?_
    refine aw_lload_n C dJ9_floorDiv_f86c9_15 rfl ?_
    refine aw_lmul C dJ9_floorDiv_f86c9_16 ?_
    refine aw_lload_n C dJ9_floorDiv_f86c9_17 rfl ?_
    refine aw_lcmp_eq C dJ9_floorDiv_f86c9_18 dJ9_floorDiv_f86c9_19 (tgt := 27) (by decide) hr rx (fun c2 => ?_) (fun c2 => ?_)
    · rw [show x / y = x.tdiv y from ((fdiv_dvd hy (by omega)).1 c2).symm] at E
      --go
      refine aw_lload C dJ9_floorDiv_f86c9_27 rfl ?_
      exact aw_lret C E dJ9_floorDiv_f86c9_29 rfl ⟨rfl, rfl⟩
    · refine aw_lload C dJ9_floorDiv_f86c9_22 rfl ?_
      refine aw_lconst C dJ9_floorDiv_f86c9_24 (v := 1) rfl ?_
      refine aw_lsub C dJ9_floorDiv_f86c9_25 ?_
      exact aw_lret C E dJ9_floorDiv_f86c9_26 rfl ⟨by rw [(fdiv_dvd hy (by omega)).2 c2], rfl⟩
theorem t_J9_floorMod_f86c9 {x y : Int} {mu : Mem} (rx : R64 x) (ry : R64 y) (hy : 0 < y) : TrE 0 mJ9_floorMod_f86c9 [vl x, vl y] mu (some (vl (x % y))) mu := by
  refine Tr.of (by decide +kernel) (Nat.le_of_ble_eq_true rfl) (fun K C E => ?_)
  have hxor := xor_neg rx ry (by omega)
  have hz := r64_t (Int64.ofInt x ^^^ Int64.ofInt y)
  have hm : x.tmod y = x - x.tdiv y * y := by rw [Int.tmod_def, Int.mul_comm]
  have hm2 : x % y = x - x / y * y := by rw [Int.emod_def, Int.mul_comm]
  have hr : R64 (x.tmod y) := by
    obtain ⟨h4, h5⟩ := tmod_b x y
    unfold R64 at *
    rcases Int.le_total 0 x with q | q
    · have := h4 q; omega
    · have := h5 q; omega
  refine aw_lload_n C dJ9_floorMod_f86c9_0 rfl ?_
  refine aw_lload_n C dJ9_floorMod_f86c9_1 rfl ?_
  refine aw_lrem C dJ9_floorMod_f86c9_2 rx ry (by omega) ?_
  refine aw_lstore C dJ9_floorMod_f86c9_3 (by decide) ?_
  refine aw_lload_n C dJ9_floorMod_f86c9_5 rfl ?_
  refine aw_lload_n C dJ9_floorMod_f86c9_6 rfl ?_
  refine aw_lxor C dJ9_floorMod_f86c9_7 ?_
  refine aw_lconst C dJ9_floorMod_f86c9_8 (v := 0) rfl ?_
  refine aw_lcmp_ge C dJ9_floorMod_f86c9_9 dJ9_floorMod_f86c9_10 (tgt := 25) (by decide) hz ⟨by omega, by omega⟩ (fun c1 => ?_) (fun c1 => ?_)
  · have he : x % y = x.tmod y := (Int.tmod_eq_emod_of_nonneg (by omega)).symm
    --go
    refine aw_lload C dJ9_floorMod_f86c9_25 rfl ?_
    exact aw_lret C E dJ9_floorMod_f86c9_27 rfl ⟨by rw [he], rfl⟩
  · refine aw_lload C dJ9_floorMod_f86c9_13 rfl ?_
    refine aw_lconst C dJ9_floorMod_f86c9_15 (v := 0) rfl ?_
    refine aw_lcmp_eq C dJ9_floorMod_f86c9_16 dJ9_floorMod_f86c9_17 (tgt := 25) (by decide) hr ⟨by omega, by omega⟩ (fun c2 => ?_) (fun c2 => ?_)
    · have he : x % y = x.tmod y := by rw [hm2, hm, (fdiv_dvd hy (by omega)).1 (by omega)]
      --go
      refine aw_lload C dJ9_floorMod_f86c9_25 rfl ?_
      exact aw_lret C E dJ9_floorMod_f86c9_27 rfl ⟨by rw [he], rfl⟩
    · refine aw_lload C dJ9_floorMod_f86c9_20 rfl ?_
      refine aw_lload_n C dJ9_floorMod_f86c9_22 rfl ?_
      refine aw_ladd C dJ9_floorMod_f86c9_23 ?_
      exact aw_lret C E dJ9_floorMod_f86c9_24 rfl ⟨by rw [hm2, hm, ← (fdiv_dvd hy (by omega)).2 (by omega), Int.sub_mul, Int.one_mul]; congr 2; omega, rfl⟩
theorem t_J9_max_7cf53 {x y : Int} {mu : Mem} (rx : R32 x) (ry : R32 y) : TrE 0 mJ9_max_7cf53 [vi x, vi y] mu (some (vi (max x y))) mu := by
  refine Tr.of (by decide +kernel) (Nat.le_of_ble_eq_true rfl) (fun K C E => ?_)
  refine aw_iload_n C dJ9_max_7cf53_0 rfl ?_
  refine aw_iload_n C dJ9_max_7cf53_1 rfl ?_
  refine aw_icmp_lt C dJ9_max_7cf53_2 (tgt := 9) (by decide) rx ry (fun c1 => ?_) (fun c1 => ?_)
  · refine aw_iload_n C dJ9_max_7cf53_9 rfl ?_
    exact aw_iret C E dJ9_max_7cf53_10 rfl ⟨by congr 2; omega, rfl⟩
  · refine aw_iload_n C dJ9_max_7cf53_5 rfl ?_
    refine aw_goto C dJ9_max_7cf53_6 (tgt := 10) (by decide) ?_
    exact aw_iret C E dJ9_max_7cf53_10 rfl ⟨by congr 2; omega, rfl⟩
theorem t_J9_min_7cf53 {x y : Int} {mu : Mem} (rx : R32 x) (ry : R32 y) : TrE 0 mJ9_min_7cf53 [vi x, vi y] mu (some (vi (min x y))) mu := by
  refine Tr.of (by decide +kernel) (Nat.le_of_ble_eq_true rfl) (fun K C E => ?_)
  refine aw_iload_n C dJ9_min_7cf53_0 rfl ?_
  refine aw_iload_n C dJ9_min_7cf53_1 rfl ?_
  refine aw_icmp_gt C dJ9_min_7cf53_2 (tgt := 9) (by decide) rx ry (fun c1 => ?_) (fun c1 => ?_)
  · refine aw_iload_n C dJ9_min_7cf53_9 rfl ?_
    exact aw_iret C E dJ9_min_7cf53_10 rfl ⟨by congr 2; omega, rfl⟩
  · refine aw_iload_n C dJ9_min_7cf53_5 rfl ?_
    refine aw_goto C dJ9_min_7cf53_6 (tgt := 10) (by decide) ?_
    exact aw_iret C E dJ9_min_7cf53_10 rfl ⟨by congr 2; omega, rfl⟩
theorem t_J9_max_f86c9 {x y : Int} {mu : Mem} (rx : R64 x) (ry : R64 y) : TrE 0 mJ9_max_f86c9 [vl x, vl y] mu (some (vl (max x y))) mu := by
  refine Tr.of (by decide +kernel) (Nat.le_of_ble_eq_true rfl) (fun K C E => ?_)
  refine aw_lload_n C dJ9_max_f86c9_0 rfl ?_
  refine aw_lload_n C dJ9_max_f86c9_1 rfl ?_
  refine aw_lcmp_lt C dJ9_max_f86c9_2 dJ9_max_f86c9_3 (tgt := 10) (by decide) rx ry (fun c1 => ?_) (fun c1 => ?_)
  · refine aw_lload_n C dJ9_max_f86c9_10 rfl ?_
    exact aw_lret C E dJ9_max_f86c9_11 rfl ⟨by congr 2; omega, rfl⟩
  · refine aw_lload_n C dJ9_max_f86c9_6 rfl ?_
    refine aw_goto C dJ9_max_f86c9_7 (tgt := 11) (by decide) ?_
    exact aw_lret C E dJ9_max_f86c9_11 rfl ⟨by congr 2; omega, rfl⟩
theorem t_J9_min_f86c9 {x y : Int} {mu : Mem} (rx : R64 x) (ry : R64 y) : TrE 0 mJ9_min_f86c9 [vl x, vl y] mu (some (vl (min x y))) mu := by
  refine Tr.of (by decide +kernel) (Nat.le_of_ble_eq_true rfl) (fun K C E => ?_)
  refine aw_lload_n C dJ9_min_f86c9_0 rfl ?_
  refine aw_lload_n C dJ9_min_f86c9_1 rfl ?_
  refine aw_lcmp_gt C dJ9_min_f86c9_2 dJ9_min_f86c9_3 (tgt := 10) (by decide) rx ry (fun c1 => ?_) (fun c1 => ?_)
  · refine aw_lload_n C dJ9_min_f86c9_10 rfl ?_
    exact aw_lret C E dJ9_min_f86c9_11 rfl ⟨by congr 2; omega, rfl⟩
  · refine aw_lload_n C dJ9_min_f86c9_6 rfl ?_
    refine aw_goto C dJ9_min_f86c9_7 (tgt := 11) (by decide) ?_
    exact aw_lret C E dJ9_min_f86c9_11 rfl ⟨by congr 2; omega, rfl⟩
theorem t_J9_abs_067f4 {x : Int} {mu : Mem} (rx : R64 x) : TrE 0 mJ9_abs_067f4 [vl x] mu (some (vl (x.natAbs : Int))) mu := by
  refine Tr.of (by decide +kernel) (Nat.le_of_ble_eq_true rfl) (fun K C E => ?_)
  refine aw_lload_n C dJ9_abs_067f4_0 rfl ?_
  refine aw_lconst C dJ9_abs_067f4_1 (v := 0) rfl ?_
  refine aw_lcmp_ge C dJ9_abs_067f4_2 dJ9_abs_067f4_3 (tgt := 11) (by decide) rx ⟨by omega, by omega⟩ (fun c1 => ?_) (fun c1 => ?_)
  · refine aw_lload_n C dJ9_abs_067f4_11 rfl ?_
    exact aw_lret C E dJ9_abs_067f4_12 rfl ⟨by congr 2; omega, rfl⟩
  · refine aw_lload_n C dJ9_abs_067f4_6 rfl ?_
    refine aw_lneg C dJ9_abs_067f4_7 ?_
    refine aw_goto C dJ9_abs_067f4_8 (tgt := 12) (by decide) ?_
    exact aw_lret C E dJ9_abs_067f4_12 rfl ⟨by congr 2; omega, rfl⟩
theorem t_X4_isBeyond {x y : Int} {mu : Mem} (rx : R64 x) (ry : R64 y) (ry2 : R64 (-y)) : TrE 0 mX4_isBeyond [vl x, vl y] mu (some (vi (if x < -y ∨ y < x then 1 else 0))) mu := by
  refine Tr.of (by decide +kernel) (Nat.le_of_ble_eq_true rfl) (fun K C E => ?_)
  refine aw_lload_n C dX4_isBeyond_0 rfl ?_
  refine aw_lload_n C dX4_isBeyond_1 rfl ?_
  refine aw_lneg C dX4_isBeyond_2 ?_
  refine aw_lcmp_lt C dX4_isBeyond_3 dX4_isBeyond_4 (tgt := 13) (by decide) ⟨by omega, by omega⟩ ⟨by omega, by omega⟩ (fun c1 => ?_) (fun c1 => ?_)
  · refine aw_iconst C dX4_isBeyond_13 ?_
    refine aw_goto C dX4_isBeyond_14 (tgt := 18) (by decide) ?_
    exact aw_zret C E dX4_isBeyond_18 rfl (by omega) ⟨by first | rw [if_pos (by omega)] | rw [if_neg (by omega)], rfl⟩
  · refine aw_lload_n C dX4_isBeyond_7 rfl ?_
    refine aw_lload_n C dX4_isBeyond_8 rfl ?_
    refine aw_lcmp_le C dX4_isBeyond_9 dX4_isBeyond_10 (tgt := 17) (by decide) ⟨by omega, by omega⟩ ⟨by omega, by omega⟩ (fun c2 => ?_) (fun c2 => ?_)
    · refine aw_iconst C dX4_isBeyond_17 ?_
      exact aw_zret C E dX4_isBeyond_18 rfl (by omega) ⟨by first | rw [if_pos (by omega)] | rw [if_neg (by omega)], rfl⟩
    · refine aw_iconst C dX4_isBeyond_13 ?_
      refine aw_goto C dX4_isBeyond_14 (tgt := 18) (by decide) ?_
      exact aw_zret C E dX4_isBeyond_18 rfl (by omega) ⟨by first | rw [if_pos (by omega)] | rw [if_neg (by omega)], rfl⟩
theorem t_X4_by {x y : Int} {mu : Mem} (rx : R64 x) (ry : R64 y) : TrE 0 mX4_by [vl x, vl y] mu (some (vl (x.tdiv y))) mu := by
  refine Tr.of (by decide +kernel) (Nat.le_of_ble_eq_true rfl) (fun K C E => ?_)
  refine aw_lload_n C dX4_by_0 rfl ?_
  refine aw_lconst C dX4_by_1 (v := 0) rfl ?_
  refine aw_lcmp_ne C dX4_by_2 dX4_by_3 (tgt := 10) (by decide) ry ⟨by omega, by omega⟩ (fun c1 => ?_) (fun c1 => ?_)
  · refine aw_lload_n C dX4_by_10 rfl ?_
    refine aw_lload_n C dX4_by_11 rfl ?_
    refine aw_ldiv C dX4_by_12 rx ry (by omega) ?_
    exact aw_lret C E dX4_by_13 rfl ⟨by first | rfl | (subst c1; rw [Int.tdiv_zero]), rfl⟩
  · refine aw_lconst C dX4_by_6 (v := 0) rfl ?_
    refine aw_goto C dX4_by_7 (tgt := 13) (by decide) ?_
    exact aw_lret C E dX4_by_13 rfl ⟨by first | rfl | (subst c1; rw [Int.tdiv_zero]), rfl⟩
theorem t_X4_floorBy {x y : Int} {mu : Mem} (rx : R64 x) (ry : R64 y) (hy : 0 < y) : TrE 1 mX4_floorBy [vl x, vl y] mu (some (vl (x / y))) mu := by
  refine Tr.of (by decide +kernel) (Nat.le_of_ble_eq_true rfl) (fun K C E => ?_)
  refine aw_lload_n C dX4_floorBy_0 rfl ?_
  refine aw_lconst C dX4_floorBy_1 (v := 0) rfl ?_
  refine aw_lcmp_ne C dX4_floorBy_2 dX4_floorBy_3 (tgt := 10) (by decide) ry ⟨by omega, by omega⟩ (fun c1 => ?_) (fun c1 => ?_)
  · refine aw_lload_n C dX4_floorBy_10 rfl ?_
    refine aw_lload_n C dX4_floorBy_11 rfl ?_
    refine aw_callS1 C dX4_floorBy_12 lX4_7 vJ9_floorDiv_f86c9 (t_J9_floorDiv_f86c9 rx ry hy) rfl rfl rfl ⟨by decide, by decide⟩ (Nat.le_of_ble_eq_true rfl) ?_
    exact aw_lret C E dX4_floorBy_15 rfl ⟨rfl, rfl⟩
  · exfalso; omega
theorem t_X4_rest {x y : Int} {mu : Mem} (rx : R64 x) (ry : R64 y) (hy : 0 < y) : TrE 1 mX4_rest [vl x, vl y] mu (some (vl (x % y))) mu := by
  refine Tr.of (by decide +kernel) (Nat.le_of_ble_eq_true rfl) (fun K C E => ?_)
  refine aw_lload_n C dX4_rest_0 rfl ?_
  refine aw_lconst C dX4_rest_1 (v := 0) rfl ?_
  refine aw_lcmp_ne C dX4_rest_2 dX4_rest_3 (tgt := 10) (by decide) ry ⟨by omega, by omega⟩ (fun c1 => ?_) (fun c1 => ?_)
  · refine aw_lload_n C dX4_rest_10 rfl ?_
    refine aw_lload_n C dX4_rest_11 rfl ?_
    refine aw_callS1 C dX4_rest_12 lX4_13 vJ9_floorMod_f86c9 (t_J9_floorMod_f86c9 rx ry hy) rfl rfl rfl ⟨by decide, by decide⟩ (Nat.le_of_ble_eq_true rfl) ?_
    exact aw_lret C E dX4_rest_15 rfl ⟨rfl, rfl⟩
  · exfalso; omega

theorem t_X1_x {f : Nat} {mu : Mem} {i : Int} (hf : isF f) (hV : bV (fv mu f)) (h0 : 0 ≤ i) (h1 : i < mu f 0) : TrE 0 mX1_x [vr f, vi i] mu (some (vi (gx (fv mu f) i))) mu := by
  refine Tr.of (by decide +kernel) (Nat.le_of_ble_eq_true rfl) (fun K C E => ?_)
  have hn := hV.n
  rw [fx_at h0 h1] at E
  refine aw_iload_n C dX1_x_0 rfl ?_
  refine aw_if_lt C dX1_x_1 (tgt := 19) (by decide) ⟨by omega, by omega⟩ (fun c1 => ?_) (fun c1 => ?_)
  · exfalso; omega
  · refine aw_iload_n C dX1_x_4 rfl ?_
    refine aw_bipush C dX1_x_5 rfl ?_
    refine aw_icmp_ge C dX1_x_7 (tgt := 19) (by decide) ⟨by omega, by omega⟩ ⟨by omega, by omega⟩ (fun c2 => ?_) (fun c2 => ?_)
    · exfalso; omega
    · refine aw_aload_n C dX1_x_10 rfl ?_
      refine aw_getS C dX1_x_11 fX1_11 hf.s0 rfl rfl hf.x ?_
      refine aw_iload_n C dX1_x_14 rfl ?_
      refine aw_iald C dX1_x_15 hf.s1 (by decide) (by omega) (by omega) ?_
      refine aw_goto C dX1_x_16 (tgt := 20) (by decide) ?_
      exact aw_iret C E dX1_x_20 rfl ⟨rfl, rfl⟩
theorem t_X1_y {f : Nat} {mu : Mem} {i : Int} (hf : isF f) (hV : bV (fv mu f)) (h0 : 0 ≤ i) (h1 : i < mu f 0) : TrE 0 mX1_y [vr f, vi i] mu (some (vi (gy (fv mu f) i))) mu := by
  refine Tr.of (by decide +kernel) (Nat.le_of_ble_eq_true rfl) (fun K C E => ?_)
  have hn := hV.n
  rw [fy_at h0 h1] at E
  refine aw_iload_n C dX1_y_0 rfl ?_
  refine aw_if_lt C dX1_y_1 (tgt := 19) (by decide) ⟨by omega, by omega⟩ (fun c1 => ?_) (fun c1 => ?_)
  · exfalso; omega
  · refine aw_iload_n C dX1_y_4 rfl ?_
    refine aw_bipush C dX1_y_5 rfl ?_
    refine aw_icmp_ge C dX1_y_7 (tgt := 19) (by decide) ⟨by omega, by omega⟩ ⟨by omega, by omega⟩ (fun c2 => ?_) (fun c2 => ?_)
    · exfalso; omega
    · refine aw_aload_n C dX1_y_10 rfl ?_
      refine aw_getS C dX1_y_11 fX1_15 hf.s0 rfl rfl hf.y ?_
      refine aw_iload_n C dX1_y_14 rfl ?_
      refine aw_iald C dX1_y_15 hf.s2 (by decide) (by omega) (by omega) ?_
      refine aw_goto C dX1_y_16 (tgt := 20) (by decide) ?_
      exact aw_iret C E dX1_y_20 rfl ⟨rfl, rfl⟩
theorem t_X1_number {f : Nat} {mu : Mem} {d i : Int} (hf : isF f) (hV : bV (fv mu f)) (h0 : 0 ≤ i) (h1 : i < mu f 0) (h2 : 0 ≤ d) (h3 : d < mu f 1) : TrE 0 mX1_number [vr f, vi d, vi i] mu (some (vi (gn (fv mu f) d i))) mu := by
  refine Tr.of (by decide +kernel) (Nat.le_of_ble_eq_true rfl) (fun K C E => ?_)
  have hn := hV.n
  have hl := hV.l
  rw [fn_at h0 h1 h2 h3] at E
  refine aw_iload_n C dX1_number_0 rfl ?_
  refine aw_bipush C dX1_number_1 rfl ?_
  refine aw_imul C dX1_number_3 ?_
  refine aw_iload_n C dX1_number_4 rfl ?_
  refine aw_iadd C dX1_number_5 ?_
  refine aw_istore_n C dX1_number_6 (by decide) ?_
  refine aw_iload_n C dX1_number_7 rfl ?_
  refine aw_if_lt C dX1_number_8 (tgt := 29) (by decide) ⟨by omega, by omega⟩ (fun c1 => ?_) (fun c1 => ?_)
  · exfalso; omega
  · refine aw_iload_n C dX1_number_11 rfl ?_
    refine aw_aload_n C dX1_number_12 rfl ?_
    refine aw_getS C dX1_number_13 fX1_18 hf.s0 rfl rfl hf.n ?_
    refine aw_alen C dX1_number_16 hf.s3 (by decide) ?_
    refine aw_icmp_ge C dX1_number_17 (tgt := 29) (by decide) ⟨by omega, by omega⟩ ⟨by omega, by omega⟩ (fun c2 => ?_) (fun c2 => ?_)
    · exfalso; omega
    · refine aw_aload_n C dX1_number_20 rfl ?_
      refine aw_getS C dX1_number_21 fX1_18 hf.s0 rfl rfl hf.n ?_
      refine aw_iload_n C dX1_number_24 rfl ?_
      refine aw_iald C dX1_number_25 hf.s3 (by decide) (by omega) (by omega) ?_
      refine aw_goto C dX1_number_26 (tgt := 30) (by decide) ?_
      exact aw_iret C E dX1_number_30 rfl ⟨rfl, rfl⟩
theorem t_X1_put {f : Nat} {mu : Mem} {d i v : Int} (hf : isF f) (h0 : 0 ≤ i) (h1 : i < 24) (h2 : 0 ≤ d) (h3 : d < 6) : TrE 0 mX1_put [vr f, vi d, vi i, vi v] mu none (wr mu (f + 3) (d * 24 + i).toNat v) := by
  refine Tr.of (by decide +kernel) (Nat.le_of_ble_eq_true rfl) (fun K C E => ?_)
  refine aw_iload_n C dX1_put_0 rfl ?_
  refine aw_bipush C dX1_put_1 rfl ?_
  refine aw_imul C dX1_put_3 ?_
  refine aw_iload_n C dX1_put_4 rfl ?_
  refine aw_iadd C dX1_put_5 ?_
  refine aw_istore C dX1_put_6 (by decide) ?_
  refine aw_iload C dX1_put_8 rfl ?_
  refine aw_if_lt C dX1_put_10 (tgt := 31) (by decide) ⟨by omega, by omega⟩ (fun c1 => ?_) (fun c1 => ?_)
  · exfalso; omega
  · refine aw_iload C dX1_put_13 rfl ?_
    refine aw_aload_n C dX1_put_15 rfl ?_
    refine aw_getS C dX1_put_16 fX1_18 hf.s0 rfl rfl hf.n ?_
    refine aw_alen C dX1_put_19 hf.s3 (by decide) ?_
    refine aw_icmp_ge C dX1_put_20 (tgt := 31) (by decide) ⟨by omega, by omega⟩ ⟨by omega, by omega⟩ (fun c2 => ?_) (fun c2 => ?_)
    · exfalso; omega
    · refine aw_aload_n C dX1_put_23 rfl ?_
      refine aw_getS C dX1_put_24 fX1_18 hf.s0 rfl rfl hf.n ?_
      refine aw_iload C dX1_put_27 rfl ?_
      refine aw_iload_n C dX1_put_29 rfl ?_
      refine aw_iast C dX1_put_30 hf.s3 (by decide) (by omega) (by omega) ?_
      exact aw_vret C E dX1_put_31 rfl ⟨rfl, rfl⟩
theorem t_X1_behind {f : Nat} {mu : Mem} {i : Int} (hf : isF f) (hV : bV (fv mu f)) (h0 : 0 ≤ i) (h1 : i < mu f 0) : TrE 0 mX1_behind [vr f, vi i] mu (some (vi (nxt (fv mu f) i))) mu := by
  refine Tr.of (by decide +kernel) (Nat.le_of_ble_eq_true rfl) (fun K C E => ?_)
  have hn := hV.n
  have e : nxt (fv mu f) i = if i + 1 ≥ mu f 0 then 0 else i + 1 := rfl
  rw [e] at E
  refine aw_iload_n C dX1_behind_0 rfl ?_
  refine aw_iconst C dX1_behind_1 ?_
  refine aw_iadd C dX1_behind_2 ?_
  refine aw_aload_n C dX1_behind_3 rfl ?_
  refine aw_getI C dX1_behind_4 fX1_21 hf.s0 rfl ?_
  refine aw_icmp_lt C dX1_behind_7 (tgt := 14) (by decide) ⟨by omega, by omega⟩ ⟨by omega, by omega⟩ (fun c1 => ?_) (fun c1 => ?_)
  · refine aw_iload_n C dX1_behind_14 rfl ?_
    refine aw_iconst C dX1_behind_15 ?_
    refine aw_iadd C dX1_behind_16 ?_
    exact aw_iret C E dX1_behind_17 rfl ⟨by first | rw [if_pos c1] | rw [if_neg (by omega)], rfl⟩
  · refine aw_iconst C dX1_behind_10 ?_
    refine aw_goto C dX1_behind_11 (tgt := 17) (by decide) ?_
    exact aw_iret C E dX1_behind_17 rfl ⟨by first | rw [if_pos c1] | rw [if_neg (by omega)], rfl⟩
theorem t_X1_ahead {f : Nat} {mu : Mem} {i : Int} (hf : isF f) (hV : bV (fv mu f)) (h0 : 0 ≤ i) (h1 : i < mu f 0) : TrE 0 mX1_ahead [vr f, vi i] mu (some (vi (prv (fv mu f) i))) mu := by
  refine Tr.of (by decide +kernel) (Nat.le_of_ble_eq_true rfl) (fun K C E => ?_)
  have hn := hV.n
  have e : prv (fv mu f) i = if i ≤ 0 then mu f 0 - 1 else i - 1 := rfl
  rw [e] at E
  refine aw_iload_n C dX1_ahead_0 rfl ?_
  refine aw_if_gt C dX1_ahead_1 (tgt := 13) (by decide) ⟨by omega, by omega⟩ (fun c1 => ?_) (fun c1 => ?_)
  · refine aw_iload_n C dX1_ahead_13 rfl ?_
    refine aw_iconst C dX1_ahead_14 ?_
    refine aw_isub C dX1_ahead_15 ?_
    exact aw_iret C E dX1_ahead_16 rfl ⟨by first | rw [if_pos (by omega)] | rw [if_neg (by omega)], rfl⟩
  · refine aw_aload_n C dX1_ahead_4 rfl ?_
    refine aw_getI C dX1_ahead_5 fX1_21 hf.s0 rfl ?_
    refine aw_iconst C dX1_ahead_8 ?_
    refine aw_isub C dX1_ahead_9 ?_
    refine aw_goto C dX1_ahead_10 (tgt := 16) (by decide) ?_
    exact aw_iret C E dX1_ahead_16 rfl ⟨by first | rw [if_pos (by omega)] | rw [if_neg (by omega)], rfl⟩
theorem t_X1_turnBetween {f : Nat} {mu : Mem} {i j : Int} (hf : isF f) (hV : bV (fv mu f)) (h0 : 0 ≤ i) (h1 : i < mu f 0) (h2 : 0 ≤ j) (h3 : j < mu f 0) : TrE 1 mX1_turnBetween [vr f, vi i, vi j] mu (some (vi (crs (fv mu f) i j))) mu := by
  refine Tr.of (by decide +kernel) (Nat.le_of_ble_eq_true rfl) (fun K C E => ?_)
  refine aw_aload_n C dX1_turnBetween_0 rfl ?_
  refine aw_iload_n C dX1_turnBetween_1 rfl ?_
  refine aw_call1 C dX1_turnBetween_2 lX1_65 vX1_x (t_X1_x hf hV (by omega) (by omega)) rfl rfl rfl hf.s0 rfl ⟨by decide, by decide⟩ (Nat.le_of_ble_eq_true rfl) ?_
  refine aw_aload_n C dX1_turnBetween_5 rfl ?_
  refine aw_iload_n C dX1_turnBetween_6 rfl ?_
  refine aw_call1 C dX1_turnBetween_7 lX1_68 vX1_y (t_X1_y hf hV (by omega) (by omega)) rfl rfl rfl hf.s0 rfl ⟨by decide, by decide⟩ (Nat.le_of_ble_eq_true rfl) ?_
  refine aw_imul C dX1_turnBetween_10 ?_
  refine aw_aload_n C dX1_turnBetween_11 rfl ?_
  refine aw_iload_n C dX1_turnBetween_12 rfl ?_
  refine aw_call1 C dX1_turnBetween_13 lX1_68 vX1_y (t_X1_y hf hV (by omega) (by omega)) rfl rfl rfl hf.s0 rfl ⟨by decide, by decide⟩ (Nat.le_of_ble_eq_true rfl) ?_
  refine aw_aload_n C dX1_turnBetween_16 rfl ?_
  refine aw_iload_n C dX1_turnBetween_17 rfl ?_
  refine aw_call1 C dX1_turnBetween_18 lX1_65 vX1_x (t_X1_x hf hV (by omega) (by omega)) rfl rfl rfl hf.s0 rfl ⟨by decide, by decide⟩ (Nat.le_of_ble_eq_true rfl) ?_
  refine aw_imul C dX1_turnBetween_21 ?_
  refine aw_isub C dX1_turnBetween_22 ?_
  exact aw_iret C E dX1_turnBetween_23 rfl ⟨rfl, rfl⟩
theorem t_X1_turn {f : Nat} {mu : Mem} {i : Int} (hf : isF f) (hV : bV (fv mu f)) (h0 : 0 ≤ i) (h1 : i < mu f 0) : TrE 2 mX1_turn [vr f, vi i] mu (some (vi (trn (fv mu f) i))) mu := by
  refine Tr.of (by decide +kernel) (Nat.le_of_ble_eq_true rfl) (fun K C E => ?_)
  obtain ⟨a1, a2⟩ : 0 ≤ nxt (fv mu f) i ∧ nxt (fv mu f) i < mu f 0 := nxt_in h0 h1
  refine aw_aload_n C dX1_turn_0 rfl ?_
  refine aw_iload_n C dX1_turn_1 rfl ?_
  refine aw_aload_n C dX1_turn_2 rfl ?_
  refine aw_iload_n C dX1_turn_3 rfl ?_
  refine aw_call1 C dX1_turn_4 lX1_59 vX1_behind (t_X1_behind hf hV (by omega) (by omega)) rfl rfl rfl hf.s0 rfl ⟨by decide, by decide⟩ (Nat.le_of_ble_eq_true rfl) ?_
  refine aw_call1 C dX1_turn_7 lX1_62 vX1_turnBetween (t_X1_turnBetween hf hV (by omega) (by omega) (by omega) (by omega)) rfl rfl rfl hf.s0 rfl ⟨by decide, by decide⟩ (Nat.le_of_ble_eq_true rfl) ?_
  exact aw_iret C E dX1_turn_10 rfl ⟨rfl, rfl⟩
theorem t_X1_turnAround {f : Nat} {mu : Mem} {i : Int} (hf : isF f) (hV : bV (fv mu f)) (h0 : 0 ≤ i) (h1 : i < mu f 0) : TrE 2 mX1_turnAround [vr f, vi i] mu (some (vi (arn (fv mu f) i))) mu := by
  refine Tr.of (by decide +kernel) (Nat.le_of_ble_eq_true rfl) (fun K C E => ?_)
  obtain ⟨a1, a2⟩ : 0 ≤ nxt (fv mu f) i ∧ nxt (fv mu f) i < mu f 0 := nxt_in h0 h1
  obtain ⟨a3, a4⟩ : 0 ≤ prv (fv mu f) i ∧ prv (fv mu f) i < mu f 0 := prv_in h0 h1
  refine aw_aload_n C dX1_turnAround_0 rfl ?_
  refine aw_aload_n C dX1_turnAround_1 rfl ?_
  refine aw_iload_n C dX1_turnAround_2 rfl ?_
  refine aw_call1 C dX1_turnAround_3 lX1_71 vX1_ahead (t_X1_ahead hf hV (by omega) (by omega)) rfl rfl rfl hf.s0 rfl ⟨by decide, by decide⟩ (Nat.le_of_ble_eq_true rfl) ?_
  refine aw_aload_n C dX1_turnAround_6 rfl ?_
  refine aw_iload_n C dX1_turnAround_7 rfl ?_
  refine aw_call1 C dX1_turnAround_8 lX1_59 vX1_behind (t_X1_behind hf hV (by omega) (by omega)) rfl rfl rfl hf.s0 rfl ⟨by decide, by decide⟩ (Nat.le_of_ble_eq_true rfl) ?_
  refine aw_call1 C dX1_turnAround_11 lX1_62 vX1_turnBetween (t_X1_turnBetween hf hV (by omega) (by omega) (by omega) (by omega)) rfl rfl rfl hf.s0 rfl ⟨by decide, by decide⟩ (Nat.le_of_ble_eq_true rfl) ?_
  exact aw_iret C E dX1_turnAround_14 rfl ⟨rfl, rfl⟩

theorem t_X6_numberOf {mu : Mem} {V : FV} {d i : Int} (eV : mv mu = V) (hV : bV V) (h0 : 0 ≤ i) (h1 : i < V.1) (h2 : 0 ≤ d) (h3 : d < V.2.1) : TrE 0 mX6_numberOf [vr 55, vi d, vi i] mu (some (vl (gn V d i))) mu := by
  refine Tr.of (by decide +kernel) (Nat.le_of_ble_eq_true rfl) (fun K C E => ?_)
  have hn := hV.1
  have hl := hV.2.1
  have b1 := hV.g d i
  rw [← mnV eV h0 h1 h2 h3] at E b1
  refine aw_aload_n C dX6_numberOf_0 rfl ?_
  refine aw_getS C dX6_numberOf_1 fX6_47 ⟨rfl, by decide⟩ rfl rfl (srf 55 25 66 (by decide)) ?_
  refine aw_bipush C dX6_numberOf_4 rfl ?_
  refine aw_iload_n C dX6_numberOf_6 rfl ?_
  refine aw_imul C dX6_numberOf_7 ?_
  refine aw_iload_n C dX6_numberOf_8 rfl ?_
  refine aw_iadd C dX6_numberOf_9 ?_
  refine aw_iald C dX6_numberOf_10 ⟨rfl, by decide⟩ (by decide) (by omega) (by omega) ?_
  refine aw_i2l C dX6_numberOf_11 ⟨by omega, by omega⟩ ?_
  exact aw_lret C E dX6_numberOf_12 rfl ⟨rfl, rfl⟩
theorem t_X6_above {mu : Mem} {V : FV} {d i x y : Int} (eV : mv mu = V) (hV : bV V) (h0 : 0 ≤ i) (h1 : i < V.1) (h2 : 0 ≤ d) (h3 : d < V.2.1) (hx : -60 ≤ x ∧ x ≤ 60) (hy : -60 ≤ y ∧ y ≤ 60) : TrE 1 mX6_above [vr 55, vi d, vi i, vi x, vi y] mu (some (vl (ftt V d i x y))) mu := by
  refine Tr.of (by decide +kernel) (Nat.le_of_ble_eq_true rfl) (fun K C E => ?_)
  have hn := hV.1
  have hl := hV.2.1
  obtain ⟨a1, a2⟩ := nxt_in h0 h1
  have m1 := mulb (hV.x i) hy
  have m2 := mulb (hV.y i) hx
  have m3 := mulb hx (hV.y (nxt V i))
  have m4 := mulb hy (hV.x (nxt V i))
  unfold ftt at E
  rw [Int.mul_comm (x * gy V (nxt V i) - y * gx V (nxt V i)), Int.mul_comm (gx V i * y - gy V i * x)] at E
  rw [← mxV eV h0 h1] at E m1
  rw [← myV eV h0 h1] at E m2
  rw [← mxV eV a1 a2] at E m4
  rw [← myV eV a1 a2] at E m3
  refine aw_aload_n C dX6_above_0 rfl ?_
  refine aw_iload_n C dX6_above_1 rfl ?_
  refine aw_iload_n C dX6_above_2 rfl ?_
  refine aw_call1 C dX6_above_3 lX6_331 vX6_numberOf (t_X6_numberOf eV hV (by omega) (by omega) (by omega) (by omega)) rfl rfl rfl ⟨rfl, by decide⟩ rfl ⟨by decide, by decide⟩ (Nat.le_of_ble_eq_true rfl) ?_
  refine aw_iload_n C dX6_above_6 rfl ?_
  refine aw_iload C dX6_above_7 rfl ?_
  refine aw_aload_n C dX6_above_9 rfl ?_
  refine aw_getS C dX6_above_10 fX6_41 ⟨rfl, by decide⟩ rfl rfl (srf 55 23 64 (by decide)) ?_
  refine aw_aload_n C dX6_above_13 rfl ?_
  refine aw_iload_n C dX6_above_14 rfl ?_
  refine aw_call1 C dX6_above_15 lX6_282 vX6_next (t_X6_next eV hV (by omega) (by omega)) rfl rfl rfl ⟨rfl, by decide⟩ rfl ⟨by decide, by decide⟩ (Nat.le_of_ble_eq_true rfl) ?_
  refine aw_iald C dX6_above_18 ⟨rfl, by decide⟩ (by decide) (by omega) (by omega) ?_
  refine aw_aload_n C dX6_above_19 rfl ?_
  refine aw_getS C dX6_above_20 fX6_44 ⟨rfl, by decide⟩ rfl rfl (srf 55 24 65 (by decide)) ?_
  refine aw_aload_n C dX6_above_23 rfl ?_
  refine aw_iload_n C dX6_above_24 rfl ?_
  refine aw_call1 C dX6_above_25 lX6_282 vX6_next (t_X6_next eV hV (by omega) (by omega)) rfl rfl rfl ⟨rfl, by decide⟩ rfl ⟨by decide, by decide⟩ (Nat.le_of_ble_eq_true rfl) ?_
  refine aw_iald C dX6_above_28 ⟨rfl, by decide⟩ (by decide) (by omega) (by omega) ?_
  refine aw_callS1 C dX6_above_29 lX6_227 vX6_cross (t_X6_cross) rfl rfl rfl ⟨by decide, by decide⟩ (Nat.le_of_ble_eq_true rfl) ?_
  refine aw_i2l C dX6_above_32 ⟨by omega, by omega⟩ ?_
  refine aw_lmul C dX6_above_33 ?_
  refine aw_aload_n C dX6_above_34 rfl ?_
  refine aw_iload_n C dX6_above_35 rfl ?_
  refine aw_aload_n C dX6_above_36 rfl ?_
  refine aw_iload_n C dX6_above_37 rfl ?_
  refine aw_call1 C dX6_above_38 lX6_282 vX6_next (t_X6_next eV hV (by omega) (by omega)) rfl rfl rfl ⟨rfl, by decide⟩ rfl ⟨by decide, by decide⟩ (Nat.le_of_ble_eq_true rfl) ?_
  refine aw_call1 C dX6_above_41 lX6_331 vX6_numberOf (t_X6_numberOf eV hV (by omega) (by omega) (by omega) (by omega)) rfl rfl rfl ⟨rfl, by decide⟩ rfl ⟨by decide, by decide⟩ (Nat.le_of_ble_eq_true rfl) ?_
  refine aw_aload_n C dX6_above_44 rfl ?_
  refine aw_getS C dX6_above_45 fX6_41 ⟨rfl, by decide⟩ rfl rfl (srf 55 23 64 (by decide)) ?_
  refine aw_iload_n C dX6_above_48 rfl ?_
  refine aw_iald C dX6_above_49 ⟨rfl, by decide⟩ (by decide) (by omega) (by omega) ?_
  refine aw_aload_n C dX6_above_50 rfl ?_
  refine aw_getS C dX6_above_51 fX6_44 ⟨rfl, by decide⟩ rfl rfl (srf 55 24 65 (by decide)) ?_
  refine aw_iload_n C dX6_above_54 rfl ?_
  refine aw_iald C dX6_above_55 ⟨rfl, by decide⟩ (by decide) (by omega) (by omega) ?_
  refine aw_iload_n C dX6_above_56 rfl ?_
  refine aw_iload C dX6_above_57 rfl ?_
  refine aw_callS1 C dX6_above_59 lX6_227 vX6_cross (t_X6_cross) rfl rfl rfl ⟨by decide, by decide⟩ (Nat.le_of_ble_eq_true rfl) ?_
  refine aw_i2l C dX6_above_62 ⟨by omega, by omega⟩ ?_
  refine aw_lmul C dX6_above_63 ?_
  refine aw_ladd C dX6_above_64 ?_
  exact aw_lret C E dX6_above_65 rfl ⟨rfl, rfl⟩
theorem t_X6_pieceX {mu : Mem} {V : FV} {d i : Int} (eV : mv mu = V) (hV : bV V) (h0 : 0 ≤ i) (h1 : i < V.1) (h2 : 0 ≤ d) (h3 : d < V.2.1) : TrE 1 mX6_pieceX [vr 55, vi d, vi i] mu (some (vl (pcA V d i))) mu := by
  refine Tr.of (by decide +kernel) (Nat.le_of_ble_eq_true rfl) (fun K C E => ?_)
  have hn := hV.1
  have hl := hV.2.1
  obtain ⟨a1, a2⟩ := nxt_in h0 h1
  have m1 := hV.y i
  have m2 := hV.y (nxt V i)
  unfold pcA at E
  rw [← myV eV h0 h1] at E m1
  rw [← myV eV a1 a2] at E m2
  refine aw_aload_n C dX6_pieceX_0 rfl ?_
  refine aw_iload_n C dX6_pieceX_1 rfl ?_
  refine aw_aload_n C dX6_pieceX_2 rfl ?_
  refine aw_iload_n C dX6_pieceX_3 rfl ?_
  refine aw_call1 C dX6_pieceX_4 lX6_282 vX6_next (t_X6_next eV hV (by omega) (by omega)) rfl rfl rfl ⟨rfl, by decide⟩ rfl ⟨by decide, by decide⟩ (Nat.le_of_ble_eq_true rfl) ?_
  refine aw_call1 C dX6_pieceX_7 lX6_331 vX6_numberOf (t_X6_numberOf eV hV (by omega) (by omega) (by omega) (by omega)) rfl rfl rfl ⟨rfl, by decide⟩ rfl ⟨by decide, by decide⟩ (Nat.le_of_ble_eq_true rfl) ?_
  refine aw_aload_n C dX6_pieceX_10 rfl ?_
  refine aw_getS C dX6_pieceX_11 fX6_44 ⟨rfl, by decide⟩ rfl rfl (srf 55 24 65 (by decide)) ?_
  refine aw_iload_n C dX6_pieceX_14 rfl ?_
  refine aw_iald C dX6_pieceX_15 ⟨rfl, by decide⟩ (by decide) (by omega) (by omega) ?_
  refine aw_i2l C dX6_pieceX_16 ⟨by omega, by omega⟩ ?_
  refine aw_lmul C dX6_pieceX_17 ?_
  refine aw_aload_n C dX6_pieceX_18 rfl ?_
  refine aw_iload_n C dX6_pieceX_19 rfl ?_
  refine aw_iload_n C dX6_pieceX_20 rfl ?_
  refine aw_call1 C dX6_pieceX_21 lX6_331 vX6_numberOf (t_X6_numberOf eV hV (by omega) (by omega) (by omega) (by omega)) rfl rfl rfl ⟨rfl, by decide⟩ rfl ⟨by decide, by decide⟩ (Nat.le_of_ble_eq_true rfl) ?_
  refine aw_aload_n C dX6_pieceX_24 rfl ?_
  refine aw_getS C dX6_pieceX_25 fX6_44 ⟨rfl, by decide⟩ rfl rfl (srf 55 24 65 (by decide)) ?_
  refine aw_aload_n C dX6_pieceX_28 rfl ?_
  refine aw_iload_n C dX6_pieceX_29 rfl ?_
  refine aw_call1 C dX6_pieceX_30 lX6_282 vX6_next (t_X6_next eV hV (by omega) (by omega)) rfl rfl rfl ⟨rfl, by decide⟩ rfl ⟨by decide, by decide⟩ (Nat.le_of_ble_eq_true rfl) ?_
  refine aw_iald C dX6_pieceX_33 ⟨rfl, by decide⟩ (by decide) (by omega) (by omega) ?_
  refine aw_i2l C dX6_pieceX_34 ⟨by omega, by omega⟩ ?_
  refine aw_lmul C dX6_pieceX_35 ?_
  refine aw_lsub C dX6_pieceX_36 ?_
  exact aw_lret C E dX6_pieceX_37 rfl ⟨rfl, rfl⟩
theorem t_X6_pieceY {mu : Mem} {V : FV} {d i : Int} (eV : mv mu = V) (hV : bV V) (h0 : 0 ≤ i) (h1 : i < V.1) (h2 : 0 ≤ d) (h3 : d < V.2.1) : TrE 1 mX6_pieceY [vr 55, vi d, vi i] mu (some (vl (pcU V d i))) mu := by
  refine Tr.of (by decide +kernel) (Nat.le_of_ble_eq_true rfl) (fun K C E => ?_)
  have hn := hV.1
  have hl := hV.2.1
  obtain ⟨a1, a2⟩ := nxt_in h0 h1
  have m1 := hV.x i
  have m2 := hV.x (nxt V i)
  unfold pcU at E
  rw [← mxV eV h0 h1] at E m1
  rw [← mxV eV a1 a2] at E m2
  refine aw_aload_n C dX6_pieceY_0 rfl ?_
  refine aw_iload_n C dX6_pieceY_1 rfl ?_
  refine aw_iload_n C dX6_pieceY_2 rfl ?_
  refine aw_call1 C dX6_pieceY_3 lX6_331 vX6_numberOf (t_X6_numberOf eV hV (by omega) (by omega) (by omega) (by omega)) rfl rfl rfl ⟨rfl, by decide⟩ rfl ⟨by decide, by decide⟩ (Nat.le_of_ble_eq_true rfl) ?_
  refine aw_aload_n C dX6_pieceY_6 rfl ?_
  refine aw_getS C dX6_pieceY_7 fX6_41 ⟨rfl, by decide⟩ rfl rfl (srf 55 23 64 (by decide)) ?_
  refine aw_aload_n C dX6_pieceY_10 rfl ?_
  refine aw_iload_n C dX6_pieceY_11 rfl ?_
  refine aw_call1 C dX6_pieceY_12 lX6_282 vX6_next (t_X6_next eV hV (by omega) (by omega)) rfl rfl rfl ⟨rfl, by decide⟩ rfl ⟨by decide, by decide⟩ (Nat.le_of_ble_eq_true rfl) ?_
  refine aw_iald C dX6_pieceY_15 ⟨rfl, by decide⟩ (by decide) (by omega) (by omega) ?_
  refine aw_i2l C dX6_pieceY_16 ⟨by omega, by omega⟩ ?_
  refine aw_lmul C dX6_pieceY_17 ?_
  refine aw_aload_n C dX6_pieceY_18 rfl ?_
  refine aw_iload_n C dX6_pieceY_19 rfl ?_
  refine aw_aload_n C dX6_pieceY_20 rfl ?_
  refine aw_iload_n C dX6_pieceY_21 rfl ?_
  refine aw_call1 C dX6_pieceY_22 lX6_282 vX6_next (t_X6_next eV hV (by omega) (by omega)) rfl rfl rfl ⟨rfl, by decide⟩ rfl ⟨by decide, by decide⟩ (Nat.le_of_ble_eq_true rfl) ?_
  refine aw_call1 C dX6_pieceY_25 lX6_331 vX6_numberOf (t_X6_numberOf eV hV (by omega) (by omega) (by omega) (by omega)) rfl rfl rfl ⟨rfl, by decide⟩ rfl ⟨by decide, by decide⟩ (Nat.le_of_ble_eq_true rfl) ?_
  refine aw_aload_n C dX6_pieceY_28 rfl ?_
  refine aw_getS C dX6_pieceY_29 fX6_41 ⟨rfl, by decide⟩ rfl rfl (srf 55 23 64 (by decide)) ?_
  refine aw_iload_n C dX6_pieceY_32 rfl ?_
  refine aw_iald C dX6_pieceY_33 ⟨rfl, by decide⟩ (by decide) (by omega) (by omega) ?_
  refine aw_i2l C dX6_pieceY_34 ⟨by omega, by omega⟩ ?_
  refine aw_lmul C dX6_pieceY_35 ?_
  refine aw_lsub C dX6_pieceY_36 ?_
  exact aw_lret C E dX6_pieceY_37 rfl ⟨rfl, rfl⟩
theorem tm0 {x y : Int} : x.tmod y = 0 ↔ x % y = 0 := ⟨fun h => Int.emod_eq_zero_of_dvd (Int.dvd_of_tmod_eq_zero h), fun h => Int.tmod_eq_zero_of_dvd (Int.dvd_of_emod_eq_zero h)⟩
theorem t_X6_isWhole {mu : Mem} {V : FV} {d i : Int} (eV : mv mu = V) (hV : bV V) (hcl : clo V) (h0 : 0 ≤ i) (h1 : i < V.1) (h2 : 0 ≤ d) (h3 : d < V.2.1) : TrE 3 mX6_isWhole [vr 55, vi d, vi i] mu (some (vi (b01 (pwh V d i)))) mu := by
  refine Tr.of (by decide +kernel) (Nat.le_of_ble_eq_true rfl) (fun K C E => ?_)
  have ht := hV.trn i
  have ht2 := hcl.2 i h0 h1
  have pa := hV.pa d i
  have pu := hV.pu d i
  have t1 := tmod_b (pcA V d i) (trn V i)
  have t2 := tmod_b (pcU V d i) (trn V i)
  unfold pwh at E
  rw [← tm0, ← tm0] at E
  refine aw_aload_n C dX6_isWhole_0 rfl ?_
  refine aw_iload_n C dX6_isWhole_1 rfl ?_
  refine aw_iload_n C dX6_isWhole_2 rfl ?_
  refine aw_call1 C dX6_isWhole_3 lX6_339 vX6_pieceX (t_X6_pieceX eV hV (by omega) (by omega) (by omega) (by omega)) rfl rfl rfl ⟨rfl, by decide⟩ rfl ⟨by decide, by decide⟩ (Nat.le_of_ble_eq_true rfl) ?_
  refine aw_aload_n C dX6_isWhole_6 rfl ?_
  refine aw_iload_n C dX6_isWhole_7 rfl ?_
  refine aw_call1 C dX6_isWhole_8 lX6_288 vX6_turn (t_X6_turn eV hV (by omega) (by omega)) rfl rfl rfl ⟨rfl, by decide⟩ rfl ⟨by decide, by decide⟩ (Nat.le_of_ble_eq_true rfl) ?_
  refine aw_i2l C dX6_isWhole_11 ⟨by omega, by omega⟩ ?_
  refine aw_lrem C dX6_isWhole_12 ⟨by omega, by omega⟩ ⟨by omega, by omega⟩ (by omega) ?_
  refine aw_lconst C dX6_isWhole_13 (v := 0) rfl ?_
  refine aw_lcmp_ne C dX6_isWhole_14 dX6_isWhole_15 (tgt := 40) (by decide) ⟨by omega, by omega⟩ ⟨by omega, by omega⟩ (fun c1 => ?_) (fun c1 => ?_)
  · refine aw_iconst C dX6_isWhole_40 ?_
    exact aw_zret C E dX6_isWhole_41 rfl (by omega) ⟨by first | rw [b01_t ⟨by omega, by omega⟩] | rw [b01_f (fun q => by omega)], rfl⟩
  · refine aw_aload_n C dX6_isWhole_18 rfl ?_
    refine aw_iload_n C dX6_isWhole_19 rfl ?_
    refine aw_iload_n C dX6_isWhole_20 rfl ?_
    refine aw_call1 C dX6_isWhole_21 lX6_342 vX6_pieceY (t_X6_pieceY eV hV (by omega) (by omega) (by omega) (by omega)) rfl rfl rfl ⟨rfl, by decide⟩ rfl ⟨by decide, by decide⟩ (Nat.le_of_ble_eq_true rfl) ?_
    refine aw_aload_n C dX6_isWhole_24 rfl ?_
    refine aw_iload_n C dX6_isWhole_25 rfl ?_
    refine aw_call1 C dX6_isWhole_26 lX6_288 vX6_turn (t_X6_turn eV hV (by omega) (by omega)) rfl rfl rfl ⟨rfl, by decide⟩ rfl ⟨by decide, by decide⟩ (Nat.le_of_ble_eq_true rfl) ?_
    refine aw_i2l C dX6_isWhole_29 ⟨by omega, by omega⟩ ?_
    refine aw_lrem C dX6_isWhole_30 ⟨by omega, by omega⟩ ⟨by omega, by omega⟩ (by omega) ?_
    refine aw_lconst C dX6_isWhole_31 (v := 0) rfl ?_
    refine aw_lcmp_ne C dX6_isWhole_32 dX6_isWhole_33 (tgt := 40) (by decide) ⟨by omega, by omega⟩ ⟨by omega, by omega⟩ (fun c2 => ?_) (fun c2 => ?_)
    · refine aw_iconst C dX6_isWhole_40 ?_
      exact aw_zret C E dX6_isWhole_41 rfl (by omega) ⟨by first | rw [b01_t ⟨by omega, by omega⟩] | rw [b01_f (fun q => by omega)], rfl⟩
    · refine aw_iconst C dX6_isWhole_36 ?_
      refine aw_goto C dX6_isWhole_37 (tgt := 41) (by decide) ?_
      exact aw_zret C E dX6_isWhole_41 rfl (by omega) ⟨by first | rw [b01_t ⟨by omega, by omega⟩] | rw [b01_f (fun q => by omega)], rfl⟩
theorem t_X6_isNear {mu : Mem} {x y : Int} (hx : R32 x) (hy : R32 y) : TrE 1 mX6_isNear [vi x, vi y] mu (some (vi (1 - b01 (fra x y)))) mu := by
  refine Tr.of (by decide +kernel) (Nat.le_of_ble_eq_true rfl) (fun K C E => ?_)
  have k1 := b01_01 (-60 ≤ x ∧ x ≤ 60)
  have k2 := b01_01 (-60 ≤ y ∧ y ≤ 60)
  have i1 : b01 (-60 ≤ x ∧ x ≤ 60) = 1 ↔ (-60 ≤ x ∧ x ≤ 60) := b01_iff
  have i2 : b01 (-60 ≤ y ∧ y ≤ 60) = 1 ↔ (-60 ≤ y ∧ y ≤ 60) := b01_iff
  unfold fra at E
  refine aw_iload_n C dX6_isNear_0 rfl ?_
  refine aw_i2l C dX6_isNear_1 ⟨by omega, by omega⟩ ?_
  refine aw_ldc2 C dX6_isNear_2 kX6_235 (z := -60) (by decide +kernel) ?_
  refine aw_ldc2 C dX6_isNear_5 kX6_237 (z := 60) (by decide +kernel) ?_
  refine aw_callS1 C dX6_isNear_8 lX6_108 vX6_in (t_X6_in ⟨by omega, by omega⟩ ⟨by omega, by omega⟩ ⟨by omega, by omega⟩) rfl rfl rfl ⟨by decide, by decide⟩ (Nat.le_of_ble_eq_true rfl) ?_
  refine aw_if_eq C dX6_isNear_11 (tgt := 32) (by decide) ⟨by omega, by omega⟩ (fun c1 => ?_) (fun c1 => ?_)
  · refine aw_iconst C dX6_isNear_32 ?_
    exact aw_zret C E dX6_isNear_33 rfl (by omega) ⟨by first | rw [b01_t (by omega)]; rfl | rw [b01_f (by omega)]; rfl, rfl⟩
  · refine aw_iload_n C dX6_isNear_14 rfl ?_
    refine aw_i2l C dX6_isNear_15 ⟨by omega, by omega⟩ ?_
    refine aw_ldc2 C dX6_isNear_16 kX6_235 (z := -60) (by decide +kernel) ?_
    refine aw_ldc2 C dX6_isNear_19 kX6_237 (z := 60) (by decide +kernel) ?_
    refine aw_callS1 C dX6_isNear_22 lX6_108 vX6_in (t_X6_in ⟨by omega, by omega⟩ ⟨by omega, by omega⟩ ⟨by omega, by omega⟩) rfl rfl rfl ⟨by decide, by decide⟩ (Nat.le_of_ble_eq_true rfl) ?_
    refine aw_if_eq C dX6_isNear_25 (tgt := 32) (by decide) ⟨by omega, by omega⟩ (fun c2 => ?_) (fun c2 => ?_)
    · refine aw_iconst C dX6_isNear_32 ?_
      exact aw_zret C E dX6_isNear_33 rfl (by omega) ⟨by first | rw [b01_t (by omega)]; rfl | rw [b01_f (by omega)]; rfl, rfl⟩
    · refine aw_iconst C dX6_isNear_28 ?_
      refine aw_goto C dX6_isNear_29 (tgt := 33) (by decide) ?_
      exact aw_zret C E dX6_isNear_33 rfl (by omega) ⟨by first | rw [b01_t (by omega)]; rfl | rw [b01_f (by omega)]; rfl, rfl⟩
theorem t_X6_about {mu : Mem} {V : FV} {w : Int} (h : mF mu V) (hw : R32 w) : TrE 4 mX6_about [vr 55, vi w] mu (some (vi (qAb V (mu 55 39) w).1)) (gd (wr mu 55 0 0) (qAb V (mu 55 39) w).2) := by
  refine Tr.of (by decide +kernel) (Nat.le_of_ble_eq_true rfl) (fun K C E => ?_)
  have eac : wr mu 55 0 0 55 39 = mu 55 39 := by rw [wr_at, if_neg (by decide)]
  generalize mu 55 39 = ac at *
  have l2 : 0 < V.1 → ∀ (m1 : Mem), mF m1 V → CR K (NC, 0, 0) mX6_about (fun r m2 => r = some (vi (qAb V ac w).1) ∧ m2 = gd m1 (qAb V ac w).2) → w = 2 → ∀ (k : Nat) (i a : Int) (v4 : Vv), 0 ≤ i → i + k = V.1 → True → a = fld (fun a j => a + (if trn V j = 1 then 1 else 0)) 0 i.toNat → AW K mX6_about (NC, 0, 0) 88 [vr 55, vi w, vi a, vi i, v4] [] m1 := by
    intro hpos m1 hm E hw k
    have eV := hm.1
    have hV := hm.2.1.1
    have hn := hV.1
    have e1 := mv1 eV
    have qe : qAb V ac w = (fld (fun a j => a + (if trn V j = 1 then 1 else 0)) 0 V.1.toNat, 0) := (if_pos ⟨by omega, by omega, by omega⟩ : qAb V ac w = _).trans (by rw [hw]; rfl)
    induction k with
    | zero =>
      intro i a v4 h0 h1 hb h2
      have e : i = V.1 := by omega
      rw [e] at h2
      refine aw_iload_n C dX6_about_88 rfl ?_
      refine aw_aload_n C dX6_about_89 rfl ?_
      refine aw_getI C dX6_about_90 fX6_255 ⟨rfl, by decide⟩ rfl ?_
      refine aw_icmp_ge C dX6_about_93 (tgt := 119) (by decide) ⟨by omega, by omega⟩ ⟨by omega, by omega⟩ (fun c1 => ?_) (fun c1 => ?_)
      · refine aw_aload_n C dX6_about_119 rfl ?_
        refine aw_iload_n C dX6_about_120 rfl ?_
        refine aw_call1 C dX6_about_121 lX6_270 vX6_good (t_X6_good) rfl rfl rfl ⟨rfl, by decide⟩ rfl ⟨by decide, by decide⟩ (Nat.le_of_ble_eq_true rfl) ?_
        exact aw_iret C E dX6_about_124 rfl (by rw [qe, h2]; exact ⟨rfl, rfl⟩)
      · exfalso; omega
    | succ k ih =>
      intro i a v4 h0 h1 hb h2
      have ht := hV.trn i
      refine aw_iload_n C dX6_about_88 rfl ?_
      refine aw_aload_n C dX6_about_89 rfl ?_
      refine aw_getI C dX6_about_90 fX6_255 ⟨rfl, by decide⟩ rfl ?_
      refine aw_icmp_ge C dX6_about_93 (tgt := 119) (by decide) ⟨by omega, by omega⟩ ⟨by omega, by omega⟩ (fun c1 => ?_) (fun c1 => ?_)
      · exfalso; omega
      · refine aw_iload_n C dX6_about_96 rfl ?_
        refine aw_aload_n C dX6_about_97 rfl ?_
        refine aw_iload_n C dX6_about_98 rfl ?_
        refine aw_call1 C dX6_about_99 lX6_288 vX6_turn (t_X6_turn eV hV (by omega) (by omega)) rfl rfl rfl ⟨rfl, by decide⟩ rfl ⟨by decide, by decide⟩ (Nat.le_of_ble_eq_true rfl) ?_
        refine aw_iconst C dX6_about_102 ?_
        refine aw_icmp_ne C dX6_about_103 (tgt := 110) (by decide) ⟨by omega, by omega⟩ ⟨by omega, by omega⟩ (fun c2 => ?_) (fun c2 => ?_)
        · refine aw_iconst C dX6_about_110 ?_
          refine aw_iadd C dX6_about_111 ?_
          refine aw_istore_n C dX6_about_112 (by decide) ?_
          refine aw_iinc C dX6_about_113 rfl ?_
          refine aw_goto C dX6_about_116 (tgt := 88) (by decide) ?_
          exact ih (i + 1) _ _ (by omega) (by omega) trivial (by rw [fld_s h0, ← h2]; first | rw [if_pos (by omega)] | rw [if_neg (by omega)])
        · refine aw_iconst C dX6_about_106 ?_
          refine aw_goto C dX6_about_107 (tgt := 111) (by decide) ?_
          refine aw_iadd C dX6_about_111 ?_
          refine aw_istore_n C dX6_about_112 (by decide) ?_
          refine aw_iinc C dX6_about_113 rfl ?_
          refine aw_goto C dX6_about_116 (tgt := 88) (by decide) ?_
          exact ih (i + 1) _ _ (by omega) (by omega) trivial (by rw [fld_s h0, ← h2]; first | rw [if_pos (by omega)] | rw [if_neg (by omega)])
  have l3 : 0 < V.1 → ∀ (m1 : Mem), mF m1 V → CR K (NC, 0, 0) mX6_about (fun r m2 => r = some (vi (qAb V ac w).1) ∧ m2 = gd m1 (qAb V ac w).2) → w = 3 → ∀ (k : Nat) (i a : Int) (v4 : Vv), 0 ≤ i → i + k = V.1 → (0 ≤ a ∧ a ≤ 7200) → a = fld (fun a j => max a (trn V j)) 0 i.toNat → AW K mX6_about (NC, 0, 0) 127 [vr 55, vi w, vi a, vi i, v4] [] m1 := by
    intro hpos m1 hm E hw k
    have eV := hm.1
    have hV := hm.2.1.1
    have hn := hV.1
    have e1 := mv1 eV
    have qe : qAb V ac w = (fld (fun a j => max a (trn V j)) 0 V.1.toNat, 0) := (if_pos ⟨by omega, by omega, by omega⟩ : qAb V ac w = _).trans (by rw [hw]; rfl)
    induction k with
    | zero =>
      intro i a v4 h0 h1 hb h2
      have e : i = V.1 := by omega
      rw [e] at h2
      refine aw_iload_n C dX6_about_127 rfl ?_
      refine aw_aload_n C dX6_about_128 rfl ?_
      refine aw_getI C dX6_about_129 fX6_255 ⟨rfl, by decide⟩ rfl ?_
      refine aw_icmp_ge C dX6_about_132 (tgt := 160) (by decide) ⟨by omega, by omega⟩ ⟨by omega, by omega⟩ (fun c1 => ?_) (fun c1 => ?_)
      · refine aw_aload_n C dX6_about_160 rfl ?_
        refine aw_iload_n C dX6_about_161 rfl ?_
        refine aw_call1 C dX6_about_162 lX6_270 vX6_good (t_X6_good) rfl rfl rfl ⟨rfl, by decide⟩ rfl ⟨by decide, by decide⟩ (Nat.le_of_ble_eq_true rfl) ?_
        exact aw_iret C E dX6_about_165 rfl (by rw [qe, h2]; exact ⟨rfl, rfl⟩)
      · exfalso; omega
    | succ k ih =>
      intro i a v4 h0 h1 hb h2
      have ht := hV.trn i
      refine aw_iload_n C dX6_about_127 rfl ?_
      refine aw_aload_n C dX6_about_128 rfl ?_
      refine aw_getI C dX6_about_129 fX6_255 ⟨rfl, by decide⟩ rfl ?_
      refine aw_icmp_ge C dX6_about_132 (tgt := 160) (by decide) ⟨by omega, by omega⟩ ⟨by omega, by omega⟩ (fun c1 => ?_) (fun c1 => ?_)
      · exfalso; omega
      · refine aw_aload_n C dX6_about_135 rfl ?_
        refine aw_iload_n C dX6_about_136 rfl ?_
        refine aw_call1 C dX6_about_137 lX6_288 vX6_turn (t_X6_turn eV hV (by omega) (by omega)) rfl rfl rfl ⟨rfl, by decide⟩ rfl ⟨by decide, by decide⟩ (Nat.le_of_ble_eq_true rfl) ?_
        refine aw_iload_n C dX6_about_140 rfl ?_
        refine aw_icmp_le C dX6_about_141 (tgt := 152) (by decide) ⟨by omega, by omega⟩ ⟨by omega, by omega⟩ (fun c2 => ?_) (fun c2 => ?_)
        · refine aw_iload_n C dX6_about_152 rfl ?_
          refine aw_istore_n C dX6_about_153 (by decide) ?_
          refine aw_iinc C dX6_about_154 rfl ?_
          refine aw_goto C dX6_about_157 (tgt := 127) (by decide) ?_
          exact ih (i + 1) _ _ (by omega) (by omega) (by omega) (by rw [fld_s h0, ← h2]; omega)
        · refine aw_aload_n C dX6_about_144 rfl ?_
          refine aw_iload_n C dX6_about_145 rfl ?_
          refine aw_call1 C dX6_about_146 lX6_288 vX6_turn (t_X6_turn eV hV (by omega) (by omega)) rfl rfl rfl ⟨rfl, by decide⟩ rfl ⟨by decide, by decide⟩ (Nat.le_of_ble_eq_true rfl) ?_
          refine aw_goto C dX6_about_149 (tgt := 153) (by decide) ?_
          refine aw_istore_n C dX6_about_153 (by decide) ?_
          refine aw_iinc C dX6_about_154 rfl ?_
          refine aw_goto C dX6_about_157 (tgt := 127) (by decide) ?_
          exact ih (i + 1) _ _ (by omega) (by omega) (by omega) (by rw [fld_s h0, ← h2]; omega)
  have l4 : 0 < V.1 → ∀ (m1 : Mem), mF m1 V → CR K (NC, 0, 0) mX6_about (fun r m2 => r = some (vi (qAb V ac w).1) ∧ m2 = gd m1 (qAb V ac w).2) → w = 4 → ∀ (k : Nat) (i a : Int) (v4 : Vv), 0 ≤ i → i + k = V.1 → 0 ≤ a ∧ a ≤ 7200 → a = fld (fun a i => fld (fun b j => (Int.gcd b (crs V i j) : Int)) a i.toNat) 0 i.toNat → AW K mX6_about (NC, 0, 0) 168 [vr 55, vi w, vi a, vi i, v4] [] m1 := by
    intro hpos m1 hm E hw k
    have eV := hm.1
    have hV := hm.2.1.1
    have hn := hV.1
    have e1 := mv1 eV
    have qe : qAb V ac w = (ixS V, 0) := (if_pos ⟨by omega, by omega, by omega⟩ : qAb V ac w = _).trans (by rw [hw]; rfl)
    induction k with
    | zero =>
      intro i a v4 h0 h1 hb h2
      have e : i = V.1 := by omega
      rw [e] at h2
      refine aw_iload_n C dX6_about_168 rfl ?_
      refine aw_aload_n C dX6_about_169 rfl ?_
      refine aw_getI C dX6_about_170 fX6_255 ⟨rfl, by decide⟩ rfl ?_
      refine aw_icmp_ge C dX6_about_173 (tgt := 212) (by decide) ⟨by omega, by omega⟩ ⟨by omega, by omega⟩ (fun c1 => ?_) (fun c1 => ?_)
      · refine aw_aload_n C dX6_about_212 rfl ?_
        refine aw_iload_n C dX6_about_213 rfl ?_
        refine aw_call1 C dX6_about_214 lX6_270 vX6_good (t_X6_good) rfl rfl rfl ⟨rfl, by decide⟩ rfl ⟨by decide, by decide⟩ (Nat.le_of_ble_eq_true rfl) ?_
        exact aw_iret C E dX6_about_217 rfl (by rw [qe, h2]; exact ⟨rfl, rfl⟩)
      · exfalso; omega
    | succ k ih =>
      intro i a v4 h0 h1 h3 h2
      have inner : ∀ (q : Nat) (j b : Int), 0 ≤ j → j + q = i → 0 ≤ b ∧ b ≤ 7200 → b = fld (fun b j => (Int.gcd b (crs V i j) : Int)) a j.toNat → AW K mX6_about (NC, 0, 0) 179 [vr 55, vi w, vi b, vi i, vi j] [] m1 := by
        intro q
        induction q with
        | zero =>
          intro j b q0 q1 q3 q2
          have e : j = i := by omega
          subst e
          refine aw_iload C dX6_about_179 rfl ?_
          refine aw_iload_n C dX6_about_181 rfl ?_
          refine aw_icmp_ge C dX6_about_182 (tgt := 206) (by decide) ⟨by omega, by omega⟩ ⟨by omega, by omega⟩ (fun c1 => ?_) (fun c1 => ?_)
          · refine aw_iinc C dX6_about_206 rfl ?_
            refine aw_goto C dX6_about_209 (tgt := 168) (by decide) ?_
            exact ih (j + 1) _ _ (by omega) (by omega) q3 (by rw [fld_s h0, ← h2, q2])
          · exfalso; omega
        | succ q ihq =>
          intro j b q0 q1 q3 q2
          have hc := hV.crs i j
          refine aw_iload C dX6_about_179 rfl ?_
          refine aw_iload_n C dX6_about_181 rfl ?_
          refine aw_icmp_ge C dX6_about_182 (tgt := 206) (by decide) ⟨by omega, by omega⟩ ⟨by omega, by omega⟩ (fun c1 => ?_) (fun c1 => ?_)
          · exfalso; omega
          · refine aw_iload_n C dX6_about_185 rfl ?_
            refine aw_i2l C dX6_about_186 ⟨by omega, by omega⟩ ?_
            refine aw_aload_n C dX6_about_187 rfl ?_
            refine aw_iload_n C dX6_about_188 rfl ?_
            refine aw_iload C dX6_about_189 rfl ?_
            refine aw_call1 C dX6_about_191 lX6_285 vX6_crossOf (t_X6_crossOf eV hV (by omega) (by omega) (by omega) (by omega)) rfl rfl rfl ⟨rfl, by decide⟩ rfl ⟨by decide, by decide⟩ (Nat.le_of_ble_eq_true rfl) ?_
            refine aw_i2l C dX6_about_194 ⟨by omega, by omega⟩ ?_
            refine aw_callS1 C dX6_about_195 lX6_202 vX6_common (t_X6_common ⟨by omega, by omega⟩ ⟨by omega, by omega⟩) rfl rfl rfl ⟨by decide, by decide⟩ (Nat.le_of_ble_eq_true rfl) ?_
            refine aw_l2i C dX6_about_198 ?_
            refine aw_istore_n C dX6_about_199 (by decide) ?_
            refine aw_iinc C dX6_about_200 rfl ?_
            refine aw_goto C dX6_about_203 (tgt := 179) (by decide) ?_
            exact ihq (j + 1) _ (by omega) (by omega) (gcd_b q3 hc) (by rw [fld_s q0, ← q2])
      refine aw_iload_n C dX6_about_168 rfl ?_
      refine aw_aload_n C dX6_about_169 rfl ?_
      refine aw_getI C dX6_about_170 fX6_255 ⟨rfl, by decide⟩ rfl ?_
      refine aw_icmp_ge C dX6_about_173 (tgt := 212) (by decide) ⟨by omega, by omega⟩ ⟨by omega, by omega⟩ (fun c1 => ?_) (fun c1 => ?_)
      · exfalso; omega
      · refine aw_iconst C dX6_about_176 ?_
        refine aw_istore C dX6_about_177 (by decide) ?_
        exact inner i.toNat 0 a (by omega) (by omega) h3 rfl
  have l6 : 0 < V.1 → ∀ (m1 : Mem), mF m1 V → CR K (NC, 0, 0) mX6_about (fun r m2 => r = some (vi (qAb V ac w).1) ∧ m2 = gd m1 (qAb V ac w).2) → w = 6 → ∀ (k : Nat) (i a : Int) (v4 : Vv), 0 ≤ i → i + k = V.1 → True → a = bts (cgo V) i.toNat → AW K mX6_about (NC, 0, 0) 229 [vr 55, vi w, vi a, vi i, v4] [] m1 := by
    intro hpos m1 hm E hw k
    have eV := hm.1
    have hV := hm.2.1.1
    have hn := hV.1
    have e1 := mv1 eV
    have qe : qAb V ac w = (bts (cgo V) V.1.toNat, 0) := (if_pos ⟨by omega, by omega, by omega⟩ : qAb V ac w = _).trans (by rw [hw]; rfl)
    induction k with
    | zero =>
      intro i a v4 h0 h1 hb h2
      have e : i = V.1 := by omega
      rw [e] at h2
      refine aw_iload_n C dX6_about_229 rfl ?_
      refine aw_aload_n C dX6_about_230 rfl ?_
      refine aw_getI C dX6_about_231 fX6_255 ⟨rfl, by decide⟩ rfl ?_
      refine aw_icmp_ge C dX6_about_234 (tgt := 261) (by decide) ⟨by omega, by omega⟩ ⟨by omega, by omega⟩ (fun c1 => ?_) (fun c1 => ?_)
      · refine aw_aload_n C dX6_about_261 rfl ?_
        refine aw_iload_n C dX6_about_262 rfl ?_
        refine aw_call1 C dX6_about_263 lX6_270 vX6_good (t_X6_good) rfl rfl rfl ⟨rfl, by decide⟩ rfl ⟨by decide, by decide⟩ (Nat.le_of_ble_eq_true rfl) ?_
        exact aw_iret C E dX6_about_266 rfl (by rw [qe, h2]; exact ⟨rfl, rfl⟩)
      · exfalso; omega
    | succ k ih =>
      intro i a v4 h0 h1 hb h2
      have hb := b01_01 (cgo V i)
      refine aw_iload_n C dX6_about_229 rfl ?_
      refine aw_aload_n C dX6_about_230 rfl ?_
      refine aw_getI C dX6_about_231 fX6_255 ⟨rfl, by decide⟩ rfl ?_
      refine aw_icmp_ge C dX6_about_234 (tgt := 261) (by decide) ⟨by omega, by omega⟩ ⟨by omega, by omega⟩ (fun c1 => ?_) (fun c1 => ?_)
      · exfalso; omega
      · refine aw_iload_n C dX6_about_237 rfl ?_
        refine aw_aload_n C dX6_about_238 rfl ?_
        refine aw_iload_n C dX6_about_239 rfl ?_
        refine aw_call1 C dX6_about_240 lX6_296 vX6_canGo (t_X6_canGo eV hV (by omega) (by omega)) rfl rfl rfl ⟨rfl, by decide⟩ rfl ⟨by decide, by decide⟩ (Nat.le_of_ble_eq_true rfl) ?_
        refine aw_if_eq C dX6_about_243 (tgt := 252) (by decide) ⟨by omega, by omega⟩ (fun c2 => ?_) (fun c2 => ?_)
        · refine aw_iconst C dX6_about_252 ?_
          refine aw_ior C dX6_about_253 ?_
          refine aw_istore_n C dX6_about_254 (by decide) ?_
          refine aw_iinc C dX6_about_255 rfl ?_
          refine aw_goto C dX6_about_258 (tgt := 229) (by decide) ?_
          exact ih (i + 1) _ _ (by omega) (by omega) trivial (by unfold bts; rw [fld_s h0]; unfold bts at h2; rw [← h2]; first | rw [if_pos (by omega)]; rfl | rw [if_neg (by omega)]; rfl)
        · refine aw_iconst C dX6_about_246 ?_
          refine aw_iload_n C dX6_about_247 rfl ?_
          refine aw_ishl C dX6_about_248 ?_
          refine aw_goto C dX6_about_249 (tgt := 253) (by decide) ?_
          refine aw_ior C dX6_about_253 ?_
          refine aw_istore_n C dX6_about_254 (by decide) ?_
          refine aw_iinc C dX6_about_255 rfl ?_
          refine aw_goto C dX6_about_258 (tgt := 229) (by decide) ?_
          exact ih (i + 1) _ _ (by omega) (by omega) trivial (by unfold bts; rw [fld_s h0]; unfold bts at h2; rw [← h2]; first | rw [if_pos (by omega)]; rfl | rw [if_neg (by omega)]; rfl)
  have l7 : 0 < V.1 → ∀ (m1 : Mem), mF m1 V → CR K (NC, 0, 0) mX6_about (fun r m2 => r = some (vi (qAb V ac w).1) ∧ m2 = gd m1 (qAb V ac w).2) → w = 7 → ∀ (k : Nat) (i a : Int) (v4 : Vv), 0 ≤ i → i + k = V.1 → True → a = bts (lit V) i.toNat → AW K mX6_about (NC, 0, 0) 269 [vr 55, vi w, vi a, vi i, v4] [] m1 := by
    intro hpos m1 hm E hw k
    have eV := hm.1
    have hV := hm.2.1.1
    have hn := hV.1
    have e1 := mv1 eV
    have qe : qAb V ac w = (bts (lit V) V.1.toNat, 0) := (if_pos ⟨by omega, by omega, by omega⟩ : qAb V ac w = _).trans (by rw [hw]; rfl)
    induction k with
    | zero =>
      intro i a v4 h0 h1 hb h2
      have e : i = V.1 := by omega
      rw [e] at h2
      refine aw_iload_n C dX6_about_269 rfl ?_
      refine aw_aload_n C dX6_about_270 rfl ?_
      refine aw_getI C dX6_about_271 fX6_255 ⟨rfl, by decide⟩ rfl ?_
      refine aw_icmp_ge C dX6_about_274 (tgt := 301) (by decide) ⟨by omega, by omega⟩ ⟨by omega, by omega⟩ (fun c1 => ?_) (fun c1 => ?_)
      · refine aw_aload_n C dX6_about_301 rfl ?_
        refine aw_iload_n C dX6_about_302 rfl ?_
        refine aw_call1 C dX6_about_303 lX6_270 vX6_good (t_X6_good) rfl rfl rfl ⟨rfl, by decide⟩ rfl ⟨by decide, by decide⟩ (Nat.le_of_ble_eq_true rfl) ?_
        exact aw_iret C E dX6_about_306 rfl (by rw [qe, h2]; exact ⟨rfl, rfl⟩)
      · exfalso; omega
    | succ k ih =>
      intro i a v4 h0 h1 hb h2
      have hb := b01_01 (lit V i)
      refine aw_iload_n C dX6_about_269 rfl ?_
      refine aw_aload_n C dX6_about_270 rfl ?_
      refine aw_getI C dX6_about_271 fX6_255 ⟨rfl, by decide⟩ rfl ?_
      refine aw_icmp_ge C dX6_about_274 (tgt := 301) (by decide) ⟨by omega, by omega⟩ ⟨by omega, by omega⟩ (fun c1 => ?_) (fun c1 => ?_)
      · exfalso; omega
      · refine aw_iload_n C dX6_about_277 rfl ?_
        refine aw_aload_n C dX6_about_278 rfl ?_
        refine aw_iload_n C dX6_about_279 rfl ?_
        refine aw_call1 C dX6_about_280 lX6_299 vX6_isLight (t_X6_isLight eV hV (by omega) (by omega)) rfl rfl rfl ⟨rfl, by decide⟩ rfl ⟨by decide, by decide⟩ (Nat.le_of_ble_eq_true rfl) ?_
        refine aw_if_eq C dX6_about_283 (tgt := 292) (by decide) ⟨by omega, by omega⟩ (fun c2 => ?_) (fun c2 => ?_)
        · refine aw_iconst C dX6_about_292 ?_
          refine aw_ior C dX6_about_293 ?_
          refine aw_istore_n C dX6_about_294 (by decide) ?_
          refine aw_iinc C dX6_about_295 rfl ?_
          refine aw_goto C dX6_about_298 (tgt := 269) (by decide) ?_
          exact ih (i + 1) _ _ (by omega) (by omega) trivial (by unfold bts; rw [fld_s h0]; unfold bts at h2; rw [← h2]; first | rw [if_pos (by omega)]; rfl | rw [if_neg (by omega)]; rfl)
        · refine aw_iconst C dX6_about_286 ?_
          refine aw_iload_n C dX6_about_287 rfl ?_
          refine aw_ishl C dX6_about_288 ?_
          refine aw_goto C dX6_about_289 (tgt := 293) (by decide) ?_
          refine aw_ior C dX6_about_293 ?_
          refine aw_istore_n C dX6_about_294 (by decide) ?_
          refine aw_iinc C dX6_about_295 rfl ?_
          refine aw_goto C dX6_about_298 (tgt := 269) (by decide) ?_
          exact ih (i + 1) _ _ (by omega) (by omega) trivial (by unfold bts; rw [fld_s h0]; unfold bts at h2; rw [← h2]; first | rw [if_pos (by omega)]; rfl | rw [if_neg (by omega)]; rfl)
  refine aw_aload_n C dX6_about_0 rfl ?_
  refine aw_iconst C dX6_about_1 ?_
  refine aw_putI C dX6_about_2 fX6_77 ⟨rfl, by decide⟩ rfl rfl rfl ?_
  have hm := h.t
  generalize wr mu 55 0 0 = m1 at *
  have eV := hm.1
  have hV := hm.2.1.1
  have hn := hV.1
  have hl := hV.2.1
  have e1 := mv1 eV
  have e2 := mv2 eV
  have h3 := hm.2.2
  refine aw_aload_n C dX6_about_5 rfl ?_
  refine aw_getI C dX6_about_6 fX6_264 ⟨rfl, by decide⟩ rfl ?_
  refine aw_if_ne C dX6_about_9 (tgt := 18) (by decide) ⟨by omega, by omega⟩ (fun c1 => ?_) (fun c1 => ?_)
  · refine aw_iconst C dX6_about_18 ?_
    refine aw_istore_n C dX6_about_19 (by decide) ?_
    refine aw_iload_n C dX6_about_20 rfl ?_
    refine aw_tsw C (tgt := 307) [68, 77, 86, 125, 166, 218, 227, 267] dX6_about_21 ⟨by omega, by omega⟩ (by decide) (by decide) (by decide) ⟨fun c2 => ?_, fun c2 => ?_, fun c2 => ?_, fun c2 => ?_, fun c2 => ?_, fun c2 => ?_, fun c2 => ?_, fun c2 => ?_, trivial⟩ (fun c2 => ?_)
    · refine aw_aload_n C dX6_about_68 rfl ?_
      refine aw_aload_n C dX6_about_69 rfl ?_
      refine aw_getI C dX6_about_70 fX6_255 ⟨rfl, by decide⟩ rfl ?_
      refine aw_call1 C dX6_about_73 lX6_270 vX6_good (t_X6_good) rfl rfl rfl ⟨rfl, by decide⟩ rfl ⟨by decide, by decide⟩ (Nat.le_of_ble_eq_true rfl) ?_
      exact aw_iret C E dX6_about_76 rfl (by rw [show qAb V ac w = (V.1, 0) from (if_pos ⟨by omega, by omega, by omega⟩ : qAb V ac w = _).trans (by rw [show w = 0 by omega]; rfl), e1]; exact ⟨rfl, rfl⟩)
    · refine aw_aload_n C dX6_about_77 rfl ?_
      refine aw_aload_n C dX6_about_78 rfl ?_
      refine aw_getI C dX6_about_79 fX6_279 ⟨rfl, by decide⟩ rfl ?_
      refine aw_call1 C dX6_about_82 lX6_270 vX6_good (t_X6_good) rfl rfl rfl ⟨rfl, by decide⟩ rfl ⟨by decide, by decide⟩ (Nat.le_of_ble_eq_true rfl) ?_
      exact aw_iret C E dX6_about_85 rfl (by rw [show qAb V ac w = (V.2.1, 0) from (if_pos ⟨by omega, by omega, by omega⟩ : qAb V ac w = _).trans (by rw [show w = 1 by omega]; rfl), e2]; exact ⟨rfl, rfl⟩)
    · refine aw_iconst C dX6_about_86 ?_
      refine aw_istore_n C dX6_about_87 (by decide) ?_
      exact l2 (by omega) m1 hm E (by omega) V.1.toNat 0 0 _ (by omega) (by omega) trivial rfl
    · refine aw_iconst C dX6_about_125 ?_
      refine aw_istore_n C dX6_about_126 (by decide) ?_
      exact l3 (by omega) m1 hm E (by omega) V.1.toNat 0 0 _ (by omega) (by omega) (by omega) rfl
    · refine aw_iconst C dX6_about_166 ?_
      refine aw_istore_n C dX6_about_167 (by decide) ?_
      exact l4 (by omega) m1 hm E (by omega) V.1.toNat 0 0 _ (by omega) (by omega) (by omega) rfl
    · refine aw_aload_n C dX6_about_218 rfl ?_
      refine aw_aload_n C dX6_about_219 rfl ?_
      refine aw_getI C dX6_about_220 fX6_261 ⟨rfl, by decide⟩ rfl ?_
      refine aw_call1 C dX6_about_223 lX6_270 vX6_good (t_X6_good) rfl rfl rfl ⟨rfl, by decide⟩ rfl ⟨by decide, by decide⟩ (Nat.le_of_ble_eq_true rfl) ?_
      exact aw_iret C E dX6_about_226 rfl (by rw [show qAb V ac w = (ac, 0) from (if_pos ⟨by omega, by omega, by omega⟩ : qAb V ac w = _).trans (by rw [show w = 5 by omega]; rfl), eac]; exact ⟨rfl, rfl⟩)
    · refine aw_iconst C dX6_about_227 ?_
      refine aw_istore_n C dX6_about_228 (by decide) ?_
      exact l6 (by omega) m1 hm E (by omega) V.1.toNat 0 0 _ (by omega) (by omega) trivial rfl
    · refine aw_iconst C dX6_about_267 ?_
      refine aw_istore_n C dX6_about_268 (by decide) ?_
      exact l7 (by omega) m1 hm E (by omega) V.1.toNat 0 0 _ (by omega) (by omega) trivial rfl
    · refine aw_aload_n C dX6_about_307 rfl ?_
      refine aw_iconst C dX6_about_308 ?_
      refine aw_call1 C dX6_about_309 lX6_267 vX6_refused (t_X6_refused) rfl rfl rfl ⟨rfl, by decide⟩ rfl ⟨by decide, by decide⟩ (Nat.le_of_ble_eq_true rfl) ?_
      exact aw_iret C E dX6_about_312 rfl (by rw [show qAb V ac w = (-1, 1) from if_neg (fun z => by omega)]; exact ⟨rfl, rfl⟩)
  · have qe : qAb V ac w = (-1, 1) := if_neg (fun z => by omega)
    --go
    refine aw_aload_n C dX6_about_12 rfl ?_
    refine aw_iconst C dX6_about_13 ?_
    refine aw_call1 C dX6_about_14 lX6_267 vX6_refused (t_X6_refused) rfl rfl rfl ⟨rfl, by decide⟩ rfl ⟨by decide, by decide⟩ (Nat.le_of_ble_eq_true rfl) ?_
    exact aw_iret C E dX6_about_17 rfl (by rw [qe]; exact ⟨rfl, rfl⟩)
theorem msr_0 {V : FV} (hc : clo V) : ∀ (k : Nat) (i v : Int), 0 ≤ i → i + k ≤ V.1 → 1 ≤ v → msr V k i v ≠ 0
  | 0, i, v, h0, h1, h2 => fun w => by have : v = 0 := w; omega
  | k + 1, i, v, h0, h1, h2 => by
    have ht2 := hc.2 i h0 (by omega)
    have hg : 1 ≤ (Int.gcd v (trn V i) : Int) := by
      have q0 : 0 < Int.gcd v (trn V i) := Nat.pos_of_ne_zero (fun w => by have := (Int.gcd_eq_zero_iff.mp w).2; omega)
      omega
    have hq1 : 1 ≤ v.tdiv (Int.gcd v (trn V i)) := by
      rw [Int.tdiv_eq_ediv_of_nonneg (by omega)]
      refine Int.le_ediv_of_mul_le (by omega) ?_
      have := Nat.le_of_dvd (by omega) (Int.gcd_dvd_natAbs_left v (trn V i))
      omega
    have hp : 1 ≤ v.tdiv (Int.gcd v (trn V i)) * trn V i := Int.mul_pos (by omega) ht2
    show (if v.tdiv (Int.gcd v (trn V i)) * trn V i > 1000000 then -1 else msr V k (i + 1) (v.tdiv (Int.gcd v (trn V i)) * trn V i)) ≠ 0
    split
    · decide
    · exact msr_0 hc k (i + 1) _ (by omega) (by omega) hp
theorem meas_0 {V : FV} (hc : clo V) : meas V ≠ 0 := msr_0 hc _ _ _ (by omega) (by have := hc.1; omega) (by omega)
theorem t_X6_measure {mu : Mem} {V : FV}  (h : mF mu V)  : TrE 4 mX6_measure [vr 55] mu (some (vi (qMs V).1)) (gd (wr mu 55 0 0) (qMs V).2) := by
  refine Tr.of (by decide +kernel) (Nat.le_of_ble_eq_true rfl) (fun K C E => ?_)
  refine aw_aload_n C dX6_measure_0 rfl ?_
  refine aw_iconst C dX6_measure_1 ?_
  refine aw_putI C dX6_measure_2 fX6_77 ⟨rfl, by decide⟩ rfl rfl rfl ?_
  have hm := h.t
  generalize wr mu 55 0 0 = m1 at *
  have eV := hm.1
  have hV := hm.2.1.1
  have hn := hV.1
  have hl := hV.2.1
  have e1 := mv1 eV
  have e2 := mv2 eV
  have h3 := hm.2.2
  refine aw_aload_n C dX6_measure_5 rfl ?_
  refine aw_getI C dX6_measure_6 fX6_264 ⟨rfl, by decide⟩ rfl ?_
  refine aw_if_ne C dX6_measure_9 (tgt := 18) (by decide) ⟨by omega, by omega⟩ (fun c1 => ?_) (fun c1 => ?_)
  · have cl := hm.2.1.cl (by omega)
    have hcl := cl.1
    have hpr := cl.2
    have qe : qMs V = (meas V, mcd V) := if_pos (by omega)
    have mb := meas_b hcl
    have ms : (meas V = -1 ∧ msm V = 0 ∧ mcd V = 3) ∨ (meas V ≠ -1 ∧ msm V = meas V ∧ mcd V = 0) := by unfold msm mcd; split <;> omega
    have m0 : meas V ≠ 0 := meas_0 hcl
    --go
    refine aw_aload_n C dX6_measure_18 rfl ?_
    refine aw_call1 C dX6_measure_19 lX6_302 vX6_measureOf (t_X6_measureOf eV hV hcl) rfl rfl rfl ⟨rfl, by decide⟩ rfl ⟨by decide, by decide⟩ (Nat.le_of_ble_eq_true rfl) ?_
    refine aw_lstore_n C dX6_measure_22 (by decide) ?_
    refine aw_lload_n C dX6_measure_23 rfl ?_
    refine aw_lconst C dX6_measure_24 (v := 0) rfl ?_
    refine aw_lcmp_ne C dX6_measure_25 dX6_measure_26 (tgt := 37) (by decide) ⟨by omega, by omega⟩ ⟨by omega, by omega⟩ (fun c2 => ?_) (fun c2 => ?_)
    · refine aw_aload_n C dX6_measure_37 rfl ?_
      refine aw_lload_n C dX6_measure_38 rfl ?_
      refine aw_l2i C dX6_measure_39 ?_
      refine aw_call1 C dX6_measure_40 lX6_270 vX6_good (t_X6_good) rfl rfl rfl ⟨rfl, by decide⟩ rfl ⟨by decide, by decide⟩ (Nat.le_of_ble_eq_true rfl) ?_
      exact aw_iret C E dX6_measure_43 rfl (by rw [qe]; rcases ms with ⟨q1, q2, q3⟩ | ⟨q1, q2, q3⟩ <;> first | (exfalso; omega) | (rw [q1, q3]; exact ⟨rfl, rfl⟩) | (rw [q2, q3]; exact ⟨rfl, rfl⟩))
    · refine aw_aload_n C dX6_measure_29 rfl ?_
      refine aw_iconst C dX6_measure_30 ?_
      refine aw_call1 C dX6_measure_31 lX6_267 vX6_refused (t_X6_refused) rfl rfl rfl ⟨rfl, by decide⟩ rfl ⟨by decide, by decide⟩ (Nat.le_of_ble_eq_true rfl) ?_
      refine aw_goto C dX6_measure_34 (tgt := 43) (by decide) ?_
      exact aw_iret C E dX6_measure_43 rfl (by rw [qe]; rcases ms with ⟨q1, q2, q3⟩ | ⟨q1, q2, q3⟩ <;> first | (exfalso; omega) | (rw [q1, q3]; exact ⟨rfl, rfl⟩) | (rw [q2, q3]; exact ⟨rfl, rfl⟩))
  · have qe : qMs V = (-1, 1) := if_neg (by omega)
    --go
    refine aw_aload_n C dX6_measure_12 rfl ?_
    refine aw_iconst C dX6_measure_13 ?_
    refine aw_call1 C dX6_measure_14 lX6_267 vX6_refused (t_X6_refused) rfl rfl rfl ⟨rfl, by decide⟩ rfl ⟨by decide, by decide⟩ (Nat.le_of_ble_eq_true rfl) ?_
    exact aw_iret C E dX6_measure_17 rfl (by rw [qe]; exact ⟨rfl, rfl⟩)
theorem t_X6_ray {mu : Mem} {V : FV} {i w : Int} (h : mF mu V) (hi : R32 i) (hw : R32 w) : TrE 5 mX6_ray [vr 55, vi i, vi w] mu (some (vl (qRy V i w).1)) (gd (wr mu 55 0 0) (qRy V i w).2) := by
  refine Tr.of (by decide +kernel) (Nat.le_of_ble_eq_true rfl) (fun K C E => ?_)
  have k1 := b01_01 (0 ≤ i ∧ i < V.1)
  have i1 : b01 (0 ≤ i ∧ i < V.1) = 1 ↔ (0 ≤ i ∧ i < V.1) := b01_iff
  refine aw_aload_n C dX6_ray_0 rfl ?_
  refine aw_iconst C dX6_ray_1 ?_
  refine aw_putI C dX6_ray_2 fX6_77 ⟨rfl, by decide⟩ rfl rfl rfl ?_
  have hm := h.t
  generalize wr mu 55 0 0 = m1 at *
  have eV := hm.1
  have hV := hm.2.1.1
  have hn := hV.1
  have hl := hV.2.1
  have e1 := mv1 eV
  have e2 := mv2 eV
  have h3 := hm.2.2
  refine aw_aload_n C dX6_ray_5 rfl ?_
  refine aw_iload_n C dX6_ray_6 rfl ?_
  refine aw_call1 C dX6_ray_7 lX6_308 vX6_isRay (t_X6_isRay hm (by assumption)) rfl rfl rfl ⟨rfl, by decide⟩ rfl ⟨by decide, by decide⟩ (Nat.le_of_ble_eq_true rfl) ?_
  refine aw_if_ne C dX6_ray_10 (tgt := 19) (by decide) ⟨by omega, by omega⟩ (fun c1 => ?_) (fun c1 => ?_)
  · have cl := hm.2.1.cl (by omega)
    have hcl := cl.1
    have hpr := cl.2
    have kb := kq_b cl (i := i) (by omega) (by omega)
    have tb := hV.trn i
    have lb := cln_b (kq V i).toNat (trn V i) (kq V i)
    have lb : 0 ≤ cls (trn V i) (kq V i) ∧ cls (trn V i) (kq V i) ≤ (kq V i).toNat := lb
    --go
    refine aw_iload_n C dX6_ray_19 rfl ?_
    refine aw_tsw C (tgt := 114) [56, 68, 80, 91, 102] dX6_ray_20 ⟨by omega, by omega⟩ (by decide) (by decide) (by decide) ⟨fun c2 => ?_, fun c2 => ?_, fun c2 => ?_, fun c2 => ?_, fun c2 => ?_, trivial⟩ (fun c2 => ?_)
    · refine aw_aload_n C dX6_ray_56 rfl ?_
      refine aw_aload_n C dX6_ray_57 rfl ?_
      refine aw_getS C dX6_ray_58 fX6_41 ⟨rfl, by decide⟩ rfl rfl (srf 55 23 64 (by decide)) ?_
      refine aw_iload_n C dX6_ray_61 rfl ?_
      refine aw_iald C dX6_ray_62 ⟨rfl, by decide⟩ (by decide) (by omega) (by omega) ?_
      have bx := hV.x i
      rw [mxV eV (by omega) (by omega)]
      refine aw_i2l C dX6_ray_63 ⟨by omega, by omega⟩ ?_
      refine aw_call1 C dX6_ray_64 lX6_315 vX6_told (t_X6_told) rfl rfl rfl ⟨rfl, by decide⟩ rfl ⟨by decide, by decide⟩ (Nat.le_of_ble_eq_true rfl) ?_
      exact aw_lret C E dX6_ray_67 rfl (by rw [show qRy V i w = (gx V i, 0) from (if_pos ⟨by omega, by omega, by omega⟩ : qRy V i w = _).trans (by rw [show w = 0 by omega]; rfl)]; exact ⟨rfl, rfl⟩)
    · refine aw_aload_n C dX6_ray_68 rfl ?_
      refine aw_aload_n C dX6_ray_69 rfl ?_
      refine aw_getS C dX6_ray_70 fX6_44 ⟨rfl, by decide⟩ rfl rfl (srf 55 24 65 (by decide)) ?_
      refine aw_iload_n C dX6_ray_73 rfl ?_
      refine aw_iald C dX6_ray_74 ⟨rfl, by decide⟩ (by decide) (by omega) (by omega) ?_
      have bx := hV.y i
      rw [myV eV (by omega) (by omega)]
      refine aw_i2l C dX6_ray_75 ⟨by omega, by omega⟩ ?_
      refine aw_call1 C dX6_ray_76 lX6_315 vX6_told (t_X6_told) rfl rfl rfl ⟨rfl, by decide⟩ rfl ⟨by decide, by decide⟩ (Nat.le_of_ble_eq_true rfl) ?_
      exact aw_lret C E dX6_ray_79 rfl (by rw [show qRy V i w = (gy V i, 0) from (if_pos ⟨by omega, by omega, by omega⟩ : qRy V i w = _).trans (by rw [show w = 1 by omega]; rfl)]; exact ⟨rfl, rfl⟩)
    · refine aw_aload_n C dX6_ray_80 rfl ?_
      refine aw_aload_n C dX6_ray_81 rfl ?_
      refine aw_iload_n C dX6_ray_82 rfl ?_
      refine aw_call1 C dX6_ray_83 lX6_288 vX6_turn (t_X6_turn eV hV (by omega) (by omega)) rfl rfl rfl ⟨rfl, by decide⟩ rfl ⟨by decide, by decide⟩ (Nat.le_of_ble_eq_true rfl) ?_
      refine aw_i2l C dX6_ray_86 ⟨by omega, by omega⟩ ?_
      refine aw_call1 C dX6_ray_87 lX6_315 vX6_told (t_X6_told) rfl rfl rfl ⟨rfl, by decide⟩ rfl ⟨by decide, by decide⟩ (Nat.le_of_ble_eq_true rfl) ?_
      exact aw_lret C E dX6_ray_90 rfl (by rw [show qRy V i w = (trn V i, 0) from (if_pos ⟨by omega, by omega, by omega⟩ : qRy V i w = _).trans (by rw [show w = 2 by omega]; rfl)]; exact ⟨rfl, rfl⟩)
    · refine aw_aload_n C dX6_ray_91 rfl ?_
      refine aw_aload_n C dX6_ray_92 rfl ?_
      refine aw_iload_n C dX6_ray_93 rfl ?_
      refine aw_call1 C dX6_ray_94 lX6_305 vX6_kind (t_X6_kind eV hV hcl hpr (by omega) (by omega)) rfl rfl rfl ⟨rfl, by decide⟩ rfl ⟨by decide, by decide⟩ (Nat.le_of_ble_eq_true rfl) ?_
      refine aw_i2l C dX6_ray_97 ⟨by omega, by omega⟩ ?_
      refine aw_call1 C dX6_ray_98 lX6_315 vX6_told (t_X6_told) rfl rfl rfl ⟨rfl, by decide⟩ rfl ⟨by decide, by decide⟩ (Nat.le_of_ble_eq_true rfl) ?_
      exact aw_lret C E dX6_ray_101 rfl (by rw [show qRy V i w = (kq V i, 0) from (if_pos ⟨by omega, by omega, by omega⟩ : qRy V i w = _).trans (by rw [show w = 3 by omega]; rfl)]; exact ⟨rfl, rfl⟩)
    · refine aw_aload_n C dX6_ray_102 rfl ?_
      refine aw_aload_n C dX6_ray_103 rfl ?_
      refine aw_iload_n C dX6_ray_104 rfl ?_
      refine aw_iconst C dX6_ray_105 ?_
      refine aw_call1 C dX6_ray_106 lX6_319 vX6_chainOf (t_X6_chainOfN eV hV hcl hpr (by omega) (by omega)) rfl rfl rfl ⟨rfl, by decide⟩ rfl ⟨by decide, by decide⟩ (Nat.le_of_ble_eq_true rfl) ?_
      refine aw_i2l C dX6_ray_109 ⟨by omega, by omega⟩ ?_
      refine aw_call1 C dX6_ray_110 lX6_315 vX6_told (t_X6_told) rfl rfl rfl ⟨rfl, by decide⟩ rfl ⟨by decide, by decide⟩ (Nat.le_of_ble_eq_true rfl) ?_
      exact aw_lret C E dX6_ray_113 rfl (by rw [show qRy V i w = (cls (trn V i) (kq V i), 0) from (if_pos ⟨by omega, by omega, by omega⟩ : qRy V i w = _).trans (by rw [show w = 4 by omega]; rfl)]; exact ⟨rfl, rfl⟩)
    · refine aw_aload_n C dX6_ray_114 rfl ?_
      refine aw_iconst C dX6_ray_115 ?_
      refine aw_call1 C dX6_ray_116 lX6_311 vX6_lost (t_X6_lost) rfl rfl rfl ⟨rfl, by decide⟩ rfl ⟨by decide, by decide⟩ (Nat.le_of_ble_eq_true rfl) ?_
      exact aw_lret C E dX6_ray_119 rfl (by rw [show qRy V i w = (NTH, 1) from if_neg (fun z => by omega)]; exact ⟨rfl, rfl⟩)
  · have qe : qRy V i w = (NTH, 1) := if_neg (fun z => by omega)
    --go
    refine aw_aload_n C dX6_ray_13 rfl ?_
    refine aw_iconst C dX6_ray_14 ?_
    refine aw_call1 C dX6_ray_15 lX6_311 vX6_lost (t_X6_lost) rfl rfl rfl ⟨rfl, by decide⟩ rfl ⟨by decide, by decide⟩ (Nat.le_of_ble_eq_true rfl) ?_
    exact aw_lret C E dX6_ray_18 rfl (by rw [qe]; exact ⟨rfl, rfl⟩)
theorem t_X6_chain {mu : Mem} {V : FV} {i k : Int} (h : mF mu V) (hi : R32 i) (hk : R32 k) : TrE 5 mX6_chain [vr 55, vi i, vi k] mu (some (vi (qCh V i k).1)) (gd (wr mu 55 0 0) (qCh V i k).2) := by
  refine Tr.of (by decide +kernel) (Nat.le_of_ble_eq_true rfl) (fun K C E => ?_)
  have k1 := b01_01 (0 ≤ i ∧ i < V.1)
  have i1 : b01 (0 ≤ i ∧ i < V.1) = 1 ↔ (0 ≤ i ∧ i < V.1) := b01_iff
  refine aw_aload_n C dX6_chain_0 rfl ?_
  refine aw_iconst C dX6_chain_1 ?_
  refine aw_putI C dX6_chain_2 fX6_77 ⟨rfl, by decide⟩ rfl rfl rfl ?_
  have hm := h.t
  generalize wr mu 55 0 0 = m1 at *
  have eV := hm.1
  have hV := hm.2.1.1
  have hn := hV.1
  have hl := hV.2.1
  have e1 := mv1 eV
  have e2 := mv2 eV
  have h3 := hm.2.2
  refine aw_aload_n C dX6_chain_5 rfl ?_
  refine aw_iload_n C dX6_chain_6 rfl ?_
  refine aw_call1 C dX6_chain_7 lX6_308 vX6_isRay (t_X6_isRay hm (by assumption)) rfl rfl rfl ⟨rfl, by decide⟩ rfl ⟨by decide, by decide⟩ (Nat.le_of_ble_eq_true rfl) ?_
  refine aw_if_eq C dX6_chain_10 (tgt := 30) (by decide) ⟨by omega, by omega⟩ (fun c1 => ?_) (fun c1 => ?_)
  · have qe : qCh V i k = (-1, 1) := if_neg (fun z => by omega)
    --go
    refine aw_aload_n C dX6_chain_30 rfl ?_
    refine aw_iconst C dX6_chain_31 ?_
    refine aw_call1 C dX6_chain_32 lX6_267 vX6_refused (t_X6_refused) rfl rfl rfl ⟨rfl, by decide⟩ rfl ⟨by decide, by decide⟩ (Nat.le_of_ble_eq_true rfl) ?_
    exact aw_iret C E dX6_chain_35 rfl (by rw [qe]; exact ⟨rfl, rfl⟩)
  · refine aw_iload_n C dX6_chain_13 rfl ?_
    refine aw_if_lt C dX6_chain_14 (tgt := 30) (by decide) ⟨by omega, by omega⟩ (fun c2 => ?_) (fun c2 => ?_)
    · have qe : qCh V i k = (-1, 1) := if_neg (fun z => by omega)
      --go
      refine aw_aload_n C dX6_chain_30 rfl ?_
      refine aw_iconst C dX6_chain_31 ?_
      refine aw_call1 C dX6_chain_32 lX6_267 vX6_refused (t_X6_refused) rfl rfl rfl ⟨rfl, by decide⟩ rfl ⟨by decide, by decide⟩ (Nat.le_of_ble_eq_true rfl) ?_
      exact aw_iret C E dX6_chain_35 rfl (by rw [qe]; exact ⟨rfl, rfl⟩)
    · have cl := hm.2.1.cl (by omega)
      have hcl := cl.1
      have hpr := cl.2
      have qe : qCh V i k = (aCh V i k, 0) := if_pos ⟨by omega, by omega⟩
      --go
      refine aw_aload_n C dX6_chain_17 rfl ?_
      refine aw_aload_n C dX6_chain_18 rfl ?_
      refine aw_iload_n C dX6_chain_19 rfl ?_
      refine aw_iload_n C dX6_chain_20 rfl ?_
      refine aw_call1 C dX6_chain_21 lX6_319 vX6_chainOf (t_X6_chainOfK eV hV hcl hpr (by omega) (by omega) (by omega) hk) rfl rfl rfl ⟨rfl, by decide⟩ rfl ⟨by decide, by decide⟩ (Nat.le_of_ble_eq_true rfl) ?_
      refine aw_call1 C dX6_chain_24 lX6_270 vX6_good (t_X6_good) rfl rfl rfl ⟨rfl, by decide⟩ rfl ⟨by decide, by decide⟩ (Nat.le_of_ble_eq_true rfl) ?_
      refine aw_goto C dX6_chain_27 (tgt := 35) (by decide) ?_
      exact aw_iret C E dX6_chain_35 rfl (by rw [qe]; exact ⟨rfl, rfl⟩)
theorem t_X6_cone {mu : Mem} {V : FV} {x y : Int} (h : mF mu V) (hx : R32 x) (hy : R32 y) : TrE 3 mX6_cone [vr 55, vi x, vi y] mu (some (vi (qCo V x y).1)) (gd (wr mu 55 0 0) (qCo V x y).2) := by
  refine Tr.of (by decide +kernel) (Nat.le_of_ble_eq_true rfl) (fun K C E => ?_)
  have k1 := b01_01 (fra x y)
  refine aw_aload_n C dX6_cone_0 rfl ?_
  refine aw_iconst C dX6_cone_1 ?_
  refine aw_putI C dX6_cone_2 fX6_77 ⟨rfl, by decide⟩ rfl rfl rfl ?_
  have hm := h.t
  generalize wr mu 55 0 0 = m1 at *
  have eV := hm.1
  have hV := hm.2.1.1
  have hn := hV.1
  have hl := hV.2.1
  have e1 := mv1 eV
  have e2 := mv2 eV
  have h3 := hm.2.2
  refine aw_aload_n C dX6_cone_5 rfl ?_
  refine aw_getI C dX6_cone_6 fX6_264 ⟨rfl, by decide⟩ rfl ?_
  refine aw_if_ne C dX6_cone_9 (tgt := 18) (by decide) ⟨by omega, by omega⟩ (fun c1 => ?_) (fun c1 => ?_)
  · refine aw_iload_n C dX6_cone_18 rfl ?_
    refine aw_iload_n C dX6_cone_19 rfl ?_
    refine aw_callS1 C dX6_cone_20 lX6_322 vX6_isNear (t_X6_isNear hx hy) rfl rfl rfl ⟨by decide, by decide⟩ (Nat.le_of_ble_eq_true rfl) ?_
    refine aw_if_eq C dX6_cone_23 (tgt := 47) (by decide) ⟨by omega, by omega⟩ (fun c2 => ?_) (fun c2 => ?_)
    · have qe : qCo V x y = (-1, 2) := (if_neg (by omega) : qCo V x y = _).trans (if_pos (by omega))
      --go
      refine aw_aload_n C dX6_cone_47 rfl ?_
      refine aw_iconst C dX6_cone_48 ?_
      refine aw_call1 C dX6_cone_49 lX6_267 vX6_refused (t_X6_refused) rfl rfl rfl ⟨rfl, by decide⟩ rfl ⟨by decide, by decide⟩ (Nat.le_of_ble_eq_true rfl) ?_
      exact aw_iret C E dX6_cone_52 rfl (by rw [qe]; exact ⟨rfl, rfl⟩)
    · have cl := hm.2.1.cl (by omega)
      have hcl := cl.1
      have hpr := cl.2
      have b0 := fra_n (x := x) (y := y) (by omega)
      --go
      refine aw_iload_n C dX6_cone_26 rfl ?_
      refine aw_if_ne C dX6_cone_27 (tgt := 34) (by decide) ⟨by omega, by omega⟩ (fun c3 => ?_) (fun c3 => ?_)
      · have qe : qCo V x y = (cof V x y, 0) := (if_neg (by omega) : qCo V x y = _).trans (if_neg (by omega))
        --go
        refine aw_aload_n C dX6_cone_34 rfl ?_
        refine aw_aload_n C dX6_cone_35 rfl ?_
        refine aw_iload_n C dX6_cone_36 rfl ?_
        refine aw_iload_n C dX6_cone_37 rfl ?_
        refine aw_call1 C dX6_cone_38 lX6_325 vX6_coneOf (t_X6_coneOf eV hV hcl b0.1 b0.2 (by omega)) rfl rfl rfl ⟨rfl, by decide⟩ rfl ⟨by decide, by decide⟩ (Nat.le_of_ble_eq_true rfl) ?_
        refine aw_call1 C dX6_cone_41 lX6_270 vX6_good (t_X6_good) rfl rfl rfl ⟨rfl, by decide⟩ rfl ⟨by decide, by decide⟩ (Nat.le_of_ble_eq_true rfl) ?_
        refine aw_goto C dX6_cone_44 (tgt := 52) (by decide) ?_
        exact aw_iret C E dX6_cone_52 rfl (by rw [qe]; exact ⟨rfl, rfl⟩)
      · refine aw_iload_n C dX6_cone_30 rfl ?_
        refine aw_if_eq C dX6_cone_31 (tgt := 47) (by decide) ⟨by omega, by omega⟩ (fun c4 => ?_) (fun c4 => ?_)
        · have qe : qCo V x y = (-1, 2) := (if_neg (by omega) : qCo V x y = _).trans (if_pos (by omega))
          --go
          refine aw_aload_n C dX6_cone_47 rfl ?_
          refine aw_iconst C dX6_cone_48 ?_
          refine aw_call1 C dX6_cone_49 lX6_267 vX6_refused (t_X6_refused) rfl rfl rfl ⟨rfl, by decide⟩ rfl ⟨by decide, by decide⟩ (Nat.le_of_ble_eq_true rfl) ?_
          exact aw_iret C E dX6_cone_52 rfl (by rw [qe]; exact ⟨rfl, rfl⟩)
        · have qe : qCo V x y = (cof V x y, 0) := (if_neg (by omega) : qCo V x y = _).trans (if_neg (by omega))
          --go
          refine aw_aload_n C dX6_cone_34 rfl ?_
          refine aw_aload_n C dX6_cone_35 rfl ?_
          refine aw_iload_n C dX6_cone_36 rfl ?_
          refine aw_iload_n C dX6_cone_37 rfl ?_
          refine aw_call1 C dX6_cone_38 lX6_325 vX6_coneOf (t_X6_coneOf eV hV hcl b0.1 b0.2 (by omega)) rfl rfl rfl ⟨rfl, by decide⟩ rfl ⟨by decide, by decide⟩ (Nat.le_of_ble_eq_true rfl) ?_
          refine aw_call1 C dX6_cone_41 lX6_270 vX6_good (t_X6_good) rfl rfl rfl ⟨rfl, by decide⟩ rfl ⟨by decide, by decide⟩ (Nat.le_of_ble_eq_true rfl) ?_
          refine aw_goto C dX6_cone_44 (tgt := 52) (by decide) ?_
          exact aw_iret C E dX6_cone_52 rfl (by rw [qe]; exact ⟨rfl, rfl⟩)
  · have qe : qCo V x y = (-1, 1) := if_pos (by omega)
    --go
    refine aw_aload_n C dX6_cone_12 rfl ?_
    refine aw_iconst C dX6_cone_13 ?_
    refine aw_call1 C dX6_cone_14 lX6_267 vX6_refused (t_X6_refused) rfl rfl rfl ⟨rfl, by decide⟩ rfl ⟨by decide, by decide⟩ (Nat.le_of_ble_eq_true rfl) ?_
    exact aw_iret C E dX6_cone_17 rfl (by rw [qe]; exact ⟨rfl, rfl⟩)
theorem t_X6_load {mu : Mem} {V : FV} {d i : Int} (h : mF mu V) (hd : R32 d) (hi : R32 i) : TrE 2 mX6_load [vr 55, vi d, vi i] mu (some (vl (qLd V d i).1)) (gd (wr mu 55 0 0) (qLd V d i).2) := by
  refine Tr.of (by decide +kernel) (Nat.le_of_ble_eq_true rfl) (fun K C E => ?_)
  have k1 := b01_01 (0 ≤ d ∧ d < V.2.1)
  have k1i : b01 (0 ≤ d ∧ d < V.2.1) = 1 ↔ (0 ≤ d ∧ d < V.2.1) := b01_iff
  have k2 := b01_01 (0 ≤ i ∧ i < V.1)
  have k2i : b01 (0 ≤ i ∧ i < V.1) = 1 ↔ (0 ≤ i ∧ i < V.1) := b01_iff
  refine aw_aload_n C dX6_load_0 rfl ?_
  refine aw_iconst C dX6_load_1 ?_
  refine aw_putI C dX6_load_2 fX6_77 ⟨rfl, by decide⟩ rfl rfl rfl ?_
  have hm := h.t
  generalize wr mu 55 0 0 = m1 at *
  have eV := hm.1
  have hV := hm.2.1.1
  have hn := hV.1
  have hl := hV.2.1
  have e1 := mv1 eV
  have e2 := mv2 eV
  have h3 := hm.2.2
  refine aw_aload_n C dX6_load_5 rfl ?_
  refine aw_iload_n C dX6_load_6 rfl ?_
  refine aw_call1 C dX6_load_7 lX6_328 vX6_isLoad (t_X6_isLoad hm (by assumption)) rfl rfl rfl ⟨rfl, by decide⟩ rfl ⟨by decide, by decide⟩ (Nat.le_of_ble_eq_true rfl) ?_
  refine aw_if_eq C dX6_load_10 (tgt := 34) (by decide) ⟨by omega, by omega⟩ (fun c1 => ?_) (fun c1 => ?_)
  · have qe : qLd V d i = (NTH, 1) := if_neg (fun z => by omega)
    --go
    refine aw_aload_n C dX6_load_34 rfl ?_
    refine aw_iconst C dX6_load_35 ?_
    refine aw_call1 C dX6_load_36 lX6_311 vX6_lost (t_X6_lost) rfl rfl rfl ⟨rfl, by decide⟩ rfl ⟨by decide, by decide⟩ (Nat.le_of_ble_eq_true rfl) ?_
    exact aw_lret C E dX6_load_39 rfl (by rw [qe]; exact ⟨rfl, rfl⟩)
  · refine aw_aload_n C dX6_load_13 rfl ?_
    refine aw_iload_n C dX6_load_14 rfl ?_
    refine aw_call1 C dX6_load_15 lX6_308 vX6_isRay (t_X6_isRay hm (by assumption)) rfl rfl rfl ⟨rfl, by decide⟩ rfl ⟨by decide, by decide⟩ (Nat.le_of_ble_eq_true rfl) ?_
    refine aw_if_eq C dX6_load_18 (tgt := 34) (by decide) ⟨by omega, by omega⟩ (fun c2 => ?_) (fun c2 => ?_)
    · have qe : qLd V d i = (NTH, 1) := if_neg (fun z => by omega)
      --go
      refine aw_aload_n C dX6_load_34 rfl ?_
      refine aw_iconst C dX6_load_35 ?_
      refine aw_call1 C dX6_load_36 lX6_311 vX6_lost (t_X6_lost) rfl rfl rfl ⟨rfl, by decide⟩ rfl ⟨by decide, by decide⟩ (Nat.le_of_ble_eq_true rfl) ?_
      exact aw_lret C E dX6_load_39 rfl (by rw [qe]; exact ⟨rfl, rfl⟩)
    · have qe : qLd V d i = (gn V d i, 0) := if_pos ⟨by omega, by omega⟩
      --go
      refine aw_aload_n C dX6_load_21 rfl ?_
      refine aw_aload_n C dX6_load_22 rfl ?_
      refine aw_iload_n C dX6_load_23 rfl ?_
      refine aw_iload_n C dX6_load_24 rfl ?_
      refine aw_call1 C dX6_load_25 lX6_331 vX6_numberOf (t_X6_numberOf eV hV (by omega) (by omega) (by omega) (by omega)) rfl rfl rfl ⟨rfl, by decide⟩ rfl ⟨by decide, by decide⟩ (Nat.le_of_ble_eq_true rfl) ?_
      refine aw_call1 C dX6_load_28 lX6_315 vX6_told (t_X6_told) rfl rfl rfl ⟨rfl, by decide⟩ rfl ⟨by decide, by decide⟩ (Nat.le_of_ble_eq_true rfl) ?_
      refine aw_goto C dX6_load_31 (tgt := 39) (by decide) ?_
      exact aw_lret C E dX6_load_39 rfl (by rw [qe]; exact ⟨rfl, rfl⟩)
theorem t_X6_function {mu : Mem} {V : FV} {d x y w : Int} (h : mF mu V) (hd : R32 d) (hx : R32 x) (hy : R32 y) (hw : R32 w) : TrE 3 mX6_function [vr 55, vi d, vi x, vi y, vi w] mu (some (vl (qFn V d x y w).1)) (gd (wr mu 55 0 0) (qFn V d x y w).2) := by
  refine Tr.of (by decide +kernel) (Nat.le_of_ble_eq_true rfl) (fun K C E => ?_)
  have k1 := b01_01 (0 ≤ d ∧ d < V.2.1)
  have k1i : b01 (0 ≤ d ∧ d < V.2.1) = 1 ↔ (0 ≤ d ∧ d < V.2.1) := b01_iff
  have k2 := b01_01 (0 ≤ w ∧ w ≤ 1)
  have k2i : b01 (0 ≤ w ∧ w ≤ 1) = 1 ↔ (0 ≤ w ∧ w ≤ 1) := b01_iff
  have k3 := b01_01 (fra x y)
  refine aw_aload_n C dX6_function_0 rfl ?_
  refine aw_iconst C dX6_function_1 ?_
  refine aw_putI C dX6_function_2 fX6_77 ⟨rfl, by decide⟩ rfl rfl rfl ?_
  have hm := h.t
  generalize wr mu 55 0 0 = m1 at *
  have eV := hm.1
  have hV := hm.2.1.1
  have hn := hV.1
  have hl := hV.2.1
  have e1 := mv1 eV
  have e2 := mv2 eV
  have h3 := hm.2.2
  refine aw_aload_n C dX6_function_5 rfl ?_
  refine aw_iload_n C dX6_function_6 rfl ?_
  refine aw_call1 C dX6_function_7 lX6_328 vX6_isLoad (t_X6_isLoad hm (by assumption)) rfl rfl rfl ⟨rfl, by decide⟩ rfl ⟨by decide, by decide⟩ (Nat.le_of_ble_eq_true rfl) ?_
  refine aw_if_eq C dX6_function_10 (tgt := 24) (by decide) ⟨by omega, by omega⟩ (fun c1 => ?_) (fun c1 => ?_)
  · have qe : qFn V d x y w = (NTH, 1) := if_pos (fun z => by omega)
    --go
    refine aw_aload_n C dX6_function_24 rfl ?_
    refine aw_iconst C dX6_function_25 ?_
    refine aw_call1 C dX6_function_26 lX6_311 vX6_lost (t_X6_lost) rfl rfl rfl ⟨rfl, by decide⟩ rfl ⟨by decide, by decide⟩ (Nat.le_of_ble_eq_true rfl) ?_
    exact aw_lret C E dX6_function_29 rfl (by rw [qe]; exact ⟨rfl, rfl⟩)
  · refine aw_iload C dX6_function_13 rfl ?_
    refine aw_i2l C dX6_function_15 ⟨by omega, by omega⟩ ?_
    refine aw_lconst C dX6_function_16 (v := 0) rfl ?_
    refine aw_lconst C dX6_function_17 (v := 1) rfl ?_
    refine aw_callS1 C dX6_function_18 lX6_108 vX6_in (t_X6_in ⟨by omega, by omega⟩ ⟨by omega, by omega⟩ ⟨by omega, by omega⟩) rfl rfl rfl ⟨by decide, by decide⟩ (Nat.le_of_ble_eq_true rfl) ?_
    refine aw_if_ne C dX6_function_21 (tgt := 30) (by decide) ⟨by omega, by omega⟩ (fun c2 => ?_) (fun c2 => ?_)
    · refine aw_iload_n C dX6_function_30 rfl ?_
      refine aw_iload_n C dX6_function_31 rfl ?_
      refine aw_callS1 C dX6_function_32 lX6_322 vX6_isNear (t_X6_isNear hx hy) rfl rfl rfl ⟨by decide, by decide⟩ (Nat.le_of_ble_eq_true rfl) ?_
      refine aw_if_ne C dX6_function_35 (tgt := 44) (by decide) ⟨by omega, by omega⟩ (fun c3 => ?_) (fun c3 => ?_)
      · have cl := hm.2.1.cl (by omega)
        have hcl := cl.1
        have hpr := cl.2
        have b0 := fra_n (x := x) (y := y) (by omega)
        --go
        refine aw_iload_n C dX6_function_44 rfl ?_
        refine aw_if_ne C dX6_function_45 (tgt := 60) (by decide) ⟨by omega, by omega⟩ (fun c4 => ?_) (fun c4 => ?_)
        · refine aw_aload_n C dX6_function_60 rfl ?_
          refine aw_iload_n C dX6_function_61 rfl ?_
          refine aw_iload_n C dX6_function_62 rfl ?_
          refine aw_call1 C dX6_function_63 lX6_325 vX6_coneOf (t_X6_coneOf eV hV hcl b0.1 b0.2 (by omega)) rfl rfl rfl ⟨rfl, by decide⟩ rfl ⟨by decide, by decide⟩ (Nat.le_of_ble_eq_true rfl) ?_
          obtain ⟨ci, -, -⟩ := cof_spec hcl (x := x) (y := y) (by omega)
          have b1 := hV.ft d (cof V x y) b0.1 b0.2
          have b2 := hV.trn (cof V x y)
          have b3 := hcl.2 (cof V x y) ci.1 ci.2
          have bg : (Int.gcd (ftt V d (cof V x y) x y) (trn V (cof V x y)) : Int) ≤ 28800000 := gcd_le b1 ⟨by omega, by omega⟩
          have bp : 0 < (Int.gcd (ftt V d (cof V x y) x y) (trn V (cof V x y)) : Int) := by have : Int.gcd (ftt V d (cof V x y) x y) (trn V (cof V x y)) ≠ 0 := fun w => (by have := (Int.gcd_eq_zero_iff.mp w).2; omega); omega
          refine aw_istore C dX6_function_66 (by decide) ?_
          refine aw_aload_n C dX6_function_68 rfl ?_
          refine aw_iload_n C dX6_function_69 rfl ?_
          refine aw_iload C dX6_function_70 rfl ?_
          refine aw_iload_n C dX6_function_72 rfl ?_
          refine aw_iload_n C dX6_function_73 rfl ?_
          refine aw_call1 C dX6_function_74 lX6_335 vX6_above (t_X6_above eV hV ci.1 ci.2 (by omega) (by omega) b0.1 b0.2) rfl rfl rfl ⟨rfl, by decide⟩ rfl ⟨by decide, by decide⟩ (Nat.le_of_ble_eq_true rfl) ?_
          refine aw_lstore C dX6_function_77 (by decide) ?_
          refine aw_lload C dX6_function_79 rfl ?_
          refine aw_aload_n C dX6_function_81 rfl ?_
          refine aw_iload C dX6_function_82 rfl ?_
          refine aw_call1 C dX6_function_84 lX6_288 vX6_turn (t_X6_turn eV hV ci.1 ci.2) rfl rfl rfl ⟨rfl, by decide⟩ rfl ⟨by decide, by decide⟩ (Nat.le_of_ble_eq_true rfl) ?_
          refine aw_i2l C dX6_function_87 ⟨by omega, by omega⟩ ?_
          refine aw_callS1 C dX6_function_88 lX6_202 vX6_common (t_X6_common ⟨by omega, by omega⟩ ⟨by omega, by omega⟩) rfl rfl rfl ⟨by decide, by decide⟩ (Nat.le_of_ble_eq_true rfl) ?_
          refine aw_lstore C dX6_function_91 (by decide) ?_
          refine aw_aload_n C dX6_function_93 rfl ?_
          refine aw_iload C dX6_function_94 rfl ?_
          refine aw_if_ne C dX6_function_96 (tgt := 104) (by decide) ⟨by omega, by omega⟩ (fun cw => ?_) (fun cw => ?_)
          · have qe : qFn V d x y w = (aFn V d x y w, 0) := (if_neg (by omega) : qFn V d x y w = _).trans (if_neg (by omega))
            unfold aFn at qe
            rw [if_neg cw] at qe
            --go
            refine aw_aload_n C dX6_function_104 rfl ?_
            refine aw_iload C dX6_function_105 rfl ?_
            refine aw_call1 C dX6_function_107 lX6_288 vX6_turn (t_X6_turn eV hV ci.1 ci.2) rfl rfl rfl ⟨rfl, by decide⟩ rfl ⟨by decide, by decide⟩ (Nat.le_of_ble_eq_true rfl) ?_
            refine aw_i2l C dX6_function_110 ⟨by omega, by omega⟩ ?_
            refine aw_lload C dX6_function_111 rfl ?_
            refine aw_ldiv C dX6_function_113 ⟨by omega, by omega⟩ ⟨by omega, by omega⟩ (by omega) ?_
            refine aw_call1 C dX6_function_114 lX6_315 vX6_told (t_X6_told) rfl rfl rfl ⟨rfl, by decide⟩ rfl ⟨by decide, by decide⟩ (Nat.le_of_ble_eq_true rfl) ?_
            exact aw_lret C E dX6_function_117 rfl (by rw [qe]; exact ⟨rfl, rfl⟩)
          · have qe : qFn V d x y w = (aFn V d x y w, 0) := (if_neg (by omega) : qFn V d x y w = _).trans (if_neg (by omega))
            unfold aFn at qe
            rw [if_pos cw] at qe
            --go
            refine aw_lload C dX6_function_99 rfl ?_
            refine aw_goto C dX6_function_101 (tgt := 111) (by decide) ?_
            refine aw_lload C dX6_function_111 rfl ?_
            refine aw_ldiv C dX6_function_113 ⟨by omega, by omega⟩ ⟨by omega, by omega⟩ (by omega) ?_
            refine aw_call1 C dX6_function_114 lX6_315 vX6_told (t_X6_told) rfl rfl rfl ⟨rfl, by decide⟩ rfl ⟨by decide, by decide⟩ (Nat.le_of_ble_eq_true rfl) ?_
            exact aw_lret C E dX6_function_117 rfl (by rw [qe]; exact ⟨rfl, rfl⟩)
        · refine aw_iload_n C dX6_function_48 rfl ?_
          refine aw_if_ne C dX6_function_49 (tgt := 60) (by decide) ⟨by omega, by omega⟩ (fun c5 => ?_) (fun c5 => ?_)
          · refine aw_aload_n C dX6_function_60 rfl ?_
            refine aw_iload_n C dX6_function_61 rfl ?_
            refine aw_iload_n C dX6_function_62 rfl ?_
            refine aw_call1 C dX6_function_63 lX6_325 vX6_coneOf (t_X6_coneOf eV hV hcl b0.1 b0.2 (by omega)) rfl rfl rfl ⟨rfl, by decide⟩ rfl ⟨by decide, by decide⟩ (Nat.le_of_ble_eq_true rfl) ?_
            obtain ⟨ci, -, -⟩ := cof_spec hcl (x := x) (y := y) (by omega)
            have b1 := hV.ft d (cof V x y) b0.1 b0.2
            have b2 := hV.trn (cof V x y)
            have b3 := hcl.2 (cof V x y) ci.1 ci.2
            have bg : (Int.gcd (ftt V d (cof V x y) x y) (trn V (cof V x y)) : Int) ≤ 28800000 := gcd_le b1 ⟨by omega, by omega⟩
            have bp : 0 < (Int.gcd (ftt V d (cof V x y) x y) (trn V (cof V x y)) : Int) := by have : Int.gcd (ftt V d (cof V x y) x y) (trn V (cof V x y)) ≠ 0 := fun w => (by have := (Int.gcd_eq_zero_iff.mp w).2; omega); omega
            refine aw_istore C dX6_function_66 (by decide) ?_
            refine aw_aload_n C dX6_function_68 rfl ?_
            refine aw_iload_n C dX6_function_69 rfl ?_
            refine aw_iload C dX6_function_70 rfl ?_
            refine aw_iload_n C dX6_function_72 rfl ?_
            refine aw_iload_n C dX6_function_73 rfl ?_
            refine aw_call1 C dX6_function_74 lX6_335 vX6_above (t_X6_above eV hV ci.1 ci.2 (by omega) (by omega) b0.1 b0.2) rfl rfl rfl ⟨rfl, by decide⟩ rfl ⟨by decide, by decide⟩ (Nat.le_of_ble_eq_true rfl) ?_
            refine aw_lstore C dX6_function_77 (by decide) ?_
            refine aw_lload C dX6_function_79 rfl ?_
            refine aw_aload_n C dX6_function_81 rfl ?_
            refine aw_iload C dX6_function_82 rfl ?_
            refine aw_call1 C dX6_function_84 lX6_288 vX6_turn (t_X6_turn eV hV ci.1 ci.2) rfl rfl rfl ⟨rfl, by decide⟩ rfl ⟨by decide, by decide⟩ (Nat.le_of_ble_eq_true rfl) ?_
            refine aw_i2l C dX6_function_87 ⟨by omega, by omega⟩ ?_
            refine aw_callS1 C dX6_function_88 lX6_202 vX6_common (t_X6_common ⟨by omega, by omega⟩ ⟨by omega, by omega⟩) rfl rfl rfl ⟨by decide, by decide⟩ (Nat.le_of_ble_eq_true rfl) ?_
            refine aw_lstore C dX6_function_91 (by decide) ?_
            refine aw_aload_n C dX6_function_93 rfl ?_
            refine aw_iload C dX6_function_94 rfl ?_
            refine aw_if_ne C dX6_function_96 (tgt := 104) (by decide) ⟨by omega, by omega⟩ (fun cw => ?_) (fun cw => ?_)
            · have qe : qFn V d x y w = (aFn V d x y w, 0) := (if_neg (by omega) : qFn V d x y w = _).trans (if_neg (by omega))
              unfold aFn at qe
              rw [if_neg cw] at qe
              --go
              refine aw_aload_n C dX6_function_104 rfl ?_
              refine aw_iload C dX6_function_105 rfl ?_
              refine aw_call1 C dX6_function_107 lX6_288 vX6_turn (t_X6_turn eV hV ci.1 ci.2) rfl rfl rfl ⟨rfl, by decide⟩ rfl ⟨by decide, by decide⟩ (Nat.le_of_ble_eq_true rfl) ?_
              refine aw_i2l C dX6_function_110 ⟨by omega, by omega⟩ ?_
              refine aw_lload C dX6_function_111 rfl ?_
              refine aw_ldiv C dX6_function_113 ⟨by omega, by omega⟩ ⟨by omega, by omega⟩ (by omega) ?_
              refine aw_call1 C dX6_function_114 lX6_315 vX6_told (t_X6_told) rfl rfl rfl ⟨rfl, by decide⟩ rfl ⟨by decide, by decide⟩ (Nat.le_of_ble_eq_true rfl) ?_
              exact aw_lret C E dX6_function_117 rfl (by rw [qe]; exact ⟨rfl, rfl⟩)
            · have qe : qFn V d x y w = (aFn V d x y w, 0) := (if_neg (by omega) : qFn V d x y w = _).trans (if_neg (by omega))
              unfold aFn at qe
              rw [if_pos cw] at qe
              --go
              refine aw_lload C dX6_function_99 rfl ?_
              refine aw_goto C dX6_function_101 (tgt := 111) (by decide) ?_
              refine aw_lload C dX6_function_111 rfl ?_
              refine aw_ldiv C dX6_function_113 ⟨by omega, by omega⟩ ⟨by omega, by omega⟩ (by omega) ?_
              refine aw_call1 C dX6_function_114 lX6_315 vX6_told (t_X6_told) rfl rfl rfl ⟨rfl, by decide⟩ rfl ⟨by decide, by decide⟩ (Nat.le_of_ble_eq_true rfl) ?_
              exact aw_lret C E dX6_function_117 rfl (by rw [qe]; exact ⟨rfl, rfl⟩)
          · have cz : cof V x y = 0 := fst_none _ _ (fun j _ _ z => by have z2 := z.2; rw [show x = 0 by omega, show y = 0 by omega, Int.zero_mul, Int.zero_mul] at z2; omega)
            have ft : ftt V d (cof V x y) x y = 0 := by unfold ftt; rw [show x = 0 by omega, show y = 0 by omega]; simp only [Int.zero_mul, Int.mul_zero, Int.sub_self, Int.zero_mul, Int.add_zero]
            have qe : qFn V d x y w = (w, 0) := by
              refine ((if_neg (by omega) : qFn V d x y w = _).trans (if_neg (by omega))).trans ?_
              unfold aFn
              rw [ft, cz, Int.gcd_zero_left]
              have t0 := hcl.2 0 (by omega) (by omega)
              by_cases hw0 : w = 0
              · rw [if_pos hw0, Int.zero_tdiv, hw0]
              · rw [if_neg hw0, show ((trn V 0).natAbs : Int) = trn V 0 by omega, Int.tdiv_self (by omega), show w = 1 by omega]
            --go
            refine aw_aload_n C dX6_function_52 rfl ?_
            refine aw_iload C dX6_function_53 rfl ?_
            refine aw_i2l C dX6_function_55 ⟨by omega, by omega⟩ ?_
            refine aw_call1 C dX6_function_56 lX6_315 vX6_told (t_X6_told) rfl rfl rfl ⟨rfl, by decide⟩ rfl ⟨by decide, by decide⟩ (Nat.le_of_ble_eq_true rfl) ?_
            exact aw_lret C E dX6_function_59 rfl (by rw [qe]; exact ⟨rfl, rfl⟩)
      · have qe : qFn V d x y w = (NTH, 2) := (if_neg (by omega) : qFn V d x y w = _).trans (if_pos (by omega))
        --go
        refine aw_aload_n C dX6_function_38 rfl ?_
        refine aw_iconst C dX6_function_39 ?_
        refine aw_call1 C dX6_function_40 lX6_311 vX6_lost (t_X6_lost) rfl rfl rfl ⟨rfl, by decide⟩ rfl ⟨by decide, by decide⟩ (Nat.le_of_ble_eq_true rfl) ?_
        exact aw_lret C E dX6_function_43 rfl (by rw [qe]; exact ⟨rfl, rfl⟩)
    · have qe : qFn V d x y w = (NTH, 1) := if_pos (fun z => by omega)
      --go
      refine aw_aload_n C dX6_function_24 rfl ?_
      refine aw_iconst C dX6_function_25 ?_
      refine aw_call1 C dX6_function_26 lX6_311 vX6_lost (t_X6_lost) rfl rfl rfl ⟨rfl, by decide⟩ rfl ⟨by decide, by decide⟩ (Nat.le_of_ble_eq_true rfl) ?_
      exact aw_lret C E dX6_function_29 rfl (by rw [qe]; exact ⟨rfl, rfl⟩)
theorem t_X6_piece {mu : Mem} {V : FV} {d i w : Int} (h : mF mu V) (hd : R32 d) (hi : R32 i) (hw : R32 w) : TrE 4 mX6_piece [vr 55, vi d, vi i, vi w] mu (some (vl (qPc V d i w).1)) (gd (wr mu 55 0 0) (qPc V d i w).2) := by
  refine Tr.of (by decide +kernel) (Nat.le_of_ble_eq_true rfl) (fun K C E => ?_)
  have k1 := b01_01 (0 ≤ d ∧ d < V.2.1)
  have k1i : b01 (0 ≤ d ∧ d < V.2.1) = 1 ↔ (0 ≤ d ∧ d < V.2.1) := b01_iff
  have k2 := b01_01 (0 ≤ i ∧ i < V.1)
  have k2i : b01 (0 ≤ i ∧ i < V.1) = 1 ↔ (0 ≤ i ∧ i < V.1) := b01_iff
  have k3 := b01_01 (0 ≤ w ∧ w ≤ 2)
  have k3i : b01 (0 ≤ w ∧ w ≤ 2) = 1 ↔ (0 ≤ w ∧ w ≤ 2) := b01_iff
  have k4 := b01_01 (pwh V d i)
  refine aw_aload_n C dX6_piece_0 rfl ?_
  refine aw_iconst C dX6_piece_1 ?_
  refine aw_putI C dX6_piece_2 fX6_77 ⟨rfl, by decide⟩ rfl rfl rfl ?_
  have hm := h.t
  generalize wr mu 55 0 0 = m1 at *
  have eV := hm.1
  have hV := hm.2.1.1
  have hn := hV.1
  have hl := hV.2.1
  have e1 := mv1 eV
  have e2 := mv2 eV
  have h3 := hm.2.2
  refine aw_aload_n C dX6_piece_5 rfl ?_
  refine aw_iload_n C dX6_piece_6 rfl ?_
  refine aw_call1 C dX6_piece_7 lX6_328 vX6_isLoad (t_X6_isLoad hm (by assumption)) rfl rfl rfl ⟨rfl, by decide⟩ rfl ⟨by decide, by decide⟩ (Nat.le_of_ble_eq_true rfl) ?_
  refine aw_if_eq C dX6_piece_10 (tgt := 33) (by decide) ⟨by omega, by omega⟩ (fun c1 => ?_) (fun c1 => ?_)
  · have qe : qPc V d i w = (NTH, 1) := if_neg (fun z => by omega)
    --go
    refine aw_aload_n C dX6_piece_33 rfl ?_
    refine aw_iconst C dX6_piece_34 ?_
    refine aw_call1 C dX6_piece_35 lX6_311 vX6_lost (t_X6_lost) rfl rfl rfl ⟨rfl, by decide⟩ rfl ⟨by decide, by decide⟩ (Nat.le_of_ble_eq_true rfl) ?_
    exact aw_lret C E dX6_piece_38 rfl (by rw [qe]; exact ⟨rfl, rfl⟩)
  · refine aw_aload_n C dX6_piece_13 rfl ?_
    refine aw_iload_n C dX6_piece_14 rfl ?_
    refine aw_call1 C dX6_piece_15 lX6_308 vX6_isRay (t_X6_isRay hm (by assumption)) rfl rfl rfl ⟨rfl, by decide⟩ rfl ⟨by decide, by decide⟩ (Nat.le_of_ble_eq_true rfl) ?_
    refine aw_if_eq C dX6_piece_18 (tgt := 33) (by decide) ⟨by omega, by omega⟩ (fun c2 => ?_) (fun c2 => ?_)
    · have qe : qPc V d i w = (NTH, 1) := if_neg (fun z => by omega)
      --go
      refine aw_aload_n C dX6_piece_33 rfl ?_
      refine aw_iconst C dX6_piece_34 ?_
      refine aw_call1 C dX6_piece_35 lX6_311 vX6_lost (t_X6_lost) rfl rfl rfl ⟨rfl, by decide⟩ rfl ⟨by decide, by decide⟩ (Nat.le_of_ble_eq_true rfl) ?_
      exact aw_lret C E dX6_piece_38 rfl (by rw [qe]; exact ⟨rfl, rfl⟩)
    · refine aw_iload_n C dX6_piece_21 rfl ?_
      refine aw_i2l C dX6_piece_22 ⟨by omega, by omega⟩ ?_
      refine aw_lconst C dX6_piece_23 (v := 0) rfl ?_
      refine aw_ldc2 C dX6_piece_24 kX6_345 (z := 2) (by decide +kernel) ?_
      refine aw_callS1 C dX6_piece_27 lX6_108 vX6_in (t_X6_in ⟨by omega, by omega⟩ ⟨by omega, by omega⟩ ⟨by omega, by omega⟩) rfl rfl rfl ⟨by decide, by decide⟩ (Nat.le_of_ble_eq_true rfl) ?_
      refine aw_if_ne C dX6_piece_30 (tgt := 39) (by decide) ⟨by omega, by omega⟩ (fun c3 => ?_) (fun c3 => ?_)
      · have cl := hm.2.1.cl (by omega)
        have hcl := cl.1
        have hpr := cl.2
        --go
        refine aw_aload_n C dX6_piece_39 rfl ?_
        refine aw_iload_n C dX6_piece_40 rfl ?_
        refine aw_if_ne C dX6_piece_41 (tgt := 53) (by decide) ⟨by omega, by omega⟩ (fun c4 => ?_) (fun c4 => ?_)
        · refine aw_iload_n C dX6_piece_53 rfl ?_
          refine aw_iconst C dX6_piece_54 ?_
          refine aw_icmp_ne C dX6_piece_55 (tgt := 67) (by decide) ⟨by omega, by omega⟩ ⟨by omega, by omega⟩ (fun c5 => ?_) (fun c5 => ?_)
          · refine aw_aload_n C dX6_piece_67 rfl ?_
            refine aw_iload_n C dX6_piece_68 rfl ?_
            refine aw_iload_n C dX6_piece_69 rfl ?_
            refine aw_call1 C dX6_piece_70 lX6_347 vX6_isWhole (t_X6_isWhole eV hV hcl (by omega) (by omega) (by omega) (by omega)) rfl rfl rfl ⟨rfl, by decide⟩ rfl ⟨by decide, by decide⟩ (Nat.le_of_ble_eq_true rfl) ?_
            refine aw_if_eq C dX6_piece_73 (tgt := 80) (by decide) ⟨by omega, by omega⟩ (fun c6 => ?_) (fun c6 => ?_)
            · have qe : qPc V d i w = (b01 (pwh V d i), 0) := (if_pos ⟨by omega, by omega, by omega⟩ : qPc V d i w = _).trans (by rw [show w = 2 by omega]; rfl)
              rw [show b01 (pwh V d i) = 0 by omega] at qe
              --go
              refine aw_lconst C dX6_piece_80 (v := 0) rfl ?_
              refine aw_call1 C dX6_piece_81 lX6_315 vX6_told (t_X6_told) rfl rfl rfl ⟨rfl, by decide⟩ rfl ⟨by decide, by decide⟩ (Nat.le_of_ble_eq_true rfl) ?_
              exact aw_lret C E dX6_piece_84 rfl (by rw [qe]; exact ⟨rfl, rfl⟩)
            · have qe : qPc V d i w = (b01 (pwh V d i), 0) := (if_pos ⟨by omega, by omega, by omega⟩ : qPc V d i w = _).trans (by rw [show w = 2 by omega]; rfl)
              rw [show b01 (pwh V d i) = 1 by omega] at qe
              --go
              refine aw_lconst C dX6_piece_76 (v := 1) rfl ?_
              refine aw_goto C dX6_piece_77 (tgt := 81) (by decide) ?_
              refine aw_call1 C dX6_piece_81 lX6_315 vX6_told (t_X6_told) rfl rfl rfl ⟨rfl, by decide⟩ rfl ⟨by decide, by decide⟩ (Nat.le_of_ble_eq_true rfl) ?_
              exact aw_lret C E dX6_piece_84 rfl (by rw [qe]; exact ⟨rfl, rfl⟩)
          · have qe : qPc V d i w = (pcU V d i, 0) := (if_pos ⟨by omega, by omega, by omega⟩ : qPc V d i w = _).trans (by rw [show w = 1 by omega]; rfl)
            --go
            refine aw_aload_n C dX6_piece_58 rfl ?_
            refine aw_iload_n C dX6_piece_59 rfl ?_
            refine aw_iload_n C dX6_piece_60 rfl ?_
            refine aw_call1 C dX6_piece_61 lX6_342 vX6_pieceY (t_X6_pieceY eV hV (by omega) (by omega) (by omega) (by omega)) rfl rfl rfl ⟨rfl, by decide⟩ rfl ⟨by decide, by decide⟩ (Nat.le_of_ble_eq_true rfl) ?_
            refine aw_goto C dX6_piece_64 (tgt := 81) (by decide) ?_
            refine aw_call1 C dX6_piece_81 lX6_315 vX6_told (t_X6_told) rfl rfl rfl ⟨rfl, by decide⟩ rfl ⟨by decide, by decide⟩ (Nat.le_of_ble_eq_true rfl) ?_
            exact aw_lret C E dX6_piece_84 rfl (by rw [qe]; exact ⟨rfl, rfl⟩)
        · have qe : qPc V d i w = (pcA V d i, 0) := (if_pos ⟨by omega, by omega, by omega⟩ : qPc V d i w = _).trans (by rw [show w = 0 by omega]; rfl)
          --go
          refine aw_aload_n C dX6_piece_44 rfl ?_
          refine aw_iload_n C dX6_piece_45 rfl ?_
          refine aw_iload_n C dX6_piece_46 rfl ?_
          refine aw_call1 C dX6_piece_47 lX6_339 vX6_pieceX (t_X6_pieceX eV hV (by omega) (by omega) (by omega) (by omega)) rfl rfl rfl ⟨rfl, by decide⟩ rfl ⟨by decide, by decide⟩ (Nat.le_of_ble_eq_true rfl) ?_
          refine aw_goto C dX6_piece_50 (tgt := 81) (by decide) ?_
          refine aw_call1 C dX6_piece_81 lX6_315 vX6_told (t_X6_told) rfl rfl rfl ⟨rfl, by decide⟩ rfl ⟨by decide, by decide⟩ (Nat.le_of_ble_eq_true rfl) ?_
          exact aw_lret C E dX6_piece_84 rfl (by rw [qe]; exact ⟨rfl, rfl⟩)
      · have qe : qPc V d i w = (NTH, 1) := if_neg (fun z => by omega)
        --go
        refine aw_aload_n C dX6_piece_33 rfl ?_
        refine aw_iconst C dX6_piece_34 ?_
        refine aw_call1 C dX6_piece_35 lX6_311 vX6_lost (t_X6_lost) rfl rfl rfl ⟨rfl, by decide⟩ rfl ⟨by decide, by decide⟩ (Nat.le_of_ble_eq_true rfl) ?_
        exact aw_lret C E dX6_piece_38 rfl (by rw [qe]; exact ⟨rfl, rfl⟩)
theorem t_X6_broken {mu : Mem} {V : FV} {d : Int} (h : mF mu V) (hd : R32 d) : TrE 4 mX6_broken [vr 55, vi d] mu (some (vi (qBr V d).1)) (gd (wr mu 55 0 0) (qBr V d).2) := by
  refine Tr.of (by decide +kernel) (Nat.le_of_ble_eq_true rfl) (fun K C E => ?_)
  have k1 := b01_01 (0 ≤ d ∧ d < V.2.1)
  have k1i : b01 (0 ≤ d ∧ d < V.2.1) = 1 ↔ (0 ≤ d ∧ d < V.2.1) := b01_iff
  have loop : 0 ≤ d → d < V.2.1 → ∀ (m1 : Mem), mF m1 V → CR K (NC, 0, 0) mX6_broken (fun r m2 => r = some (vi (qBr V d).1) ∧ m2 = gd m1 (qBr V d).2) → ∀ (k : Nat) (i a : Int), 0 ≤ i → i + k = V.1 → a = bts (fun i => ¬ pwh V d i) i.toNat → AW K mX6_broken (NC, 0, 0) 23 [vr 55, vi d, vi a, vi i] [] m1 := by
    intro d0 d1 m1 hm E k
    have eV := hm.1
    have hV := hm.2.1.1
    have hn := hV.1
    have hl := hV.2.1
    have e1 := mv1 eV
    have cl := hm.2.1.cl (by omega)
    have hcl := cl.1
    have qe : qBr V d = (bts (fun i => ¬ pwh V d i) V.1.toNat, 0) := if_pos ⟨d0, d1⟩
    induction k with
    | zero =>
      intro i a h0 h1 h2
      have e : i = V.1 := by omega
      rw [e] at h2
      refine aw_iload_n C dX6_broken_23 rfl ?_
      refine aw_aload_n C dX6_broken_24 rfl ?_
      refine aw_getI C dX6_broken_25 fX6_255 ⟨rfl, by decide⟩ rfl ?_
      refine aw_icmp_ge C dX6_broken_28 (tgt := 56) (by decide) ⟨by omega, by omega⟩ ⟨by omega, by omega⟩ (fun c1 => ?_) (fun c1 => ?_)
      · refine aw_aload_n C dX6_broken_56 rfl ?_
        refine aw_iload_n C dX6_broken_57 rfl ?_
        refine aw_call1 C dX6_broken_58 lX6_270 vX6_good (t_X6_good) rfl rfl rfl ⟨rfl, by decide⟩ rfl ⟨by decide, by decide⟩ (Nat.le_of_ble_eq_true rfl) ?_
        exact aw_iret C E dX6_broken_61 rfl (by rw [qe, h2]; exact ⟨rfl, rfl⟩)
      · exfalso; omega
    | succ k ih =>
      intro i a h0 h1 h2
      have hb := b01_01 (pwh V d i)
      refine aw_iload_n C dX6_broken_23 rfl ?_
      refine aw_aload_n C dX6_broken_24 rfl ?_
      refine aw_getI C dX6_broken_25 fX6_255 ⟨rfl, by decide⟩ rfl ?_
      refine aw_icmp_ge C dX6_broken_28 (tgt := 56) (by decide) ⟨by omega, by omega⟩ ⟨by omega, by omega⟩ (fun c1 => ?_) (fun c1 => ?_)
      · exfalso; omega
      · refine aw_iload_n C dX6_broken_31 rfl ?_
        refine aw_aload_n C dX6_broken_32 rfl ?_
        refine aw_iload_n C dX6_broken_33 rfl ?_
        refine aw_iload_n C dX6_broken_34 rfl ?_
        refine aw_call1 C dX6_broken_35 lX6_347 vX6_isWhole (t_X6_isWhole eV hV hcl (by omega) (by omega) (by omega) (by omega)) rfl rfl rfl ⟨rfl, by decide⟩ rfl ⟨by decide, by decide⟩ (Nat.le_of_ble_eq_true rfl) ?_
        refine aw_if_eq C dX6_broken_38 (tgt := 45) (by decide) ⟨by omega, by omega⟩ (fun c2 => ?_) (fun c2 => ?_)
        · have hb : b01 (¬ pwh V d i) = 1 := b01_t (b01_niff.mp (by omega))
          --go
          refine aw_iconst C dX6_broken_45 ?_
          refine aw_iload_n C dX6_broken_46 rfl ?_
          refine aw_ishl C dX6_broken_47 ?_
          refine aw_ior C dX6_broken_48 ?_
          refine aw_istore_n C dX6_broken_49 (by decide) ?_
          refine aw_iinc C dX6_broken_50 rfl ?_
          refine aw_goto C dX6_broken_53 (tgt := 23) (by decide) ?_
          exact ih (i + 1) _ (by omega) (by omega) (by unfold bts; rw [fld_s h0]; unfold bts at h2; rw [← h2]; first | rw [if_pos hb]; rfl | rw [if_neg hb]; rfl)
        · have hb : ¬ b01 (¬ pwh V d i) = 1 := fun q => b01_iff.mp q (b01_iff.mp (by omega))
          --go
          refine aw_iconst C dX6_broken_41 ?_
          refine aw_goto C dX6_broken_42 (tgt := 48) (by decide) ?_
          refine aw_ior C dX6_broken_48 ?_
          refine aw_istore_n C dX6_broken_49 (by decide) ?_
          refine aw_iinc C dX6_broken_50 rfl ?_
          refine aw_goto C dX6_broken_53 (tgt := 23) (by decide) ?_
          exact ih (i + 1) _ (by omega) (by omega) (by unfold bts; rw [fld_s h0]; unfold bts at h2; rw [← h2]; first | rw [if_pos hb]; rfl | rw [if_neg hb]; rfl)
  refine aw_aload_n C dX6_broken_0 rfl ?_
  refine aw_iconst C dX6_broken_1 ?_
  refine aw_putI C dX6_broken_2 fX6_77 ⟨rfl, by decide⟩ rfl rfl rfl ?_
  have hm := h.t
  generalize wr mu 55 0 0 = m1 at *
  have eV := hm.1
  have hV := hm.2.1.1
  have hn := hV.1
  have hl := hV.2.1
  have e1 := mv1 eV
  have e2 := mv2 eV
  have h3 := hm.2.2
  refine aw_aload_n C dX6_broken_5 rfl ?_
  refine aw_iload_n C dX6_broken_6 rfl ?_
  refine aw_call1 C dX6_broken_7 lX6_328 vX6_isLoad (t_X6_isLoad hm (by assumption)) rfl rfl rfl ⟨rfl, by decide⟩ rfl ⟨by decide, by decide⟩ (Nat.le_of_ble_eq_true rfl) ?_
  refine aw_if_ne C dX6_broken_10 (tgt := 19) (by decide) ⟨by omega, by omega⟩ (fun c1 => ?_) (fun c1 => ?_)
  · refine aw_iconst C dX6_broken_19 ?_
    refine aw_istore_n C dX6_broken_20 (by decide) ?_
    refine aw_iconst C dX6_broken_21 ?_
    refine aw_istore_n C dX6_broken_22 (by decide) ?_
    exact loop (by omega) (by omega) m1 hm E V.1.toNat 0 0 (by omega) (by omega) rfl
  · have qe : qBr V d = (-1, 1) := if_neg (fun z => by omega)
    --go
    refine aw_aload_n C dX6_broken_13 rfl ?_
    refine aw_iconst C dX6_broken_14 ?_
    refine aw_call1 C dX6_broken_15 lX6_267 vX6_refused (t_X6_refused) rfl rfl rfl ⟨rfl, by decide⟩ rfl ⟨by decide, by decide⟩ (Nat.le_of_ble_eq_true rfl) ?_
    exact aw_iret C E dX6_broken_18 rfl (by rw [qe]; exact ⟨rfl, rfl⟩)
theorem t_X6_bent {mu : Mem} {V : FV} {d : Int} (h : mF mu V) (hd : R32 d) : TrE 3 mX6_bent [vr 55, vi d] mu (some (vi (qBe V d).1)) (gd (wr mu 55 0 0) (qBe V d).2) := by
  refine Tr.of (by decide +kernel) (Nat.le_of_ble_eq_true rfl) (fun K C E => ?_)
  have k1 := b01_01 (0 ≤ d ∧ d < V.2.1)
  have k1i : b01 (0 ≤ d ∧ d < V.2.1) = 1 ↔ (0 ≤ d ∧ d < V.2.1) := b01_iff
  have loop : 0 ≤ d → d < V.2.1 → ∀ (m1 : Mem), mF m1 V → CR K (NC, 0, 0) mX6_bent (fun r m2 => r = some (vi (qBe V d).1) ∧ m2 = gd m1 (qBe V d).2) → ∀ (k : Nat) (i a p q : Int) (v5 v6 v7 v8 : Vv), 0 ≤ i → i + k = V.1 → 0 ≤ a ∧ a ≤ 2 → (p = 1 ∧ 1 ≤ a ∨ p = 0 ∧ a < 1) → (q = 1 ∧ 2 ≤ a ∨ q = 0 ∧ a < 2) → a = fld (fun a i => min a (if bdm V d i > 0 then 2 else if bdm V d i = 0 then 1 else 0)) 2 i.toNat → AW K mX6_bent (NC, 0, 0) 26 [vr 55, vi d, vi p, vi q, vi i, v5, v6, v7, v8] [] m1 := by
    intro d0 d1 m1 hm E k
    have eV := hm.1
    have hV := hm.2.1.1
    have hn := hV.1
    have hl := hV.2.1
    have e1 := mv1 eV
    have cl := hm.2.1.cl (by omega)
    have hcl := cl.1
    have qe : qBe V d = (fld (fun a i => min a (if bdm V d i > 0 then 2 else if bdm V d i = 0 then 1 else 0)) 2 V.1.toNat, 0) := if_pos ⟨d0, d1⟩
    induction k with
    | zero =>
      intro i a p q v5 v6 v7 v8 h0 h1 hb hp hq h2
      have e : i = V.1 := by omega
      rw [e] at h2
      rw [← h2] at qe
      refine aw_iload C dX6_bent_26 rfl ?_
      refine aw_aload_n C dX6_bent_28 rfl ?_
      refine aw_getI C dX6_bent_29 fX6_255 ⟨rfl, by decide⟩ rfl ?_
      refine aw_icmp_ge C dX6_bent_32 (tgt := 142) (by decide) ⟨by omega, by omega⟩ ⟨by omega, by omega⟩ (fun c1 => ?_) (fun c1 => ?_)
      · refine aw_aload_n C dX6_bent_142 rfl ?_
        refine aw_iload_n C dX6_bent_143 rfl ?_
        refine aw_if_eq C dX6_bent_144 (tgt := 151) (by decide) ⟨by omega, by omega⟩ (fun c2 => ?_) (fun c2 => ?_)
        · refine aw_iload_n C dX6_bent_151 rfl ?_
          refine aw_if_eq C dX6_bent_152 (tgt := 159) (by decide) ⟨by omega, by omega⟩ (fun c3 => ?_) (fun c3 => ?_)
          · refine aw_iconst C dX6_bent_159 ?_
            refine aw_call1 C dX6_bent_160 lX6_270 vX6_good (t_X6_good) rfl rfl rfl ⟨rfl, by decide⟩ rfl ⟨by decide, by decide⟩ (Nat.le_of_ble_eq_true rfl) ?_
            exact aw_iret C E dX6_bent_163 rfl (by rw [qe]; first | (rw [show a = 2 by omega]; exact ⟨rfl, rfl⟩) | (rw [show a = 1 by omega]; exact ⟨rfl, rfl⟩) | (rw [show a = 0 by omega]; exact ⟨rfl, rfl⟩))
          · refine aw_iconst C dX6_bent_155 ?_
            refine aw_goto C dX6_bent_156 (tgt := 160) (by decide) ?_
            refine aw_call1 C dX6_bent_160 lX6_270 vX6_good (t_X6_good) rfl rfl rfl ⟨rfl, by decide⟩ rfl ⟨by decide, by decide⟩ (Nat.le_of_ble_eq_true rfl) ?_
            exact aw_iret C E dX6_bent_163 rfl (by rw [qe]; first | (rw [show a = 2 by omega]; exact ⟨rfl, rfl⟩) | (rw [show a = 1 by omega]; exact ⟨rfl, rfl⟩) | (rw [show a = 0 by omega]; exact ⟨rfl, rfl⟩))
        · refine aw_iconst C dX6_bent_147 ?_
          refine aw_goto C dX6_bent_148 (tgt := 160) (by decide) ?_
          refine aw_call1 C dX6_bent_160 lX6_270 vX6_good (t_X6_good) rfl rfl rfl ⟨rfl, by decide⟩ rfl ⟨by decide, by decide⟩ (Nat.le_of_ble_eq_true rfl) ?_
          exact aw_iret C E dX6_bent_163 rfl (by rw [qe]; first | (rw [show a = 2 by omega]; exact ⟨rfl, rfl⟩) | (rw [show a = 1 by omega]; exact ⟨rfl, rfl⟩) | (rw [show a = 0 by omega]; exact ⟨rfl, rfl⟩))
      · exfalso; omega
    | succ k ih =>
      intro i a p q v5 v6 v7 v8 h0 h1 hb hp hq h2
      obtain ⟨a1, a2⟩ := nxt_in h0 (show i < V.1 by omega)
      obtain ⟨a3, a4⟩ := prv_in h0 (show i < V.1 by omega)
      have n1 := hV.g d i
      have n2 := hV.g d (nxt V i)
      have n3 := hV.g d (prv V i)
      have t1 := hV.trn i
      have t2 := hV.trn (prv V i)
      have t3 := hV.crs (prv V i) (nxt V i)
      have hbd := hV.bd d i
      have hm2 : gn V d (prv V i) * trn V i + gn V d (nxt V i) * trn V (prv V i) - gn V d i * crs V (prv V i) (nxt V i) = bdm V d i := rfl
      have go : ∀ (p2 q2 : Int) (v5 v6 v7 v8 : Vv), (p2 = 1 ∧ p = 1 ∧ bdm V d i ≥ 0 ∨ p2 = 0 ∧ (p = 0 ∨ bdm V d i < 0)) → (q2 = 1 ∧ q = 1 ∧ bdm V d i > 0 ∨ q2 = 0 ∧ (q = 0 ∨ bdm V d i ≤ 0)) → AW K mX6_bent (NC, 0, 0) 26 [vr 55, vi d, vi p2, vi q2, vi (i + 1), v5, v6, v7, v8] [] m1 := by
        intro p2 q2 w5 w6 w7 w8 hp2 hq2
        have ex : ∃ z, z = (if bdm V d i > 0 then 2 else if bdm V d i = 0 then (1 : Int) else 0) ∧ ((bdm V d i > 0 ∧ z = 2) ∨ (bdm V d i = 0 ∧ z = 1) ∨ (bdm V d i < 0 ∧ z = 0)) := by
          refine ⟨_, rfl, ?_⟩
          split
          · exact Or.inl ⟨by assumption, rfl⟩
          · split
            · exact Or.inr (Or.inl ⟨by assumption, rfl⟩)
            · exact Or.inr (Or.inr ⟨by omega, rfl⟩)
        obtain ⟨z, ez, hz⟩ := ex
        exact ih (i + 1) (min a z) p2 q2 _ _ _ _ (by omega) (by omega) (by omega) (by omega) (by omega) (by rw [fld_s h0, ← h2, ← ez])
      refine aw_iload C dX6_bent_26 rfl ?_
      refine aw_aload_n C dX6_bent_28 rfl ?_
      refine aw_getI C dX6_bent_29 fX6_255 ⟨rfl, by decide⟩ rfl ?_
      refine aw_icmp_ge C dX6_bent_32 (tgt := 142) (by decide) ⟨by omega, by omega⟩ ⟨by omega, by omega⟩ (fun c1 => ?_) (fun c1 => ?_)
      · exfalso; omega
      · refine aw_aload_n C dX6_bent_35 rfl ?_
        refine aw_iload C dX6_bent_36 rfl ?_
        refine aw_call1 C dX6_bent_38 lX6_293 vX6_last (t_X6_last eV hV (by omega) (by omega)) rfl rfl rfl ⟨rfl, by decide⟩ rfl ⟨by decide, by decide⟩ (Nat.le_of_ble_eq_true rfl) ?_
        refine aw_istore C dX6_bent_41 (by decide) ?_
        refine aw_aload_n C dX6_bent_43 rfl ?_
        refine aw_iload C dX6_bent_44 rfl ?_
        refine aw_call1 C dX6_bent_46 lX6_282 vX6_next (t_X6_next eV hV (by omega) (by omega)) rfl rfl rfl ⟨rfl, by decide⟩ rfl ⟨by decide, by decide⟩ (Nat.le_of_ble_eq_true rfl) ?_
        refine aw_istore C dX6_bent_49 (by decide) ?_
        refine aw_aload_n C dX6_bent_51 rfl ?_
        refine aw_iload_n C dX6_bent_52 rfl ?_
        refine aw_iload C dX6_bent_53 rfl ?_
        refine aw_call1 C dX6_bent_55 lX6_331 vX6_numberOf (t_X6_numberOf eV hV (by omega) (by omega) (by omega) (by omega)) rfl rfl rfl ⟨rfl, by decide⟩ rfl ⟨by decide, by decide⟩ (Nat.le_of_ble_eq_true rfl) ?_
        refine aw_aload_n C dX6_bent_58 rfl ?_
        refine aw_iload C dX6_bent_59 rfl ?_
        refine aw_call1 C dX6_bent_61 lX6_288 vX6_turn (t_X6_turn eV hV (by omega) (by omega)) rfl rfl rfl ⟨rfl, by decide⟩ rfl ⟨by decide, by decide⟩ (Nat.le_of_ble_eq_true rfl) ?_
        refine aw_i2l C dX6_bent_64 ⟨by omega, by omega⟩ ?_
        refine aw_lmul C dX6_bent_65 ?_
        refine aw_aload_n C dX6_bent_66 rfl ?_
        refine aw_iload_n C dX6_bent_67 rfl ?_
        refine aw_iload C dX6_bent_68 rfl ?_
        refine aw_call1 C dX6_bent_70 lX6_331 vX6_numberOf (t_X6_numberOf eV hV (by omega) (by omega) (by omega) (by omega)) rfl rfl rfl ⟨rfl, by decide⟩ rfl ⟨by decide, by decide⟩ (Nat.le_of_ble_eq_true rfl) ?_
        refine aw_aload_n C dX6_bent_73 rfl ?_
        refine aw_iload C dX6_bent_74 rfl ?_
        refine aw_call1 C dX6_bent_76 lX6_288 vX6_turn (t_X6_turn eV hV (by omega) (by omega)) rfl rfl rfl ⟨rfl, by decide⟩ rfl ⟨by decide, by decide⟩ (Nat.le_of_ble_eq_true rfl) ?_
        refine aw_i2l C dX6_bent_79 ⟨by omega, by omega⟩ ?_
        refine aw_lmul C dX6_bent_80 ?_
        refine aw_ladd C dX6_bent_81 ?_
        refine aw_aload_n C dX6_bent_82 rfl ?_
        refine aw_iload_n C dX6_bent_83 rfl ?_
        refine aw_iload C dX6_bent_84 rfl ?_
        refine aw_call1 C dX6_bent_86 lX6_331 vX6_numberOf (t_X6_numberOf eV hV (by omega) (by omega) (by omega) (by omega)) rfl rfl rfl ⟨rfl, by decide⟩ rfl ⟨by decide, by decide⟩ (Nat.le_of_ble_eq_true rfl) ?_
        refine aw_aload_n C dX6_bent_89 rfl ?_
        refine aw_iload C dX6_bent_90 rfl ?_
        refine aw_iload C dX6_bent_92 rfl ?_
        refine aw_call1 C dX6_bent_94 lX6_285 vX6_crossOf (t_X6_crossOf eV hV (by omega) (by omega) (by omega) (by omega)) rfl rfl rfl ⟨rfl, by decide⟩ rfl ⟨by decide, by decide⟩ (Nat.le_of_ble_eq_true rfl) ?_
        refine aw_i2l C dX6_bent_97 ⟨by omega, by omega⟩ ?_
        refine aw_lmul C dX6_bent_98 ?_
        refine aw_lsub C dX6_bent_99 ?_
        rw [hm2]
        refine aw_lstore C dX6_bent_100 (by decide) ?_
        refine aw_iload_n C dX6_bent_102 rfl ?_
        refine aw_if_eq C dX6_bent_103 (tgt := 117) (by decide) ⟨by omega, by omega⟩ (fun c2 => ?_) (fun c2 => ?_)
        · refine aw_iconst C dX6_bent_117 ?_
          refine aw_istore_n C dX6_bent_118 (by decide) ?_
          refine aw_iload_n C dX6_bent_119 rfl ?_
          refine aw_if_eq C dX6_bent_120 (tgt := 134) (by decide) ⟨by omega, by omega⟩ (fun c3 => ?_) (fun c3 => ?_)
          · refine aw_iconst C dX6_bent_134 ?_
            refine aw_istore_n C dX6_bent_135 (by decide) ?_
            refine aw_iinc C dX6_bent_136 rfl ?_
            refine aw_goto C dX6_bent_139 (tgt := 26) (by decide) ?_
            exact go _ _ _ _ _ _ (by omega) (by omega)
          · refine aw_lload C dX6_bent_123 rfl ?_
            refine aw_lconst C dX6_bent_125 (v := 0) rfl ?_
            refine aw_lcmp_le C dX6_bent_126 dX6_bent_127 (tgt := 134) (by decide) ⟨by omega, by omega⟩ ⟨by omega, by omega⟩ (fun c4 => ?_) (fun c4 => ?_)
            · refine aw_iconst C dX6_bent_134 ?_
              refine aw_istore_n C dX6_bent_135 (by decide) ?_
              refine aw_iinc C dX6_bent_136 rfl ?_
              refine aw_goto C dX6_bent_139 (tgt := 26) (by decide) ?_
              exact go _ _ _ _ _ _ (by omega) (by omega)
            · refine aw_iconst C dX6_bent_130 ?_
              refine aw_goto C dX6_bent_131 (tgt := 135) (by decide) ?_
              refine aw_istore_n C dX6_bent_135 (by decide) ?_
              refine aw_iinc C dX6_bent_136 rfl ?_
              refine aw_goto C dX6_bent_139 (tgt := 26) (by decide) ?_
              exact go _ _ _ _ _ _ (by omega) (by omega)
        · refine aw_lload C dX6_bent_106 rfl ?_
          refine aw_lconst C dX6_bent_108 (v := 0) rfl ?_
          refine aw_lcmp_lt C dX6_bent_109 dX6_bent_110 (tgt := 117) (by decide) ⟨by omega, by omega⟩ ⟨by omega, by omega⟩ (fun c5 => ?_) (fun c5 => ?_)
          · refine aw_iconst C dX6_bent_117 ?_
            refine aw_istore_n C dX6_bent_118 (by decide) ?_
            refine aw_iload_n C dX6_bent_119 rfl ?_
            refine aw_if_eq C dX6_bent_120 (tgt := 134) (by decide) ⟨by omega, by omega⟩ (fun c6 => ?_) (fun c6 => ?_)
            · refine aw_iconst C dX6_bent_134 ?_
              refine aw_istore_n C dX6_bent_135 (by decide) ?_
              refine aw_iinc C dX6_bent_136 rfl ?_
              refine aw_goto C dX6_bent_139 (tgt := 26) (by decide) ?_
              exact go _ _ _ _ _ _ (by omega) (by omega)
            · refine aw_lload C dX6_bent_123 rfl ?_
              refine aw_lconst C dX6_bent_125 (v := 0) rfl ?_
              refine aw_lcmp_le C dX6_bent_126 dX6_bent_127 (tgt := 134) (by decide) ⟨by omega, by omega⟩ ⟨by omega, by omega⟩ (fun c7 => ?_) (fun c7 => ?_)
              · refine aw_iconst C dX6_bent_134 ?_
                refine aw_istore_n C dX6_bent_135 (by decide) ?_
                refine aw_iinc C dX6_bent_136 rfl ?_
                refine aw_goto C dX6_bent_139 (tgt := 26) (by decide) ?_
                exact go _ _ _ _ _ _ (by omega) (by omega)
              · refine aw_iconst C dX6_bent_130 ?_
                refine aw_goto C dX6_bent_131 (tgt := 135) (by decide) ?_
                refine aw_istore_n C dX6_bent_135 (by decide) ?_
                refine aw_iinc C dX6_bent_136 rfl ?_
                refine aw_goto C dX6_bent_139 (tgt := 26) (by decide) ?_
                exact go _ _ _ _ _ _ (by omega) (by omega)
          · refine aw_iconst C dX6_bent_113 ?_
            refine aw_goto C dX6_bent_114 (tgt := 118) (by decide) ?_
            refine aw_istore_n C dX6_bent_118 (by decide) ?_
            refine aw_iload_n C dX6_bent_119 rfl ?_
            refine aw_if_eq C dX6_bent_120 (tgt := 134) (by decide) ⟨by omega, by omega⟩ (fun c8 => ?_) (fun c8 => ?_)
            · refine aw_iconst C dX6_bent_134 ?_
              refine aw_istore_n C dX6_bent_135 (by decide) ?_
              refine aw_iinc C dX6_bent_136 rfl ?_
              refine aw_goto C dX6_bent_139 (tgt := 26) (by decide) ?_
              exact go _ _ _ _ _ _ (by omega) (by omega)
            · refine aw_lload C dX6_bent_123 rfl ?_
              refine aw_lconst C dX6_bent_125 (v := 0) rfl ?_
              refine aw_lcmp_le C dX6_bent_126 dX6_bent_127 (tgt := 134) (by decide) ⟨by omega, by omega⟩ ⟨by omega, by omega⟩ (fun c9 => ?_) (fun c9 => ?_)
              · refine aw_iconst C dX6_bent_134 ?_
                refine aw_istore_n C dX6_bent_135 (by decide) ?_
                refine aw_iinc C dX6_bent_136 rfl ?_
                refine aw_goto C dX6_bent_139 (tgt := 26) (by decide) ?_
                exact go _ _ _ _ _ _ (by omega) (by omega)
              · refine aw_iconst C dX6_bent_130 ?_
                refine aw_goto C dX6_bent_131 (tgt := 135) (by decide) ?_
                refine aw_istore_n C dX6_bent_135 (by decide) ?_
                refine aw_iinc C dX6_bent_136 rfl ?_
                refine aw_goto C dX6_bent_139 (tgt := 26) (by decide) ?_
                exact go _ _ _ _ _ _ (by omega) (by omega)
  refine aw_aload_n C dX6_bent_0 rfl ?_
  refine aw_iconst C dX6_bent_1 ?_
  refine aw_putI C dX6_bent_2 fX6_77 ⟨rfl, by decide⟩ rfl rfl rfl ?_
  have hm := h.t
  generalize wr mu 55 0 0 = m1 at *
  have eV := hm.1
  have hV := hm.2.1.1
  have hn := hV.1
  have hl := hV.2.1
  have e1 := mv1 eV
  have e2 := mv2 eV
  have h3 := hm.2.2
  refine aw_aload_n C dX6_bent_5 rfl ?_
  refine aw_iload_n C dX6_bent_6 rfl ?_
  refine aw_call1 C dX6_bent_7 lX6_328 vX6_isLoad (t_X6_isLoad hm (by assumption)) rfl rfl rfl ⟨rfl, by decide⟩ rfl ⟨by decide, by decide⟩ (Nat.le_of_ble_eq_true rfl) ?_
  refine aw_if_ne C dX6_bent_10 (tgt := 19) (by decide) ⟨by omega, by omega⟩ (fun c1 => ?_) (fun c1 => ?_)
  · refine aw_iconst C dX6_bent_19 ?_
    refine aw_istore_n C dX6_bent_20 (by decide) ?_
    refine aw_iconst C dX6_bent_21 ?_
    refine aw_istore_n C dX6_bent_22 (by decide) ?_
    refine aw_iconst C dX6_bent_23 ?_
    refine aw_istore C dX6_bent_24 (by decide) ?_
    exact loop (by omega) (by omega) m1 hm E V.1.toNat 0 2 1 1 _ _ _ _ (by omega) (by omega) (by omega) (by omega) (by omega) rfl
  · have qe : qBe V d = (-1, 1) := if_neg (fun z => by omega)
    --go
    refine aw_aload_n C dX6_bent_13 rfl ?_
    refine aw_iconst C dX6_bent_14 ?_
    refine aw_call1 C dX6_bent_15 lX6_267 vX6_refused (t_X6_refused) rfl rfl rfl ⟨rfl, by decide⟩ rfl ⟨by decide, by decide⟩ (Nat.le_of_ble_eq_true rfl) ?_
    exact aw_iret C E dX6_bent_18 rfl (by rw [qe]; exact ⟨rfl, rfl⟩)

/-! constructors -/
theorem arc_int : Cond.arrayClass .int ∈ TB := tb_t 85 (by decide +kernel) (by decide +kernel)
theorem arc_long : Cond.arrayClass .long ∈ TB := tb_t 128 (by decide +kernel) (by decide +kernel)
theorem arc_byte : Cond.arrayClass .byte ∈ TB := tb_t 86 (by decide +kernel) (by decide +kernel)
theorem oi_i : Cond.instanceMethod Lib.objectInit ∈ TB := tb_t 24 (by decide +kernel) (by decide +kernel)
theorem oi_c : Cond.code Lib.objectInit ⟨#[0xb1]⟩ 1 none ∈ TB := tb_t 25 (by decide +kernel) (by decide +kernel)
theorem oi_X0 : Cond.methodLink RX0 1 Lib.objectInit ∈ TB := tb_t 92 (by decide +kernel) (by decide +kernel)
theorem oi_X1 : Cond.methodLink RX1 3 Lib.objectInit ∈ TB := tb_t 135 (by decide +kernel) (by decide +kernel)
theorem oi_X2 : Cond.methodLink RX2 3 Lib.objectInit ∈ TB := tb_t 108 (by decide +kernel) (by decide +kernel)
theorem oi_X3 : Cond.methodLink RX3 3 Lib.objectInit ∈ TB := tb_t 31 (by decide +kernel) (by decide +kernel)
theorem oi_X5 : Cond.methodLink RX5 3 Lib.objectInit ∈ TB := tb_t 23 (by decide +kernel) (by decide +kernel)
theorem oi_X6 : Cond.methodLink RX6 5 Lib.objectInit ∈ TB := tb_t 843 (by decide +kernel) (by decide +kernel)
theorem isF.sh1 {f : Nat} (h : isF f) : shp (f + 1) = (10, 24) := by
  obtain ⟨t, ht, rfl⟩ := h
  have : t = 0 ∨ t = 1 ∨ t = 2 ∨ t = 3 ∨ t = 4 ∨ t = 5 ∨ t = 6 ∨ t = 7 ∨ t = 8 ∨ t = 9 := by omega
  rcases this with rfl | rfl | rfl | rfl | rfl | rfl | rfl | rfl | rfl | rfl <;> rfl
theorem isF.sh2 {f : Nat} (h : isF f) : shp (f + 2) = (10, 24) := by
  obtain ⟨t, ht, rfl⟩ := h
  have : t = 0 ∨ t = 1 ∨ t = 2 ∨ t = 3 ∨ t = 4 ∨ t = 5 ∨ t = 6 ∨ t = 7 ∨ t = 8 ∨ t = 9 := by omega
  rcases this with rfl | rfl | rfl | rfl | rfl | rfl | rfl | rfl | rfl | rfl <;> rfl
theorem isF.sh3 {f : Nat} (h : isF f) : shp (f + 3) = (10, 144) := by
  obtain ⟨t, ht, rfl⟩ := h
  have : t = 0 ∨ t = 1 ∨ t = 2 ∨ t = 3 ∨ t = 4 ∨ t = 5 ∨ t = 6 ∨ t = 7 ∨ t = 8 ∨ t = 9 := by omega
  rcases this with rfl | rfl | rfl | rfl | rfl | rfl | rfl | rfl | rfl | rfl <;> rfl
theorem t_X0_init {mu : Mem} : TrN 1 mX0_init [vr 8] (9) (9) 0 0 mu (fun r m2 => r = none ∧ m2 = mu) := by
  refine TrI.of (by decide +kernel) (Nat.le_of_ble_eq_true rfl) rfl (fun Kt C E hz hrm hKN => ?_)
  have hz := hz (by decide)
  refine aw_aload_n C dX0_init_0 rfl ?_
  refine aw_objInit C dX0_init_1 oi_X0 oi_i oi_c (by decide) (by decide) ?_
  exact aw_vret C E dX0_init_4 rfl ⟨rfl, rfl⟩
theorem t_X1_init {f : Nat} {mu : Mem} (hF : isF f) (h0 : ∀ a j, f < a → a ≤ f + 3 → mu a j = 0) : TrN 1 mX1_init [vr f] (f + 1) (f + 4) 3 192 mu (fun r m2 => r = none ∧ m2 = (wr (wr (wr mu f 2 ((f + 1 : Nat) : Int)) f 3 ((f + 2 : Nat) : Int)) f 4 ((f + 3 : Nat) : Int))) := by
  refine TrI.of (by decide +kernel) (Nat.le_of_ble_eq_true rfl) rfl (fun Kt C E hz hrm hKN => ?_)
  have hlt : f ≤ 51 := by obtain ⟨t, h1, h2⟩ := hF; omega
  have hNC : NC = 77 := rfl
  have hz := hz (by omega)
  refine aw_aload_n C dX1_init_0 rfl ?_
  refine aw_objInit C dX1_init_1 oi_X1 oi_i oi_c (by decide) (by decide) ?_
  refine aw_aload_n C dX1_init_4 rfl ?_
  refine aw_bipush C dX1_init_5 rfl ?_
  have hb1 : 1 ≤ (KR Kt).cells ∧ 24 ≤ (KR Kt).slots := ⟨Nat.le_trans (Nat.le_of_ble_eq_true rfl) hrm.1, Nat.le_trans (Nat.le_of_ble_eq_true rfl) hrm.2⟩
  refine aw_newI C hz dX1_init_7 arc_int (N := 24) hF.sh1 (by decide) (fun j => by exact h0 _ j (by omega) (by omega)) hb1 (fun h => absurd h (by omega)) ?_
  have C := C.up (w2 := (f + 2, 1, 24)) hb1
  have hz : KZ Kt (f + 2, 1, 24) := by unfold KZ at hz ⊢; dsimp only at hz ⊢; omega
  show AW Kt mX1_init (f + 2, 1, 24) 9 _ (vr (f + 1) :: _) _
  refine aw_putF C hKN dX1_init_9 fX1_11 ⟨hF.s0.1, by dsimp only; omega⟩ rfl rfl rfl (fun _ => rfl) (fun _ => rfl) (by dsimp only; omega) ?_
  refine aw_aload_n C dX1_init_12 rfl ?_
  refine aw_bipush C dX1_init_13 rfl ?_
  have hb2 : 2 ≤ (KR Kt).cells ∧ 48 ≤ (KR Kt).slots := ⟨Nat.le_trans (Nat.le_of_ble_eq_true rfl) hrm.1, Nat.le_trans (Nat.le_of_ble_eq_true rfl) hrm.2⟩
  refine aw_newI C hz dX1_init_15 arc_int (N := 24) hF.sh2 (by decide) (fun j => by rw [wr_ne (by omega)]; exact h0 _ j (by omega) (by omega)) hb2 (fun h => absurd h (by omega)) ?_
  have C := C.up (w2 := (f + 3, 2, 48)) hb2
  have hz : KZ Kt (f + 3, 2, 48) := by unfold KZ at hz ⊢; dsimp only at hz ⊢; omega
  show AW Kt mX1_init (f + 3, 2, 48) 17 _ (vr (f + 2) :: _) _
  refine aw_putF C hKN dX1_init_17 fX1_15 ⟨hF.s0.1, by dsimp only; omega⟩ rfl rfl rfl (fun _ => rfl) (fun _ => rfl) (by dsimp only; omega) ?_
  refine aw_aload_n C dX1_init_20 rfl ?_
  refine aw_sipush C dX1_init_21 rfl ?_
  have hb3 : 3 ≤ (KR Kt).cells ∧ 192 ≤ (KR Kt).slots := ⟨Nat.le_trans (Nat.le_of_ble_eq_true rfl) hrm.1, Nat.le_trans (Nat.le_of_ble_eq_true rfl) hrm.2⟩
  refine aw_newI C hz dX1_init_24 arc_int (N := 144) hF.sh3 (by decide) (fun j => by rw [wr_ne (by omega), wr_ne (by omega)]; exact h0 _ j (by omega) (by omega)) hb3 (fun h => absurd h (by omega)) ?_
  have C := C.up (w2 := (f + 4, 3, 192)) hb3
  have hz : KZ Kt (f + 4, 3, 192) := by unfold KZ at hz ⊢; dsimp only at hz ⊢; omega
  show AW Kt mX1_init (f + 4, 3, 192) 26 _ (vr (f + 3) :: _) _
  refine aw_putF C hKN dX1_init_26 fX1_18 ⟨hF.s0.1, by dsimp only; omega⟩ rfl rfl rfl (fun _ => rfl) (fun _ => rfl) (by dsimp only; omega) ?_
  exact aw_vret C E dX1_init_29 rfl ⟨rfl, rfl⟩
theorem t_X2_init {mu : Mem} (h0 : ∀ a j, 9 < a → a ≤ 12 → mu a j = 0) : TrN 1 mX2_init [vr 9] (10) (13) 3 72 mu (fun r m2 => r = none ∧ m2 = (wr (wr (wr mu 9 0 ((10 : Nat) : Int)) 9 1 ((11 : Nat) : Int)) 9 2 ((12 : Nat) : Int))) := by
  refine TrI.of (by decide +kernel) (Nat.le_of_ble_eq_true rfl) rfl (fun Kt C E hz hrm hKN => ?_)
  have hz := hz (by decide)
  refine aw_aload_n C dX2_init_0 rfl ?_
  refine aw_objInit C dX2_init_1 oi_X2 oi_i oi_c (by decide) (by decide) ?_
  refine aw_aload_n C dX2_init_4 rfl ?_
  refine aw_bipush C dX2_init_5 rfl ?_
  have hb1 : 1 ≤ (KR Kt).cells ∧ 24 ≤ (KR Kt).slots := ⟨Nat.le_trans (Nat.le_of_ble_eq_true rfl) hrm.1, Nat.le_trans (Nat.le_of_ble_eq_true rfl) hrm.2⟩
  refine aw_newI C hz dX2_init_7 arc_int (N := 24) rfl (by decide) (fun j => by exact h0 _ j (by decide) (by decide)) hb1 (fun h => absurd h (by decide)) ?_
  have C := C.up (w2 := (11, 1, 24)) hb1
  have hz : KZ Kt (11, 1, 24) := by unfold KZ at hz ⊢; dsimp only at hz ⊢; omega
  show AW Kt mX2_init (11, 1, 24) 9 _ (vr (10) :: _) _
  refine aw_putF C hKN dX2_init_9 fX2_11 ⟨rfl, by decide⟩ rfl rfl rfl (fun _ => rfl) (fun _ => rfl) (by decide) ?_
  refine aw_aload_n C dX2_init_12 rfl ?_
  refine aw_bipush C dX2_init_13 rfl ?_
  have hb2 : 2 ≤ (KR Kt).cells ∧ 48 ≤ (KR Kt).slots := ⟨Nat.le_trans (Nat.le_of_ble_eq_true rfl) hrm.1, Nat.le_trans (Nat.le_of_ble_eq_true rfl) hrm.2⟩
  refine aw_newI C hz dX2_init_15 arc_int (N := 24) rfl (by decide) (fun j => by rw [wr_ne (by decide)]; exact h0 _ j (by decide) (by decide)) hb2 (fun h => absurd h (by decide)) ?_
  have C := C.up (w2 := (12, 2, 48)) hb2
  have hz : KZ Kt (12, 2, 48) := by unfold KZ at hz ⊢; dsimp only at hz ⊢; omega
  show AW Kt mX2_init (12, 2, 48) 17 _ (vr (11) :: _) _
  refine aw_putF C hKN dX2_init_17 fX2_17 ⟨rfl, by decide⟩ rfl rfl rfl (fun _ => rfl) (fun _ => rfl) (by decide) ?_
  refine aw_aload_n C dX2_init_20 rfl ?_
  refine aw_bipush C dX2_init_21 rfl ?_
  have hb3 : 3 ≤ (KR Kt).cells ∧ 72 ≤ (KR Kt).slots := ⟨Nat.le_trans (Nat.le_of_ble_eq_true rfl) hrm.1, Nat.le_trans (Nat.le_of_ble_eq_true rfl) hrm.2⟩
  refine aw_newL C hz dX2_init_23 arc_long (N := 24) rfl (by decide) (fun j => by rw [wr_ne (by decide), wr_ne (by decide)]; exact h0 _ j (by decide) (by decide)) hb3 (fun h => absurd h (by decide)) ?_
  have C := C.up (w2 := (13, 3, 72)) hb3
  have hz : KZ Kt (13, 3, 72) := by unfold KZ at hz ⊢; dsimp only at hz ⊢; omega
  show AW Kt mX2_init (13, 3, 72) 25 _ (vr (12) :: _) _
  refine aw_putF C hKN dX2_init_25 fX2_20 ⟨rfl, by decide⟩ rfl rfl rfl (fun _ => rfl) (fun _ => rfl) (by decide) ?_
  exact aw_vret C E dX2_init_28 rfl ⟨rfl, rfl⟩
theorem t_X3_init {mu : Mem} (h0 : ∀ a j, 1 < a → a ≤ 7 → mu a j = 0) : TrN 1 mX3_init [vr 1] (2) (8) 6 614 mu (fun r m2 => r = none ∧ m2 = (wr (wr (wr (wr (wr (wr mu 1 0 ((2 : Nat) : Int)) 1 1 ((3 : Nat) : Int)) 1 2 ((4 : Nat) : Int)) 1 3 ((5 : Nat) : Int)) 1 8 ((6 : Nat) : Int)) 1 9 ((7 : Nat) : Int))) := by
  refine TrI.of (by decide +kernel) (Nat.le_of_ble_eq_true rfl) rfl (fun Kt C E hz hrm hKN => ?_)
  have hz := hz (by decide)
  refine aw_aload_n C dX3_init_0 rfl ?_
  refine aw_objInit C dX3_init_1 oi_X3 oi_i oi_c (by decide) (by decide) ?_
  refine aw_aload_n C dX3_init_4 rfl ?_
  refine aw_bipush C dX3_init_5 rfl ?_
  have hb1 : 1 ≤ (KR Kt).cells ∧ 12 ≤ (KR Kt).slots := ⟨Nat.le_trans (Nat.le_of_ble_eq_true rfl) hrm.1, Nat.le_trans (Nat.le_of_ble_eq_true rfl) hrm.2⟩
  refine aw_newI C hz dX3_init_7 arc_int (N := 12) rfl (by decide) (fun j => by exact h0 _ j (by decide) (by decide)) hb1 (fun h => absurd h (by decide)) ?_
  have C := C.up (w2 := (3, 1, 12)) hb1
  have hz : KZ Kt (3, 1, 12) := by unfold KZ at hz ⊢; dsimp only at hz ⊢; omega
  show AW Kt mX3_init (3, 1, 12) 9 _ (vr (2) :: _) _
  refine aw_putF C hKN dX3_init_9 fX3_11 ⟨rfl, by decide⟩ rfl rfl rfl (fun _ => rfl) (fun _ => rfl) (by decide) ?_
  refine aw_aload_n C dX3_init_12 rfl ?_
  refine aw_bipush C dX3_init_13 rfl ?_
  have hb2 : 2 ≤ (KR Kt).cells ∧ 24 ≤ (KR Kt).slots := ⟨Nat.le_trans (Nat.le_of_ble_eq_true rfl) hrm.1, Nat.le_trans (Nat.le_of_ble_eq_true rfl) hrm.2⟩
  refine aw_newI C hz dX3_init_15 arc_int (N := 12) rfl (by decide) (fun j => by rw [wr_ne (by decide)]; exact h0 _ j (by decide) (by decide)) hb2 (fun h => absurd h (by decide)) ?_
  have C := C.up (w2 := (4, 2, 24)) hb2
  have hz : KZ Kt (4, 2, 24) := by unfold KZ at hz ⊢; dsimp only at hz ⊢; omega
  show AW Kt mX3_init (4, 2, 24) 17 _ (vr (3) :: _) _
  refine aw_putF C hKN dX3_init_17 fX3_15 ⟨rfl, by decide⟩ rfl rfl rfl (fun _ => rfl) (fun _ => rfl) (by decide) ?_
  refine aw_aload_n C dX3_init_20 rfl ?_
  refine aw_bipush C dX3_init_21 rfl ?_
  have hb3 : 3 ≤ (KR Kt).cells ∧ 30 ≤ (KR Kt).slots := ⟨Nat.le_trans (Nat.le_of_ble_eq_true rfl) hrm.1, Nat.le_trans (Nat.le_of_ble_eq_true rfl) hrm.2⟩
  refine aw_newI C hz dX3_init_23 arc_int (N := 6) rfl (by decide) (fun j => by rw [wr_ne (by decide), wr_ne (by decide)]; exact h0 _ j (by decide) (by decide)) hb3 (fun h => absurd h (by decide)) ?_
  have C := C.up (w2 := (5, 3, 30)) hb3
  have hz : KZ Kt (5, 3, 30) := by unfold KZ at hz ⊢; dsimp only at hz ⊢; omega
  show AW Kt mX3_init (5, 3, 30) 25 _ (vr (4) :: _) _
  refine aw_putF C hKN dX3_init_25 fX3_20 ⟨rfl, by decide⟩ rfl rfl rfl (fun _ => rfl) (fun _ => rfl) (by decide) ?_
  refine aw_aload_n C dX3_init_28 rfl ?_
  refine aw_bipush C dX3_init_29 rfl ?_
  have hb4 : 4 ≤ (KR Kt).cells ∧ 102 ≤ (KR Kt).slots := ⟨Nat.le_trans (Nat.le_of_ble_eq_true rfl) hrm.1, Nat.le_trans (Nat.le_of_ble_eq_true rfl) hrm.2⟩
  refine aw_newI C hz dX3_init_31 arc_int (N := 72) rfl (by decide) (fun j => by rw [wr_ne (by decide), wr_ne (by decide), wr_ne (by decide)]; exact h0 _ j (by decide) (by decide)) hb4 (fun h => absurd h (by decide)) ?_
  have C := C.up (w2 := (6, 4, 102)) hb4
  have hz : KZ Kt (6, 4, 102) := by unfold KZ at hz ⊢; dsimp only at hz ⊢; omega
  show AW Kt mX3_init (6, 4, 102) 33 _ (vr (5) :: _) _
  refine aw_putF C hKN dX3_init_33 fX3_23 ⟨rfl, by decide⟩ rfl rfl rfl (fun _ => rfl) (fun _ => rfl) (by decide) ?_
  refine aw_aload_n C dX3_init_36 rfl ?_
  refine aw_sipush C dX3_init_37 rfl ?_
  have hb5 : 5 ≤ (KR Kt).cells ∧ 602 ≤ (KR Kt).slots := ⟨Nat.le_trans (Nat.le_of_ble_eq_true rfl) hrm.1, Nat.le_trans (Nat.le_of_ble_eq_true rfl) hrm.2⟩
  refine aw_newB C hz dX3_init_40 arc_byte (N := 500) rfl (by decide) (fun j => by rw [wr_ne (by decide), wr_ne (by decide), wr_ne (by decide), wr_ne (by decide)]; exact h0 _ j (by decide) (by decide)) hb5 (fun h => absurd h (by decide)) ?_
  have C := C.up (w2 := (7, 5, 602)) hb5
  have hz : KZ Kt (7, 5, 602) := by unfold KZ at hz ⊢; dsimp only at hz ⊢; omega
  show AW Kt mX3_init (7, 5, 602) 42 _ (vr (6) :: _) _
  refine aw_putF C hKN dX3_init_42 fX3_26 ⟨rfl, by decide⟩ rfl rfl rfl (fun _ => rfl) (fun _ => rfl) (by decide) ?_
  refine aw_aload_n C dX3_init_45 rfl ?_
  refine aw_bipush C dX3_init_46 rfl ?_
  have hb6 : 6 ≤ (KR Kt).cells ∧ 614 ≤ (KR Kt).slots := ⟨Nat.le_trans (Nat.le_of_ble_eq_true rfl) hrm.1, Nat.le_trans (Nat.le_of_ble_eq_true rfl) hrm.2⟩
  refine aw_newI C hz dX3_init_48 arc_int (N := 12) rfl (by decide) (fun j => by rw [wr_ne (by decide), wr_ne (by decide), wr_ne (by decide), wr_ne (by decide), wr_ne (by decide)]; exact h0 _ j (by decide) (by decide)) hb6 (fun h => absurd h (by decide)) ?_
  have C := C.up (w2 := (8, 6, 614)) hb6
  have hz : KZ Kt (8, 6, 614) := by unfold KZ at hz ⊢; dsimp only at hz ⊢; omega
  show AW Kt mX3_init (8, 6, 614) 50 _ (vr (7) :: _) _
  refine aw_putF C hKN dX3_init_50 fX3_30 ⟨rfl, by decide⟩ rfl rfl rfl (fun _ => rfl) (fun _ => rfl) (by decide) ?_
  exact aw_vret C E dX3_init_53 rfl ⟨rfl, rfl⟩
theorem t_X6_init {mu : Mem} (h0 : ∀ a j, 55 < a → a ≤ 75 → mu a j = 0) : TrN 1 mX6_init [vr 55] (56) (76) 20 2665 mu (fun r m2 => r = none ∧ m2 = (wr (wr (wr (wr (wr (wr (wr (wr (wr (wr (wr (wr (wr (wr (wr (wr (wr (wr (wr (wr (wr mu 55 2 (-1)) 55 3 ((56 : Nat) : Int)) 55 14 ((57 : Nat) : Int)) 55 15 ((58 : Nat) : Int)) 55 16 ((59 : Nat) : Int)) 55 17 ((60 : Nat) : Int)) 55 18 ((61 : Nat) : Int)) 55 19 ((62 : Nat) : Int)) 55 20 ((63 : Nat) : Int)) 55 23 ((64 : Nat) : Int)) 55 24 ((65 : Nat) : Int)) 55 25 ((66 : Nat) : Int)) 55 26 ((67 : Nat) : Int)) 55 27 ((68 : Nat) : Int)) 55 28 ((69 : Nat) : Int)) 55 34 ((70 : Nat) : Int)) 55 35 ((71 : Nat) : Int)) 55 36 ((72 : Nat) : Int)) 55 37 ((73 : Nat) : Int)) 55 38 ((74 : Nat) : Int)) 55 42 ((75 : Nat) : Int))) := by
  refine TrI.of (by decide +kernel) (Nat.le_of_ble_eq_true rfl) rfl (fun Kt C E hz hrm hKN => ?_)
  have hz := hz (by decide)
  refine aw_aload_n C dX6_init_0 rfl ?_
  refine aw_objInit C dX6_init_1 oi_X6 oi_i oi_c (by decide) (by decide) ?_
  refine aw_aload_n C dX6_init_4 rfl ?_
  refine aw_iconst C dX6_init_5 ?_
  refine aw_putI C dX6_init_6 fX6_11 ⟨rfl, by decide⟩ rfl rfl rfl ?_
  refine aw_aload_n C dX6_init_9 rfl ?_
  refine aw_sipush C dX6_init_10 rfl ?_
  have hb1 : 1 ≤ (KR Kt).cells ∧ 500 ≤ (KR Kt).slots := ⟨Nat.le_trans (Nat.le_of_ble_eq_true rfl) hrm.1, Nat.le_trans (Nat.le_of_ble_eq_true rfl) hrm.2⟩
  refine aw_newI C hz dX6_init_13 arc_int (N := 500) rfl (by decide) (fun j => by rw [wr_ne (by decide)]; exact h0 _ j (by decide) (by decide)) hb1 (fun h => absurd h (by decide)) ?_
  have C := C.up (w2 := (57, 1, 500)) hb1
  have hz : KZ Kt (57, 1, 500) := by unfold KZ at hz ⊢; dsimp only at hz ⊢; omega
  show AW Kt mX6_init (57, 1, 500) 15 _ (vr (56) :: _) _
  refine aw_putF C hKN dX6_init_15 fX6_15 ⟨rfl, by decide⟩ rfl rfl rfl (fun _ => rfl) (fun _ => rfl) (by decide) ?_
  refine aw_aload_n C dX6_init_18 rfl ?_
  refine aw_bipush C dX6_init_19 rfl ?_
  have hb2 : 2 ≤ (KR Kt).cells ∧ 512 ≤ (KR Kt).slots := ⟨Nat.le_trans (Nat.le_of_ble_eq_true rfl) hrm.1, Nat.le_trans (Nat.le_of_ble_eq_true rfl) hrm.2⟩
  refine aw_newL C hz dX6_init_21 arc_long (N := 12) rfl (by decide) (fun j => by rw [wr_ne (by decide), wr_ne (by decide)]; exact h0 _ j (by decide) (by decide)) hb2 (fun h => absurd h (by decide)) ?_
  have C := C.up (w2 := (58, 2, 512)) hb2
  have hz : KZ Kt (58, 2, 512) := by unfold KZ at hz ⊢; dsimp only at hz ⊢; omega
  show AW Kt mX6_init (58, 2, 512) 23 _ (vr (57) :: _) _
  refine aw_putF C hKN dX6_init_23 fX6_19 ⟨rfl, by decide⟩ rfl rfl rfl (fun _ => rfl) (fun _ => rfl) (by decide) ?_
  refine aw_aload_n C dX6_init_26 rfl ?_
  refine aw_bipush C dX6_init_27 rfl ?_
  have hb3 : 3 ≤ (KR Kt).cells ∧ 518 ≤ (KR Kt).slots := ⟨Nat.le_trans (Nat.le_of_ble_eq_true rfl) hrm.1, Nat.le_trans (Nat.le_of_ble_eq_true rfl) hrm.2⟩
  refine aw_newL C hz dX6_init_29 arc_long (N := 6) rfl (by decide) (fun j => by rw [wr_ne (by decide), wr_ne (by decide), wr_ne (by decide)]; exact h0 _ j (by decide) (by decide)) hb3 (fun h => absurd h (by decide)) ?_
  have C := C.up (w2 := (59, 3, 518)) hb3
  have hz : KZ Kt (59, 3, 518) := by unfold KZ at hz ⊢; dsimp only at hz ⊢; omega
  show AW Kt mX6_init (59, 3, 518) 31 _ (vr (58) :: _) _
  refine aw_putF C hKN dX6_init_31 fX6_23 ⟨rfl, by decide⟩ rfl rfl rfl (fun _ => rfl) (fun _ => rfl) (by decide) ?_
  refine aw_aload_n C dX6_init_34 rfl ?_
  refine aw_bipush C dX6_init_35 rfl ?_
  have hb4 : 4 ≤ (KR Kt).cells ∧ 524 ≤ (KR Kt).slots := ⟨Nat.le_trans (Nat.le_of_ble_eq_true rfl) hrm.1, Nat.le_trans (Nat.le_of_ble_eq_true rfl) hrm.2⟩
  refine aw_newL C hz dX6_init_37 arc_long (N := 6) rfl (by decide) (fun j => by rw [wr_ne (by decide), wr_ne (by decide), wr_ne (by decide), wr_ne (by decide)]; exact h0 _ j (by decide) (by decide)) hb4 (fun h => absurd h (by decide)) ?_
  have C := C.up (w2 := (60, 4, 524)) hb4
  have hz : KZ Kt (60, 4, 524) := by unfold KZ at hz ⊢; dsimp only at hz ⊢; omega
  show AW Kt mX6_init (60, 4, 524) 39 _ (vr (59) :: _) _
  refine aw_putF C hKN dX6_init_39 fX6_26 ⟨rfl, by decide⟩ rfl rfl rfl (fun _ => rfl) (fun _ => rfl) (by decide) ?_
  refine aw_aload_n C dX6_init_42 rfl ?_
  refine aw_bipush C dX6_init_43 rfl ?_
  have hb5 : 5 ≤ (KR Kt).cells ∧ 536 ≤ (KR Kt).slots := ⟨Nat.le_trans (Nat.le_of_ble_eq_true rfl) hrm.1, Nat.le_trans (Nat.le_of_ble_eq_true rfl) hrm.2⟩
  refine aw_newI C hz dX6_init_45 arc_int (N := 12) rfl (by decide) (fun j => by rw [wr_ne (by decide), wr_ne (by decide), wr_ne (by decide), wr_ne (by decide), wr_ne (by decide)]; exact h0 _ j (by decide) (by decide)) hb5 (fun h => absurd h (by decide)) ?_
  have C := C.up (w2 := (61, 5, 536)) hb5
  have hz : KZ Kt (61, 5, 536) := by unfold KZ at hz ⊢; dsimp only at hz ⊢; omega
  show AW Kt mX6_init (61, 5, 536) 47 _ (vr (60) :: _) _
  refine aw_putF C hKN dX6_init_47 fX6_29 ⟨rfl, by decide⟩ rfl rfl rfl (fun _ => rfl) (fun _ => rfl) (by decide) ?_
  refine aw_aload_n C dX6_init_50 rfl ?_
  refine aw_bipush C dX6_init_51 rfl ?_
  have hb6 : 6 ≤ (KR Kt).cells ∧ 548 ≤ (KR Kt).slots := ⟨Nat.le_trans (Nat.le_of_ble_eq_true rfl) hrm.1, Nat.le_trans (Nat.le_of_ble_eq_true rfl) hrm.2⟩
  refine aw_newI C hz dX6_init_53 arc_int (N := 12) rfl (by decide) (fun j => by rw [wr_ne (by decide), wr_ne (by decide), wr_ne (by decide), wr_ne (by decide), wr_ne (by decide), wr_ne (by decide)]; exact h0 _ j (by decide) (by decide)) hb6 (fun h => absurd h (by decide)) ?_
  have C := C.up (w2 := (62, 6, 548)) hb6
  have hz : KZ Kt (62, 6, 548) := by unfold KZ at hz ⊢; dsimp only at hz ⊢; omega
  show AW Kt mX6_init (62, 6, 548) 55 _ (vr (61) :: _) _
  refine aw_putF C hKN dX6_init_55 fX6_32 ⟨rfl, by decide⟩ rfl rfl rfl (fun _ => rfl) (fun _ => rfl) (by decide) ?_
  refine aw_aload_n C dX6_init_58 rfl ?_
  refine aw_bipush C dX6_init_59 rfl ?_
  have hb7 : 7 ≤ (KR Kt).cells ∧ 620 ≤ (KR Kt).slots := ⟨Nat.le_trans (Nat.le_of_ble_eq_true rfl) hrm.1, Nat.le_trans (Nat.le_of_ble_eq_true rfl) hrm.2⟩
  refine aw_newI C hz dX6_init_61 arc_int (N := 72) rfl (by decide) (fun j => by rw [wr_ne (by decide), wr_ne (by decide), wr_ne (by decide), wr_ne (by decide), wr_ne (by decide), wr_ne (by decide), wr_ne (by decide)]; exact h0 _ j (by decide) (by decide)) hb7 (fun h => absurd h (by decide)) ?_
  have C := C.up (w2 := (63, 7, 620)) hb7
  have hz : KZ Kt (63, 7, 620) := by unfold KZ at hz ⊢; dsimp only at hz ⊢; omega
  show AW Kt mX6_init (63, 7, 620) 63 _ (vr (62) :: _) _
  refine aw_putF C hKN dX6_init_63 fX6_35 ⟨rfl, by decide⟩ rfl rfl rfl (fun _ => rfl) (fun _ => rfl) (by decide) ?_
  refine aw_aload_n C dX6_init_66 rfl ?_
  refine aw_bipush C dX6_init_67 rfl ?_
  have hb8 : 8 ≤ (KR Kt).cells ∧ 626 ≤ (KR Kt).slots := ⟨Nat.le_trans (Nat.le_of_ble_eq_true rfl) hrm.1, Nat.le_trans (Nat.le_of_ble_eq_true rfl) hrm.2⟩
  refine aw_newI C hz dX6_init_69 arc_int (N := 6) rfl (by decide) (fun j => by rw [wr_ne (by decide), wr_ne (by decide), wr_ne (by decide), wr_ne (by decide), wr_ne (by decide), wr_ne (by decide), wr_ne (by decide), wr_ne (by decide)]; exact h0 _ j (by decide) (by decide)) hb8 (fun h => absurd h (by decide)) ?_
  have C := C.up (w2 := (64, 8, 626)) hb8
  have hz : KZ Kt (64, 8, 626) := by unfold KZ at hz ⊢; dsimp only at hz ⊢; omega
  show AW Kt mX6_init (64, 8, 626) 71 _ (vr (63) :: _) _
  refine aw_putF C hKN dX6_init_71 fX6_38 ⟨rfl, by decide⟩ rfl rfl rfl (fun _ => rfl) (fun _ => rfl) (by decide) ?_
  refine aw_aload_n C dX6_init_74 rfl ?_
  refine aw_bipush C dX6_init_75 rfl ?_
  have hb9 : 9 ≤ (KR Kt).cells ∧ 651 ≤ (KR Kt).slots := ⟨Nat.le_trans (Nat.le_of_ble_eq_true rfl) hrm.1, Nat.le_trans (Nat.le_of_ble_eq_true rfl) hrm.2⟩
  refine aw_newI C hz dX6_init_77 arc_int (N := 25) rfl (by decide) (fun j => by rw [wr_ne (by decide), wr_ne (by decide), wr_ne (by decide), wr_ne (by decide), wr_ne (by decide), wr_ne (by decide), wr_ne (by decide), wr_ne (by decide), wr_ne (by decide)]; exact h0 _ j (by decide) (by decide)) hb9 (fun h => absurd h (by decide)) ?_
  have C := C.up (w2 := (65, 9, 651)) hb9
  have hz : KZ Kt (65, 9, 651) := by unfold KZ at hz ⊢; dsimp only at hz ⊢; omega
  show AW Kt mX6_init (65, 9, 651) 79 _ (vr (64) :: _) _
  refine aw_putF C hKN dX6_init_79 fX6_41 ⟨rfl, by decide⟩ rfl rfl rfl (fun _ => rfl) (fun _ => rfl) (by decide) ?_
  refine aw_aload_n C dX6_init_82 rfl ?_
  refine aw_bipush C dX6_init_83 rfl ?_
  have hb10 : 10 ≤ (KR Kt).cells ∧ 676 ≤ (KR Kt).slots := ⟨Nat.le_trans (Nat.le_of_ble_eq_true rfl) hrm.1, Nat.le_trans (Nat.le_of_ble_eq_true rfl) hrm.2⟩
  refine aw_newI C hz dX6_init_85 arc_int (N := 25) rfl (by decide) (fun j => by rw [wr_ne (by decide), wr_ne (by decide), wr_ne (by decide), wr_ne (by decide), wr_ne (by decide), wr_ne (by decide), wr_ne (by decide), wr_ne (by decide), wr_ne (by decide), wr_ne (by decide)]; exact h0 _ j (by decide) (by decide)) hb10 (fun h => absurd h (by decide)) ?_
  have C := C.up (w2 := (66, 10, 676)) hb10
  have hz : KZ Kt (66, 10, 676) := by unfold KZ at hz ⊢; dsimp only at hz ⊢; omega
  show AW Kt mX6_init (66, 10, 676) 87 _ (vr (65) :: _) _
  refine aw_putF C hKN dX6_init_87 fX6_44 ⟨rfl, by decide⟩ rfl rfl rfl (fun _ => rfl) (fun _ => rfl) (by decide) ?_
  refine aw_aload_n C dX6_init_90 rfl ?_
  refine aw_sipush C dX6_init_91 rfl ?_
  have hb11 : 11 ≤ (KR Kt).cells ∧ 826 ≤ (KR Kt).slots := ⟨Nat.le_trans (Nat.le_of_ble_eq_true rfl) hrm.1, Nat.le_trans (Nat.le_of_ble_eq_true rfl) hrm.2⟩
  refine aw_newI C hz dX6_init_94 arc_int (N := 150) rfl (by decide) (fun j => by rw [wr_ne (by decide), wr_ne (by decide), wr_ne (by decide), wr_ne (by decide), wr_ne (by decide), wr_ne (by decide), wr_ne (by decide), wr_ne (by decide), wr_ne (by decide), wr_ne (by decide), wr_ne (by decide)]; exact h0 _ j (by decide) (by decide)) hb11 (fun h => absurd h (by decide)) ?_
  have C := C.up (w2 := (67, 11, 826)) hb11
  have hz : KZ Kt (67, 11, 826) := by unfold KZ at hz ⊢; dsimp only at hz ⊢; omega
  show AW Kt mX6_init (67, 11, 826) 96 _ (vr (66) :: _) _
  refine aw_putF C hKN dX6_init_96 fX6_47 ⟨rfl, by decide⟩ rfl rfl rfl (fun _ => rfl) (fun _ => rfl) (by decide) ?_
  refine aw_aload_n C dX6_init_99 rfl ?_
  refine aw_bipush C dX6_init_100 rfl ?_
  have hb12 : 12 ≤ (KR Kt).cells ∧ 851 ≤ (KR Kt).slots := ⟨Nat.le_trans (Nat.le_of_ble_eq_true rfl) hrm.1, Nat.le_trans (Nat.le_of_ble_eq_true rfl) hrm.2⟩
  refine aw_newI C hz dX6_init_102 arc_int (N := 25) rfl (by decide) (fun j => by rw [wr_ne (by decide), wr_ne (by decide), wr_ne (by decide), wr_ne (by decide), wr_ne (by decide), wr_ne (by decide), wr_ne (by decide), wr_ne (by decide), wr_ne (by decide), wr_ne (by decide), wr_ne (by decide), wr_ne (by decide)]; exact h0 _ j (by decide) (by decide)) hb12 (fun h => absurd h (by decide)) ?_
  have C := C.up (w2 := (68, 12, 851)) hb12
  have hz : KZ Kt (68, 12, 851) := by unfold KZ at hz ⊢; dsimp only at hz ⊢; omega
  show AW Kt mX6_init (68, 12, 851) 104 _ (vr (67) :: _) _
  refine aw_putF C hKN dX6_init_104 fX6_50 ⟨rfl, by decide⟩ rfl rfl rfl (fun _ => rfl) (fun _ => rfl) (by decide) ?_
  refine aw_aload_n C dX6_init_107 rfl ?_
  refine aw_bipush C dX6_init_108 rfl ?_
  have hb13 : 13 ≤ (KR Kt).cells ∧ 876 ≤ (KR Kt).slots := ⟨Nat.le_trans (Nat.le_of_ble_eq_true rfl) hrm.1, Nat.le_trans (Nat.le_of_ble_eq_true rfl) hrm.2⟩
  refine aw_newI C hz dX6_init_110 arc_int (N := 25) rfl (by decide) (fun j => by rw [wr_ne (by decide), wr_ne (by decide), wr_ne (by decide), wr_ne (by decide), wr_ne (by decide), wr_ne (by decide), wr_ne (by decide), wr_ne (by decide), wr_ne (by decide), wr_ne (by decide), wr_ne (by decide), wr_ne (by decide), wr_ne (by decide)]; exact h0 _ j (by decide) (by decide)) hb13 (fun h => absurd h (by decide)) ?_
  have C := C.up (w2 := (69, 13, 876)) hb13
  have hz : KZ Kt (69, 13, 876) := by unfold KZ at hz ⊢; dsimp only at hz ⊢; omega
  show AW Kt mX6_init (69, 13, 876) 112 _ (vr (68) :: _) _
  refine aw_putF C hKN dX6_init_112 fX6_53 ⟨rfl, by decide⟩ rfl rfl rfl (fun _ => rfl) (fun _ => rfl) (by decide) ?_
  refine aw_aload_n C dX6_init_115 rfl ?_
  refine aw_sipush C dX6_init_116 rfl ?_
  have hb14 : 14 ≤ (KR Kt).cells ∧ 1026 ≤ (KR Kt).slots := ⟨Nat.le_trans (Nat.le_of_ble_eq_true rfl) hrm.1, Nat.le_trans (Nat.le_of_ble_eq_true rfl) hrm.2⟩
  refine aw_newI C hz dX6_init_119 arc_int (N := 150) rfl (by decide) (fun j => by rw [wr_ne (by decide), wr_ne (by decide), wr_ne (by decide), wr_ne (by decide), wr_ne (by decide), wr_ne (by decide), wr_ne (by decide), wr_ne (by decide), wr_ne (by decide), wr_ne (by decide), wr_ne (by decide), wr_ne (by decide), wr_ne (by decide), wr_ne (by decide)]; exact h0 _ j (by decide) (by decide)) hb14 (fun h => absurd h (by decide)) ?_
  have C := C.up (w2 := (70, 14, 1026)) hb14
  have hz : KZ Kt (70, 14, 1026) := by unfold KZ at hz ⊢; dsimp only at hz ⊢; omega
  show AW Kt mX6_init (70, 14, 1026) 121 _ (vr (69) :: _) _
  refine aw_putF C hKN dX6_init_121 fX6_56 ⟨rfl, by decide⟩ rfl rfl rfl (fun _ => rfl) (fun _ => rfl) (by decide) ?_
  refine aw_aload_n C dX6_init_124 rfl ?_
  refine aw_bipush C dX6_init_125 rfl ?_
  have hb15 : 15 ≤ (KR Kt).cells ∧ 1032 ≤ (KR Kt).slots := ⟨Nat.le_trans (Nat.le_of_ble_eq_true rfl) hrm.1, Nat.le_trans (Nat.le_of_ble_eq_true rfl) hrm.2⟩
  refine aw_newI C hz dX6_init_127 arc_int (N := 6) rfl (by decide) (fun j => by rw [wr_ne (by decide), wr_ne (by decide), wr_ne (by decide), wr_ne (by decide), wr_ne (by decide), wr_ne (by decide), wr_ne (by decide), wr_ne (by decide), wr_ne (by decide), wr_ne (by decide), wr_ne (by decide), wr_ne (by decide), wr_ne (by decide), wr_ne (by decide), wr_ne (by decide)]; exact h0 _ j (by decide) (by decide)) hb15 (fun h => absurd h (by decide)) ?_
  have C := C.up (w2 := (71, 15, 1032)) hb15
  have hz : KZ Kt (71, 15, 1032) := by unfold KZ at hz ⊢; dsimp only at hz ⊢; omega
  show AW Kt mX6_init (71, 15, 1032) 129 _ (vr (70) :: _) _
  refine aw_putF C hKN dX6_init_129 fX6_59 ⟨rfl, by decide⟩ rfl rfl rfl (fun _ => rfl) (fun _ => rfl) (by decide) ?_
  refine aw_aload_n C dX6_init_132 rfl ?_
  refine aw_bipush C dX6_init_133 rfl ?_
  have hb16 : 16 ≤ (KR Kt).cells ∧ 1040 ≤ (KR Kt).slots := ⟨Nat.le_trans (Nat.le_of_ble_eq_true rfl) hrm.1, Nat.le_trans (Nat.le_of_ble_eq_true rfl) hrm.2⟩
  refine aw_newI C hz dX6_init_135 arc_int (N := 8) rfl (by decide) (fun j => by rw [wr_ne (by decide), wr_ne (by decide), wr_ne (by decide), wr_ne (by decide), wr_ne (by decide), wr_ne (by decide), wr_ne (by decide), wr_ne (by decide), wr_ne (by decide), wr_ne (by decide), wr_ne (by decide), wr_ne (by decide), wr_ne (by decide), wr_ne (by decide), wr_ne (by decide), wr_ne (by decide)]; exact h0 _ j (by decide) (by decide)) hb16 (fun h => absurd h (by decide)) ?_
  have C := C.up (w2 := (72, 16, 1040)) hb16
  have hz : KZ Kt (72, 16, 1040) := by unfold KZ at hz ⊢; dsimp only at hz ⊢; omega
  show AW Kt mX6_init (72, 16, 1040) 137 _ (vr (71) :: _) _
  refine aw_putF C hKN dX6_init_137 fX6_62 ⟨rfl, by decide⟩ rfl rfl rfl (fun _ => rfl) (fun _ => rfl) (by decide) ?_
  refine aw_aload_n C dX6_init_140 rfl ?_
  refine aw_sipush C dX6_init_141 rfl ?_
  have hb17 : 17 ≤ (KR Kt).cells ∧ 1240 ≤ (KR Kt).slots := ⟨Nat.le_trans (Nat.le_of_ble_eq_true rfl) hrm.1, Nat.le_trans (Nat.le_of_ble_eq_true rfl) hrm.2⟩
  refine aw_newI C hz dX6_init_144 arc_int (N := 200) rfl (by decide) (fun j => by rw [wr_ne (by decide), wr_ne (by decide), wr_ne (by decide), wr_ne (by decide), wr_ne (by decide), wr_ne (by decide), wr_ne (by decide), wr_ne (by decide), wr_ne (by decide), wr_ne (by decide), wr_ne (by decide), wr_ne (by decide), wr_ne (by decide), wr_ne (by decide), wr_ne (by decide), wr_ne (by decide), wr_ne (by decide)]; exact h0 _ j (by decide) (by decide)) hb17 (fun h => absurd h (by decide)) ?_
  have C := C.up (w2 := (73, 17, 1240)) hb17
  have hz : KZ Kt (73, 17, 1240) := by unfold KZ at hz ⊢; dsimp only at hz ⊢; omega
  show AW Kt mX6_init (73, 17, 1240) 146 _ (vr (72) :: _) _
  refine aw_putF C hKN dX6_init_146 fX6_65 ⟨rfl, by decide⟩ rfl rfl rfl (fun _ => rfl) (fun _ => rfl) (by decide) ?_
  refine aw_aload_n C dX6_init_149 rfl ?_
  refine aw_sipush C dX6_init_150 rfl ?_
  have hb18 : 18 ≤ (KR Kt).cells ∧ 1440 ≤ (KR Kt).slots := ⟨Nat.le_trans (Nat.le_of_ble_eq_true rfl) hrm.1, Nat.le_trans (Nat.le_of_ble_eq_true rfl) hrm.2⟩
  refine aw_newI C hz dX6_init_153 arc_int (N := 200) rfl (by decide) (fun j => by rw [wr_ne (by decide), wr_ne (by decide), wr_ne (by decide), wr_ne (by decide), wr_ne (by decide), wr_ne (by decide), wr_ne (by decide), wr_ne (by decide), wr_ne (by decide), wr_ne (by decide), wr_ne (by decide), wr_ne (by decide), wr_ne (by decide), wr_ne (by decide), wr_ne (by decide), wr_ne (by decide), wr_ne (by decide), wr_ne (by decide)]; exact h0 _ j (by decide) (by decide)) hb18 (fun h => absurd h (by decide)) ?_
  have C := C.up (w2 := (74, 18, 1440)) hb18
  have hz : KZ Kt (74, 18, 1440) := by unfold KZ at hz ⊢; dsimp only at hz ⊢; omega
  show AW Kt mX6_init (74, 18, 1440) 155 _ (vr (73) :: _) _
  refine aw_putF C hKN dX6_init_155 fX6_68 ⟨rfl, by decide⟩ rfl rfl rfl (fun _ => rfl) (fun _ => rfl) (by decide) ?_
  refine aw_aload_n C dX6_init_158 rfl ?_
  refine aw_sipush C dX6_init_159 rfl ?_
  have hb19 : 19 ≤ (KR Kt).cells ∧ 2640 ≤ (KR Kt).slots := ⟨Nat.le_trans (Nat.le_of_ble_eq_true rfl) hrm.1, Nat.le_trans (Nat.le_of_ble_eq_true rfl) hrm.2⟩
  refine aw_newI C hz dX6_init_162 arc_int (N := 1200) rfl (by decide) (fun j => by rw [wr_ne (by decide), wr_ne (by decide), wr_ne (by decide), wr_ne (by decide), wr_ne (by decide), wr_ne (by decide), wr_ne (by decide), wr_ne (by decide), wr_ne (by decide), wr_ne (by decide), wr_ne (by decide), wr_ne (by decide), wr_ne (by decide), wr_ne (by decide), wr_ne (by decide), wr_ne (by decide), wr_ne (by decide), wr_ne (by decide), wr_ne (by decide)]; exact h0 _ j (by decide) (by decide)) hb19 (fun h => absurd h (by decide)) ?_
  have C := C.up (w2 := (75, 19, 2640)) hb19
  have hz : KZ Kt (75, 19, 2640) := by unfold KZ at hz ⊢; dsimp only at hz ⊢; omega
  show AW Kt mX6_init (75, 19, 2640) 164 _ (vr (74) :: _) _
  refine aw_putF C hKN dX6_init_164 fX6_71 ⟨rfl, by decide⟩ rfl rfl rfl (fun _ => rfl) (fun _ => rfl) (by decide) ?_
  refine aw_aload_n C dX6_init_167 rfl ?_
  refine aw_bipush C dX6_init_168 rfl ?_
  have hb20 : 20 ≤ (KR Kt).cells ∧ 2665 ≤ (KR Kt).slots := ⟨Nat.le_trans (Nat.le_of_ble_eq_true rfl) hrm.1, Nat.le_trans (Nat.le_of_ble_eq_true rfl) hrm.2⟩
  refine aw_newI C hz dX6_init_170 arc_int (N := 25) rfl (by decide) (fun j => by rw [wr_ne (by decide), wr_ne (by decide), wr_ne (by decide), wr_ne (by decide), wr_ne (by decide), wr_ne (by decide), wr_ne (by decide), wr_ne (by decide), wr_ne (by decide), wr_ne (by decide), wr_ne (by decide), wr_ne (by decide), wr_ne (by decide), wr_ne (by decide), wr_ne (by decide), wr_ne (by decide), wr_ne (by decide), wr_ne (by decide), wr_ne (by decide), wr_ne (by decide)]; exact h0 _ j (by decide) (by decide)) hb20 (fun h => absurd h (by decide)) ?_
  have C := C.up (w2 := (76, 20, 2665)) hb20
  have hz : KZ Kt (76, 20, 2665) := by unfold KZ at hz ⊢; dsimp only at hz ⊢; omega
  show AW Kt mX6_init (76, 20, 2665) 172 _ (vr (75) :: _) _
  refine aw_putF C hKN dX6_init_172 fX6_74 ⟨rfl, by decide⟩ rfl rfl rfl (fun _ => rfl) (fun _ => rfl) (by decide) ?_
  exact aw_vret C E dX6_init_175 rfl ⟨rfl, rfl⟩

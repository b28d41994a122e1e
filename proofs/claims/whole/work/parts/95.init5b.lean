/-! FanCones.<init> -/
theorem df_X0 : ∀ j, j < 3 → ∀ b, defaultValue (tyX0 j) = fcv b (ftag 0 j) (if ftag 0 j = 2 then -1 else 0) := fun j hj b => by
  rcases (show j = 0 ∨ j = 1 ∨ j = 2 by omega) with rfl | rfl | rfl <;> rfl
theorem df_X1 : ∀ j, j < 5 → ∀ b, defaultValue (tyX1 j) = fcv b (ftag 1 j) (if ftag 1 j = 2 then -1 else 0) := fun j hj b => by
  rcases (show j = 0 ∨ j = 1 ∨ j = 2 ∨ j = 3 ∨ j = 4 by omega) with rfl | rfl | rfl | rfl | rfl <;> rfl
theorem df_X2 : ∀ j, j < 6 → ∀ b, defaultValue (tyX2 j) = fcv b (ftag 2 j) (if ftag 2 j = 2 then -1 else 0) := fun j hj b => by
  rcases (show j = 0 ∨ j = 1 ∨ j = 2 ∨ j = 3 ∨ j = 4 ∨ j = 5 by omega) with rfl | rfl | rfl | rfl | rfl | rfl <;> rfl
theorem df_X3 : ∀ j, j < 15 → ∀ b, defaultValue (tyX3 j) = fcv b (ftag 3 j) (if ftag 3 j = 2 then -1 else 0) := fun j hj b => by
  rcases (show j = 0 ∨ j = 1 ∨ j = 2 ∨ j = 3 ∨ j = 4 ∨ j = 5 ∨ j = 6 ∨ j = 7 ∨ j = 8 ∨ j = 9 ∨ j = 10 ∨ j = 11 ∨ j = 12 ∨ j = 13 ∨ j = 14 by omega) with rfl | rfl | rfl | rfl | rfl | rfl | rfl | rfl | rfl | rfl | rfl | rfl | rfl | rfl | rfl <;> rfl
theorem df_X5 : ∀ j, j < 12 → ∀ b, defaultValue (tyX5 j) = fcv b (ftag 4 j) (if ftag 4 j = 2 then -1 else 0) := fun j hj b => by
  rcases (show j = 0 ∨ j = 1 ∨ j = 2 ∨ j = 3 ∨ j = 4 ∨ j = 5 ∨ j = 6 ∨ j = 7 ∨ j = 8 ∨ j = 9 ∨ j = 10 ∨ j = 11 by omega) with rfl | rfl | rfl | rfl | rfl | rfl | rfl | rfl | rfl | rfl | rfl | rfl <;> rfl
theorem df_X6 : ∀ j, j < 43 → ∀ b, defaultValue (tyX6 j) = fcv b (ftag 5 j) (if ftag 5 j = 2 then -1 else 0) := fun j hj b => by
  rcases (show j = 0 ∨ j = 1 ∨ j = 2 ∨ j = 3 ∨ j = 4 ∨ j = 5 ∨ j = 6 ∨ j = 7 ∨ j = 8 ∨ j = 9 ∨ j = 10 ∨ j = 11 ∨ j = 12 ∨ j = 13 ∨ j = 14 ∨ j = 15 ∨ j = 16 ∨ j = 17 ∨ j = 18 ∨ j = 19 ∨ j = 20 ∨ j = 21 ∨ j = 22 ∨ j = 23 ∨ j = 24 ∨ j = 25 ∨ j = 26 ∨ j = 27 ∨ j = 28 ∨ j = 29 ∨ j = 30 ∨ j = 31 ∨ j = 32 ∨ j = 33 ∨ j = 34 ∨ j = 35 ∨ j = 36 ∨ j = 37 ∨ j = 38 ∨ j = 39 ∨ j = 40 ∨ j = 41 ∨ j = 42 by omega) with rfl | rfl | rfl | rfl | rfl | rfl | rfl | rfl | rfl | rfl | rfl | rfl | rfl | rfl | rfl | rfl | rfl | rfl | rfl | rfl | rfl | rfl | rfl | rfl | rfl | rfl | rfl | rfl | rfl | rfl | rfl | rfl | rfl | rfl | rfl | rfl | rfl | rfl | rfl | rfl | rfl | rfl | rfl <;> rfl
/-- what a new cell holds -/
def dz (k j : Nat) : Int := if (shp k).1 < 10 then (if ftag (shp k).1 j = 2 then -1 else 0) else if (shp k).1 = 13 then -1 else 0
def fanI (m : Mem) (f : Nat) : Mem := wr (wr (wr m f 2 ((f + 1 : Nat) : Int)) f 3 ((f + 2 : Nat) : Int)) f 4 ((f + 3 : Nat) : Int)
def lpF (m0 : Mem) (i : Nat) : Mem := fun a j => if a = 14 ∧ j < i then ((15 + 4 * j : Nat) : Int) else if 15 ≤ a ∧ a < 15 + 4 * i ∧ (a - 15) % 4 = 0 ∧ 2 ≤ j ∧ j ≤ 4 then ((a + j - 1 : Nat) : Int) else m0 a j
theorem lpF_0 (m0 : Mem) : lpF m0 0 = m0 := by
  funext a j
  unfold lpF
  rw [if_neg (by omega), if_neg (by omega)]
theorem lpF_s (m0 : Mem) (i : Nat) : wr (fanI (lpF m0 i) (15 + 4 * i)) 14 i ((15 + 4 * i : Nat) : Int) = lpF m0 (i + 1) := by
  funext a j
  unfold fanI
  rw [wr_at, wr_at, wr_at, wr_at]
  unfold lpF
  by_cases h1 : a = 14 ∧ j = i
  · rw [if_pos h1, if_pos (by omega), h1.2]
  rw [if_neg h1]
  by_cases h2 : a = 15 + 4 * i ∧ j = 4
  · rw [if_pos h2, if_neg (by omega), if_pos (by omega)]; congr 1; omega
  rw [if_neg h2]
  by_cases h3 : a = 15 + 4 * i ∧ j = 3
  · rw [if_pos h3, if_neg (by omega), if_pos (by omega)]; congr 1; omega
  rw [if_neg h3]
  by_cases h4 : a = 15 + 4 * i ∧ j = 2
  · rw [if_pos h4, if_neg (by omega), if_pos (by omega)]; congr 1; omega
  rw [if_neg h4]
  by_cases h5 : a = 14 ∧ j < i
  · rw [if_pos h5, if_pos (by omega)]
  rw [if_neg h5, if_neg (show ¬ (a = 14 ∧ j < i + 1) by omega)]
  by_cases h6 : 15 ≤ a ∧ a < 15 + 4 * i ∧ (a - 15) % 4 = 0 ∧ 2 ≤ j ∧ j ≤ 4
  · rw [if_pos h6, if_pos (show 15 ≤ a ∧ a < 15 + 4 * (i + 1) ∧ (a - 15) % 4 = 0 ∧ 2 ≤ j ∧ j ≤ 4 by omega)]
  · rw [if_neg h6, if_neg (show ¬ (15 ≤ a ∧ a < 15 + 4 * (i + 1) ∧ (a - 15) % 4 = 0 ∧ 2 ≤ j ∧ j ≤ 4) by omega)]
theorem lpF_hi {m0 : Mem} {i a : Nat} (h : 15 + 4 * i ≤ a) : lpF m0 i a = m0 a := by
  funext j
  unfold lpF
  rw [if_neg (by omega), if_neg (by omega)]
theorem fanI_ne {m : Mem} {f a : Nat} (h : a ≠ f) : fanI m f a = m a := by
  unfold fanI
  rw [wr_ne h, wr_ne h, wr_ne h]
def bM (mu : Mem) : Mem := wr (wr (wr (wr (wr (wr (wr (wr (wr (wr (wr (wr (wr (wr mu 1 0 ((2 : Nat) : Int)) 1 1 ((3 : Nat) : Int)) 1 2 ((4 : Nat) : Int)) 1 3 ((5 : Nat) : Int)) 1 8 ((6 : Nat) : Int)) 1 9 ((7 : Nat) : Int)) 0 0 ((1 : Nat) : Int)) 0 1 ((8 : Nat) : Int)) 9 0 ((10 : Nat) : Int)) 9 1 ((11 : Nat) : Int)) 9 2 ((12 : Nat) : Int)) 0 2 ((9 : Nat) : Int)) 0 3 ((13 : Nat) : Int)) 0 4 ((14 : Nat) : Int)
theorem bM_hi {mu : Mem} {a : Nat} (h : 10 ≤ a) : bM mu a = mu a := by
  unfold bM
  rw [wr_ne (by omega), wr_ne (by omega), wr_ne (by omega), wr_ne (by omega), wr_ne (by omega), wr_ne (by omega), wr_ne (by omega), wr_ne (by omega), wr_ne (by omega), wr_ne (by omega), wr_ne (by omega), wr_ne (by omega), wr_ne (by omega), wr_ne (by omega)]
theorem isF_i {i : Nat} (h : i < 10) : isF (15 + 4 * i) := ⟨i, h, rfl⟩
theorem dz_f {f : Nat} (hF : isF f) (j : Nat) : dz f j = if ftag 1 j = 2 then -1 else 0 := by
  unfold dz
  rw [hF.s0.1]
  rfl
theorem dz_a {f : Nat} (hF : isF f) (j a : Nat) (h1 : f < a) (h2 : a ≤ f + 3) : dz a j = 0 := by
  unfold dz
  rcases show a = f + 1 ∨ a = f + 2 ∨ a = f + 3 by omega with rfl | rfl | rfl
  · rw [hF.sh1]; rfl
  · rw [hF.sh2]; rfl
  · rw [hF.sh3]; rfl
theorem t_X5_init {mu : Mem} (h0 : ∀ a j, 1 ≤ a → a ≤ 54 → mu a j = dz a j) : TrW 2 mX5_init [vr 0] 1 55 54 2694 mu (fun r m2 => r = none ∧ m2 = wr (fanI (wr (fanI (lpF (bM mu) 8) 47) 0 5 ((47 : Nat) : Int)) 51) 0 6 ((51 : Nat) : Int)) := by
  refine TrW.of (by decide +kernel) (Nat.le_of_ble_eq_true rfl) rfl (fun Kt C E hz hrm hKN hNW => ?_)
  have hz := hz (by decide)
  have hNC : NC = 77 := rfl
  refine aw_aload_n C dX5_init_0 rfl ?_
  refine aw_objInit C dX5_init_1 oi_X5 oi_i oi_c (by decide) (by decide) ?_
  refine aw_aload_n C dX5_init_4 rfl ?_
  refine aw_new C hz dX5_init_5 clsX3 cl_X3 ia_X3 iz_X3 rfl (fun b j hj => (df_X3 j hj b).trans (by (repeat rw [wr_ne (by decide)]); rw [h0 _ j (by decide) (by decide)]; rfl)) ⟨Nat.le_trans (Nat.le_of_ble_eq_true rfl) hrm.1, Nat.le_trans (Nat.le_of_ble_eq_true rfl) hrm.2⟩ (fun h => absurd h (by decide)) ?_
  have C := C.up (w2 := (2, 1, 15)) ⟨Nat.le_trans (Nat.le_of_ble_eq_true rfl) hrm.1, Nat.le_trans (Nat.le_of_ble_eq_true rfl) hrm.2⟩
  have hz : KZ Kt (2, 1, 15) := by unfold KZ at hz ⊢; dsimp only at hz ⊢; omega
  show AW Kt mX5_init (2, 1, 15) 8 _ [vr 1, vr 0] _
  refine aw_dup_a C dX5_init_8 ?_
  refine aw_callIN C hz (M2 := mX3_init) dX5_init_9 rfl hNW.1 ii_X3 iz_X3 vX3_init rfl rfl (t_X3_init (fun a j h1 h2 => by rw [h0 a j (by omega) (by omega)]; rcases (show a = 2 ∨ a = 3 ∨ a = 4 ∨ a = 5 ∨ a = 6 ∨ a = 7 by omega) with rfl | rfl | rfl | rfl | rfl | rfl <;> rfl)) ⟨by decide, by decide⟩ (by decide) ⟨Nat.le_trans (Nat.le_of_ble_eq_true rfl) hrm.1, Nat.le_trans (Nat.le_of_ble_eq_true rfl) hrm.2⟩ (fun r m hq => ?_)
  obtain ⟨rfl, rfl⟩ := hq
  have C := C.up (w2 := (8, 7, 629)) ⟨Nat.le_trans (Nat.le_of_ble_eq_true rfl) hrm.1, Nat.le_trans (Nat.le_of_ble_eq_true rfl) hrm.2⟩
  have hz : KZ Kt (8, 7, 629) := by unfold KZ at hz ⊢; dsimp only at hz ⊢; omega
  show AW Kt mX5_init (8, 7, 629) 12 _ [vr 1, vr 0] _
  refine aw_putF C hKN dX5_init_12 fX5_12 ⟨rfl, by decide⟩ rfl rfl rfl (fun _ => rfl) (fun _ => rfl) (by decide) ?_
  refine aw_aload_n C dX5_init_15 rfl ?_
  refine aw_new C hz dX5_init_16 clsX0 cl_X0 ia_X0 iz_X0 rfl (fun b j hj => (df_X0 j hj b).trans (by (repeat rw [wr_ne (by decide)]); rw [h0 _ j (by decide) (by decide)]; rfl)) ⟨Nat.le_trans (Nat.le_of_ble_eq_true rfl) hrm.1, Nat.le_trans (Nat.le_of_ble_eq_true rfl) hrm.2⟩ (fun h => absurd h (by decide)) ?_
  have C := C.up (w2 := (9, 8, 632)) ⟨Nat.le_trans (Nat.le_of_ble_eq_true rfl) hrm.1, Nat.le_trans (Nat.le_of_ble_eq_true rfl) hrm.2⟩
  have hz : KZ Kt (9, 8, 632) := by unfold KZ at hz ⊢; dsimp only at hz ⊢; omega
  show AW Kt mX5_init (9, 8, 632) 19 _ [vr 8, vr 0] _
  refine aw_dup_a C dX5_init_19 ?_
  refine aw_callIN C hz (M2 := mX0_init) dX5_init_20 rfl hNW.2.1 ii_X0 iz_X0 vX0_init rfl rfl (t_X0_init) ⟨by decide, by decide⟩ (by decide) ⟨Nat.le_trans (Nat.le_of_ble_eq_true rfl) hrm.1, Nat.le_trans (Nat.le_of_ble_eq_true rfl) hrm.2⟩ (fun r m hq => ?_)
  obtain ⟨rfl, rfl⟩ := hq
  have C := C.up (w2 := (9, 8, 632)) ⟨Nat.le_trans (Nat.le_of_ble_eq_true rfl) hrm.1, Nat.le_trans (Nat.le_of_ble_eq_true rfl) hrm.2⟩
  have hz : KZ Kt (9, 8, 632) := by unfold KZ at hz ⊢; dsimp only at hz ⊢; omega
  show AW Kt mX5_init (9, 8, 632) 23 _ [vr 8, vr 0] _
  refine aw_putF C hKN dX5_init_23 fX5_21 ⟨rfl, by decide⟩ rfl rfl rfl (fun _ => rfl) (fun _ => rfl) (by decide) ?_
  refine aw_aload_n C dX5_init_26 rfl ?_
  refine aw_new C hz dX5_init_27 clsX2 cl_X2 ia_X2 iz_X2 rfl (fun b j hj => (df_X2 j hj b).trans (by (repeat rw [wr_ne (by decide)]); rw [h0 _ j (by decide) (by decide)]; rfl)) ⟨Nat.le_trans (Nat.le_of_ble_eq_true rfl) hrm.1, Nat.le_trans (Nat.le_of_ble_eq_true rfl) hrm.2⟩ (fun h => absurd h (by decide)) ?_
  have C := C.up (w2 := (10, 9, 638)) ⟨Nat.le_trans (Nat.le_of_ble_eq_true rfl) hrm.1, Nat.le_trans (Nat.le_of_ble_eq_true rfl) hrm.2⟩
  have hz : KZ Kt (10, 9, 638) := by unfold KZ at hz ⊢; dsimp only at hz ⊢; omega
  show AW Kt mX5_init (10, 9, 638) 30 _ [vr 9, vr 0] _
  refine aw_dup_a C dX5_init_30 ?_
  refine aw_callIN C hz (M2 := mX2_init) dX5_init_31 rfl hNW.2.2.1 ii_X2 iz_X2 vX2_init rfl rfl (t_X2_init (fun a j h1 h2 => by (repeat rw [wr_ne (by omega)]); rw [h0 a j (by omega) (by omega)]; rcases (show a = 10 ∨ a = 11 ∨ a = 12 by omega) with rfl | rfl | rfl <;> rfl)) ⟨by decide, by decide⟩ (by decide) ⟨Nat.le_trans (Nat.le_of_ble_eq_true rfl) hrm.1, Nat.le_trans (Nat.le_of_ble_eq_true rfl) hrm.2⟩ (fun r m hq => ?_)
  obtain ⟨rfl, rfl⟩ := hq
  have C := C.up (w2 := (13, 12, 710)) ⟨Nat.le_trans (Nat.le_of_ble_eq_true rfl) hrm.1, Nat.le_trans (Nat.le_of_ble_eq_true rfl) hrm.2⟩
  have hz : KZ Kt (13, 12, 710) := by unfold KZ at hz ⊢; dsimp only at hz ⊢; omega
  show AW Kt mX5_init (13, 12, 710) 34 _ [vr 9, vr 0] _
  refine aw_putF C hKN dX5_init_34 fX5_28 ⟨rfl, by decide⟩ rfl rfl rfl (fun _ => rfl) (fun _ => rfl) (by decide) ?_
  refine aw_aload_n C dX5_init_37 rfl ?_
  refine aw_bipush C dX5_init_38 rfl ?_
  refine aw_newI C hz dX5_init_40 arc_int (N := 6) rfl (by decide) (fun j => by (repeat rw [wr_ne (by decide)]); rw [h0 _ j (by decide) (by decide)]; rfl) ⟨Nat.le_trans (Nat.le_of_ble_eq_true rfl) hrm.1, Nat.le_trans (Nat.le_of_ble_eq_true rfl) hrm.2⟩ (fun h => absurd h (by decide)) ?_
  have C := C.up (w2 := (14, 13, 716)) ⟨Nat.le_trans (Nat.le_of_ble_eq_true rfl) hrm.1, Nat.le_trans (Nat.le_of_ble_eq_true rfl) hrm.2⟩
  have hz : KZ Kt (14, 13, 716) := by unfold KZ at hz ⊢; dsimp only at hz ⊢; omega
  show AW Kt mX5_init (14, 13, 716) 42 _ [vr 13, vr 0] _
  refine aw_putF C hKN dX5_init_42 fX5_34 ⟨rfl, by decide⟩ rfl rfl rfl (fun _ => rfl) (fun _ => rfl) (by decide) ?_
  refine aw_aload_n C dX5_init_45 rfl ?_
  refine aw_bipush C dX5_init_46 rfl ?_
  refine aw_newQ C hz dX5_init_48 cl_X1 hNW.2.2.2.2 rfl (fun j => by (repeat rw [wr_ne (by decide)]); rw [h0 _ j (by decide) (by decide)]; rfl) ⟨Nat.le_trans (Nat.le_of_ble_eq_true rfl) hrm.1, Nat.le_trans (Nat.le_of_ble_eq_true rfl) hrm.2⟩ (fun h => absurd h (by decide)) ?_
  have C := C.up (w2 := (15, 14, 724)) ⟨Nat.le_trans (Nat.le_of_ble_eq_true rfl) hrm.1, Nat.le_trans (Nat.le_of_ble_eq_true rfl) hrm.2⟩
  have hz : KZ Kt (15, 14, 724) := by unfold KZ at hz ⊢; dsimp only at hz ⊢; omega
  show AW Kt mX5_init (15, 14, 724) 51 _ [vr 14, vr 0] _
  refine aw_putF C hKN dX5_init_51 fX5_38 ⟨rfl, by decide⟩ rfl rfl rfl (fun _ => rfl) (fun _ => rfl) (by decide) ?_
  refine aw_iconst C dX5_init_54 ?_
  refine aw_istore_n C dX5_init_55 (by decide) ?_
  show AW Kt mX5_init (15, 14, 724) 56 [vr 0, vi 0] [] (bM mu)
  have hz15 := hz
  have C15 := C
  have b04 : ∀ i, lpF (bM mu) i 0 4 = ((14 : Nat) : Int) := fun i => by
    unfold lpF bM
    rw [if_neg (by omega), if_neg (by omega), wr_at, if_pos ⟨rfl, rfl⟩]
  have fin : AW Kt mX5_init (47, 46, 2300) 84 [vr 0, vi 8] [] (lpF (bM mu) 8) := by
    have hh : ∀ a j, 47 ≤ a → a ≤ 54 → lpF (bM mu) 8 a j = dz a j := fun a j h1 h2 => by rw [lpF_hi (by omega), bM_hi (by omega)]; exact h0 a j (by omega) h2
    have C := C15.up (w2 := (47, 46, 2300)) ⟨Nat.le_trans (Nat.le_of_ble_eq_true rfl) hrm.1, Nat.le_trans (Nat.le_of_ble_eq_true rfl) hrm.2⟩
    have hz : KZ Kt (47, 46, 2300) := by unfold KZ at hz15 ⊢; dsimp only at hz15 ⊢; omega
    have hF : isF 47 := ⟨8, by decide, rfl⟩
    have hF2 : isF 51 := ⟨9, by decide, rfl⟩
    refine aw_aload_n C dX5_init_84 rfl ?_
    refine aw_new C hz dX5_init_85 clsX1 cl_X1 ia_X1 iz_X1 rfl (fun b j hj => (df_X1 j hj b).trans (by rw [hh _ j (by decide) (by decide)]; rfl)) ⟨Nat.le_trans (Nat.le_of_ble_eq_true rfl) hrm.1, Nat.le_trans (Nat.le_of_ble_eq_true rfl) hrm.2⟩ (fun h => absurd h (by decide)) ?_
    have C := C.up (w2 := (48, 47, 2305)) ⟨Nat.le_trans (Nat.le_of_ble_eq_true rfl) hrm.1, Nat.le_trans (Nat.le_of_ble_eq_true rfl) hrm.2⟩
    have hz : KZ Kt (48, 47, 2305) := by unfold KZ at hz ⊢; dsimp only at hz ⊢; omega
    show AW Kt mX5_init (48, 47, 2305) 88 _ [vr 47, vr 0] _
    refine aw_dup_a C dX5_init_88 ?_
    refine aw_callIN C hz (M2 := mX1_init) dX5_init_89 rfl hNW.2.2.2.1 ii_X1 iz_X1 vX1_init rfl rfl (t_X1_init hF (fun a j h1 h2 => by rw [hh a j (by omega) (by omega)]; exact dz_a hF j a h1 h2)) ⟨by decide, by decide⟩ (by decide) ⟨Nat.le_trans (Nat.le_of_ble_eq_true rfl) hrm.1, Nat.le_trans (Nat.le_of_ble_eq_true rfl) hrm.2⟩ (fun r m hq => ?_)
    obtain ⟨rfl, rfl⟩ := hq
    have C := C.up (w2 := (51, 50, 2497)) ⟨Nat.le_trans (Nat.le_of_ble_eq_true rfl) hrm.1, Nat.le_trans (Nat.le_of_ble_eq_true rfl) hrm.2⟩
    have hz : KZ Kt (51, 50, 2497) := by unfold KZ at hz ⊢; dsimp only at hz ⊢; omega
    show AW Kt mX5_init (51, 50, 2497) 92 _ [vr 47, vr 0] (fanI (lpF (bM mu) 8) 47)
    refine aw_putR C dX5_init_92 fX5_43 ⟨rfl, by decide⟩ rfl rfl (fun _ => rfl) (fun _ => rfl) (by decide) ?_
    have hh2 : ∀ a j, 51 ≤ a → a ≤ 54 → wr (fanI (lpF (bM mu) 8) 47) 0 5 ((47 : Nat) : Int) a j = dz a j := fun a j h1 h2 => by rw [wr_ne (by omega), fanI_ne (by omega)]; exact hh a j (by omega) h2
    refine aw_aload_n C dX5_init_95 rfl ?_
    refine aw_new C hz dX5_init_96 clsX1 cl_X1 ia_X1 iz_X1 rfl (fun b j hj => (df_X1 j hj b).trans (by rw [hh2 _ j (by decide) (by decide)]; rfl)) ⟨Nat.le_trans (Nat.le_of_ble_eq_true rfl) hrm.1, Nat.le_trans (Nat.le_of_ble_eq_true rfl) hrm.2⟩ (fun h => absurd h (by decide)) ?_
    have C := C.up (w2 := (52, 51, 2502)) ⟨Nat.le_trans (Nat.le_of_ble_eq_true rfl) hrm.1, Nat.le_trans (Nat.le_of_ble_eq_true rfl) hrm.2⟩
    have hz : KZ Kt (52, 51, 2502) := by unfold KZ at hz ⊢; dsimp only at hz ⊢; omega
    show AW Kt mX5_init (52, 51, 2502) 99 _ [vr 51, vr 0] _
    refine aw_dup_a C dX5_init_99 ?_
    refine aw_callIN C hz (M2 := mX1_init) dX5_init_100 rfl hNW.2.2.2.1 ii_X1 iz_X1 vX1_init rfl rfl (t_X1_init hF2 (fun a j h1 h2 => by rw [hh2 a j (by omega) (by omega)]; exact dz_a hF2 j a h1 h2)) ⟨by decide, by decide⟩ (by decide) ⟨Nat.le_trans (Nat.le_of_ble_eq_true rfl) hrm.1, Nat.le_trans (Nat.le_of_ble_eq_true rfl) hrm.2⟩ (fun r m hq => ?_)
    obtain ⟨rfl, rfl⟩ := hq
    have C := C.up (w2 := (55, 54, 2694)) ⟨Nat.le_trans (Nat.le_of_ble_eq_true rfl) hrm.1, Nat.le_trans (Nat.le_of_ble_eq_true rfl) hrm.2⟩
    show AW Kt mX5_init (55, 54, 2694) 103 _ [vr 51, vr 0] (fanI (wr (fanI (lpF (bM mu) 8) 47) 0 5 ((47 : Nat) : Int)) 51)
    refine aw_putR C dX5_init_103 fX5_47 ⟨rfl, by decide⟩ rfl rfl (fun _ => rfl) (fun _ => rfl) (by decide) ?_
    exact aw_vret C E dX5_init_106 rfl ⟨rfl, rfl⟩
  have loop : ∀ (q i : Nat), i + q = 8 → AW Kt mX5_init (15 + 4 * i, 14 + 4 * i, 724 + 197 * i) 56 [vr 0, vi (i : Int)] [] (lpF (bM mu) i) := by
    intro q
    induction q with
    | zero =>
      intro i q1
      obtain rfl : i = 8 := by omega
      have C := C15.up (w2 := (47, 46, 2300)) ⟨Nat.le_trans (Nat.le_of_ble_eq_true rfl) hrm.1, Nat.le_trans (Nat.le_of_ble_eq_true rfl) hrm.2⟩
      show AW Kt mX5_init (47, 46, 2300) 56 [vr 0, vi 8] [] _
      refine aw_iload_n C dX5_init_56 rfl ?_
      refine aw_aload_n C dX5_init_57 rfl ?_
      refine aw_getR C dX5_init_58 fX5_38 ⟨rfl, by decide⟩ rfl (b04 8) ?_
      refine aw_alen C dX5_init_61 (t := 13) (len := 8) ⟨rfl, by decide⟩ (by decide) ?_
      refine aw_icmp_ge C dX5_init_62 (tgt := 84) (by decide) ⟨by decide, by decide⟩ ⟨by decide, by decide⟩ (fun _ => fin) (fun c => absurd c (by decide))
    | succ q ih =>
      intro i q1
      have hF : isF (15 + 4 * i) := ⟨i, by omega, rfl⟩
      have hh : ∀ a j, 15 + 4 * i ≤ a → a ≤ 54 → lpF (bM mu) i a j = dz a j := fun a j h1 h2 => by rw [lpF_hi (by omega), bM_hi (by omega)]; exact h0 a j (by omega) h2
      have C := C15.up (w2 := (15 + 4 * i, 14 + 4 * i, 724 + 197 * i)) ⟨Nat.le_trans (by first | omega | (dsimp only; omega)) hrm.1, Nat.le_trans (by first | omega | (dsimp only; omega)) hrm.2⟩
      have hz : KZ Kt (15 + 4 * i, 14 + 4 * i, 724 + 197 * i) := by unfold KZ at hz15 ⊢; dsimp only at hz15 ⊢; omega
      refine aw_iload_n C dX5_init_56 rfl ?_
      refine aw_aload_n C dX5_init_57 rfl ?_
      refine aw_getR C dX5_init_58 fX5_38 ⟨rfl, by first | omega | (dsimp only; omega)⟩ rfl (b04 i) ?_
      refine aw_alen C dX5_init_61 (t := 13) (len := 8) ⟨rfl, by first | omega | (dsimp only; omega)⟩ (by decide) ?_
      refine aw_icmp_ge C dX5_init_62 (tgt := 84) (by decide) ⟨by omega, by omega⟩ ⟨by decide, by decide⟩ (fun c => by exfalso; omega) (fun _ => ?_)
      refine aw_aload_n C dX5_init_65 rfl ?_
      refine aw_getR C dX5_init_66 fX5_38 ⟨rfl, by first | omega | (dsimp only; omega)⟩ rfl (b04 i) ?_
      refine aw_iload_n C dX5_init_69 rfl ?_
      refine aw_new C hz dX5_init_70 clsX1 cl_X1 ia_X1 iz_X1 hF.s0.1 (fun b j hj => (df_X1 j hj b).trans (by rw [hh _ j (Nat.le_refl _) (by first | omega | (dsimp only; omega)), dz_f hF])) ⟨Nat.le_trans (by first | omega | (dsimp only; omega)) hrm.1, Nat.le_trans (by first | omega | (dsimp only; omega)) hrm.2⟩ (fun h => absurd h (by first | omega | (dsimp only; omega))) ?_
      have C := C.up (w2 := (15 + 4 * i + 1, 14 + 4 * i + 1, 724 + 197 * i + 5)) ⟨Nat.le_trans (by first | omega | (dsimp only; omega)) hrm.1, Nat.le_trans (by first | omega | (dsimp only; omega)) hrm.2⟩
      have hz : KZ Kt (15 + 4 * i + 1, 14 + 4 * i + 1, 724 + 197 * i + 5) := by unfold KZ at hz ⊢; dsimp only at hz ⊢; omega
      show AW Kt mX5_init (15 + 4 * i + 1, 14 + 4 * i + 1, 724 + 197 * i + 5) 73 _ [vr (15 + 4 * i), vi (i : Int), vr 14] _
      refine aw_dup_a C dX5_init_73 ?_
      refine aw_callIN C hz (M2 := mX1_init) dX5_init_74 rfl hNW.2.2.2.1 ii_X1 iz_X1 vX1_init rfl rfl (t_X1_init hF (fun a j h1 h2 => by rw [hh a j (by omega) (by omega)]; exact dz_a hF j a h1 h2)) ⟨by decide, by decide⟩ (by show (1 : Nat) + (1 + (1 + 0)) ≤ 8; decide) ⟨Nat.le_trans (by first | omega | (dsimp only; omega)) hrm.1, Nat.le_trans (by first | omega | (dsimp only; omega)) hrm.2⟩ (fun r m hq => ?_)
      obtain ⟨rfl, rfl⟩ := hq
      have C := C.up (w2 := (15 + 4 * i + 4, 14 + 4 * i + 1 + 3, 724 + 197 * i + 5 + 192)) ⟨Nat.le_trans (by first | omega | (dsimp only; omega)) hrm.1, Nat.le_trans (by first | omega | (dsimp only; omega)) hrm.2⟩
      show AW Kt mX5_init (15 + 4 * i + 4, 14 + 4 * i + 1 + 3, 724 + 197 * i + 5 + 192) 77 _ [vr (15 + 4 * i), vi (i : Int), vr 14] (fanI (lpF (bM mu) i) (15 + 4 * i))
      refine aw_aastN C dX5_init_77 (by first | omega | (dsimp only; omega)) hF (by first | omega | (dsimp only; omega)) (by first | omega | (dsimp only; omega)) (by omega) (by omega) ?_
      rw [show (i : Int).toNat = i by omega, lpF_s]
      refine aw_iinc C dX5_init_78 rfl ?_
      refine aw_goto C dX5_init_81 (tgt := 56) (by decide) ?_
      have ew : ((15 + 4 * i + 4, 14 + 4 * i + 1 + 3, 724 + 197 * i + 5 + 192) : Nat × Nat × Nat) = (15 + 4 * (i + 1), 14 + 4 * (i + 1), 724 + 197 * (i + 1)) := by
        rw [show 15 + 4 * i + 4 = 15 + 4 * (i + 1) by omega, show 14 + 4 * i + 1 + 3 = 14 + 4 * (i + 1) by omega, show 724 + 197 * i + 5 + 192 = 724 + 197 * (i + 1) by omega]
      rw [ew]
      exact ih (i + 1) (by omega)
  have := loop 8 0 rfl
  rw [lpF_0] at this
  exact this

abbrev PV : Type := Int × (Nat → Int) × (Nat → Int) × (Nat → Int)
def pv (mu : Mem) : PV := (mu 9 3, mu 10, mu 11, mu 12)
def pX (P : PV) (i : Int) : Int := P.2.1 i.toNat
def pY (P : PV) (i : Int) : Int := P.2.2.1 i.toNat
def pR (P : PV) (i : Int) : Int := P.2.2.2 i.toNat
def ptop (P : PV) (i m : Int) : Int := pR P i + m * pX P i
def pfl (P : PV) (i j s : Int) : Int := (pX P j * pY P i - pX P i * pY P j) * s
def pdf (P : PV) (i j s m : Int) : Int := (ptop P i m * pY P j - ptop P j m * pY P i) * s
def plt (P : PV) (i j s m : Int) : Prop := pdf P i j s m < 0 ∨ (pdf P i j s m = 0 ∧ 0 < pfl P i j s)
def pgp (P : PV) (i l s : Int) : Int := (pR P i * pY P l - pR P l * pY P i) * s
def pln (P : PV) (s i : Int) : Prop := 0 ≤ i ∧ i < P.1 ∧ 0 < pY P i * s
def bP (P : PV) : Prop := (0 ≤ P.1 ∧ P.1 ≤ 24) ∧ ∀ i : Int, 0 ≤ i → i < P.1 → (-60 ≤ pX P i ∧ pX P i ≤ 60) ∧ (-60 ≤ pY P i ∧ pY P i ≤ 60) ∧ (-8001 ≤ pR P i ∧ pR P i ≤ 8001)
def mOk (m : Int) : Prop := -20000000 ≤ m ∧ m ≤ 20000000
def sOk (s : Int) : Prop := s = 1 ∨ s = -1
theorem bP.top {P : PV} (h : bP P) {i m : Int} (h0 : 0 ≤ i) (h1 : i < P.1) (hm : mOk m) : -1200008001 ≤ ptop P i m ∧ ptop P i m ≤ 1200008001 := by
  obtain ⟨a, b, c⟩ := h.2 i h0 h1
  have := mulb (a := m) (b := pX P i) (A := 20000000) (B := 60) hm a
  unfold ptop; omega
theorem bP.fl {P : PV} (h : bP P) {i j s : Int} (h0 : 0 ≤ i) (h1 : i < P.1) (h2 : 0 ≤ j) (h3 : j < P.1) (hs : sOk s) : -7200 ≤ pfl P i j s ∧ pfl P i j s ≤ 7200 := by
  obtain ⟨a, b, c⟩ := h.2 i h0 h1
  obtain ⟨a', b', c'⟩ := h.2 j h2 h3
  have m1 := mulb a' b
  have m2 := mulb a b'
  unfold pfl
  rcases hs with rfl | rfl <;> omega
theorem bP.gp {P : PV} (h : bP P) {i j s : Int} (h0 : 0 ≤ i) (h1 : i < P.1) (h2 : 0 ≤ j) (h3 : j < P.1) (hs : sOk s) : -960120 ≤ pgp P i j s ∧ pgp P i j s ≤ 960120 := by
  obtain ⟨a, b, c⟩ := h.2 i h0 h1
  obtain ⟨a', b', c'⟩ := h.2 j h2 h3
  have m1 := mulb c b'
  have m2 := mulb c' b
  unfold pgp
  rcases hs with rfl | rfl <;> omega
theorem pdf_gap {P : PV} {i l s m : Int} : pdf P l i s m = m * pfl P i l s - pgp P i l s := by
  unfold pdf pfl pgp ptop
  simp only [Int.mul_add, Int.add_mul, Int.sub_mul, Int.mul_sub, Int.mul_assoc, Int.mul_comm, Int.mul_left_comm]
  omega
/-! fractions with denominators above 0 -/
theorem fr_le {a b c x y z : Int} (ha : 0 < a) (hb : 0 < b) (hc : 0 < c) (h1 : x * b ≤ y * a) (h2 : y * c ≤ z * b) : x * c ≤ z * a := by
  have e1 : (x * b) * c ≤ (y * a) * c := Int.mul_le_mul_of_nonneg_right h1 (by omega)
  have e2 : (y * c) * a ≤ (z * b) * a := Int.mul_le_mul_of_nonneg_right h2 (by omega)
  have e3 : b * (x * c) ≤ b * (z * a) := by
    have q1 : b * (x * c) = (x * b) * c := by simp only [Int.mul_assoc, Int.mul_comm, Int.mul_left_comm]
    have q2 : b * (z * a) = (z * b) * a := by simp only [Int.mul_assoc, Int.mul_comm, Int.mul_left_comm]
    have q3 : (y * a) * c = (y * c) * a := by simp only [Int.mul_assoc, Int.mul_comm, Int.mul_left_comm]
    omega
  exact Int.le_of_mul_le_mul_left e3 hb
theorem fr_lt {a b c x y z : Int} (ha : 0 < a) (hb : 0 < b) (hc : 0 < c) (h1 : x * b < y * a) (h2 : y * c ≤ z * b) : x * c < z * a := by
  have e1 : (x * b) * c < (y * a) * c := Int.mul_lt_mul_of_pos_right h1 hc
  have e2 : (y * c) * a ≤ (z * b) * a := Int.mul_le_mul_of_nonneg_right h2 (by omega)
  have e3 : b * (x * c) < b * (z * a) := by
    have q1 : b * (x * c) = (x * b) * c := by simp only [Int.mul_assoc, Int.mul_comm, Int.mul_left_comm]
    have q2 : b * (z * a) = (z * b) * a := by simp only [Int.mul_assoc, Int.mul_comm, Int.mul_left_comm]
    have q3 : (y * a) * c = (y * c) * a := by simp only [Int.mul_assoc, Int.mul_comm, Int.mul_left_comm]
    omega
  exact Int.lt_of_mul_lt_mul_left e3 (by omega)
theorem fr_lt' {a b c x y z : Int} (ha : 0 < a) (hb : 0 < b) (hc : 0 < c) (h1 : x * b ≤ y * a) (h2 : y * c < z * b) : x * c < z * a := by
  have e1 : (x * b) * c ≤ (y * a) * c := Int.mul_le_mul_of_nonneg_right h1 (by omega)
  have e2 : (y * c) * a < (z * b) * a := Int.mul_lt_mul_of_pos_right h2 ha
  have e3 : b * (x * c) < b * (z * a) := by
    have q1 : b * (x * c) = (x * b) * c := by simp only [Int.mul_assoc, Int.mul_comm, Int.mul_left_comm]
    have q2 : b * (z * a) = (z * b) * a := by simp only [Int.mul_assoc, Int.mul_comm, Int.mul_left_comm]
    have q3 : (y * a) * c = (y * c) * a := by simp only [Int.mul_assoc, Int.mul_comm, Int.mul_left_comm]
    omega
  exact Int.lt_of_mul_lt_mul_left e3 (by omega)
theorem fr_floor {a b x y : Int} (ha : 0 < a) (hb : 0 < b) (h : x * b ≤ y * a) : x / a ≤ y / b := by
  apply Int.le_ediv_of_mul_le hb
  have h1 := Int.ediv_mul_le x (show a ≠ 0 by omega)
  have h2 : (x / a * a) * b ≤ x * b := Int.mul_le_mul_of_nonneg_right h1 (by omega)
  have h3 : a * (x / a * b) ≤ a * y := by
    have q1 : a * (x / a * b) = (x / a * a) * b := by simp only [Int.mul_assoc, Int.mul_comm, Int.mul_left_comm]
    have q2 : a * y = y * a := Int.mul_comm _ _
    omega
  exact Int.le_of_mul_le_mul_left h3 ha
theorem pdf_iff {P : PV} {i j s m : Int} : pdf P i j s m = ptop P i m * (pY P j * s) - ptop P j m * (pY P i * s) := by
  unfold pdf; rw [Int.sub_mul, Int.mul_assoc, Int.mul_assoc]
theorem pfl_iff {P : PV} {i j s : Int} : pfl P i j s = pX P j * (pY P i * s) - pX P i * (pY P j * s) := by
  unfold pfl; rw [Int.sub_mul, Int.mul_assoc, Int.mul_assoc]
theorem plt_trans {P : PV} {i j k s m : Int} (hi : pln P s i) (hj : pln P s j) (hk : pln P s k) (h1 : plt P i j s m) (h2 : plt P j k s m) : plt P i k s m := by
  obtain ⟨-, -, ai⟩ := hi
  obtain ⟨-, -, aj⟩ := hj
  obtain ⟨-, -, ak⟩ := hk
  unfold plt at *
  rw [pdf_iff, pfl_iff] at *
  rcases h1 with h1 | ⟨h1, g1⟩
  · rcases h2 with h2 | ⟨h2, g2⟩
    · left; have := fr_lt ai aj ak (x := ptop P i m) (y := ptop P j m) (z := ptop P k m) (by omega) (by omega); omega
    · left; have := fr_lt ai aj ak (x := ptop P i m) (y := ptop P j m) (z := ptop P k m) (by omega) (by omega); omega
  · rcases h2 with h2 | ⟨h2, g2⟩
    · left; have := fr_lt' ai aj ak (x := ptop P i m) (y := ptop P j m) (z := ptop P k m) (by omega) (by omega); omega
    · right
      have q1 := fr_le ai aj ak (x := ptop P i m) (y := ptop P j m) (z := ptop P k m) (by omega) (by omega)
      have q2 := fr_le ak aj ai (x := ptop P k m) (y := ptop P j m) (z := ptop P i m) (by omega) (by omega)
      have q3 := fr_lt ai aj ak (x := pX P i) (y := pX P j) (z := pX P k) (by omega) (by omega)
      omega
/-- l is a line of a side that leaves least at m -/
def lst (P : PV) (s l m : Int) : Prop := pln P s l ∧ ∀ j, pln P s j → ¬ plt P j l s m
theorem lst.le {P : PV} {s l m : Int} (h : lst P s l m) {j : Int} (hj : pln P s j) : ptop P l m * (pY P j * s) ≤ ptop P j m * (pY P l * s) := by
  have h1 := h.2 j hj
  unfold plt at h1
  rw [pdf_iff] at h1
  omega
theorem t_X2_topOf {mu : Mem} {i m : Int} (hP : bP (pv mu)) (h0 : 0 ≤ i) (h1 : i < mu 9 3) : TrE 0 mX2_topOf [vr 9, vi i, vl m] mu (some (vl (ptop (pv mu) i m))) mu := by
  refine Tr.of (by decide +kernel) (Nat.le_of_ble_eq_true rfl) (fun K C E => ?_)
  have hn : 0 ≤ mu 9 3 ∧ mu 9 3 ≤ 24 := hP.1
  obtain ⟨a, b, c⟩ := hP.2 i h0 h1
  have a : -60 ≤ mu 10 i.toNat ∧ mu 10 i.toNat ≤ 60 := a
  refine aw_iload_n C dX2_topOf_0 rfl ?_
  refine aw_if_lt C dX2_topOf_1 (tgt := 29) (by decide) ⟨by omega, by omega⟩ (fun c1 => ?_) (fun c1 => ?_)
  · exfalso; omega
  · refine aw_iload_n C dX2_topOf_4 rfl ?_
    refine aw_bipush C dX2_topOf_5 rfl ?_
    refine aw_icmp_ge C dX2_topOf_7 (tgt := 29) (by decide) ⟨by omega, by omega⟩ ⟨by omega, by omega⟩ (fun c2 => ?_) (fun c2 => ?_)
    · exfalso; omega
    · refine aw_aload_n C dX2_topOf_10 rfl ?_
      refine aw_getS C dX2_topOf_11 fX2_20 ⟨rfl, by decide⟩ rfl rfl (srf 9 2 12 (by decide)) ?_
      refine aw_iload_n C dX2_topOf_14 rfl ?_
      refine aw_lald C dX2_topOf_15 ⟨rfl, by decide⟩ (by decide) (by omega) (by omega) ?_
      refine aw_lload_n C dX2_topOf_16 rfl ?_
      refine aw_aload_n C dX2_topOf_17 rfl ?_
      refine aw_getS C dX2_topOf_18 fX2_11 ⟨rfl, by decide⟩ rfl rfl (srf 9 0 10 (by decide)) ?_
      refine aw_iload_n C dX2_topOf_21 rfl ?_
      refine aw_iald C dX2_topOf_22 ⟨rfl, by decide⟩ (by decide) (by omega) (by omega) ?_
      refine aw_i2l C dX2_topOf_23 ⟨by omega, by omega⟩ ?_
      refine aw_lmul C dX2_topOf_24 ?_
      refine aw_ladd C dX2_topOf_25 ?_
      refine aw_goto C dX2_topOf_26 (tgt := 30) (by decide) ?_
      exact aw_lret C E dX2_topOf_30 rfl ⟨rfl, rfl⟩
theorem t_X2_fall {mu : Mem} {i j s : Int} (hP : bP (pv mu)) (h0 : 0 ≤ i) (h1 : i < mu 9 3) (h2 : 0 ≤ j) (h3 : j < mu 9 3) (hs : sOk s) : TrE 0 mX2_fall [vr 9, vi i, vi j, vi s] mu (some (vl (pfl (pv mu) i j s))) mu := by
  refine Tr.of (by decide +kernel) (Nat.le_of_ble_eq_true rfl) (fun K C E => ?_)
  have hn : 0 ≤ mu 9 3 ∧ mu 9 3 ≤ 24 := hP.1
  have a1 : -60 ≤ mu 10 i.toNat ∧ mu 10 i.toNat ≤ 60 := (hP.2 i h0 h1).1
  have a2 : -60 ≤ mu 10 j.toNat ∧ mu 10 j.toNat ≤ 60 := (hP.2 j h2 h3).1
  have b1 : -60 ≤ mu 11 i.toNat ∧ mu 11 i.toNat ≤ 60 := (hP.2 i h0 h1).2.1
  have b2 : -60 ≤ mu 11 j.toNat ∧ mu 11 j.toNat ≤ 60 := (hP.2 j h2 h3).2.1
  have hs2 : s = 1 ∨ s = -1 := hs
  refine aw_iload_n C dX2_fall_0 rfl ?_
  refine aw_if_lt C dX2_fall_1 (tgt := 20) (by decide) ⟨by omega, by omega⟩ (fun c1 => ?_) (fun c1 => ?_)
  · exfalso; omega
  · refine aw_iload_n C dX2_fall_4 rfl ?_
    refine aw_if_lt C dX2_fall_5 (tgt := 20) (by decide) ⟨by omega, by omega⟩ (fun c2 => ?_) (fun c2 => ?_)
    · exfalso; omega
    · refine aw_iload_n C dX2_fall_8 rfl ?_
      refine aw_bipush C dX2_fall_9 rfl ?_
      refine aw_icmp_ge C dX2_fall_11 (tgt := 20) (by decide) ⟨by omega, by omega⟩ ⟨by omega, by omega⟩ (fun c3 => ?_) (fun c3 => ?_)
      · exfalso; omega
      · refine aw_iload_n C dX2_fall_14 rfl ?_
        refine aw_bipush C dX2_fall_15 rfl ?_
        refine aw_icmp_lt C dX2_fall_17 (tgt := 22) (by decide) ⟨by omega, by omega⟩ ⟨by omega, by omega⟩ (fun c4 => ?_) (fun c4 => ?_)
        · refine aw_aload_n C dX2_fall_22 rfl ?_
          refine aw_getS C dX2_fall_23 fX2_11 ⟨rfl, by decide⟩ rfl rfl (srf 9 0 10 (by decide)) ?_
          refine aw_iload_n C dX2_fall_26 rfl ?_
          refine aw_iald C dX2_fall_27 ⟨rfl, by decide⟩ (by decide) (by omega) (by omega) ?_
          refine aw_i2l C dX2_fall_28 ⟨by omega, by omega⟩ ?_
          refine aw_aload_n C dX2_fall_29 rfl ?_
          refine aw_getS C dX2_fall_30 fX2_17 ⟨rfl, by decide⟩ rfl rfl (srf 9 1 11 (by decide)) ?_
          refine aw_iload_n C dX2_fall_33 rfl ?_
          refine aw_iald C dX2_fall_34 ⟨rfl, by decide⟩ (by decide) (by omega) (by omega) ?_
          refine aw_i2l C dX2_fall_35 ⟨by omega, by omega⟩ ?_
          refine aw_lmul C dX2_fall_36 ?_
          refine aw_aload_n C dX2_fall_37 rfl ?_
          refine aw_getS C dX2_fall_38 fX2_11 ⟨rfl, by decide⟩ rfl rfl (srf 9 0 10 (by decide)) ?_
          refine aw_iload_n C dX2_fall_41 rfl ?_
          refine aw_iald C dX2_fall_42 ⟨rfl, by decide⟩ (by decide) (by omega) (by omega) ?_
          refine aw_i2l C dX2_fall_43 ⟨by omega, by omega⟩ ?_
          refine aw_aload_n C dX2_fall_44 rfl ?_
          refine aw_getS C dX2_fall_45 fX2_17 ⟨rfl, by decide⟩ rfl rfl (srf 9 1 11 (by decide)) ?_
          refine aw_iload_n C dX2_fall_48 rfl ?_
          refine aw_iald C dX2_fall_49 ⟨rfl, by decide⟩ (by decide) (by omega) (by omega) ?_
          refine aw_i2l C dX2_fall_50 ⟨by omega, by omega⟩ ?_
          refine aw_lmul C dX2_fall_51 ?_
          refine aw_lsub C dX2_fall_52 ?_
          refine aw_iload_n C dX2_fall_53 rfl ?_
          refine aw_i2l C dX2_fall_54 ⟨by omega, by omega⟩ ?_
          refine aw_lmul C dX2_fall_55 ?_
          exact aw_lret C E dX2_fall_56 rfl ⟨rfl, rfl⟩
        · exfalso; omega
theorem t_X2_isLess {mu : Mem} {i j s m : Int} (hP : bP (pv mu)) (h0 : 0 ≤ i) (h1 : i < mu 9 3) (h2 : 0 ≤ j) (h3 : j < mu 9 3) (hs : sOk s) (hm : mOk m) : TrE 1 mX2_isLess [vr 9, vi i, vi j, vi s, vl m] mu (some (vi (b01 (plt (pv mu) i j s m)))) mu := by
  refine Tr.of (by decide +kernel) (Nat.le_of_ble_eq_true rfl) (fun K C E => ?_)
  have hn : 0 ≤ mu 9 3 ∧ mu 9 3 ≤ 24 := hP.1
  have b1 : -60 ≤ mu 11 i.toNat ∧ mu 11 i.toNat ≤ 60 := (hP.2 i h0 h1).2.1
  have b2 : -60 ≤ mu 11 j.toNat ∧ mu 11 j.toNat ≤ 60 := (hP.2 j h2 h3).2.1
  have t1 := hP.top h0 h1 hm
  have t2 := hP.top h2 h3 hm
  have hs2 : s = 1 ∨ s = -1 := hs
  have hf := hP.fl h0 h1 h2 h3 hs
  have m1 := mulb t1 b2
  have m2 := mulb t2 b1
  have hd : -150000000000 ≤ pdf (pv mu) i j s m ∧ pdf (pv mu) i j s m ≤ 150000000000 := by
    have e : pdf (pv mu) i j s m = (ptop (pv mu) i m * mu 11 j.toNat - ptop (pv mu) j m * mu 11 i.toNat) * s := rfl
    rcases hs2 with rfl | rfl <;> omega
  have e : (ptop (pv mu) i m * mu 11 j.toNat - ptop (pv mu) j m * mu 11 i.toNat) * s = pdf (pv mu) i j s m := rfl
  refine aw_iload_n C dX2_isLess_0 rfl ?_
  refine aw_if_lt C dX2_isLess_1 (tgt := 20) (by decide) ⟨by omega, by omega⟩ (fun c1 => ?_) (fun c1 => ?_)
  · exfalso; omega
  · refine aw_iload_n C dX2_isLess_4 rfl ?_
    refine aw_if_lt C dX2_isLess_5 (tgt := 20) (by decide) ⟨by omega, by omega⟩ (fun c2 => ?_) (fun c2 => ?_)
    · exfalso; omega
    · refine aw_iload_n C dX2_isLess_8 rfl ?_
      refine aw_bipush C dX2_isLess_9 rfl ?_
      refine aw_icmp_ge C dX2_isLess_11 (tgt := 20) (by decide) ⟨by omega, by omega⟩ ⟨by omega, by omega⟩ (fun c3 => ?_) (fun c3 => ?_)
      · exfalso; omega
      · refine aw_iload_n C dX2_isLess_14 rfl ?_
        refine aw_bipush C dX2_isLess_15 rfl ?_
        refine aw_icmp_lt C dX2_isLess_17 (tgt := 22) (by decide) ⟨by omega, by omega⟩ ⟨by omega, by omega⟩ (fun c4 => ?_) (fun c4 => ?_)
        · refine aw_aload_n C dX2_isLess_22 rfl ?_
          refine aw_iload_n C dX2_isLess_23 rfl ?_
          refine aw_lload C dX2_isLess_24 rfl ?_
          refine aw_call1 C dX2_isLess_26 lX2_69 vX2_topOf (t_X2_topOf hP (by omega) (by omega)) rfl rfl rfl ⟨rfl, by decide⟩ rfl ⟨by decide, by decide⟩ (Nat.le_of_ble_eq_true rfl) ?_
          refine aw_aload_n C dX2_isLess_29 rfl ?_
          refine aw_getS C dX2_isLess_30 fX2_17 ⟨rfl, by decide⟩ rfl rfl (srf 9 1 11 (by decide)) ?_
          refine aw_iload_n C dX2_isLess_33 rfl ?_
          refine aw_iald C dX2_isLess_34 ⟨rfl, by decide⟩ (by decide) (by omega) (by omega) ?_
          refine aw_i2l C dX2_isLess_35 ⟨by omega, by omega⟩ ?_
          refine aw_lmul C dX2_isLess_36 ?_
          refine aw_aload_n C dX2_isLess_37 rfl ?_
          refine aw_iload_n C dX2_isLess_38 rfl ?_
          refine aw_lload C dX2_isLess_39 rfl ?_
          refine aw_call1 C dX2_isLess_41 lX2_69 vX2_topOf (t_X2_topOf hP (by omega) (by omega)) rfl rfl rfl ⟨rfl, by decide⟩ rfl ⟨by decide, by decide⟩ (Nat.le_of_ble_eq_true rfl) ?_
          refine aw_aload_n C dX2_isLess_44 rfl ?_
          refine aw_getS C dX2_isLess_45 fX2_17 ⟨rfl, by decide⟩ rfl rfl (srf 9 1 11 (by decide)) ?_
          refine aw_iload_n C dX2_isLess_48 rfl ?_
          refine aw_iald C dX2_isLess_49 ⟨rfl, by decide⟩ (by decide) (by omega) (by omega) ?_
          refine aw_i2l C dX2_isLess_50 ⟨by omega, by omega⟩ ?_
          refine aw_lmul C dX2_isLess_51 ?_
          refine aw_lsub C dX2_isLess_52 ?_
          refine aw_iload_n C dX2_isLess_53 rfl ?_
          refine aw_i2l C dX2_isLess_54 ⟨by omega, by omega⟩ ?_
          refine aw_lmul C dX2_isLess_55 ?_
          rw [e]
          refine aw_lstore C dX2_isLess_56 (by decide) ?_
          refine aw_lload C dX2_isLess_58 rfl ?_
          refine aw_lconst C dX2_isLess_60 (v := 0) rfl ?_
          refine aw_lcmp_lt C dX2_isLess_61 dX2_isLess_62 (tgt := 84) (by decide) ⟨by omega, by omega⟩ ⟨by omega, by omega⟩ (fun c5 => ?_) (fun c5 => ?_)
          · have hr : b01 (plt (pv mu) i j s m) = 1 := b01_t (Or.inl c5)
            --go
            refine aw_iconst C dX2_isLess_84 ?_
            refine aw_goto C dX2_isLess_85 (tgt := 89) (by decide) ?_
            exact aw_zret C E dX2_isLess_89 rfl (by omega) ⟨by rw [hr], rfl⟩
          · refine aw_lload C dX2_isLess_65 rfl ?_
            refine aw_lconst C dX2_isLess_67 (v := 0) rfl ?_
            refine aw_lcmp_ne C dX2_isLess_68 dX2_isLess_69 (tgt := 88) (by decide) ⟨by omega, by omega⟩ ⟨by omega, by omega⟩ (fun c6 => ?_) (fun c6 => ?_)
            · have hr : b01 (plt (pv mu) i j s m) = 0 := b01_f (fun q => by rcases q with q | q; omega; have := q.1; omega)
              --go
              refine aw_iconst C dX2_isLess_88 ?_
              exact aw_zret C E dX2_isLess_89 rfl (by omega) ⟨by rw [hr], rfl⟩
            · refine aw_aload_n C dX2_isLess_72 rfl ?_
              refine aw_iload_n C dX2_isLess_73 rfl ?_
              refine aw_iload_n C dX2_isLess_74 rfl ?_
              refine aw_iload_n C dX2_isLess_75 rfl ?_
              refine aw_call1 C dX2_isLess_76 lX2_108 vX2_fall (t_X2_fall hP (by omega) (by omega) (by omega) (by omega) hs) rfl rfl rfl ⟨rfl, by decide⟩ rfl ⟨by decide, by decide⟩ (Nat.le_of_ble_eq_true rfl) ?_
              refine aw_lconst C dX2_isLess_79 (v := 0) rfl ?_
              refine aw_lcmp_le C dX2_isLess_80 dX2_isLess_81 (tgt := 88) (by decide) ⟨by omega, by omega⟩ ⟨by omega, by omega⟩ (fun c7 => ?_) (fun c7 => ?_)
              · have hr : b01 (plt (pv mu) i j s m) = 0 := b01_f (fun q => by rcases q with q | q; omega; have := q.2; omega)
                --go
                refine aw_iconst C dX2_isLess_88 ?_
                exact aw_zret C E dX2_isLess_89 rfl (by omega) ⟨by rw [hr], rfl⟩
              · have hr : b01 (plt (pv mu) i j s m) = 1 := b01_t (Or.inr ⟨c6, by omega⟩)
                --go
                refine aw_iconst C dX2_isLess_84 ?_
                refine aw_goto C dX2_isLess_85 (tgt := 89) (by decide) ?_
                exact aw_zret C E dX2_isLess_89 rfl (by omega) ⟨by rw [hr], rfl⟩
        · exfalso; omega
theorem t_X2_leastLine {mu : Mem} {s m : Int} (hP : bP (pv mu)) (hs : sOk s) (hm : mOk m) : Tr 2 mX2_leastLine [vr 9, vi s, vl m] mu (fun r m2 => ∃ l, r = some (vi l) ∧ mu = m2 ∧ ((l = -1 ∧ ∀ j, ¬ pln (pv mu) s j) ∨ lst (pv mu) s l m)) := by
  refine Tr.of (by decide +kernel) (Nat.le_of_ble_eq_true rfl) (fun K C E => ?_)
  have hn : 0 ≤ mu 9 3 ∧ mu 9 3 ≤ 24 := hP.1
  have hs2 : s = 1 ∨ s = -1 := hs
  have loop : ∀ (k : Nat) (i l : Int), 0 ≤ i → i + k = mu 9 3 → ((l = -1 ∧ ∀ j, pln (pv mu) s j → i ≤ j) ∨ (pln (pv mu) s l ∧ l < i ∧ ∀ j, pln (pv mu) s j → j < i → ¬ plt (pv mu) j l s m)) → AW K mX2_leastLine (NC, 0, 0) 6 [vr 9, vi s, vl m, vx, vi l, vi i] [] mu := by
    intro k
    induction k with
    | zero =>
      intro i l q0 q1 q2
      refine aw_iload C dX2_leastLine_6 rfl ?_
      refine aw_aload_n C dX2_leastLine_8 rfl ?_
      refine aw_getI C dX2_leastLine_9 fX2_34 ⟨rfl, by decide⟩ rfl ?_
      refine aw_icmp_ge C dX2_leastLine_12 (tgt := 56) (by decide) ⟨by omega, by omega⟩ ⟨by omega, by omega⟩ (fun c1 => ?_) (fun c1 => ?_)
      · refine aw_iload C dX2_leastLine_56 rfl ?_
        exact aw_iret C E dX2_leastLine_58 rfl ⟨l, rfl, rfl, by
          rcases q2 with ⟨w1, w2⟩ | ⟨w1, w2, w3⟩
          · exact Or.inl ⟨w1, fun j hj => by have z1 := w2 j hj; have z2 : j < mu 9 3 := hj.2.1; omega⟩
          · exact Or.inr ⟨w1, fun j hj => w3 j hj (by have z2 : j < mu 9 3 := hj.2.1; omega)⟩⟩
      · exfalso; omega
    | succ k ih =>
      intro i l q0 q1 q2
      have b1 : -60 ≤ mu 11 i.toNat ∧ mu 11 i.toNat ≤ 60 := (hP.2 i q0 (show i < mu 9 3 by omega)).2.1
      have e : pln (pv mu) s i ↔ 0 < mu 11 i.toNat * s := ⟨fun q => q.2.2, fun q => ⟨q0, show i < mu 9 3 by omega, q⟩⟩
      have b3 : -60 ≤ mu 11 i.toNat * s ∧ mu 11 i.toNat * s ≤ 60 := by rcases hs2 with rfl | rfl <;> omega
      have hl : -1 ≤ l ∧ l < 24 := by
        rcases q2 with ⟨w1, w2⟩ | ⟨w1, w2, w3⟩
        · omega
        · have := w1.1; omega
      have hb := b01_01 (plt (pv mu) i l s m)
      have step : pln (pv mu) s i → ∀ l2, ((l = -1 ∨ plt (pv mu) i l s m) ∧ l2 = i) ∨ (l ≠ -1 ∧ ¬ plt (pv mu) i l s m ∧ l2 = l) → (pln (pv mu) s l2 ∧ l2 < i + 1 ∧ ∀ j, pln (pv mu) s j → j < i + 1 → ¬ plt (pv mu) j l2 s m) := by
        intro hi l2 h
        have irr : ¬ plt (pv mu) i i s m := by
          unfold plt pdf pfl
          have z1 : (ptop (pv mu) i m * pY (pv mu) i - ptop (pv mu) i m * pY (pv mu) i) * s = 0 := by rw [Int.sub_self, Int.zero_mul]
          have z2 : (pX (pv mu) i * pY (pv mu) i - pX (pv mu) i * pY (pv mu) i) * s = 0 := by rw [Int.sub_self, Int.zero_mul]
          rw [z1, z2]; omega
        rcases h with ⟨h, rfl⟩ | ⟨h1, h2, rfl⟩
        · refine ⟨hi, by omega, fun j hj hji => ?_⟩
          rcases Int.lt_or_eq_of_le (show j ≤ l2 by omega) with w | w
          · rcases q2 with ⟨w1, w2⟩ | ⟨w1, w2, w3⟩
            · have := w2 j hj; omega
            · rcases h with h | h
              · have := w1.1; omega
              · exact fun z => w3 j hj w (plt_trans hj hi w1 z h)
          · subst w; exact irr
        · rcases q2 with ⟨w1, w2⟩ | ⟨w1, w2, w3⟩
          · exact absurd w1 h1
          · refine ⟨w1, by omega, fun j hj hji => ?_⟩
            rcases Int.lt_or_eq_of_le (show j ≤ i by omega) with w | w
            · exact w3 j hj w
            · subst w; exact h2
      refine aw_iload C dX2_leastLine_6 rfl ?_
      refine aw_aload_n C dX2_leastLine_8 rfl ?_
      refine aw_getI C dX2_leastLine_9 fX2_34 ⟨rfl, by decide⟩ rfl ?_
      refine aw_icmp_ge C dX2_leastLine_12 (tgt := 56) (by decide) ⟨by omega, by omega⟩ ⟨by omega, by omega⟩ (fun c1 => ?_) (fun c1 => ?_)
      · exfalso; omega
      · refine aw_aload_n C dX2_leastLine_15 rfl ?_
        refine aw_getS C dX2_leastLine_16 fX2_17 ⟨rfl, by decide⟩ rfl rfl (srf 9 1 11 (by decide)) ?_
        refine aw_iload C dX2_leastLine_19 rfl ?_
        refine aw_iald C dX2_leastLine_21 ⟨rfl, by decide⟩ (by decide) (by omega) (by omega) ?_
        refine aw_iload_n C dX2_leastLine_22 rfl ?_
        refine aw_imul C dX2_leastLine_23 ?_
        refine aw_if_le C dX2_leastLine_24 (tgt := 50) (by decide) ⟨by omega, by omega⟩ (fun c2 => ?_) (fun c2 => ?_)
        · have nx : ((l = -1 ∧ ∀ j, pln (pv mu) s j → i + 1 ≤ j) ∨ (pln (pv mu) s l ∧ l < i + 1 ∧ ∀ j, pln (pv mu) s j → j < i + 1 → ¬ plt (pv mu) j l s m)) := by
            have hni : ¬ pln (pv mu) s i := fun q => by have := e.mp q; omega
            rcases q2 with ⟨w1, w2⟩ | ⟨w1, w2, w3⟩
            · refine Or.inl ⟨w1, fun j hj => ?_⟩
              have := w2 j hj
              rcases Int.lt_or_eq_of_le this with z | z
              · omega
              · subst z; exact absurd hj hni
            · refine Or.inr ⟨w1, by omega, fun j hj hji => ?_⟩
              rcases Int.lt_or_eq_of_le (show j ≤ i by omega) with w | w
              · exact w3 j hj w
              · subst w; exact absurd hj hni
          --go
          refine aw_iinc C dX2_leastLine_50 rfl ?_
          refine aw_goto C dX2_leastLine_53 (tgt := 6) (by decide) ?_
          exact ih (i + 1) _ (by omega) (by omega) nx
        · refine aw_iload C dX2_leastLine_27 rfl ?_
          refine aw_iconst C dX2_leastLine_29 ?_
          refine aw_icmp_eq C dX2_leastLine_30 (tgt := 46) (by decide) ⟨by omega, by omega⟩ ⟨by omega, by omega⟩ (fun c3 => ?_) (fun c3 => ?_)
          · have nx := Or.inr (a := (i = -1 ∧ ∀ j, pln (pv mu) s j → i + 1 ≤ j)) (step (e.mpr (by omega)) i (Or.inl ⟨Or.inl c3, rfl⟩))
            --go
            refine aw_iload C dX2_leastLine_46 rfl ?_
            refine aw_istore C dX2_leastLine_48 (by decide) ?_
            refine aw_iinc C dX2_leastLine_50 rfl ?_
            refine aw_goto C dX2_leastLine_53 (tgt := 6) (by decide) ?_
            exact ih (i + 1) _ (by omega) (by omega) nx
          · refine aw_aload_n C dX2_leastLine_33 rfl ?_
            refine aw_iload C dX2_leastLine_34 rfl ?_
            refine aw_iload C dX2_leastLine_36 rfl ?_
            refine aw_iload_n C dX2_leastLine_38 rfl ?_
            refine aw_lload_n C dX2_leastLine_39 rfl ?_
            refine aw_call1 C dX2_leastLine_40 lX2_104 vX2_isLess (t_X2_isLess hP q0 (by omega) (by omega) (by omega) hs hm) rfl rfl rfl ⟨rfl, by decide⟩ rfl ⟨by decide, by decide⟩ (Nat.le_of_ble_eq_true rfl) ?_
            refine aw_if_eq C dX2_leastLine_43 (tgt := 50) (by decide) ⟨by omega, by omega⟩ (fun c4 => ?_) (fun c4 => ?_)
            · have nx := Or.inr (a := (l = -1 ∧ ∀ j, pln (pv mu) s j → i + 1 ≤ j)) (step (e.mpr (by omega)) l (Or.inr ⟨c3, b01_niff.mp (by omega), rfl⟩))
              --go
              refine aw_iinc C dX2_leastLine_50 rfl ?_
              refine aw_goto C dX2_leastLine_53 (tgt := 6) (by decide) ?_
              exact ih (i + 1) _ (by omega) (by omega) nx
            · have nx := Or.inr (a := (i = -1 ∧ ∀ j, pln (pv mu) s j → i + 1 ≤ j)) (step (e.mpr (by omega)) i (Or.inl ⟨Or.inr (b01_iff.mp (by omega)), rfl⟩))
              --go
              refine aw_iload C dX2_leastLine_46 rfl ?_
              refine aw_istore C dX2_leastLine_48 (by decide) ?_
              refine aw_iinc C dX2_leastLine_50 rfl ?_
              refine aw_goto C dX2_leastLine_53 (tgt := 6) (by decide) ?_
              exact ih (i + 1) _ (by omega) (by omega) nx
  refine aw_iconst C dX2_leastLine_0 ?_
  refine aw_istore C dX2_leastLine_1 (by decide) ?_
  refine aw_iconst C dX2_leastLine_3 ?_
  refine aw_istore C dX2_leastLine_4 (by decide) ?_
  exact loop (mu 9 3).toNat 0 (-1) (by omega) (by omega) (Or.inl ⟨rfl, fun j hj => hj.1⟩)

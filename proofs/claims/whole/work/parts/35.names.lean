/-! letters of a name -/
def nlen : Nat → Nat → Nat
  | 0, _ => 0
  | k + 1, w => if w = 0 then 0 else nlen k (w / 32) + 1
theorem nlen_le : ∀ (k w : Nat), nlen k w ≤ k
  | 0, _ => Nat.le_refl _
  | k + 1, w => by
    have e : nlen (k + 1) w = if w = 0 then 0 else nlen k (w / 32) + 1 := rfl
    rw [e]
    have := nlen_le k (w / 32)
    split <;> omega
theorem ush5 {W i : Nat} (h : W < 2 ^ 30) (hi : i ≤ 6) : (((Int32.ofInt (W : Int)).toUInt32 >>> ((Int32.ofInt (5 * (i : Int))).toUInt32 &&& Int32.toUInt32 31)).toInt32).toInt = ((W / 32 ^ i : Nat) : Int) := by
  have e : Int32.ofInt ((W : Nat) : Int) = nI W := Int32.ofInt_eq_ofNat
  have hs : (((Int32.ofInt (5 * (i : Int))).toUInt32 &&& Int32.toUInt32 31).toBitVec % 32).toNat = 5 * i := by
    have : i = 0 ∨ i = 1 ∨ i = 2 ∨ i = 3 ∨ i = 4 ∨ i = 5 ∨ i = 6 := by omega
    rcases this with rfl | rfl | rfl | rfl | rfl | rfl | rfl <;> decide
  rw [e, pk_ushrN (by omega) _ _ hs, Nat.pow_mul, show (2 : Nat) ^ 5 = 32 by decide, nI_toInt (Nat.lt_of_le_of_lt (Nat.div_le_self _ _) (by omega))]
theorem t_X3_lengthOf {mu : Mem} {W : Nat} (h : W < 2 ^ 30) : TrE 0 mX3_lengthOf [vi (W : Int)] mu (some (vi (nlen 6 W : Nat))) mu := by
  refine Tr.of (by decide +kernel) (Nat.le_of_ble_eq_true rfl) (fun K C E => ?_)
  have loop : ∀ (k i : Nat), i + k = 6 → nlen 6 W = i + nlen k (W / 32 ^ i) → AW K mX3_lengthOf (NC, 0, 0) 2 [vi (W : Int), vi (i : Int)] [] mu := by
    intro k
    induction k with
    | zero =>
      intro i q1 q2
      have q2 : nlen 6 W = i := q2
      rw [q2] at E
      refine aw_iload_n C dX3_lengthOf_2 rfl ?_
      refine aw_bipush C dX3_lengthOf_3 rfl ?_
      refine aw_icmp_ge C dX3_lengthOf_5 (tgt := 22) (by decide) ⟨by omega, by omega⟩ ⟨by omega, by omega⟩ (fun c1 => ?_) (fun c1 => ?_)
      · refine aw_iload_n C dX3_lengthOf_22 rfl ?_
        exact aw_iret C E dX3_lengthOf_23 rfl ⟨rfl, rfl⟩
      · exfalso; omega
    | succ k ih =>
      intro i q1 q2
      have hu := ush5 (W := W) (i := i) h (by omega)
      have hlt : W / 32 ^ i ≤ W := Nat.div_le_self _ _
      have e : nlen (k + 1) (W / 32 ^ i) = if W / 32 ^ i = 0 then 0 else nlen k (W / 32 ^ i / 32) + 1 := rfl
      have e2 : W / 32 ^ (i + 1) = W / 32 ^ i / 32 := by rw [Nat.pow_succ, Nat.div_div_eq_div_mul]
      generalize W / 32 ^ i = z at *
      refine aw_iload_n C dX3_lengthOf_2 rfl ?_
      refine aw_bipush C dX3_lengthOf_3 rfl ?_
      refine aw_icmp_ge C dX3_lengthOf_5 (tgt := 22) (by decide) ⟨by omega, by omega⟩ ⟨by omega, by omega⟩ (fun c1 => ?_) (fun c1 => ?_)
      · exfalso; omega
      · refine aw_iload_n C dX3_lengthOf_8 rfl ?_
        refine aw_iconst C dX3_lengthOf_9 ?_
        refine aw_iload_n C dX3_lengthOf_10 rfl ?_
        refine aw_imul C dX3_lengthOf_11 ?_
        refine aw_iushr C dX3_lengthOf_12 ?_
        rw [hu]
        refine aw_if_eq C dX3_lengthOf_13 (tgt := 22) (by decide) ⟨by omega, by omega⟩ (fun c1 => ?_) (fun c1 => ?_)
        · have q2 : nlen 6 W = i := by rw [q2, e, if_pos (by omega)]; rfl
          rw [q2] at E
          --go
          refine aw_iload_n C dX3_lengthOf_22 rfl ?_
          exact aw_iret C E dX3_lengthOf_23 rfl ⟨rfl, rfl⟩
        · refine aw_iinc C dX3_lengthOf_16 rfl ?_
          refine aw_goto C dX3_lengthOf_19 (tgt := 2) (by decide) ?_
          exact ih (i + 1) (by omega) (by rw [q2, e, if_neg (by omega), e2]; omega)
  refine aw_iconst C dX3_lengthOf_0 ?_
  refine aw_istore_n C dX3_lengthOf_1 (by decide) ?_
  exact loop 6 0 rfl (by rw [Nat.pow_zero, Nat.div_one]; omega)
/-- a letter of a name, 0 to 25 -/
def letW (W k : Nat) : Int := ((W / 32 ^ (nlen 6 W - 1 - k) % 32 : Nat) : Int) - 1
theorem t_X3_letterOf {mu : Mem} {W k : Nat} (h : W < 2 ^ 30) (hk : k < nlen 6 W) : TrE 1 mX3_letterOf [vi (W : Int), vi (k : Int)] mu (some (vi (letW W k))) mu := by
  refine Tr.of (by decide +kernel) (Nat.le_of_ble_eq_true rfl) (fun K C E => ?_)
  have hl := nlen_le 6 W
  have hu := ush5 (W := W) (i := nlen 6 W - 1 - k) h (by omega)
  have hlt : W / 32 ^ (nlen 6 W - 1 - k) ≤ W := Nat.div_le_self _ _
  have hc : (((nlen 6 W - 1 - k : Nat) : Int)) = ((nlen 6 W : Nat) : Int) - 1 - (k : Int) := by omega
  rw [hc] at hu
  have ha : (Int32.ofInt ((W / 32 ^ (nlen 6 W - 1 - k) : Nat) : Int) &&& Int32.ofInt 31).toInt = ((W / 32 ^ (nlen 6 W - 1 - k) % 32 : Nat) : Int) := by
    have e : Int32.ofInt ((W / 32 ^ (nlen 6 W - 1 - k) : Nat) : Int) = nI (W / 32 ^ (nlen 6 W - 1 - k)) := Int32.ofInt_eq_ofNat
    rw [e, pk_andN (by omega) 5 (by decide), nI_toInt (by have := Nat.mod_lt (W / 32 ^ (nlen 6 W - 1 - k)) (show 0 < 2 ^ 5 by decide); omega), show (2 : Nat) ^ 5 = 32 by decide]
  have hm := Nat.mod_lt (W / 32 ^ (nlen 6 W - 1 - k)) (show 0 < 32 by decide)
  unfold letW at E
  refine aw_iload_n C dX3_letterOf_0 rfl ?_
  refine aw_iconst C dX3_letterOf_1 ?_
  refine aw_iload_n C dX3_letterOf_2 rfl ?_
  refine aw_callS1 C dX3_letterOf_3 lX3_33 vX3_lengthOf (t_X3_lengthOf h) rfl rfl rfl ⟨by decide, by decide⟩ (Nat.le_of_ble_eq_true rfl) ?_
  refine aw_iconst C dX3_letterOf_6 ?_
  refine aw_isub C dX3_letterOf_7 ?_
  refine aw_iload_n C dX3_letterOf_8 rfl ?_
  refine aw_isub C dX3_letterOf_9 ?_
  refine aw_imul C dX3_letterOf_10 ?_
  refine aw_iushr C dX3_letterOf_11 ?_
  rw [hu]
  refine aw_bipush C dX3_letterOf_12 rfl ?_
  refine aw_iand C dX3_letterOf_14 ?_
  rw [ha]
  refine aw_iconst C dX3_letterOf_15 ?_
  refine aw_isub C dX3_letterOf_16 ?_
  exact aw_iret C E dX3_letterOf_17 rfl ⟨rfl, rfl⟩

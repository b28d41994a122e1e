/-! bytes -/
def byt (x : Int) (k : Nat) : Int := x / 2 ^ k % 256
def sby (b : Int) : Int := if b < 128 then b else b - 256
theorem byt_in (x : Int) (k : Nat) : 0 ≤ byt x k ∧ byt x k < 256 := by unfold byt; omega
theorem sby_in {b : Int} (h : 0 ≤ b ∧ b < 256) : -128 ≤ sby b ∧ sby b ≤ 127 := by unfold sby; split <;> omega
theorem by_c {x : Int} {k : Nat} (hk : k = 0 ∨ k = 8 ∨ k = 16 ∨ k = 24) : (Int32.ofInt (((Int32.ofInt x).toUInt32 >>> ((Int32.ofInt (k : Int)).toUInt32 &&& Int32.toUInt32 31)).toInt32).toInt).toInt8.toInt32.toInt = sby (byt x k) := by
  rw [Int32.ofInt_toInt]
  have hU := pk_ushr (Int32.ofInt x) (Int32.ofInt (k : Int)) k (by rcases hk with rfl | rfl | rfl | rfl <;> decide)
  generalize ((Int32.ofInt x).toUInt32 >>> ((Int32.ofInt (k : Int)).toUInt32 &&& Int32.toUInt32 31)).toInt32 = U at *
  rw [Int8.toInt_toInt32, Int32.toInt_toInt8]
  have e : U.toInt = ((U.toBitVec.toNat : Nat) : Int).bmod (2 ^ 32) := by rw [← Int32.toInt_toBitVec, BitVec.toInt_eq_toNat_bmod]
  have hN : (((Int32.ofInt x).toBitVec.toNat : Nat) : Int) = x % 4294967296 := by
    rw [Int32.toBitVec_ofInt, BitVec.toNat_ofInt]; omega
  rw [e, hU, Int.bmod_bmod_of_dvd (by decide), Int.bmod_def]
  generalize (Int32.ofInt x).toBitVec.toNat = N at *
  clear e hU
  unfold sby byt
  have key : ((N / 2 ^ k : Nat) : Int) % 256 = x / 2 ^ k % 256 := by
    rcases hk with rfl | rfl | rfl | rfl
    · rw [Nat.pow_zero, Int.pow_zero, Nat.div_one, Int.ediv_one]; omega
    · rw [show (2 : Nat) ^ 8 = 256 by decide, show (2 : Int) ^ 8 = 256 by decide]; omega
    · rw [show (2 : Nat) ^ 16 = 65536 by decide, show (2 : Int) ^ 16 = 65536 by decide]; omega
    · rw [show (2 : Nat) ^ 24 = 16777216 by decide, show (2 : Int) ^ 24 = 16777216 by decide]; omega
  rw [show ((2 ^ 8 : Nat) : Int) = 256 by decide, key]
  generalize x / 2 ^ k % 256 = z
  by_cases w : z < 128
  · rw [if_pos w, if_pos (by omega)]
  · rw [if_neg w, if_neg (by omega)]
/-- bytes put behind the tape's bytes -/
def apd (mu : Mem) (u x : Int) (j : Nat) : Mem := fun a b => if a = 1 ∧ b = 4 then u + j else if a = 6 ∧ u ≤ (b : Int) ∧ (b : Int) < u + j then sby (byt x (24 - 8 * ((b : Int) - u).toNat)) else mu a b
theorem apd_0 {mu : Mem} {u x : Int} (h : mu 1 4 = u) : apd mu u x 0 = mu := by
  funext a b
  unfold apd
  split
  · rename_i w; rw [w.1, w.2, h]; omega
  · rw [if_neg (by omega)]
theorem apd_s {mu : Mem} {u x : Int} {j : Nat} (h : 0 ≤ u) : wr (wr (apd mu u x j) 6 (u + j).toNat (sby (byt x (24 - 8 * j)))) 1 4 (u + j + 1) = apd mu u x (j + 1) := by
  funext a b
  rw [wr_at]
  unfold apd
  by_cases w : a = 1 ∧ b = 4
  · rw [if_pos w, if_pos w]; omega
  · rw [if_neg w, if_neg w, wr_at]
    by_cases w2 : a = 6 ∧ b = (u + j).toNat
    · rw [if_pos w2, if_pos ⟨w2.1, by omega, by omega⟩, show ((b : Int) - u).toNat = j by omega]
    · rw [if_neg w2, if_neg w]
      by_cases w3 : a = 6 ∧ u ≤ (b : Int) ∧ (b : Int) < u + j
      · rw [if_pos w3, if_pos ⟨w3.1, w3.2.1, by omega⟩]
      · rw [if_neg w3, if_neg (by omega)]
theorem t_X3_append {mu : Mem} {u x : Int} (h : mu 1 4 = u) (h0 : 0 ≤ u) (h1 : u + 4 ≤ 500) (hx : R32 x) : TrE 0 mX3_append [vr 1, vi x] mu none (apd mu u x 4) := by
  refine Tr.of (by decide +kernel) (Nat.le_of_ble_eq_true rfl) (fun K C E => ?_)
  have loop : ∀ (k j : Nat), j + k = 4 → AW K mX3_append (NC, 0, 0) 3 [vr 1, vi x, vi (24 - 8 * (j : Int))] [] (apd mu u x j) := by
    intro k
    induction k with
    | zero =>
      intro j q
      obtain rfl : j = 4 := by omega
      refine aw_iload_n C dX3_append_3 rfl ?_
      refine aw_if_lt C dX3_append_4 (tgt := 48) (by decide) ⟨by omega, by omega⟩ (fun c1 => ?_) (fun c1 => ?_)
      · exact aw_vret C E dX3_append_48 rfl ⟨rfl, rfl⟩
      · exfalso; omega
    | succ k ih =>
      intro j q
      have u4 : apd mu u x j 1 4 = u + j := by unfold apd; rw [if_pos ⟨rfl, rfl⟩]
      have hs : ((24 - 8 * j : Nat) : Int) = 24 - 8 * (j : Int) := by omega
      have hb := by_c (x := x) (k := 24 - 8 * j) (by omega)
      rw [hs] at hb
      have hz : vp_nar .byte (Int32.ofInt (sby (byt x (24 - 8 * j)))) = Int32.ofInt (sby (byt x (24 - 8 * j))) := by
        rw [← hb, Int32.ofInt_toInt, pk_vb]
      refine aw_iload_n C dX3_append_3 rfl ?_
      refine aw_if_lt C dX3_append_4 (tgt := 48) (by decide) ⟨by omega, by omega⟩ (fun c1 => ?_) (fun c1 => ?_)
      · exfalso; omega
      · refine aw_aload_n C dX3_append_7 rfl ?_
        refine aw_getI C dX3_append_8 fX3_37 ⟨rfl, by decide⟩ rfl ?_
        rw [u4]
        refine aw_aload_n C dX3_append_11 rfl ?_
        refine aw_getS C dX3_append_12 fX3_26 ⟨rfl, by decide⟩ rfl rfl (srf 1 8 6 (by decide)) ?_
        refine aw_alen C dX3_append_15 ⟨rfl, by decide⟩ (by decide) ?_
        refine aw_icmp_ge C dX3_append_16 (tgt := 48) (by decide) ⟨by omega, by omega⟩ ⟨by omega, by omega⟩ (fun c2 => ?_) (fun c2 => ?_)
        · exfalso; omega
        · refine aw_aload_n C dX3_append_19 rfl ?_
          refine aw_getS C dX3_append_20 fX3_26 ⟨rfl, by decide⟩ rfl rfl (srf 1 8 6 (by decide)) ?_
          refine aw_aload_n C dX3_append_23 rfl ?_
          refine aw_getI C dX3_append_24 fX3_37 ⟨rfl, by decide⟩ rfl ?_
          rw [u4]
          refine aw_iload_n C dX3_append_27 rfl ?_
          refine aw_iload_n C dX3_append_28 rfl ?_
          refine aw_iushr C dX3_append_29 ?_
          refine aw_i2b C dX3_append_30 ?_
          rw [hb]
          refine aw_bast C dX3_append_31 ⟨rfl, by decide⟩ (by decide) (by omega) (by omega) hz ?_
          refine aw_aload_n C dX3_append_32 rfl ?_
          refine aw_dup_a C dX3_append_33 ?_
          refine aw_getI C dX3_append_34 fX3_37 ⟨rfl, by decide⟩ rfl ?_
          rw [wr_ne (show (1 : Nat) ≠ 6 by decide), u4]
          refine aw_iconst C dX3_append_37 ?_
          refine aw_iadd C dX3_append_38 ?_
          refine aw_putI C dX3_append_39 fX3_37 ⟨rfl, by decide⟩ rfl rfl rfl ?_
          rw [apd_s h0]
          refine aw_iinc C dX3_append_42 rfl ?_
          refine aw_goto C dX3_append_45 (tgt := 3) (by decide) ?_
          rw [show (24 - 8 * (j : Int) + (-8)) = 24 - 8 * ((j + 1 : Nat) : Int) by omega]
          exact ih (j + 1) (by omega)
  have := loop 4 0 rfl
  rw [apd_0 h] at this
  refine aw_bipush C dX3_append_0 rfl ?_
  refine aw_istore_n C dX3_append_2 (by decide) ?_
  exact this
theorem t_X3_hasRoom {mu : Mem} (h : 0 ≤ mu 1 4 ∧ mu 1 4 ≤ 500) : TrE 0 mX3_hasRoom [vr 1] mu (some (vi (b01 (mu 1 4 + 20 ≤ 500)))) mu := by
  refine Tr.of (by decide +kernel) (Nat.le_of_ble_eq_true rfl) (fun K C E => ?_)
  refine aw_aload_n C dX3_hasRoom_0 rfl ?_
  refine aw_getI C dX3_hasRoom_1 fX3_37 ⟨rfl, by decide⟩ rfl ?_
  refine aw_bipush C dX3_hasRoom_4 rfl ?_
  refine aw_iadd C dX3_hasRoom_6 ?_
  refine aw_sipush C dX3_hasRoom_7 rfl ?_
  refine aw_icmp_gt C dX3_hasRoom_10 (tgt := 17) (by decide) ⟨by omega, by omega⟩ ⟨by omega, by omega⟩ (fun c1 => ?_) (fun c1 => ?_)
  · rw [b01_f (by omega)] at E
    --go
    refine aw_iconst C dX3_hasRoom_17 ?_
    exact aw_zret C E dX3_hasRoom_18 rfl (by omega) ⟨rfl, rfl⟩
  · rw [b01_t (by omega)] at E
    --go
    refine aw_iconst C dX3_hasRoom_13 ?_
    refine aw_goto C dX3_hasRoom_14 (tgt := 18) (by decide) ?_
    exact aw_zret C E dX3_hasRoom_18 rfl (by omega) ⟨rfl, rfl⟩

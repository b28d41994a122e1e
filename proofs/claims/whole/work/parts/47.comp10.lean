/-! what is told, and the tape -/
theorem t_X5_fault {mu : Mem} : TrE 0 mX5_fault [vr 0] mu (some (vi (mu 0 9))) mu := by
  refine Tr.of (by decide +kernel) (Nat.le_of_ble_eq_true rfl) (fun K C E => ?_)
  refine aw_aload_n C dX5_fault_0 rfl ?_
  refine aw_getI C dX5_fault_1 fX5_69 ⟨rfl, by decide⟩ rfl ?_
  exact aw_iret C E dX5_fault_4 rfl ⟨rfl, rfl⟩
theorem t_X5_where {mu : Mem} (h : 0 ≤ mu 0 11 ∧ mu 0 11 ≤ 5) : TrE 0 mX5_where [vr 0] mu (some (vi (if mu 0 11 = 4 then mu 0 10 else -1))) mu := by
  refine Tr.of (by decide +kernel) (Nat.le_of_ble_eq_true rfl) (fun K C E => ?_)
  refine aw_aload_n C dX5_where_0 rfl ?_
  refine aw_getI C dX5_where_1 fX5_62 ⟨rfl, by decide⟩ rfl ?_
  refine aw_iconst C dX5_where_4 ?_
  refine aw_icmp_ne C dX5_where_5 (tgt := 15) (by decide) ⟨by omega, by omega⟩ ⟨by omega, by omega⟩ (fun c1 => ?_) (fun c1 => ?_)
  · rw [if_neg c1] at E
    --go
    refine aw_iconst C dX5_where_15 ?_
    exact aw_iret C E dX5_where_16 rfl ⟨rfl, rfl⟩
  · rw [if_pos c1] at E
    --go
    refine aw_aload_n C dX5_where_8 rfl ?_
    refine aw_getI C dX5_where_9 fX5_75 ⟨rfl, by decide⟩ rfl ?_
    refine aw_goto C dX5_where_12 (tgt := 16) (by decide) ?_
    exact aw_iret C E dX5_where_16 rfl ⟨rfl, rfl⟩
theorem t_X5_size {mu : Mem} : TrE 0 mX5_size [vr 0] mu (some (vi (mu 1 4))) mu := by
  refine Tr.of (by decide +kernel) (Nat.le_of_ble_eq_true rfl) (fun K C E => ?_)
  refine aw_aload_n C dX5_size_0 rfl ?_
  refine aw_getS C dX5_size_1 fX5_12 ⟨rfl, by decide⟩ rfl rfl (srf 0 0 1 (by decide)) ?_
  refine aw_getI C dX5_size_4 fX5_58 ⟨rfl, by decide⟩ rfl ?_
  exact aw_iret C E dX5_size_7 rfl ⟨rfl, rfl⟩
theorem t_X5_trouble {mu : Mem} : TrE 0 mX5_trouble [vr 0] mu (some (vi (mu 0 11))) mu := by
  refine Tr.of (by decide +kernel) (Nat.le_of_ble_eq_true rfl) (fun K C E => ?_)
  refine aw_aload_n C dX5_trouble_0 rfl ?_
  refine aw_getI C dX5_trouble_1 fX5_62 ⟨rfl, by decide⟩ rfl ?_
  exact aw_iret C E dX5_trouble_4 rfl ⟨rfl, rfl⟩
/-- twenty bytes put behind the tape's bytes -/
def wd5 (a b c d e : Int) (k : Nat) : Int := if k < 4 then a else if k < 8 then b else if k < 12 then c else if k < 16 then d else e
def apF (mu : Mem) (u a b c d e : Int) : Mem := fun x y => if x = 1 ∧ y = 4 then u + 20 else if x = 6 ∧ u ≤ (y : Int) ∧ (y : Int) < u + 20 then sby (byt (wd5 a b c d e ((y : Int) - u).toNat) (24 - 8 * (((y : Int) - u).toNat % 4))) else mu x y
theorem apd_4 (mu : Mem) (u x : Int) : apd mu u x 4 1 4 = u + 4 := by unfold apd; rw [if_pos ⟨rfl, rfl⟩]; rfl
theorem apF_eq {mu : Mem} {u a b c d e : Int} : apd (apd (apd (apd (apd mu u a 4) (u + 4) b 4) (u + 4 + 4) c 4) (u + 4 + 4 + 4) d 4) (u + 4 + 4 + 4 + 4) e 4 = apF mu u a b c d e := by
  funext x y
  unfold apd apF wd5
  by_cases h1 : x = 1 ∧ y = 4
  · rw [if_pos h1, if_pos h1]; omega
  · simp only [if_neg h1]
    by_cases h2 : x = 6 ∧ u ≤ (y : Int) ∧ (y : Int) < u + 20
    · rw [if_pos h2]
      obtain ⟨h3, h4, h5⟩ := h2
      by_cases w4 : ((y : Int) - u).toNat < 4
      · rw [if_neg (by omega), if_neg (by omega), if_neg (by omega), if_neg (by omega), if_pos (by omega), if_pos w4, show ((y : Int) - u).toNat % 4 = ((y : Int) - u).toNat by omega]
      · rw [if_neg w4]
        by_cases w8 : ((y : Int) - u).toNat < 8
        · rw [if_neg (by omega), if_neg (by omega), if_neg (by omega), if_pos (by omega), if_pos w8, show ((y : Int) - u).toNat % 4 = ((y : Int) - (u + 4)).toNat by omega]
        · rw [if_neg w8]
          by_cases w12 : ((y : Int) - u).toNat < 12
          · rw [if_neg (by omega), if_neg (by omega), if_pos (by omega), if_pos w12, show ((y : Int) - u).toNat % 4 = ((y : Int) - (u + 4 + 4)).toNat by omega]
          · rw [if_neg w12]
            by_cases w16 : ((y : Int) - u).toNat < 16
            · rw [if_neg (by omega), if_pos (by omega), if_pos w16, show ((y : Int) - u).toNat % 4 = ((y : Int) - (u + 4 + 4 + 4)).toNat by omega]
            · rw [if_neg w16, if_pos (by omega), show ((y : Int) - u).toNat % 4 = ((y : Int) - (u + 4 + 4 + 4 + 4)).toNat by omega]
    · rw [if_neg h2, if_neg (by omega), if_neg (by omega), if_neg (by omega), if_neg (by omega), if_neg (by omega)]
theorem t_X5_feed {mu : Mem} {u a b c d e : Int} (hu : mu 1 4 = u) (h0 : 0 ≤ u ∧ u ≤ 500) (ha : R32 a) (hb : R32 b) (hc : R32 c) (hd : R32 d) (he : R32 e) : TrE 1 mX5_feed [vr 0, vi a, vi b, vi c, vi d, vi e] mu (some (vi (if u + 20 ≤ 500 then u + 20 else -1))) (if u + 20 ≤ 500 then apF mu u a b c d e else mu) := by
  refine Tr.of (by decide +kernel) (Nat.le_of_ble_eq_true rfl) (fun K C E => ?_)
  have k1 := b01_01 (mu 1 4 + 20 ≤ 500)
  have k2 := @b01_iff (mu 1 4 + 20 ≤ 500)
  have k3 := @b01_niff (mu 1 4 + 20 ≤ 500)
  have e1 := apd_4 mu u a
  have e2 := apd_4 (apd mu u a 4) (u + 4) b
  have e3 := apd_4 (apd (apd mu u a 4) (u + 4) b 4) (u + 4 + 4) c
  have e4 := apd_4 (apd (apd (apd mu u a 4) (u + 4) b 4) (u + 4 + 4) c 4) (u + 4 + 4 + 4) d
  have e5 := apd_4 (apd (apd (apd (apd mu u a 4) (u + 4) b 4) (u + 4 + 4) c 4) (u + 4 + 4 + 4) d 4) (u + 4 + 4 + 4 + 4) e
  refine aw_aload_n C dX5_feed_0 rfl ?_
  refine aw_getS C dX5_feed_1 fX5_12 ⟨rfl, by decide⟩ rfl rfl (srf 0 0 1 (by decide)) ?_
  refine aw_call1 C dX5_feed_4 lX5_50 vX3_hasRoom (t_X3_hasRoom (by omega)) rfl rfl rfl ⟨rfl, by decide⟩ rfl ⟨by decide, by decide⟩ (Nat.le_of_ble_eq_true rfl) ?_
  refine aw_if_ne C dX5_feed_7 (tgt := 12) (by decide) ⟨by omega, by omega⟩ (fun c1 => ?_) (fun c1 => ?_)
  · refine aw_aload_n C dX5_feed_12 rfl ?_
    refine aw_getS C dX5_feed_13 fX5_12 ⟨rfl, by decide⟩ rfl rfl (srf 0 0 1 (by decide)) ?_
    refine aw_iload_n C dX5_feed_16 rfl ?_
    refine aw_call0 C dX5_feed_17 lX5_54 vX3_append (t_X3_append hu (by omega) (by have := k2.mp (by omega); omega) ha) rfl rfl rfl ⟨rfl, by decide⟩ rfl ⟨by decide, by decide⟩ (Nat.le_of_ble_eq_true rfl) ?_
    refine aw_aload_n C dX5_feed_20 rfl ?_
    refine aw_getS C dX5_feed_21 fX5_12 ⟨rfl, by decide⟩ rfl rfl (srf 0 0 1 (by decide)) ?_
    refine aw_iload_n C dX5_feed_24 rfl ?_
    refine aw_call0 C dX5_feed_25 lX5_54 vX3_append (t_X3_append e1 (by omega) (by have := k2.mp (by omega); omega) hb) rfl rfl rfl ⟨rfl, by decide⟩ rfl ⟨by decide, by decide⟩ (Nat.le_of_ble_eq_true rfl) ?_
    refine aw_aload_n C dX5_feed_28 rfl ?_
    refine aw_getS C dX5_feed_29 fX5_12 ⟨rfl, by decide⟩ rfl rfl (srf 0 0 1 (by decide)) ?_
    refine aw_iload_n C dX5_feed_32 rfl ?_
    refine aw_call0 C dX5_feed_33 lX5_54 vX3_append (t_X3_append e2 (by omega) (by have := k2.mp (by omega); omega) hc) rfl rfl rfl ⟨rfl, by decide⟩ rfl ⟨by decide, by decide⟩ (Nat.le_of_ble_eq_true rfl) ?_
    refine aw_aload_n C dX5_feed_36 rfl ?_
    refine aw_getS C dX5_feed_37 fX5_12 ⟨rfl, by decide⟩ rfl rfl (srf 0 0 1 (by decide)) ?_
    refine aw_iload C dX5_feed_40 rfl ?_
    refine aw_call0 C dX5_feed_42 lX5_54 vX3_append (t_X3_append e3 (by omega) (by have := k2.mp (by omega); omega) hd) rfl rfl rfl ⟨rfl, by decide⟩ rfl ⟨by decide, by decide⟩ (Nat.le_of_ble_eq_true rfl) ?_
    refine aw_aload_n C dX5_feed_45 rfl ?_
    refine aw_getS C dX5_feed_46 fX5_12 ⟨rfl, by decide⟩ rfl rfl (srf 0 0 1 (by decide)) ?_
    refine aw_iload C dX5_feed_49 rfl ?_
    refine aw_call0 C dX5_feed_51 lX5_54 vX3_append (t_X3_append e4 (by omega) (by have := k2.mp (by omega); omega) he) rfl rfl rfl ⟨rfl, by decide⟩ rfl ⟨by decide, by decide⟩ (Nat.le_of_ble_eq_true rfl) ?_
    refine aw_aload_n C dX5_feed_54 rfl ?_
    refine aw_getS C dX5_feed_55 fX5_12 ⟨rfl, by decide⟩ rfl rfl (srf 0 0 1 (by decide)) ?_
    refine aw_getI C dX5_feed_58 fX5_58 ⟨rfl, by decide⟩ rfl ?_
    exact aw_iret C E dX5_feed_61 rfl (by have := k2.mp (by omega); rw [if_pos (by omega), if_pos (by omega), e5, apF_eq]; exact ⟨by congr 2; omega, rfl⟩)
  · refine aw_iconst C dX5_feed_10 ?_
    exact aw_iret C E dX5_feed_11 rfl (by have := k3.mp (by omega); rw [if_neg (by omega), if_neg (by omega)]; exact ⟨rfl, rfl⟩)

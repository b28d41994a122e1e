/-! bytes, names and what the reference tells of itself -/
theorem by_s {x : Int} {k : Nat} (hk : k = 0 ∨ k = 8 ∨ k = 16 ∨ k = 24) (hx : R32 x) : (Int32.ofInt (Int32.ofInt x >>> (Int32.ofInt (k : Int) &&& 31)).toInt &&& Int32.ofInt 255).toInt = byt x k := by
  unfold R32 at hx
  rw [Int32.ofInt_toInt]
  have e2 : (Int32.ofInt ((k : Nat) : Int) &&& 31).toBitVec.smod 32 = BitVec.ofNat 32 k := by
    rcases hk with rfl | rfl | rfl | rfl <;> decide
  have e3 : (Int32.ofInt x >>> (Int32.ofInt (k : Int) &&& 31)).toBitVec = (Int32.ofInt x).toBitVec.sshiftRight (BitVec.ofNat 32 k).toNat := by
    show (Int32.ofInt x).toBitVec.sshiftRight' ((Int32.ofInt ((k : Nat) : Int) &&& 31).toBitVec.smod 32) = _
    rw [e2]
    rfl
  have e4 : (BitVec.ofNat 32 k).toNat = k := by
    rcases hk with rfl | rfl | rfl | rfl <;> decide
  have ex : (Int32.ofInt x).toBitVec.toInt = x := by
    rw [Int32.toInt_toBitVec, Int32.toInt_ofInt, Int.bmod_def, show ((Int32.size : Nat) : Int) = 4294967296 from rfl]
    split <;> omega
  have eu : (Int32.ofInt x >>> (Int32.ofInt (k : Int) &&& 31)).toBitVec.toInt = x / 2 ^ k := by
    rw [e3, e4, BitVec.toInt_sshiftRight, ex, Int.shiftRight_eq_div_pow]
    rcases hk with rfl | rfl | rfl | rfl <;> rfl
  generalize Int32.ofInt x >>> (Int32.ofInt (k : Int) &&& 31) = U at *
  have ea : (U &&& Int32.ofInt 255).toBitVec.toNat = U.toBitVec.toNat % 256 := by
    rw [Int32.toBitVec_and, BitVec.toNat_and, show (Int32.ofInt 255).toBitVec.toNat = 2 ^ 8 - 1 by decide, Nat.and_two_pow_sub_one_eq_mod]
  have ec := BitVec.toInt_eq_toNat_cond U.toBitVec
  have ed := BitVec.toInt_eq_toNat_cond (U &&& Int32.ofInt 255).toBitVec
  rw [ea] at ed
  rw [← Int32.toInt_toBitVec, ed]
  rw [eu] at ec
  unfold byt
  rw [ec]
  generalize U.toBitVec.toNat = N at *
  rw [if_pos (by omega)]
  split <;> omega
def mfd (mu : Mem) (u a b c d e : Int) (k : Nat) : Mem := fun x y => if x = 55 ∧ y = 0 then 0 else if x = 56 ∧ u ≤ (y : Int) ∧ (y : Int) < u + k then byt (wd5 a b c d e ((y : Int) - u).toNat) (24 - 8 * (((y : Int) - u).toNat % 4)) else mu x y
theorem mfd_s {mu : Mem} {u a b c d e : Int} {k : Nat} (h : 0 ≤ u) : wr (mfd mu u a b c d e k) 56 (u + k).toNat (byt (wd5 a b c d e k) (24 - 8 * (k % 4))) = mfd mu u a b c d e (k + 1) := by
  funext x y
  rw [wr_at]
  unfold mfd
  by_cases w : x = 55 ∧ y = 0
  · rw [if_pos w, if_pos w, if_neg (by omega)]
  · rw [if_neg w, if_neg w]
    by_cases w2 : x = 56 ∧ y = (u + k).toNat
    · rw [if_pos w2, if_pos ⟨w2.1, by omega, by omega⟩, show ((y : Int) - u).toNat = k by omega]
    · rw [if_neg w2]
      by_cases w3 : x = 56 ∧ u ≤ (y : Int) ∧ (y : Int) < u + k
      · rw [if_pos w3, if_pos ⟨w3.1, w3.2.1, by omega⟩]
      · rw [if_neg w3, if_neg (by omega)]
theorem wd5_R {a b c d e : Int} (ha : R32 a) (hb : R32 b) (hc : R32 c) (hd : R32 d) (he : R32 e) (k : Nat) : R32 (wd5 a b c d e k) := by
  unfold wd5
  split
  · exact ha
  · split
    · exact hb
    · split
      · exact hc
      · split
        · exact hd
        · exact he
theorem t_X6_feed {mu : Mem} {u a b c d e : Int} (hu : mu 55 4 = u) (h0 : 0 ≤ u ∧ u ≤ 500) (ha : R32 a) (hb : R32 b) (hc : R32 c) (hd : R32 d) (he : R32 e) : TrE 0 mX6_feed [vr 55, vi a, vi b, vi c, vi d, vi e] mu (some (vi (if u + 20 ≤ 500 then u + 20 else -1))) (if u + 20 ≤ 500 then wr (mfd mu u a b c d e 20) 55 4 (u + 20) else wr mu 55 0 0) := by
  refine Tr.of (by decide +kernel) (Nat.le_of_ble_eq_true rfl) (fun K C E => ?_)
  have hw := wd5_R ha hb hc hd he
  have k4 : wr mu 55 0 0 55 4 = u := by rw [wr_at, if_neg (by decide)]; exact hu
  have m4 : ∀ k, mfd mu u a b c d e k 55 4 = u := fun k => by unfold mfd; rw [if_neg (by decide), if_neg (by omega)]; exact hu
  have m0 : mfd mu u a b c d e 0 = wr mu 55 0 0 := by
    funext x y
    rw [wr_at]
    unfold mfd
    by_cases w : x = 55 ∧ y = 0
    · rw [if_pos w, if_pos w]
    · rw [if_neg w, if_neg w, if_neg (by omega)]
  have loop : u + 20 ≤ 500 → ∀ (q k : Nat) (v7 : Vv), k + q = 20 → AW K mX6_feed (NC, 0, 0) 23 [vr 55, vi a, vi b, vi c, vi d, vi e, vi (k : Int), v7] [] (mfd mu u a b c d e k) := by
    intro h5 q
    rw [if_pos h5, if_pos h5] at E
    induction q with
    | zero =>
      intro k v7 q1
      obtain rfl : k = 20 := by omega
      have m4' := m4 20
      refine aw_iload C dX6_feed_23 rfl ?_
      refine aw_bipush C dX6_feed_25 rfl ?_
      refine aw_icmp_ge C dX6_feed_27 (tgt := 113) (by decide) ⟨by omega, by omega⟩ ⟨by omega, by omega⟩ (fun c1 => ?_) (fun c1 => ?_)
      · refine aw_aload_n C dX6_feed_113 rfl ?_
        refine aw_dup_a C dX6_feed_114 ?_
        refine aw_getI C dX6_feed_115 fX6_89 ⟨rfl, by decide⟩ rfl ?_
        rw [m4]
        refine aw_bipush C dX6_feed_118 rfl ?_
        refine aw_iadd C dX6_feed_120 ?_
        refine aw_putI C dX6_feed_121 fX6_89 ⟨rfl, by decide⟩ rfl rfl rfl ?_
        refine aw_aload_n C dX6_feed_124 rfl ?_
        refine aw_getI C dX6_feed_125 fX6_89 ⟨rfl, by decide⟩ rfl ?_
        rw [show wr (mfd mu u a b c d e 20) 55 4 (u + 20) 55 4 = u + 20 by rw [wr_at, if_pos ⟨rfl, rfl⟩]]
        exact aw_iret C E dX6_feed_128 rfl ⟨rfl, rfl⟩
      · exfalso; omega
    | succ q ih =>
      intro k v7 q1
      have m4' := m4 k
      have hs : ((24 - 8 * (k % 4) : Nat) : Int) = 24 - 8 * ((k : Int).tmod 4) := by
        rw [Int.tmod_eq_emod_of_nonneg (by omega)]; omega
      have hb := by_s (x := wd5 a b c d e k) (k := 24 - 8 * (k % 4)) (by omega) (hw k)
      rw [hs] at hb
      have go : ∀ z : Int, z = wd5 a b c d e k → AW K mX6_feed (NC, 0, 0) 76 [vr 55, vi a, vi b, vi c, vi d, vi e, vi (k : Int), v7] [vi z] (mfd mu u a b c d e k) := by
        intro z hz
        subst hz
        refine aw_istore C dX6_feed_76 (by decide) ?_
        refine aw_aload_n C dX6_feed_78 rfl ?_
        refine aw_getS C dX6_feed_79 fX6_15 ⟨rfl, by decide⟩ rfl rfl (srf 55 3 56 (by decide)) ?_
        refine aw_aload_n C dX6_feed_82 rfl ?_
        refine aw_getI C dX6_feed_83 fX6_89 ⟨rfl, by decide⟩ rfl ?_
        rw [m4]
        refine aw_iload C dX6_feed_86 rfl ?_
        refine aw_iadd C dX6_feed_88 ?_
        refine aw_iload C dX6_feed_89 rfl ?_
        refine aw_bipush C dX6_feed_91 rfl ?_
        refine aw_bipush C dX6_feed_93 rfl ?_
        refine aw_iload C dX6_feed_95 rfl ?_
        refine aw_iconst C dX6_feed_97 ?_
        refine aw_irem C dX6_feed_98 ⟨by omega, by omega⟩ ⟨by omega, by omega⟩ (by omega) ?_
        refine aw_imul C dX6_feed_99 ?_
        refine aw_isub C dX6_feed_100 ?_
        refine aw_ishr C dX6_feed_101 ?_
        refine aw_sipush C dX6_feed_102 rfl ?_
        refine aw_iand C dX6_feed_105 ?_
        rw [hb]
        refine aw_iast C dX6_feed_106 ⟨rfl, by decide⟩ (by decide) (by omega) (by omega) ?_
        rw [mfd_s h0.1]
        refine aw_iinc C dX6_feed_107 rfl ?_
        refine aw_goto C dX6_feed_110 (tgt := 23) (by decide) ?_
        exact ih (k + 1) _ (by omega)
      have gw : wd5 a b c d e k = if k < 4 then a else if k < 8 then b else if k < 12 then c else if k < 16 then d else e := rfl
      refine aw_iload C dX6_feed_23 rfl ?_
      refine aw_bipush C dX6_feed_25 rfl ?_
      refine aw_icmp_ge C dX6_feed_27 (tgt := 113) (by decide) ⟨by omega, by omega⟩ ⟨by omega, by omega⟩ (fun c1 => ?_) (fun c1 => ?_)
      · exfalso; omega
      · refine aw_iload C dX6_feed_30 rfl ?_
        refine aw_iconst C dX6_feed_32 ?_
        refine aw_icmp_ge C dX6_feed_33 (tgt := 40) (by decide) ⟨by omega, by omega⟩ ⟨by omega, by omega⟩ (fun c2 => ?_) (fun c2 => ?_)
        · refine aw_iload C dX6_feed_40 rfl ?_
          refine aw_bipush C dX6_feed_42 rfl ?_
          refine aw_icmp_ge C dX6_feed_44 (tgt := 51) (by decide) ⟨by omega, by omega⟩ ⟨by omega, by omega⟩ (fun c3 => ?_) (fun c3 => ?_)
          · refine aw_iload C dX6_feed_51 rfl ?_
            refine aw_bipush C dX6_feed_53 rfl ?_
            refine aw_icmp_ge C dX6_feed_55 (tgt := 62) (by decide) ⟨by omega, by omega⟩ ⟨by omega, by omega⟩ (fun c4 => ?_) (fun c4 => ?_)
            · refine aw_iload C dX6_feed_62 rfl ?_
              refine aw_bipush C dX6_feed_64 rfl ?_
              refine aw_icmp_ge C dX6_feed_66 (tgt := 74) (by decide) ⟨by omega, by omega⟩ ⟨by omega, by omega⟩ (fun c5 => ?_) (fun c5 => ?_)
              · --go
                refine aw_iload C dX6_feed_74 rfl ?_
                exact go _ (by rw [gw, if_neg (by omega), if_neg (by omega), if_neg (by omega), if_neg (by omega)])
              · --go
                refine aw_iload C dX6_feed_69 rfl ?_
                refine aw_goto C dX6_feed_71 (tgt := 76) (by decide) ?_
                exact go _ (by rw [gw, if_neg (by omega), if_neg (by omega), if_neg (by omega), if_pos (by omega)])
            · --go
              refine aw_iload_n C dX6_feed_58 rfl ?_
              refine aw_goto C dX6_feed_59 (tgt := 76) (by decide) ?_
              exact go _ (by rw [gw, if_neg (by omega), if_neg (by omega), if_pos (by omega)])
          · --go
            refine aw_iload_n C dX6_feed_47 rfl ?_
            refine aw_goto C dX6_feed_48 (tgt := 76) (by decide) ?_
            exact go _ (by rw [gw, if_neg (by omega), if_pos (by omega)])
        · --go
          refine aw_iload_n C dX6_feed_36 rfl ?_
          refine aw_goto C dX6_feed_37 (tgt := 76) (by decide) ?_
          exact go _ (by rw [gw, if_pos (by omega)])
  refine aw_aload_n C dX6_feed_0 rfl ?_
  refine aw_iconst C dX6_feed_1 ?_
  refine aw_putI C dX6_feed_2 fX6_77 ⟨rfl, by decide⟩ rfl rfl rfl ?_
  refine aw_aload_n C dX6_feed_5 rfl ?_
  refine aw_getI C dX6_feed_6 fX6_89 ⟨rfl, by decide⟩ rfl ?_
  rw [k4]
  refine aw_bipush C dX6_feed_9 rfl ?_
  refine aw_iadd C dX6_feed_11 ?_
  refine aw_sipush C dX6_feed_12 rfl ?_
  refine aw_icmp_le C dX6_feed_15 (tgt := 20) (by decide) ⟨by omega, by omega⟩ ⟨by omega, by omega⟩ (fun c1 => ?_) (fun c1 => ?_)
  · refine aw_iconst C dX6_feed_20 ?_
    refine aw_istore C dX6_feed_21 (by decide) ?_
    rw [← m0]; exact loop (by omega) 20 0 _ (by omega)
  · rw [if_neg (by omega), if_neg (by omega)] at E
    --go
    refine aw_iconst C dX6_feed_18 ?_
    exact aw_iret C E dX6_feed_19 rfl ⟨rfl, rfl⟩
theorem t_X6_fault {mu : Mem} : TrE 0 mX6_fault [vr 55] mu (some (vi (mu 55 7))) (wr mu 55 0 0) := by
  refine Tr.of (by decide +kernel) (Nat.le_of_ble_eq_true rfl) (fun K C E => ?_)
  refine aw_aload_n C dX6_fault_0 rfl ?_
  refine aw_iconst C dX6_fault_1 ?_
  refine aw_putI C dX6_fault_2 fX6_77 ⟨rfl, by decide⟩ rfl rfl rfl ?_
  refine aw_aload_n C dX6_fault_5 rfl ?_
  refine aw_getI C dX6_fault_6 fX6_92 ⟨rfl, by decide⟩ rfl ?_
  rw [show wr mu 55 0 0 55 7 = mu 55 7 by rw [wr_at, if_neg (by decide)]]
  exact aw_iret C E dX6_fault_9 rfl ⟨rfl, rfl⟩
theorem t_X6_where {mu : Mem} : TrE 0 mX6_where [vr 55] mu (some (vi (mu 55 2))) (wr mu 55 0 0) := by
  refine Tr.of (by decide +kernel) (Nat.le_of_ble_eq_true rfl) (fun K C E => ?_)
  refine aw_aload_n C dX6_where_0 rfl ?_
  refine aw_iconst C dX6_where_1 ?_
  refine aw_putI C dX6_where_2 fX6_77 ⟨rfl, by decide⟩ rfl rfl rfl ?_
  refine aw_aload_n C dX6_where_5 rfl ?_
  refine aw_getI C dX6_where_6 fX6_11 ⟨rfl, by decide⟩ rfl ?_
  rw [show wr mu 55 0 0 55 2 = mu 55 2 by rw [wr_at, if_neg (by decide)]]
  exact aw_iret C E dX6_where_9 rfl ⟨rfl, rfl⟩
theorem t_X6_trouble {mu : Mem} : TrE 0 mX6_trouble [vr 55] mu (some (vi (mu 55 1))) (wr mu 55 0 0) := by
  refine Tr.of (by decide +kernel) (Nat.le_of_ble_eq_true rfl) (fun K C E => ?_)
  refine aw_aload_n C dX6_trouble_0 rfl ?_
  refine aw_iconst C dX6_trouble_1 ?_
  refine aw_putI C dX6_trouble_2 fX6_77 ⟨rfl, by decide⟩ rfl rfl rfl ?_
  refine aw_aload_n C dX6_trouble_5 rfl ?_
  refine aw_getI C dX6_trouble_6 fX6_80 ⟨rfl, by decide⟩ rfl ?_
  rw [show wr mu 55 0 0 55 1 = mu 55 1 by rw [wr_at, if_neg (by decide)]]
  exact aw_iret C E dX6_trouble_9 rfl ⟨rfl, rfl⟩
theorem t_X6_size {mu : Mem} : TrE 0 mX6_size [vr 55] mu (some (vi (mu 55 4))) (wr mu 55 0 0) := by
  refine Tr.of (by decide +kernel) (Nat.le_of_ble_eq_true rfl) (fun K C E => ?_)
  refine aw_aload_n C dX6_size_0 rfl ?_
  refine aw_iconst C dX6_size_1 ?_
  refine aw_putI C dX6_size_2 fX6_77 ⟨rfl, by decide⟩ rfl rfl rfl ?_
  refine aw_aload_n C dX6_size_5 rfl ?_
  refine aw_getI C dX6_size_6 fX6_89 ⟨rfl, by decide⟩ rfl ?_
  rw [show wr mu 55 0 0 55 4 = mu 55 4 by rw [wr_at, if_neg (by decide)]]
  exact aw_iret C E dX6_size_9 rfl ⟨rfl, rfl⟩

/-- does that load have that letter -/
def hasLt (mu : Mem) (V : FV) (i k : Int) : Prop := (0 ≤ i ∧ i < V.2.1) ∧ 0 ≤ k ∧ k < (nlen 6 (mu 59 i.toNat).toNat : Nat)
theorem t_X6_letter {mu : Mem} {V : FV} {i k : Int} (h : mF mu V) (hi : R32 i) (hk : R32 k) (hw : ∀ d : Nat, (d : Int) < V.2.1 → 0 ≤ mu 59 d ∧ mu 59 d < 1073741824) : Tr 2 mX6_letter [vr 55, vi i, vi k] mu (fun r m2 => (hasLt mu V i k ∧ r = some (vi (letW (mu 59 i.toNat).toNat k.toNat)) ∧ m2 = wr mu 55 0 0) ∨ (¬ hasLt mu V i k ∧ r = some (vi 0) ∧ m2 = wr (wr mu 55 0 0) 55 0 1)) := by
  refine Tr.of (by decide +kernel) (Nat.le_of_ble_eq_true rfl) (fun K C E => ?_)
  unfold R32 at hi hk
  have hm : mF (wr mu 55 0 0) V := by
    obtain ⟨a1, a2, a3⟩ := h
    refine ⟨?_, a2, ?_⟩
    · rw [← a1]
      unfold mv
      rw [show wr mu 55 0 0 55 29 = mu 55 29 by rw [wr_at, if_neg (by decide)], show wr mu 55 0 0 55 30 = mu 55 30 by rw [wr_at, if_neg (by decide)], wr_ne (by decide), wr_ne (by decide), wr_ne (by decide)]
    · rw [show wr mu 55 0 0 55 32 = mu 55 32 by rw [wr_at, if_neg (by decide)]]; exact a3
  have e59 : ∀ d, wr mu 55 0 0 59 d = mu 59 d := fun d => by rw [wr_ne (by decide)]
  have kb := b01_01 (0 ≤ i ∧ i < V.2.1)
  have kbi : b01 (0 ≤ i ∧ i < V.2.1) = 1 ↔ (0 ≤ i ∧ i < V.2.1) := b01_iff
  have hl6 := h.2.1.1.2.1
  generalize hm1 : wr mu 55 0 0 = m1 at *
  have no : ¬ hasLt mu V i k → ∀ (c : Int) (v4 v5 v6 : Vv), (0 ≤ c ∧ c ≤ 6) → ¬ (0 ≤ k ∧ k ≤ c - 1) → AW K mX6_letter (NC, 0, 0) 44 [vr 55, vi i, vi k, vi c, v4, v5, v6] [] m1 := by
    intro hn c v4 v5 v6 c0 c1
    have k1 : b01 (0 ≤ k ∧ k ≤ c - 1) = 0 := b01_f c1
    refine aw_iload_n C dX6_letter_44 rfl ?_
    refine aw_i2l C dX6_letter_45 ⟨by omega, by omega⟩ ?_
    refine aw_lconst C dX6_letter_46 (v := 0) rfl ?_
    refine aw_iload_n C dX6_letter_47 rfl ?_
    refine aw_iconst C dX6_letter_48 ?_
    refine aw_isub C dX6_letter_49 ?_
    refine aw_i2l C dX6_letter_50 ⟨by omega, by omega⟩ ?_
    refine aw_callS1 C dX6_letter_51 lX6_108 vX6_in (t_X6_in ⟨by omega, by omega⟩ ⟨by omega, by omega⟩ ⟨by omega, by omega⟩) rfl rfl rfl ⟨by decide, by decide⟩ (Nat.le_of_ble_eq_true rfl) ?_
    refine aw_if_ne C dX6_letter_54 (tgt := 64) (by decide) ⟨by omega, by omega⟩ (fun c1 => ?_) (fun c1 => ?_)
    · exfalso; omega
    · refine aw_aload_n C dX6_letter_57 rfl ?_
      refine aw_iconst C dX6_letter_58 ?_
      refine aw_putI C dX6_letter_59 fX6_77 ⟨rfl, by decide⟩ rfl rfl rfl ?_
      refine aw_iconst C dX6_letter_62 ?_
      exact aw_iret C E dX6_letter_63 rfl (Or.inr ⟨hn, rfl, rfl⟩)
  by_cases hI : 0 ≤ i ∧ i < V.2.1
  case neg =>
    have k0 : b01 (0 ≤ i ∧ i < V.2.1) = 0 := b01_f hI
    refine aw_aload_n C dX6_letter_0 rfl ?_
    refine aw_iconst C dX6_letter_1 ?_
    refine aw_putI C dX6_letter_2 fX6_77 ⟨rfl, by decide⟩ rfl rfl rfl ?_
    rw [hm1]
    refine aw_iconst C dX6_letter_5 ?_
    refine aw_istore_n C dX6_letter_6 (by decide) ?_
    refine aw_aload_n C dX6_letter_7 rfl ?_
    refine aw_iload_n C dX6_letter_8 rfl ?_
    refine aw_call1 C dX6_letter_9 lX6_328 vX6_isLoad (t_X6_isLoad hm ⟨by omega, by omega⟩) rfl rfl rfl ⟨rfl, by decide⟩ rfl ⟨by decide, by decide⟩ (Nat.le_of_ble_eq_true rfl) ?_
    refine aw_if_eq C dX6_letter_12 (tgt := 44) (by decide) ⟨by omega, by omega⟩ (fun c1 => ?_) (fun c1 => ?_)
    · exact no (fun w => hI w.1) 0 _ _ _ (by omega) (by omega)
    · exfalso; omega
  have k1 : b01 (0 ≤ i ∧ i < V.2.1) = 1 := b01_t hI
  have w0 := hw i.toNat (by omega)
  obtain ⟨W, eW⟩ : ∃ W : Nat, mu 59 i.toNat = W := ⟨(mu 59 i.toNat).toNat, by omega⟩
  have eW1 : m1 59 i.toNat = W := (e59 _).trans eW
  have eH : hasLt mu V i k ↔ 0 ≤ k ∧ k < (nlen 6 W : Nat) := by
    unfold hasLt
    rw [eW, show ((W : Nat) : Int).toNat = W by omega]
    exact ⟨fun w => w.2, fun w => ⟨hI, w⟩⟩
  rw [eW, show ((W : Nat) : Int).toNat = W by omega] at E
  have W30 : W < 1073741824 := by omega
  have hl := nlen_le 6 W
  -- down to the letter
  have down : 0 ≤ k → k < (nlen 6 W : Nat) → ∀ (q s : Nat), s + q = nlen 6 W - 1 - k.toNat → AW K mX6_letter (NC, 0, 0) 77 [vr 55, vi i, vi k, vi (nlen 6 W : Nat), vl ((W / 32 ^ s : Nat) : Int), vx, vi ((nlen 6 W : Nat) - 1 - (s : Int))] [] m1 := by
    intro k0 k2 q
    induction q with
    | zero =>
      intro s q1
      have hlt : W / 32 ^ s ≤ W := Nat.div_le_self _ _
      have es : s = nlen 6 W - 1 - k.toNat := by omega
      have el : letW W k.toNat = ((W / 32 ^ s % 32 : Nat) : Int) - 1 := by rw [es]; rfl
      generalize W / 32 ^ s = z at *
      have hmod : ((z : Nat) : Int).tmod 32 = ((z % 32 : Nat) : Int) := by
        rw [Int.tmod_eq_emod_of_nonneg (by omega)]; omega
      have hm32 := Nat.mod_lt z (show 0 < 32 by decide)
      refine aw_iload C dX6_letter_77 rfl ?_
      refine aw_iload_n C dX6_letter_79 rfl ?_
      refine aw_icmp_le C dX6_letter_80 (tgt := 97) (by decide) ⟨by omega, by omega⟩ ⟨by omega, by omega⟩ (fun c1 => ?_) (fun c1 => ?_)
      · refine aw_lload C dX6_letter_97 rfl ?_
        refine aw_ldc2 C dX6_letter_99 kX6_130 (z := 32) (by decide +kernel) ?_
        refine aw_lrem C dX6_letter_102 ⟨by omega, by omega⟩ ⟨by omega, by omega⟩ (by omega) ?_
        rw [hmod]
        refine aw_l2i C dX6_letter_103 ?_
        refine aw_iconst C dX6_letter_104 ?_
        refine aw_isub C dX6_letter_105 ?_
        exact aw_iret C E dX6_letter_106 rfl (Or.inl ⟨eH.mpr ⟨k0, k2⟩, by rw [el], rfl⟩)
      · exfalso; omega
    | succ q ih =>
      intro s q1
      have hlt : W / 32 ^ s ≤ W := Nat.div_le_self _ _
      have e2 : W / 32 ^ (s + 1) = W / 32 ^ s / 32 := by rw [Nat.pow_succ, Nat.div_div_eq_div_mul]
      have ih2 := ih (s + 1) (by omega)
      rw [e2] at ih2
      generalize W / 32 ^ s = z at *
      have hdiv : ((z : Nat) : Int).tdiv 32 = ((z / 32 : Nat) : Int) := by
        rw [Int.tdiv_eq_ediv_of_nonneg (by omega)]; omega
      refine aw_iload C dX6_letter_77 rfl ?_
      refine aw_iload_n C dX6_letter_79 rfl ?_
      refine aw_icmp_le C dX6_letter_80 (tgt := 97) (by decide) ⟨by omega, by omega⟩ ⟨by omega, by omega⟩ (fun c1 => ?_) (fun c1 => ?_)
      · exfalso; omega
      · refine aw_lload C dX6_letter_83 rfl ?_
        refine aw_ldc2 C dX6_letter_85 kX6_130 (z := 32) (by decide +kernel) ?_
        refine aw_ldiv C dX6_letter_88 ⟨by omega, by omega⟩ ⟨by omega, by omega⟩ (by omega) ?_
        rw [hdiv]
        refine aw_lstore C dX6_letter_89 (by decide) ?_
        refine aw_iinc C dX6_letter_91 rfl ?_
        refine aw_goto C dX6_letter_94 (tgt := 77) (by decide) ?_
        have := ih2
        rw [show ((nlen 6 W : Nat) : Int) - 1 - ((s + 1 : Nat) : Int) = ((nlen 6 W : Nat) : Int) - 1 - (s : Int) + -1 by omega] at this
        exact this
  have mid : ∀ (v4 v5 v6 : Vv), AW K mX6_letter (NC, 0, 0) 44 [vr 55, vi i, vi k, vi (nlen 6 W : Nat), v4, v5, v6] [] m1 := by
    intro v4 v5 v6
    by_cases hk2 : 0 ≤ k ∧ k < (nlen 6 W : Nat)
    · have k1 : b01 (0 ≤ k ∧ k ≤ ((nlen 6 W : Nat) : Int) - 1) = 1 := b01_t (by omega)
      refine aw_iload_n C dX6_letter_44 rfl ?_
      refine aw_i2l C dX6_letter_45 ⟨by omega, by omega⟩ ?_
      refine aw_lconst C dX6_letter_46 (v := 0) rfl ?_
      refine aw_iload_n C dX6_letter_47 rfl ?_
      refine aw_iconst C dX6_letter_48 ?_
      refine aw_isub C dX6_letter_49 ?_
      refine aw_i2l C dX6_letter_50 ⟨by omega, by omega⟩ ?_
      refine aw_callS1 C dX6_letter_51 lX6_108 vX6_in (t_X6_in ⟨by omega, by omega⟩ ⟨by omega, by omega⟩ ⟨by omega, by omega⟩) rfl rfl rfl ⟨by decide, by decide⟩ (Nat.le_of_ble_eq_true rfl) ?_
      refine aw_if_ne C dX6_letter_54 (tgt := 64) (by decide) ⟨by omega, by omega⟩ (fun c1 => ?_) (fun c1 => ?_)
      · refine aw_aload_n C dX6_letter_64 rfl ?_
        refine aw_getS C dX6_letter_65 fX6_26 ⟨rfl, by decide⟩ rfl rfl (srf 55 16 59 (by decide)) ?_
        refine aw_iload_n C dX6_letter_68 rfl ?_
        refine aw_lald C dX6_letter_69 ⟨rfl, by decide⟩ (by decide) (by omega) (by omega) ?_
        rw [eW1]
        refine aw_lstore C dX6_letter_70 (by decide) ?_
        refine aw_iload_n C dX6_letter_72 rfl ?_
        refine aw_iconst C dX6_letter_73 ?_
        refine aw_isub C dX6_letter_74 ?_
        refine aw_istore C dX6_letter_75 (by decide) ?_
        have := down hk2.1 hk2.2 (nlen 6 W - 1 - k.toNat) 0 (by omega)
        rw [Nat.pow_zero, Nat.div_one, show ((nlen 6 W : Nat) : Int) - 1 - ((0 : Nat) : Int) = ((nlen 6 W : Nat) : Int) - 1 by omega] at this
        exact this
      · exfalso; omega
    · exact no (fun w => hk2 (eH.mp w)) _ _ _ _ (by omega) (by omega)
  have cnt : ∀ (q s : Nat) (v6 : Vv), s + q = 6 → nlen 6 W = s + nlen q (W / 32 ^ s) → AW K mX6_letter (NC, 0, 0) 23 [vr 55, vi i, vi k, vi (s : Int), vl ((W / 32 ^ s : Nat) : Int), vx, v6] [] m1 := by
    intro q
    induction q with
    | zero =>
      intro s v6 q1 q2
      have z0 : W / 32 ^ s = 0 := by
        rw [show s = 6 by omega]
        exact Nat.div_eq_of_lt (by rw [show (32 : Nat) ^ 6 = 1073741824 by decide]; exact W30)
      have q3 : nlen 6 W = s := q2
      rw [z0, ← q3]
      refine aw_lload C dX6_letter_23 rfl ?_
      refine aw_lconst C dX6_letter_25 (v := 0) rfl ?_
      refine aw_lcmp_le C dX6_letter_26 dX6_letter_27 (tgt := 44) (by decide) ⟨by omega, by omega⟩ ⟨by omega, by omega⟩ (fun c1 => ?_) (fun c1 => ?_)
      · exact mid _ _ _
      · exfalso; omega
    | succ q ih =>
      intro s v6 q1 q2
      have hlt : W / 32 ^ s ≤ W := Nat.div_le_self _ _
      have e : nlen (q + 1) (W / 32 ^ s) = if W / 32 ^ s = 0 then 0 else nlen q (W / 32 ^ s / 32) + 1 := rfl
      have e2 : W / 32 ^ (s + 1) = W / 32 ^ s / 32 := by rw [Nat.pow_succ, Nat.div_div_eq_div_mul]
      have ih2 := fun v6 => ih (s + 1) v6 (by omega)
      rw [e2] at ih2
      generalize W / 32 ^ s = z at *
      have hdiv : ((z : Nat) : Int).tdiv 32 = ((z / 32 : Nat) : Int) := by
        rw [Int.tdiv_eq_ediv_of_nonneg (by omega)]; omega
      refine aw_lload C dX6_letter_23 rfl ?_
      refine aw_lconst C dX6_letter_25 (v := 0) rfl ?_
      refine aw_lcmp_le C dX6_letter_26 dX6_letter_27 (tgt := 44) (by decide) ⟨by omega, by omega⟩ ⟨by omega, by omega⟩ (fun c1 => ?_) (fun c1 => ?_)
      · have q3 : nlen 6 W = s := by rw [q2, e, if_pos (by omega)]; rfl
        --go
        rw [← q3]; exact mid _ _ _
      · refine aw_iinc C dX6_letter_30 rfl ?_
        refine aw_lload C dX6_letter_33 rfl ?_
        refine aw_ldc2 C dX6_letter_35 kX6_130 (z := 32) (by decide +kernel) ?_
        refine aw_ldiv C dX6_letter_38 ⟨by omega, by omega⟩ ⟨by omega, by omega⟩ (by omega) ?_
        rw [hdiv]
        refine aw_lstore C dX6_letter_39 (by decide) ?_
        refine aw_goto C dX6_letter_41 (tgt := 23) (by decide) ?_
        exact ih2 _ (by rw [q2, e, if_neg (by omega)]; omega)
  refine aw_aload_n C dX6_letter_0 rfl ?_
  refine aw_iconst C dX6_letter_1 ?_
  refine aw_putI C dX6_letter_2 fX6_77 ⟨rfl, by decide⟩ rfl rfl rfl ?_
  rw [hm1]
  refine aw_iconst C dX6_letter_5 ?_
  refine aw_istore_n C dX6_letter_6 (by decide) ?_
  refine aw_aload_n C dX6_letter_7 rfl ?_
  refine aw_iload_n C dX6_letter_8 rfl ?_
  refine aw_call1 C dX6_letter_9 lX6_328 vX6_isLoad (t_X6_isLoad hm ⟨by omega, by omega⟩) rfl rfl rfl ⟨rfl, by decide⟩ rfl ⟨by decide, by decide⟩ (Nat.le_of_ble_eq_true rfl) ?_
  refine aw_if_eq C dX6_letter_12 (tgt := 44) (by decide) ⟨by omega, by omega⟩ (fun c1 => ?_) (fun c1 => ?_)
  · exfalso; omega
  · refine aw_aload_n C dX6_letter_15 rfl ?_
    refine aw_getS C dX6_letter_16 fX6_26 ⟨rfl, by decide⟩ rfl rfl (srf 55 16 59 (by decide)) ?_
    refine aw_iload_n C dX6_letter_19 rfl ?_
    refine aw_lald C dX6_letter_20 ⟨rfl, by decide⟩ (by decide) (by omega) (by omega) ?_
    rw [eW1]
    refine aw_lstore C dX6_letter_21 (by decide) ?_
    have := cnt 6 0 vx rfl (by rw [Nat.pow_zero, Nat.div_one]; omega)
    rw [Nat.pow_zero, Nat.div_one] at this
    exact this

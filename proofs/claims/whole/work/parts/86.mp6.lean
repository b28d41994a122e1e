/-! one part of a load, as the reference reads it -/
theorem shr12 {b : Nat} {r : Int} (hb : b < 4096) (h0 : 0 ≤ r) (h1 : r < 12) : Int32.ofInt (b : Int) >>> (Int32.ofInt r &&& 31) = ((Int32.ofInt (b : Int)).toUInt32 >>> ((Int32.ofInt r).toUInt32 &&& Int32.toUInt32 31)).toInt32 := by
  have e : Int32.ofInt ((b : Nat) : Int) = nI b := Int32.ofInt_eq_ofNat
  have hm : (nI b).toBitVec.msb = false := by
    rw [BitVec.msb_eq_decide, pk_tn (by omega)]
    exact decide_eq_false (by omega)
  obtain ⟨k, rfl⟩ := Int.eq_ofNat_of_zero_le h0
  have hk : k < 12 := by omega
  rw [e]
  have e2 : (Int32.ofInt ((k : Nat) : Int) &&& 31).toBitVec.smod 32 = BitVec.ofNat 32 k := by
    have : k = 0 ∨ k = 1 ∨ k = 2 ∨ k = 3 ∨ k = 4 ∨ k = 5 ∨ k = 6 ∨ k = 7 ∨ k = 8 ∨ k = 9 ∨ k = 10 ∨ k = 11 := by omega
    rcases this with rfl | rfl | rfl | rfl | rfl | rfl | rfl | rfl | rfl | rfl | rfl | rfl <;> decide
  have e3 : ((Int32.ofInt ((k : Nat) : Int)).toUInt32 &&& Int32.toUInt32 31).toBitVec % 32 = BitVec.ofNat 32 k := by
    have : k = 0 ∨ k = 1 ∨ k = 2 ∨ k = 3 ∨ k = 4 ∨ k = 5 ∨ k = 6 ∨ k = 7 ∨ k = 8 ∨ k = 9 ∨ k = 10 ∨ k = 11 := by omega
    rcases this with rfl | rfl | rfl | rfl | rfl | rfl | rfl | rfl | rfl | rfl | rfl | rfl <;> decide
  apply Int32.toBitVec_inj.mp
  show (nI b).toBitVec.sshiftRight' ((Int32.ofInt ((k : Nat) : Int) &&& 31).toBitVec.smod 32) = (nI b).toBitVec >>> (((Int32.ofInt ((k : Nat) : Int)).toUInt32 &&& Int32.toUInt32 31).toBitVec % 32)
  rw [e2, e3]
  show (nI b).toBitVec.sshiftRight (BitVec.ofNat 32 k).toNat = (nI b).toBitVec >>> (BitVec.ofNat 32 k).toNat
  exact BitVec.sshiftRight_eq_of_msb_false hm
theorem btst2 {b : Nat} {r : Int} (hb : b < 4096) (h0 : 0 ≤ r) (h1 : r < 12) : (Int32.ofInt (Int32.ofInt (b : Int) >>> (Int32.ofInt r &&& 31)).toInt &&& Int32.ofInt 1).toInt = if b.testBit r.toNat then 1 else 0 := by
  rw [shr12 hb h0 h1]
  exact btst hb h0 h1
theorem t_X6_readOnF {mu : Mem} {f pl d : Int} (hF : FS mu f pl) : TrS 7 mX6_readOn (fun _ => [vr 55, vi d]) mu (fun r m2 => r = none ∧ mu = m2) := by
  refine TrS.of (by decide +kernel) (fun _ => Nat.le_of_ble_eq_true rfl) (fun K C E hX => ?_)
  have z4 := hF.1
  refine aw_aload_n C dX6_readOn_0 rfl ?_
  refine aw_bipush C dX6_readOn_1 rfl ?_
  refine aw_call C dX6_readOn_3 lX6_198 vX6_readInt (t_X6_readIntF hF ⟨by decide, by decide⟩) rfl rfl rfl ⟨rfl, by decide⟩ rfl ⟨by decide, by decide⟩ (Nat.le_of_ble_eq_true rfl) (fun r1 mu1 hq1 => ?_)
  obtain ⟨⟨z', rfl⟩, rfl⟩ := hq1
  show AW _ _ _ _ _ [vi z'] _
  refine aw_istore_n C dX6_readOn_6 (by decide) ?_
  refine aw_aload_n C dX6_readOn_7 rfl ?_
  refine aw_call0 C dX6_readOn_8 lX6_163 vX6_goOn (t_X6_goOnF hF) rfl rfl rfl ⟨rfl, by decide⟩ rfl ⟨by decide, by decide⟩ (Nat.le_of_ble_eq_true rfl) ?_
  refine aw_aload_n C dX6_readOn_11 rfl ?_
  refine aw_ldcS C hX (i := 3) (by decide) rfl rfl dX6_readOn_12 ?_
  refine aw_callX C hX dX6_readOn_14 lX6_194 vX6_needs (t_X6_needsF (j := 3) (by decide) hF) rfl rfl rfl rfl ⟨rfl, by decide⟩ rfl ⟨by decide, by decide⟩ (Nat.le_of_ble_eq_true rfl) (fun r2 mu2 hq2 => ?_)
  obtain ⟨rfl, rfl⟩ := hq2
  show AW _ _ _ _ _ [] _
  refine aw_aload_n C dX6_readOn_17 rfl ?_
  refine aw_callX C hX dX6_readOn_18 lX6_176 vX6_isName (t_X6_isNameF hF) rfl rfl rfl rfl ⟨rfl, by decide⟩ rfl ⟨by decide, by decide⟩ (Nat.le_of_ble_eq_true rfl) (fun r3 mu3 hq3 => ?_)
  obtain ⟨rfl, rfl⟩ := hq3
  show AW _ _ _ _ _ [vi 0] _
  refine aw_if_eq C dX6_readOn_21 (tgt := 42) (by decide) ⟨by omega, by omega⟩ (fun c4 => ?_) (fun c4 => ?_)
  · refine aw_iconst C dX6_readOn_42 ?_
    refine aw_istore_n C dX6_readOn_43 (by decide) ?_
    refine aw_aload_n C dX6_readOn_44 rfl ?_
    refine aw_callX C hX dX6_readOn_45 lX6_176 vX6_isName (t_X6_isNameF hF) rfl rfl rfl rfl ⟨rfl, by decide⟩ rfl ⟨by decide, by decide⟩ (Nat.le_of_ble_eq_true rfl) (fun r5 mu5 hq5 => ?_)
    obtain ⟨rfl, rfl⟩ := hq5
    show AW _ _ _ _ _ [vi 0] _
    refine aw_if_ne C dX6_readOn_48 (tgt := 59) (by decide) ⟨by omega, by omega⟩ (fun c6 => ?_) (fun c6 => ?_)
    · exfalso; omega
    · refine aw_aload_n C dX6_readOn_51 rfl ?_
      refine aw_iconst C dX6_readOn_52 ?_
      refine aw_call0 C dX6_readOn_53 lX6_159 vX6_flaw (t_X6_flawF hF) rfl rfl rfl ⟨rfl, by decide⟩ rfl ⟨by decide, by decide⟩ (Nat.le_of_ble_eq_true rfl) ?_
      refine aw_goto C dX6_readOn_56 (tgt := 83) (by decide) ?_
      refine aw_aload_n C dX6_readOn_83 rfl ?_
      refine aw_call0 C dX6_readOn_84 lX6_163 vX6_goOn (t_X6_goOnF hF) rfl rfl rfl ⟨rfl, by decide⟩ rfl ⟨by decide, by decide⟩ (Nat.le_of_ble_eq_true rfl) ?_
      refine aw_aload_n C dX6_readOn_87 rfl ?_
      refine aw_getI C dX6_readOn_88 fX6_92 ⟨rfl, by decide⟩ rfl ?_
      refine aw_if_le C dX6_readOn_91 (tgt := 95) (by decide) ⟨by omega, by omega⟩ (fun c7 => ?_) (fun c7 => ?_)
      · exfalso; omega
      · exact aw_vret C E dX6_readOn_94 rfl ⟨rfl, rfl⟩
  · exfalso; omega
def onP (mu m : Mem) (A : Nat → Int) (n : Int) (D : PD) (b : Nat) (d : Int) (t : TK) : Prop := ((fPf A n D b t).1 = 0 ∧ ∃ m1, frc flS mu m1 ∧ m1 55 7 = 0 ∧ MT m1 (tok A n (fPf A n D b t).2.2.2.2) ∧ nbM m1 ∧ m = wr (wr m1 63 d.toNat ((b ||| 2 ^ (rNm D (fPf A n D b t).2.2.1).toNat : Nat) : Int)) 62 (12 * d + rNm D (fPf A n D b t).2.2.1).toNat (fIv A n t)) ∨ ((fPf A n D b t).1 ≠ 0 ∧ frc flS mu m ∧ FS m (fPf A n D b t).1 (fPf A n D b t).2.2.2.1)
theorem t_X6_readOn0 {mu : Mem} {A : Nat → Int} {n d : Int} {t : TK} {D : PD} {b : Nat} (hK : rdK mu A n) (h7 : mu 55 7 = 0) (hM : MT mu t) (hi : tI n t) (hnb : nbM mu) (eD : pdM mu = D) (hD : bD D) (hd : 0 ≤ d ∧ d < 6) (hb : b < 4096) (e63 : mu 63 d.toNat = b) : TrS 7 mX6_readOn (fun _ => [vr 55, vi d]) mu (fun r m2 => r = none ∧ onP mu m2 A n D b d t) := by
  refine TrS.of (by decide +kernel) (fun _ => Nat.le_of_ble_eq_true rfl) (fun K C E hX => ?_)
  unfold onP at E
  obtain ⟨R, eR⟩ : ∃ R, fPf A n D b t = R := ⟨_, rfl⟩
  rw [eR] at E
  have r83 : ∀ (v2 v3 : Vv) (m : Mem), frc flS mu m → R.1 ≠ 0 → FS m R.1 R.2.2.2.1 → AW K mX6_readOn (NC, 0, 0) 83 [vr 55, vi d, v2, v3] [] m := by
    intro v2 v3 m z1 z2 z3
    have z4 := z3.1
    refine aw_aload_n C dX6_readOn_83 rfl ?_
    refine aw_call0 C dX6_readOn_84 lX6_163 vX6_goOn (t_X6_goOnF z3) rfl rfl rfl ⟨rfl, by decide⟩ rfl ⟨by decide, by decide⟩ (Nat.le_of_ble_eq_true rfl) ?_
    refine aw_aload_n C dX6_readOn_87 rfl ?_
    refine aw_getI C dX6_readOn_88 fX6_92 ⟨rfl, by decide⟩ rfl ?_
    refine aw_if_le C dX6_readOn_91 (tgt := 95) (by decide) ⟨by omega, by omega⟩ (fun c1 => ?_) (fun c1 => ?_)
    · exfalso; omega
    · exact aw_vret C E dX6_readOn_94 rfl ⟨rfl, Or.inr ⟨z2, z1, z3⟩⟩
  have r17 : ∀ (v2 v3 : Vv) (m : Mem), frc flS mu m → R.1 ≠ 0 → FS m R.1 R.2.2.2.1 → AW K mX6_readOn (NC, 0, 0) 17 [vr 55, vi d, v2, v3] [] m := by
    intro v2 v3 m z1 z2 z3
    refine aw_aload_n C dX6_readOn_17 rfl ?_
    refine aw_callX C hX dX6_readOn_18 lX6_176 vX6_isName (t_X6_isNameF z3) rfl rfl rfl rfl ⟨rfl, by decide⟩ rfl ⟨by decide, by decide⟩ (Nat.le_of_ble_eq_true rfl) (fun r1 mu1 hq1 => ?_)
    obtain ⟨rfl, rfl⟩ := hq1
    show AW _ _ _ _ _ [vi 0] _
    refine aw_if_eq C dX6_readOn_21 (tgt := 42) (by decide) ⟨by omega, by omega⟩ (fun c2 => ?_) (fun c2 => ?_)
    · refine aw_iconst C dX6_readOn_42 ?_
      refine aw_istore_n C dX6_readOn_43 (by decide) ?_
      refine aw_aload_n C dX6_readOn_44 rfl ?_
      refine aw_callX C hX dX6_readOn_45 lX6_176 vX6_isName (t_X6_isNameF z3) rfl rfl rfl rfl ⟨rfl, by decide⟩ rfl ⟨by decide, by decide⟩ (Nat.le_of_ble_eq_true rfl) (fun r3 mu3 hq3 => ?_)
      obtain ⟨rfl, rfl⟩ := hq3
      show AW _ _ _ _ _ [vi 0] _
      refine aw_if_ne C dX6_readOn_48 (tgt := 59) (by decide) ⟨by omega, by omega⟩ (fun c4 => ?_) (fun c4 => ?_)
      · exfalso; omega
      · refine aw_aload_n C dX6_readOn_51 rfl ?_
        refine aw_iconst C dX6_readOn_52 ?_
        refine aw_call0 C dX6_readOn_53 lX6_159 vX6_flaw (t_X6_flawF z3) rfl rfl rfl ⟨rfl, by decide⟩ rfl ⟨by decide, by decide⟩ (Nat.le_of_ble_eq_true rfl) ?_
        refine aw_goto C dX6_readOn_56 (tgt := 83) (by decide) ?_
        exact r83 _ _ m z1 z2 z3
    · exfalso; omega
  have r6 : ∀ (v2 v3 : Vv) (z : Int) (m : Mem), frc flS mu m → R.1 ≠ 0 → FS m R.1 R.2.2.2.1 → AW K mX6_readOn (NC, 0, 0) 6 [vr 55, vi d, v2, v3] [vi z] m := by
    intro v2 v3 z m z1 z2 z3
    refine aw_istore_n C dX6_readOn_6 (by decide) ?_
    refine aw_aload_n C dX6_readOn_7 rfl ?_
    refine aw_call0 C dX6_readOn_8 lX6_163 vX6_goOn (t_X6_goOnF z3) rfl rfl rfl ⟨rfl, by decide⟩ rfl ⟨by decide, by decide⟩ (Nat.le_of_ble_eq_true rfl) ?_
    refine aw_aload_n C dX6_readOn_11 rfl ?_
    refine aw_ldcS C hX (i := 3) (by decide) rfl rfl dX6_readOn_12 ?_
    refine aw_callX C hX dX6_readOn_14 lX6_194 vX6_needs (t_X6_needsF (j := 3) (by decide) z3) rfl rfl rfl rfl ⟨rfl, by decide⟩ rfl ⟨by decide, by decide⟩ (Nat.le_of_ble_eq_true rfl) (fun r1 mu1 hq1 => ?_)
    obtain ⟨rfl, rfl⟩ := hq1
    show AW _ _ _ _ _ [] _
    exact r17 _ _ m z1 z2 z3
  unfold fPf at eR
  refine aw_aload_n C dX6_readOn_0 rfl ?_
  refine aw_bipush C dX6_readOn_1 rfl ?_
  refine aw_call C dX6_readOn_3 lX6_198 vX6_readInt (t_X6_readInt0 hK h7 hM hi hnb (by omega)) rfl rfl rfl ⟨rfl, by decide⟩ rfl ⟨by decide, by decide⟩ (Nat.le_of_ble_eq_true rfl) (fun r m1 hq => ?_)
  obtain ⟨j1, hq⟩ := hq
  rcases hq with ⟨j2, rfl, j3, j4, j5⟩ | ⟨j2, ⟨z, rfl⟩, j3⟩
  · rw [if_neg (fun w => w j2)] at eR
    have bv := fIv_b hi j2
    have if1 := fI1_i (A := A) hi
    have k3 : (fI1 A n t).1 ≠ 3 := by
      unfold fIf at j2
      intro w
      rw [if_pos (by rw [w]; decide)] at j2
      omega
    generalize fIv A n t = v at *
    generalize fI1 A n t = t4 at *
    have f4' := if1.2.2
    have i5 := tok_i (A := A) f4'.1 f4'.2.1
    show AW _ _ _ _ _ [vi v] _
    refine aw_istore_n C dX6_readOn_6 (by decide) ?_
    refine aw_aload_n C dX6_readOn_7 rfl ?_
    refine aw_call C dX6_readOn_8 lX6_163 vX6_goOn (t_X6_goOn (hK.fl j1) j3 (j4.nx k3) f4'.1 f4'.2.1 j5) rfl rfl rfl ⟨rfl, by decide⟩ rfl ⟨by decide, by decide⟩ (Nat.le_of_ble_eq_true rfl) (fun r m2 hq => ?_)
    obtain ⟨rfl, l1, l2, l3⟩ := hq
    have fr2 := j1.tr (l1.mono goS_f)
    have l7 : m2 55 7 = 0 := (l1 _ _ (by unfold goS; omega)).trans j3
    generalize tok A n t4.2.2.2 = t2 at *
    have d4 := i5.2.2
    show AW _ _ _ _ _ [] _
    refine aw_aload_n C dX6_readOn_11 rfl ?_
    refine aw_ldcS C hX (i := 3) (by decide) rfl rfl dX6_readOn_12 ?_
    refine aw_callX C hX dX6_readOn_14 lX6_194 vX6_needs (t_X6_needs0 (j := 3) (by decide) (hK.fl fr2) l7 l2 i5 l3) rfl rfl rfl rfl ⟨rfl, by decide⟩ rfl ⟨by decide, by decide⟩ (Nat.le_of_ble_eq_true rfl) (fun r m3 hq => ?_)
    obtain ⟨rfl, h1, hq⟩ := hq
    have fr3 := fr2.tr h1
    rw [nmS_3] at hq
    show AW _ _ _ _ _ [] _
    rcases hq with ⟨h2, h3, h4, h5⟩ | ⟨h2, h3⟩
    · rw [if_neg (fun w => w h2)] at eR
      have i3 := tok_i (A := A) d4.1 d4.2.1
      generalize tok A n t2.2.2.2 = t3 at *
      have e4 := i3.2.2
      have kb := b01_01 (isNm t3)
      have eD3 : pdM m3 = D := (pdM_fl fr3).trans eD
      have rn := rNm_in hD t3.2.1
      have e3 : m3 63 d.toNat = b := (fr3 _ _ (by unfold flS; omega)).trans e63
      have hK3 := hK.fl fr3
      have bad : ∀ (f : Int) (v3 : Vv) (m : Mem), frc (fun a b => a = 55 ∧ (b = 7 ∨ b = 8)) m3 m → FS m f t3.2.2.1 → (f, t3) = R → f ≠ 0 → AW K mX6_readOn (NC, 0, 0) 83 [vr 55, vi d, vi v, v3] [] m := by
        intro f v3 m g1 g2 g3 g4
        refine r83 _ _ m (fr3.tr (g1.mono f78_f)) (by rw [← g3]; exact g4) (by rw [← g3]; exact g2)
      rcases kb with kb | kb
      · rw [if_pos kb] at eR
        refine aw_aload_n C dX6_readOn_17 rfl ?_
        refine aw_callX C hX dX6_readOn_18 lX6_176 vX6_isName (t_X6_isName h3 h4 i3.1) rfl rfl rfl rfl ⟨rfl, by decide⟩ rfl ⟨by decide, by decide⟩ (Nat.le_of_ble_eq_true rfl) (fun r1 mu1 hq1 => ?_)
        obtain ⟨rfl, rfl⟩ := hq1
        show AW _ _ _ _ _ [vi (b01 (isNm t3))] _
        refine aw_if_eq C dX6_readOn_21 (tgt := 42) (by decide) ⟨by omega, by omega⟩ (fun c2 => ?_) (fun c2 => ?_)
        · refine aw_iconst C dX6_readOn_42 ?_
          refine aw_istore_n C dX6_readOn_43 (by decide) ?_
          refine aw_aload_n C dX6_readOn_44 rfl ?_
          refine aw_callX C hX dX6_readOn_45 lX6_176 vX6_isName (t_X6_isName h3 h4 i3.1) rfl rfl rfl rfl ⟨rfl, by decide⟩ rfl ⟨by decide, by decide⟩ (Nat.le_of_ble_eq_true rfl) (fun r3 mu3 hq3 => ?_)
          obtain ⟨rfl, rfl⟩ := hq3
          show AW _ _ _ _ _ [vi (b01 (isNm t3))] _
          refine aw_if_ne C dX6_readOn_48 (tgt := 59) (by decide) ⟨by omega, by omega⟩ (fun c4 => ?_) (fun c4 => ?_)
          · exfalso; omega
          · refine aw_aload_n C dX6_readOn_51 rfl ?_
            refine aw_iconst C dX6_readOn_52 ?_
            refine aw_call C dX6_readOn_53 lX6_159 vX6_flaw (t_X6_flaw0 h3 (by omega) h5) rfl rfl rfl ⟨rfl, by decide⟩ rfl ⟨by decide, by decide⟩ (Nat.le_of_ble_eq_true rfl) (fun r5 mu5 hq5 => ?_)
            obtain ⟨rfl, g1, g2⟩ := hq5
            rw [h4.1] at g2
            generalize mu5 = m4 at *
            show AW _ _ _ _ _ [] _
            refine aw_goto C dX6_readOn_56 (tgt := 83) (by decide) ?_
            exact bad 1 _ m4 g1 g2 eR (by decide)
        · exfalso; omega
      rw [if_neg (by omega)] at eR
      have nm := b01_iff.mp kb
      have t1 := nm.1
      have wb := i3.1.2.1 t1
      have w13 := (h4.k i3.1).2.2.2.2.2.2.1 t1
      refine aw_aload_n C dX6_readOn_17 rfl ?_
      refine aw_callX C hX dX6_readOn_18 lX6_176 vX6_isName (t_X6_isName h3 h4 i3.1) rfl rfl rfl rfl ⟨rfl, by decide⟩ rfl ⟨by decide, by decide⟩ (Nat.le_of_ble_eq_true rfl) (fun r1 mu1 hq1 => ?_)
      obtain ⟨rfl, rfl⟩ := hq1
      show AW _ _ _ _ _ [vi (b01 (isNm t3))] _
      refine aw_if_eq C dX6_readOn_21 (tgt := 42) (by decide) ⟨by omega, by omega⟩ (fun c2 => ?_) (fun c2 => ?_)
      · exfalso; omega
      · refine aw_aload_n C dX6_readOn_24 rfl ?_
        refine aw_getS C dX6_readOn_25 fX6_19 ⟨rfl, by decide⟩ rfl rfl (srf 55 14 57 (by decide)) ?_
        refine aw_aload_n C dX6_readOn_28 rfl ?_
        refine aw_getI C dX6_readOn_29 fX6_180 ⟨rfl, by decide⟩ rfl ?_
        refine aw_aload_n C dX6_readOn_32 rfl ?_
        refine aw_getL C dX6_readOn_33 fX6_126 ⟨rfl, by decide⟩ rfl ?_
        rw [w13]
        refine aw_callS1 C dX6_readOn_36 lX6_183 vX6_find (t_X6_findR eD3 hD ⟨by omega, by omega⟩) rfl rfl rfl ⟨by decide, by decide⟩ (Nat.le_of_ble_eq_true rfl) ?_
        refine aw_goto C dX6_readOn_39 (tgt := 43) (by decide) ?_
        refine aw_istore_n C dX6_readOn_43 (by decide) ?_
        refine aw_aload_n C dX6_readOn_44 rfl ?_
        refine aw_callX C hX dX6_readOn_45 lX6_176 vX6_isName (t_X6_isName h3 h4 i3.1) rfl rfl rfl rfl ⟨rfl, by decide⟩ rfl ⟨by decide, by decide⟩ (Nat.le_of_ble_eq_true rfl) (fun r3 mu3 hq3 => ?_)
        obtain ⟨rfl, rfl⟩ := hq3
        show AW _ _ _ _ _ [vi (b01 (isNm t3))] _
        refine aw_if_ne C dX6_readOn_48 (tgt := 59) (by decide) ⟨by omega, by omega⟩ (fun c4 => ?_) (fun c4 => ?_)
        · refine aw_iload_n C dX6_readOn_59 rfl ?_
          refine aw_iconst C dX6_readOn_60 ?_
          refine aw_icmp_eq C dX6_readOn_61 (tgt := 78) (by decide) ⟨by omega, by omega⟩ ⟨by omega, by omega⟩ (fun c4 => ?_) (fun c4 => ?_)
          · rw [if_pos (Or.inl c4)] at eR
            --go
            refine aw_aload_n C dX6_readOn_78 rfl ?_
            refine aw_iconst C dX6_readOn_79 ?_
            refine aw_call C dX6_readOn_80 lX6_159 vX6_flaw (t_X6_flaw0 h3 (by omega) h5) rfl rfl rfl ⟨rfl, by decide⟩ rfl ⟨by decide, by decide⟩ (Nat.le_of_ble_eq_true rfl) (fun r5 mu5 hq5 => ?_)
            obtain ⟨rfl, g1, g2⟩ := hq5
            rw [h4.1] at g2
            generalize mu5 = m4 at *
            show AW _ _ _ _ _ [] _
            exact bad 3 _ m4 g1 g2 eR (by decide)
          · refine aw_aload_n C dX6_readOn_64 rfl ?_
            refine aw_getS C dX6_readOn_65 fX6_38 ⟨rfl, by decide⟩ rfl rfl (srf 55 20 63 (by decide)) ?_
            refine aw_iload_n C dX6_readOn_68 rfl ?_
            refine aw_iald C dX6_readOn_69 ⟨rfl, by decide⟩ (by decide) (by omega) (by omega) ?_
            rw [e3]
            refine aw_iload_n C dX6_readOn_70 rfl ?_
            refine aw_ishr C dX6_readOn_71 ?_
            refine aw_iconst C dX6_readOn_72 ?_
            refine aw_iand C dX6_readOn_73 ?_
            rw [btst2 (r := rNm D t3.2.1) hb (by omega) (by omega)]
            refine aw_iconst C dX6_readOn_74 ?_
            refine aw_icmp_ne C dX6_readOn_75 (tgt := 83) (by decide) ⟨by split <;> omega, by split <;> omega⟩ ⟨by omega, by omega⟩ (fun c5 => ?_) (fun c5 => ?_)
            · rw [if_neg (fun w => by rcases w with w | w; omega; rw [if_pos w] at c5; omega)] at eR
              have bs := bset (r := rNm D t3.2.1) hb (by omega) (by omega)
              --go
              refine aw_aload_n C dX6_readOn_83 rfl ?_
              refine aw_call C dX6_readOn_84 lX6_163 vX6_goOn (t_X6_goOn hK3 h3 (h4.nx (by omega)) e4.1 e4.2.1 h5) rfl rfl rfl ⟨rfl, by decide⟩ rfl ⟨by decide, by decide⟩ (Nat.le_of_ble_eq_true rfl) (fun r6 mu6 hq6 => ?_)
              obtain ⟨rfl, q1, q2, q3⟩ := hq6
              have q7 : mu6 55 7 = 0 := (q1 _ _ (by unfold goS; omega)).trans h3
              have q63 : mu6 63 d.toNat = b := (q1 _ _ (by unfold goS; omega)).trans e3
              have fr4 := fr3.tr (q1.mono goS_f)
              generalize mu6 = m4 at *
              show AW _ _ _ _ _ [] _
              refine aw_aload_n C dX6_readOn_87 rfl ?_
              refine aw_getI C dX6_readOn_88 fX6_92 ⟨rfl, by decide⟩ rfl ?_
              refine aw_if_le C dX6_readOn_91 (tgt := 95) (by decide) ⟨by omega, by omega⟩ (fun c7 => ?_) (fun c7 => ?_)
              · refine aw_aload_n C dX6_readOn_95 rfl ?_
                refine aw_getS C dX6_readOn_96 fX6_38 ⟨rfl, by decide⟩ rfl rfl (srf 55 20 63 (by decide)) ?_
                refine aw_iload_n C dX6_readOn_99 rfl ?_
                refine aw_dup2_ai C dX6_readOn_100 ?_
                refine aw_iald C dX6_readOn_101 ⟨rfl, by decide⟩ (by decide) (by omega) (by omega) ?_
                rw [q63]
                refine aw_iconst C dX6_readOn_102 ?_
                refine aw_iload_n C dX6_readOn_103 rfl ?_
                refine aw_ishl C dX6_readOn_104 ?_
                refine aw_ior C dX6_readOn_105 ?_
                rw [bs.1]
                refine aw_iast C dX6_readOn_106 ⟨rfl, by decide⟩ (by decide) (by omega) (by omega) ?_
                refine aw_aload_n C dX6_readOn_107 rfl ?_
                refine aw_getS C dX6_readOn_108 fX6_35 ⟨rfl, by decide⟩ rfl rfl (srf 55 19 62 (by decide)) ?_
                refine aw_bipush C dX6_readOn_111 rfl ?_
                refine aw_iload_n C dX6_readOn_113 rfl ?_
                refine aw_imul C dX6_readOn_114 ?_
                refine aw_iload_n C dX6_readOn_115 rfl ?_
                refine aw_iadd C dX6_readOn_116 ?_
                refine aw_iload_n C dX6_readOn_117 rfl ?_
                refine aw_iast C dX6_readOn_118 ⟨rfl, by decide⟩ (by decide) (by omega) (by omega) ?_
                exact aw_vret C E dX6_readOn_119 rfl ⟨rfl, Or.inl ⟨by rw [← eR], m4, fr4, q7, by rw [← eR]; exact q2, q3, by rw [← eR]⟩⟩
              · exfalso; omega
            · rw [if_pos (Or.inr (by by_cases w : b.testBit (rNm D t3.2.1).toNat = true; exact w; rw [if_neg w] at c5; omega))] at eR
              --go
              refine aw_aload_n C dX6_readOn_78 rfl ?_
              refine aw_iconst C dX6_readOn_79 ?_
              refine aw_call C dX6_readOn_80 lX6_159 vX6_flaw (t_X6_flaw0 h3 (by omega) h5) rfl rfl rfl ⟨rfl, by decide⟩ rfl ⟨by decide, by decide⟩ (Nat.le_of_ble_eq_true rfl) (fun r8 mu8 hq8 => ?_)
              obtain ⟨rfl, g1, g2⟩ := hq8
              rw [h4.1] at g2
              generalize mu8 = m4 at *
              show AW _ _ _ _ _ [] _
              exact bad 3 _ m4 g1 g2 eR (by decide)
        · exfalso; omega
    · rw [if_pos h2] at eR
      exact r17 _ _ m3 fr3 (by rw [← eR]; show (1 : Int) ≠ 0; decide) (by rw [← eR]; exact h3)
  · rw [if_pos j2] at eR
    exact r6 _ _ z m1 j1 (by rw [← eR]; exact j2) (by rw [← eR]; exact j3)

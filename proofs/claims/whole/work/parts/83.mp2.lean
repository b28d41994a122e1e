/-! words, numbers and names as the reference reads them -/
theorem t_X6_isWordF {mu : Mem} {j : Nat} {f pl : Int} (hj : j < 4) (hF : FS mu f pl) : TrS 5 mX6_isWord (fun G => [vr 55, vq (ak G j)]) mu (fun r m2 => r = some (vi 0) ∧ mu = m2) := by
  refine TrS.of (by decide +kernel) (fun _ => Nat.le_of_ble_eq_true rfl) (fun K C E hX => ?_)
  have := hF.1
  refine aw_aload_n C dX6_isWord_0 rfl ?_
  refine aw_getI C dX6_isWord_1 fX6_92 ⟨rfl, by decide⟩ rfl ?_
  refine aw_if_ne C dX6_isWord_4 (tgt := 31) (by decide) ⟨by omega, by omega⟩ (fun c1 => ?_) (fun c1 => ?_)
  · refine aw_iconst C dX6_isWord_31 ?_
    exact aw_zret C E dX6_isWord_32 rfl (by omega) ⟨rfl, rfl⟩
  · exfalso; omega
theorem t_X6_isWord {mu : Mem} {j : Nat} {t : TK} (hj : j < 4) (h7 : mu 55 7 = 0) (hM : MT mu t) (hb : tB t) (hn : 0 ≤ nmS j ∧ nmS j < 1073741824) : TrS 5 mX6_isWord (fun G => [vr 55, vq (ak G j)]) mu (fun r m2 => r = some (vi (b01 (t.1 = 1 ∧ t.2.1 = nmS j))) ∧ mu = m2) := by
  refine TrS.of (by decide +kernel) (fun _ => Nat.le_of_ble_eq_true rfl) (fun K C E hX => ?_)
  obtain ⟨k1, k2, k3, k4, k5, k6, k7, k8⟩ := hM.k hb
  have b1 := hb.2.1
  refine aw_aload_n C dX6_isWord_0 rfl ?_
  refine aw_getI C dX6_isWord_1 fX6_92 ⟨rfl, by decide⟩ rfl ?_
  refine aw_if_ne C dX6_isWord_4 (tgt := 31) (by decide) ⟨by omega, by omega⟩ (fun c1 => ?_) (fun c1 => ?_)
  · exfalso; omega
  · refine aw_aload_n C dX6_isWord_7 rfl ?_
    refine aw_getI C dX6_isWord_8 fX6_119 ⟨rfl, by decide⟩ rfl ?_
    refine aw_iconst C dX6_isWord_11 ?_
    refine aw_icmp_ne C dX6_isWord_12 (tgt := 31) (by decide) ⟨by omega, by omega⟩ ⟨by omega, by omega⟩ (fun c2 => ?_) (fun c2 => ?_)
    · refine aw_iconst C dX6_isWord_31 ?_
      exact aw_zret C E dX6_isWord_32 rfl (by omega) ⟨by first | rw [b01_t ⟨by omega, by omega⟩] | rw [b01_f (fun q => by omega)], rfl⟩
    · have t1 : t.1 = 1 := by omega
      have b2 := b1 t1
      have k7 := k7 t1
      --go
      refine aw_aload_n C dX6_isWord_15 rfl ?_
      refine aw_getL C dX6_isWord_16 fX6_126 ⟨rfl, by decide⟩ rfl ?_
      refine aw_qload_n C dX6_isWord_19 rfl ?_
      refine aw_callSX C hX dX6_isWord_20 lX6_151 vX6_wordOf (t_X6_wordOf hj) rfl rfl rfl rfl ⟨by decide, by decide⟩ (Nat.le_of_ble_eq_true rfl) (fun r3 mu3 hq3 => ?_)
      obtain ⟨rfl, rfl⟩ := hq3
      show AW _ _ _ _ _ (vl (nmS j) :: _) _
      refine aw_lcmp_ne C dX6_isWord_23 dX6_isWord_24 (tgt := 31) (by decide) ⟨by omega, by omega⟩ ⟨by omega, by omega⟩ (fun c4 => ?_) (fun c4 => ?_)
      · refine aw_iconst C dX6_isWord_31 ?_
        exact aw_zret C E dX6_isWord_32 rfl (by omega) ⟨by first | rw [b01_t ⟨by omega, by omega⟩] | rw [b01_f (fun q => by omega)], rfl⟩
      · refine aw_iconst C dX6_isWord_27 ?_
        refine aw_goto C dX6_isWord_28 (tgt := 32) (by decide) ?_
        exact aw_zret C E dX6_isWord_32 rfl (by omega) ⟨by first | rw [b01_t ⟨by omega, by omega⟩] | rw [b01_f (fun q => by omega)], rfl⟩
theorem nm_b : ∀ j, j < 4 → 0 ≤ nmS j ∧ nmS j < 1073741824 := by decide
/-- what is left of the reading behind a word that must stand there -/
theorem t_X6_needsF {mu : Mem} {j : Nat} {f pl : Int} (hj : j < 4) (hF : FS mu f pl) : TrS 6 mX6_needs (fun G => [vr 55, vq (ak G j)]) mu (fun r m2 => r = none ∧ mu = m2) := by
  refine TrS.of (by decide +kernel) (fun _ => Nat.le_of_ble_eq_true rfl) (fun K C E hX => ?_)
  refine aw_aload_n C dX6_needs_0 rfl ?_
  refine aw_qload_n C dX6_needs_1 rfl ?_
  refine aw_callX C hX dX6_needs_2 lX6_155 vX6_isWord (t_X6_isWordF hj hF) rfl rfl rfl rfl ⟨rfl, by decide⟩ rfl ⟨by decide, by decide⟩ (Nat.le_of_ble_eq_true rfl) (fun r1 mu1 hq1 => ?_)
  obtain ⟨rfl, rfl⟩ := hq1
  show AW _ _ _ _ _ [vi 0] _
  refine aw_if_ne C dX6_needs_5 (tgt := 13) (by decide) ⟨by omega, by omega⟩ (fun c2 => ?_) (fun c2 => ?_)
  · exfalso; omega
  · refine aw_aload_n C dX6_needs_8 rfl ?_
    refine aw_iconst C dX6_needs_9 ?_
    refine aw_call0 C dX6_needs_10 lX6_159 vX6_flaw (t_X6_flawF hF) rfl rfl rfl ⟨rfl, by decide⟩ rfl ⟨by decide, by decide⟩ (Nat.le_of_ble_eq_true rfl) ?_
    refine aw_aload_n C dX6_needs_13 rfl ?_
    refine aw_call0 C dX6_needs_14 lX6_163 vX6_goOn (t_X6_goOnF hF) rfl rfl rfl ⟨rfl, by decide⟩ rfl ⟨by decide, by decide⟩ (Nat.le_of_ble_eq_true rfl) ?_
    exact aw_vret C E dX6_needs_17 rfl ⟨rfl, rfl⟩
def flS : Nat → Nat → Prop := fun a b => a = 55 ∧ (b = 6 ∨ (7 ≤ b ∧ b ≤ 13))
theorem goS_f : ∀ a b, goS a b → flS a b := fun a b h => by unfold goS at h; unfold flS; omega
theorem f78_f : ∀ a b, (a = 55 ∧ (b = 7 ∨ b = 8)) → flS a b := fun a b h => by unfold flS; omega
theorem MT.nx {m : Mem} {t : TK} (h : MT m t) (h3 : t.1 ≠ 3) : m 55 6 = t.2.2.2 := h.2.1 h3
theorem t_X6_needs0 {mu : Mem} {A : Nat → Int} {n : Int} {j : Nat} {t : TK} (hj : j < 4) (hK : rdK mu A n) (h7 : mu 55 7 = 0) (hM : MT mu t) (hi : tI n t) (hnb : nbM mu) : TrS 6 mX6_needs (fun G => [vr 55, vq (ak G j)]) mu (fun r m2 => r = none ∧ frc flS mu m2 ∧ ((fWd t (nmS j) = 0 ∧ m2 55 7 = 0 ∧ MT m2 (tok A n t.2.2.2) ∧ nbM m2) ∨ (fWd t (nmS j) ≠ 0 ∧ FS m2 1 t.2.2.1))) := by
  refine TrS.of (by decide +kernel) (fun _ => Nat.le_of_ble_eq_true rfl) (fun K C E hX => ?_)
  have kb := b01_01 (t.1 = 1 ∧ t.2.1 = nmS j)
  have kbi : b01 (t.1 = 1 ∧ t.2.1 = nmS j) = 1 ↔ (t.1 = 1 ∧ t.2.1 = nmS j) := b01_iff
  have ef : fWd t (nmS j) = if t.1 = 1 ∧ t.2.1 = nmS j then 0 else 1 := rfl
  have b4 := hi.2.2
  refine aw_aload_n C dX6_needs_0 rfl ?_
  refine aw_qload_n C dX6_needs_1 rfl ?_
  refine aw_callX C hX dX6_needs_2 lX6_155 vX6_isWord (t_X6_isWord hj h7 hM hi.1 (nm_b j hj)) rfl rfl rfl rfl ⟨rfl, by decide⟩ rfl ⟨by decide, by decide⟩ (Nat.le_of_ble_eq_true rfl) (fun r1 mu1 hq1 => ?_)
  obtain ⟨rfl, rfl⟩ := hq1
  show AW _ _ _ _ _ [vi (b01 (t.1 = 1 ∧ t.2.1 = nmS j))] _
  refine aw_if_ne C dX6_needs_5 (tgt := 13) (by decide) ⟨by omega, by omega⟩ (fun c2 => ?_) (fun c2 => ?_)
  · have w := kbi.mp (by omega)
    have GO := t_X6_goOn hK h7 (hM.nx (by omega)) b4.1 b4.2.1 hnb
    refine aw_aload_n C dX6_needs_13 rfl ?_
    refine aw_call C dX6_needs_14 lX6_163 vX6_goOn GO rfl rfl rfl ⟨rfl, by decide⟩ rfl ⟨by decide, by decide⟩ (Nat.le_of_ble_eq_true rfl) (fun r m2 hq => ?_)
    obtain ⟨rfl, f1, f2, f3⟩ := hq
    exact aw_vret C E dX6_needs_17 rfl ⟨rfl, f1.mono goS_f, Or.inl ⟨by rw [ef, if_pos w], (f1 _ _ (by unfold goS; omega)).trans h7, f2, f3⟩⟩
  · have w : ¬ (t.1 = 1 ∧ t.2.1 = nmS j) := fun z => by have := kbi.mpr z; omega
    --go
    refine aw_aload_n C dX6_needs_8 rfl ?_
    refine aw_iconst C dX6_needs_9 ?_
    refine aw_call C dX6_needs_10 lX6_159 vX6_flaw (t_X6_flaw0 h7 (by omega) hnb) rfl rfl rfl ⟨rfl, by decide⟩ rfl ⟨by decide, by decide⟩ (Nat.le_of_ble_eq_true rfl) (fun r3 mu3 hq3 => ?_)
    obtain ⟨rfl, f1, f2⟩ := hq3
    rw [hM.1] at f2
    generalize mu3 = m2 at *
    show AW _ _ _ _ _ [] _
    refine aw_aload_n C dX6_needs_13 rfl ?_
    refine aw_call0 C dX6_needs_14 lX6_163 vX6_goOn (t_X6_goOnF f2) rfl rfl rfl ⟨rfl, by decide⟩ rfl ⟨by decide, by decide⟩ (Nat.le_of_ble_eq_true rfl) ?_
    exact aw_vret C E dX6_needs_17 rfl ⟨rfl, f1.mono f78_f, Or.inr ⟨by rw [ef, if_neg w]; decide, f2⟩⟩
theorem t_X6_isNameF {mu : Mem} {f pl : Int} (hF : FS mu f pl) : TrS 6 mX6_isName (fun _ => [vr 55]) mu (fun r m2 => r = some (vi 0) ∧ mu = m2) := by
  refine TrS.of (by decide +kernel) (fun _ => Nat.le_of_ble_eq_true rfl) (fun K C E hX => ?_)
  have := hF.1
  refine aw_aload_n C dX6_isName_0 rfl ?_
  refine aw_getI C dX6_isName_1 fX6_92 ⟨rfl, by decide⟩ rfl ?_
  refine aw_if_ne C dX6_isName_4 (tgt := 55) (by decide) ⟨by omega, by omega⟩ (fun c1 => ?_) (fun c1 => ?_)
  · refine aw_iconst C dX6_isName_55 ?_
    exact aw_zret C E dX6_isName_56 rfl (by omega) ⟨rfl, rfl⟩
  · exfalso; omega
theorem nm01 {t : TK} {z : Int} (h : b01 (t.1 = 1 ∧ t.2.1 = z) ≠ 0) : t.2.1 = z := by
  have j := b01_01 (t.1 = 1 ∧ t.2.1 = z)
  exact (b01_iff.mp (show b01 (t.1 = 1 ∧ t.2.1 = z) = 1 by omega)).2
theorem nm00 {t : TK} {z : Int} (h1 : t.1 = 1) (h : b01 (t.1 = 1 ∧ t.2.1 = z) = 0) : t.2.1 ≠ z := fun w => b01_niff.mp h ⟨h1, w⟩
theorem r01 (p : Prop) : R32 (b01 p) := by
  have j := b01_01 p
  exact ⟨by omega, by omega⟩
theorem t_X6_isName {mu : Mem} {t : TK} (h7 : mu 55 7 = 0) (hM : MT mu t) (hb : tB t) : TrS 6 mX6_isName (fun _ => [vr 55]) mu (fun r m2 => r = some (vi (b01 (isNm t))) ∧ mu = m2) := by
  refine TrS.of (by decide +kernel) (fun _ => Nat.le_of_ble_eq_true rfl) (fun K C E hX => ?_)
  have k1 := (hM.k hb).1
  have k4 := (hM.k hb).2.2.2.1
  refine aw_aload_n C dX6_isName_0 rfl ?_
  refine aw_getI C dX6_isName_1 fX6_92 ⟨rfl, by decide⟩ rfl ?_
  refine aw_if_ne C dX6_isName_4 (tgt := 55) (by decide) ⟨by omega, by omega⟩ (fun c1 => ?_) (fun c1 => ?_)
  · exfalso; omega
  · refine aw_aload_n C dX6_isName_7 rfl ?_
    refine aw_getI C dX6_isName_8 fX6_119 ⟨rfl, by decide⟩ rfl ?_
    refine aw_iconst C dX6_isName_11 ?_
    refine aw_icmp_ne C dX6_isName_12 (tgt := 55) (by decide) ⟨by omega, by omega⟩ ⟨by omega, by omega⟩ (fun d0 => ?_) (fun d0 => ?_)
    · have hr : b01 (isNm t) = 0 := b01_f (fun q => d0 (k1.mpr q.1))
      --go
      refine aw_iconst C dX6_isName_55 ?_
      exact aw_zret C E dX6_isName_56 rfl (by omega) ⟨by rw [hr], rfl⟩
    · have t1 := k1.mp (by omega)
      clear k1 k4
      --go
      refine aw_aload_n C dX6_isName_15 rfl ?_
      refine aw_ldcS C hX (i := 0) (by decide) rfl rfl dX6_isName_16 ?_
      refine aw_callX C hX dX6_isName_18 lX6_155 vX6_isWord (t_X6_isWord (j := 0) (by decide) h7 hM hb (nm_b 0 (by decide))) rfl rfl rfl rfl ⟨rfl, by decide⟩ rfl ⟨by decide, by decide⟩ (Nat.le_of_ble_eq_true rfl) (fun r2 mu2 hq2 => ?_)
      obtain ⟨rfl, rfl⟩ := hq2
      show AW _ _ _ _ _ [vi (b01 (t.1 = 1 ∧ t.2.1 = nmS 0))] _
      rw [nmS_0]
      refine aw_if_ne C dX6_isName_21 (tgt := 55) (by decide) (r01 _) (fun d1 => ?_) (fun d1 => ?_)
      · have hr : b01 (isNm t) = 0 := b01_f (fun q => q.2.1 (nm01 d1))
        --go
        refine aw_iconst C dX6_isName_55 ?_
        exact aw_zret C E dX6_isName_56 rfl (by omega) ⟨by rw [hr], rfl⟩
      · refine aw_aload_n C dX6_isName_24 rfl ?_
        refine aw_ldcS C hX (i := 1) (by decide) rfl rfl dX6_isName_25 ?_
        refine aw_callX C hX dX6_isName_27 lX6_155 vX6_isWord (t_X6_isWord (j := 1) (by decide) h7 hM hb (nm_b 1 (by decide))) rfl rfl rfl rfl ⟨rfl, by decide⟩ rfl ⟨by decide, by decide⟩ (Nat.le_of_ble_eq_true rfl) (fun r3 mu3 hq3 => ?_)
        obtain ⟨rfl, rfl⟩ := hq3
        show AW _ _ _ _ _ [vi (b01 (t.1 = 1 ∧ t.2.1 = nmS 1))] _
        rw [nmS_1]
        refine aw_if_ne C dX6_isName_30 (tgt := 55) (by decide) (r01 _) (fun d2 => ?_) (fun d2 => ?_)
        · have hr : b01 (isNm t) = 0 := b01_f (fun q => q.2.2.1 (nm01 d2))
          --go
          refine aw_iconst C dX6_isName_55 ?_
          exact aw_zret C E dX6_isName_56 rfl (by omega) ⟨by rw [hr], rfl⟩
        · refine aw_aload_n C dX6_isName_33 rfl ?_
          refine aw_ldcS C hX (i := 2) (by decide) rfl rfl dX6_isName_34 ?_
          refine aw_callX C hX dX6_isName_36 lX6_155 vX6_isWord (t_X6_isWord (j := 2) (by decide) h7 hM hb (nm_b 2 (by decide))) rfl rfl rfl rfl ⟨rfl, by decide⟩ rfl ⟨by decide, by decide⟩ (Nat.le_of_ble_eq_true rfl) (fun r4 mu4 hq4 => ?_)
          obtain ⟨rfl, rfl⟩ := hq4
          show AW _ _ _ _ _ [vi (b01 (t.1 = 1 ∧ t.2.1 = nmS 2))] _
          rw [nmS_2]
          refine aw_if_ne C dX6_isName_39 (tgt := 55) (by decide) (r01 _) (fun d3 => ?_) (fun d3 => ?_)
          · have hr : b01 (isNm t) = 0 := b01_f (fun q => q.2.2.2.1 (nm01 d3))
            --go
            refine aw_iconst C dX6_isName_55 ?_
            exact aw_zret C E dX6_isName_56 rfl (by omega) ⟨by rw [hr], rfl⟩
          · refine aw_aload_n C dX6_isName_42 rfl ?_
            refine aw_ldcS C hX (i := 3) (by decide) rfl rfl dX6_isName_43 ?_
            refine aw_callX C hX dX6_isName_45 lX6_155 vX6_isWord (t_X6_isWord (j := 3) (by decide) h7 hM hb (nm_b 3 (by decide))) rfl rfl rfl rfl ⟨rfl, by decide⟩ rfl ⟨by decide, by decide⟩ (Nat.le_of_ble_eq_true rfl) (fun r5 mu5 hq5 => ?_)
            obtain ⟨rfl, rfl⟩ := hq5
            show AW _ _ _ _ _ [vi (b01 (t.1 = 1 ∧ t.2.1 = nmS 3))] _
            rw [nmS_3]
            refine aw_if_ne C dX6_isName_48 (tgt := 55) (by decide) (r01 _) (fun d4 => ?_) (fun d4 => ?_)
            · have hr : b01 (isNm t) = 0 := b01_f (fun q => q.2.2.2.2 (nm01 d4))
              --go
              refine aw_iconst C dX6_isName_55 ?_
              exact aw_zret C E dX6_isName_56 rfl (by omega) ⟨by rw [hr], rfl⟩
            · have hr : b01 (isNm t) = 1 := b01_t ⟨t1, nm00 t1 (by omega), nm00 t1 (by omega), nm00 t1 (by omega), nm00 t1 (by omega)⟩
              --go
              refine aw_iconst C dX6_isName_51 ?_
              refine aw_goto C dX6_isName_52 (tgt := 56) (by decide) ?_
              exact aw_zret C E dX6_isName_56 rfl (by omega) ⟨by rw [hr], rfl⟩
theorem t_X6_readIntF {mu : Mem} {f pl c : Int} (hF : FS mu f pl) (hc : R32 c) : Tr 3 mX6_readInt [vr 55, vi c] mu (fun r m2 => (∃ z, r = some (vi z)) ∧ mu = m2) := by
  refine Tr.of (by decide +kernel) (Nat.le_of_ble_eq_true rfl) (fun K C E => ?_)
  have n1 := hF.2.2.1
  have n2 := hF.2.2.2
  refine aw_aload_n C dX6_readInt_0 rfl ?_
  refine aw_bipush C dX6_readInt_1 rfl ?_
  refine aw_call1 C dX6_readInt_3 lX6_173 vX6_isSign (t_X6_isSignF hF) rfl rfl rfl ⟨rfl, by decide⟩ rfl ⟨by decide, by decide⟩ (Nat.le_of_ble_eq_true rfl) ?_
  refine aw_istore_n C dX6_readInt_6 (by decide) ?_
  refine aw_iload_n C dX6_readInt_7 rfl ?_
  refine aw_if_eq C dX6_readInt_8 (tgt := 15) (by decide) ⟨by omega, by omega⟩ (fun c1 => ?_) (fun c1 => ?_)
  · refine aw_aload_n C dX6_readInt_15 rfl ?_
    refine aw_getI C dX6_readInt_16 fX6_119 ⟨rfl, by decide⟩ rfl ?_
    refine aw_iconst C dX6_readInt_19 ?_
    refine aw_icmp_eq C dX6_readInt_20 (tgt := 31) (by decide) ⟨by omega, by omega⟩ ⟨by omega, by omega⟩ (fun c2 => ?_) (fun c2 => ?_)
    · refine aw_aload_n C dX6_readInt_31 rfl ?_
      refine aw_getI C dX6_readInt_32 fX6_135 ⟨rfl, by decide⟩ rfl ?_
      refine aw_iload_n C dX6_readInt_35 rfl ?_
      refine aw_icmp_le C dX6_readInt_36 (tgt := 44) (by decide) ⟨by omega, by omega⟩ ⟨by omega, by omega⟩ (fun c3 => ?_) (fun c3 => ?_)
      · refine aw_iload_n C dX6_readInt_44 rfl ?_
        refine aw_if_eq C dX6_readInt_45 (tgt := 56) (by decide) ⟨by omega, by omega⟩ (fun c4 => ?_) (fun c4 => ?_)
        · refine aw_aload_n C dX6_readInt_56 rfl ?_
          refine aw_getI C dX6_readInt_57 fX6_135 ⟨rfl, by decide⟩ rfl ?_
          exact aw_iret C E dX6_readInt_60 rfl ⟨⟨_, rfl⟩, rfl⟩
        · exfalso; omega
      · refine aw_aload_n C dX6_readInt_39 rfl ?_
        refine aw_iconst C dX6_readInt_40 ?_
        refine aw_call0 C dX6_readInt_41 lX6_159 vX6_flaw (t_X6_flawF hF) rfl rfl rfl ⟨rfl, by decide⟩ rfl ⟨by decide, by decide⟩ (Nat.le_of_ble_eq_true rfl) ?_
        refine aw_iload_n C dX6_readInt_44 rfl ?_
        refine aw_if_eq C dX6_readInt_45 (tgt := 56) (by decide) ⟨by omega, by omega⟩ (fun c5 => ?_) (fun c5 => ?_)
        · refine aw_aload_n C dX6_readInt_56 rfl ?_
          refine aw_getI C dX6_readInt_57 fX6_135 ⟨rfl, by decide⟩ rfl ?_
          exact aw_iret C E dX6_readInt_60 rfl ⟨⟨_, rfl⟩, rfl⟩
        · exfalso; omega
    · refine aw_aload_n C dX6_readInt_23 rfl ?_
      refine aw_iconst C dX6_readInt_24 ?_
      refine aw_call0 C dX6_readInt_25 lX6_159 vX6_flaw (t_X6_flawF hF) rfl rfl rfl ⟨rfl, by decide⟩ rfl ⟨by decide, by decide⟩ (Nat.le_of_ble_eq_true rfl) ?_
      refine aw_goto C dX6_readInt_28 (tgt := 44) (by decide) ?_
      refine aw_iload_n C dX6_readInt_44 rfl ?_
      refine aw_if_eq C dX6_readInt_45 (tgt := 56) (by decide) ⟨by omega, by omega⟩ (fun c6 => ?_) (fun c6 => ?_)
      · refine aw_aload_n C dX6_readInt_56 rfl ?_
        refine aw_getI C dX6_readInt_57 fX6_135 ⟨rfl, by decide⟩ rfl ?_
        exact aw_iret C E dX6_readInt_60 rfl ⟨⟨_, rfl⟩, rfl⟩
      · exfalso; omega
  · exfalso; omega
theorem t_X6_readInt0 {mu : Mem} {A : Nat → Int} {n c : Int} {t : TK} (hK : rdK mu A n) (h7 : mu 55 7 = 0) (hM : MT mu t) (hi : tI n t) (hnb : nbM mu) (hc : 0 ≤ c ∧ c ≤ 100) : Tr 3 mX6_readInt [vr 55, vi c] mu (fun r m2 => frc flS mu m2 ∧ ((fIf A n c t = 0 ∧ r = some (vi (fIv A n t)) ∧ m2 55 7 = 0 ∧ MT m2 (fI1 A n t) ∧ nbM m2) ∨ (fIf A n c t ≠ 0 ∧ (∃ z, r = some (vi z)) ∧ FS m2 (fIf A n c t) (fI1 A n t).2.2.1))) := by
  refine Tr.of (by decide +kernel) (Nat.le_of_ble_eq_true rfl) (fun K C E => ?_)
  have kb := b01_01 (t.1 = 45)
  have kbi : b01 (t.1 = 45) = 1 ↔ t.1 = 45 := b01_iff
  have b4 := hi.2.2
  have ef : fIf A n c t = if (fI1 A n t).1 ≠ 2 then 1 else if (fI1 A n t).2.1 > c then 2 else 0 := rfl
  have rest : ∀ (m : Mem) (b : Int), (b = 1 ∧ t.1 = 45) ∨ (b = 0 ∧ ¬ t.1 = 45) → frc flS mu m → m 55 7 = 0 → MT m (fI1 A n t) → tB (fI1 A n t) → nbM m → AW K mX6_readInt (NC, 0, 0) 15 [vr 55, vi c, vi b] [] m := by
    intro m b hb2 hf y7 hM2 hb3 y3
    obtain ⟨k1, k2, k3, k4, k5, k6, k7, k8⟩ := hM2.k hb3
    have b2 := hb3.2.2
    have ev : fIv A n t = if t.1 = 45 then -(fI1 A n t).2.1 else (fI1 A n t).2.1 := rfl
    refine aw_aload_n C dX6_readInt_15 rfl ?_
    refine aw_getI C dX6_readInt_16 fX6_119 ⟨rfl, by decide⟩ rfl ?_
    refine aw_iconst C dX6_readInt_19 ?_
    refine aw_icmp_eq C dX6_readInt_20 (tgt := 31) (by decide) ⟨by omega, by omega⟩ ⟨by omega, by omega⟩ (fun c1 => ?_) (fun c1 => ?_)
    · have t2 : (fI1 A n t).1 = 2 := by omega
      have e12 := k8 t2
      have b2 := b2 t2
      --go
      refine aw_aload_n C dX6_readInt_31 rfl ?_
      refine aw_getI C dX6_readInt_32 fX6_135 ⟨rfl, by decide⟩ rfl ?_
      refine aw_iload_n C dX6_readInt_35 rfl ?_
      refine aw_icmp_le C dX6_readInt_36 (tgt := 44) (by decide) ⟨by omega, by omega⟩ ⟨by omega, by omega⟩ (fun c2 => ?_) (fun c2 => ?_)
      · have fin := (⟨hf, Or.inl ⟨by rw [ef, if_neg (by omega), if_neg (by omega)], y7, hM2, y3⟩⟩ : frc flS mu m ∧ ((fIf A n c t = 0 ∧ m 55 7 = 0 ∧ MT m (fI1 A n t) ∧ nbM m) ∨ False))
        --go
        refine aw_iload_n C dX6_readInt_44 rfl ?_
        refine aw_if_eq C dX6_readInt_45 (tgt := 56) (by decide) ⟨by omega, by omega⟩ (fun c3 => ?_) (fun c3 => ?_)
        · refine aw_aload_n C dX6_readInt_56 rfl ?_
          refine aw_getI C dX6_readInt_57 fX6_135 ⟨rfl, by decide⟩ rfl ?_
          exact aw_iret C E dX6_readInt_60 rfl (by
  obtain ⟨fr, q | q⟩ := fin
  · first
    | exact q.elim
    | (refine ⟨fr, Or.inl ⟨q.1, ?_, q.2.1, q.2.2.1, q.2.2.2⟩⟩; first | (rw [ev, if_pos (by omega), e12]) | (rw [ev, if_neg (by omega), e12]))
  · first
    | exact q.elim
    | exact ⟨fr, Or.inr ⟨q.1, ⟨_, rfl⟩, q.2⟩⟩)
        · refine aw_aload_n C dX6_readInt_48 rfl ?_
          refine aw_getI C dX6_readInt_49 fX6_135 ⟨rfl, by decide⟩ rfl ?_
          refine aw_ineg C dX6_readInt_52 ?_
          refine aw_goto C dX6_readInt_53 (tgt := 60) (by decide) ?_
          exact aw_iret C E dX6_readInt_60 rfl (by
  obtain ⟨fr, q | q⟩ := fin
  · first
    | exact q.elim
    | (refine ⟨fr, Or.inl ⟨q.1, ?_, q.2.1, q.2.2.1, q.2.2.2⟩⟩; first | (rw [ev, if_pos (by omega), e12]) | (rw [ev, if_neg (by omega), e12]))
  · first
    | exact q.elim
    | exact ⟨fr, Or.inr ⟨q.1, ⟨_, rfl⟩, q.2⟩⟩)
      · refine aw_aload_n C dX6_readInt_39 rfl ?_
        refine aw_iconst C dX6_readInt_40 ?_
        refine aw_call C dX6_readInt_41 lX6_159 vX6_flaw (t_X6_flaw0 y7 (by omega) y3) rfl rfl rfl ⟨rfl, by decide⟩ rfl ⟨by decide, by decide⟩ (Nat.le_of_ble_eq_true rfl) (fun r4 mu4 hq4 => ?_)
        obtain ⟨rfl, g1, g2⟩ := hq4
        rw [hM2.1] at g2
        have fin := (⟨hf.tr (g1.mono f78_f), Or.inr ⟨by rw [ef, if_neg (by omega), if_pos (by omega)]; decide, by rw [ef, if_neg (by omega), if_pos (by omega)]; exact g2⟩⟩ : frc flS mu mu4 ∧ (False ∨ (fIf A n c t ≠ 0 ∧ FS mu4 (fIf A n c t) (fI1 A n t).2.2.1)))
        generalize mu4 = m3 at *
        show AW _ _ _ _ _ [] _
        refine aw_iload_n C dX6_readInt_44 rfl ?_
        refine aw_if_eq C dX6_readInt_45 (tgt := 56) (by decide) ⟨by omega, by omega⟩ (fun c5 => ?_) (fun c5 => ?_)
        · refine aw_aload_n C dX6_readInt_56 rfl ?_
          refine aw_getI C dX6_readInt_57 fX6_135 ⟨rfl, by decide⟩ rfl ?_
          exact aw_iret C E dX6_readInt_60 rfl (by
  obtain ⟨fr, q | q⟩ := fin
  · first
    | exact q.elim
    | (refine ⟨fr, Or.inl ⟨q.1, ?_, q.2.1, q.2.2.1, q.2.2.2⟩⟩; first | (rw [ev, if_pos (by omega), e12]) | (rw [ev, if_neg (by omega), e12]))
  · first
    | exact q.elim
    | exact ⟨fr, Or.inr ⟨q.1, ⟨_, rfl⟩, q.2⟩⟩)
        · refine aw_aload_n C dX6_readInt_48 rfl ?_
          refine aw_getI C dX6_readInt_49 fX6_135 ⟨rfl, by decide⟩ rfl ?_
          refine aw_ineg C dX6_readInt_52 ?_
          refine aw_goto C dX6_readInt_53 (tgt := 60) (by decide) ?_
          exact aw_iret C E dX6_readInt_60 rfl (by
  obtain ⟨fr, q | q⟩ := fin
  · first
    | exact q.elim
    | (refine ⟨fr, Or.inl ⟨q.1, ?_, q.2.1, q.2.2.1, q.2.2.2⟩⟩; first | (rw [ev, if_pos (by omega), e12]) | (rw [ev, if_neg (by omega), e12]))
  · first
    | exact q.elim
    | exact ⟨fr, Or.inr ⟨q.1, ⟨_, rfl⟩, q.2⟩⟩)
    · refine aw_aload_n C dX6_readInt_23 rfl ?_
      refine aw_iconst C dX6_readInt_24 ?_
      refine aw_call C dX6_readInt_25 lX6_159 vX6_flaw (t_X6_flaw0 y7 (by omega) y3) rfl rfl rfl ⟨rfl, by decide⟩ rfl ⟨by decide, by decide⟩ (Nat.le_of_ble_eq_true rfl) (fun r6 mu6 hq6 => ?_)
      obtain ⟨rfl, g1, g2⟩ := hq6
      rw [hM2.1] at g2
      have fin := (⟨hf.tr (g1.mono f78_f), Or.inr ⟨by rw [ef, if_pos (by omega)]; decide, by rw [ef, if_pos (by omega)]; exact g2⟩⟩ : frc flS mu mu6 ∧ (False ∨ (fIf A n c t ≠ 0 ∧ FS mu6 (fIf A n c t) (fI1 A n t).2.2.1)))
      generalize mu6 = m3 at *
      show AW _ _ _ _ _ [] _
      refine aw_goto C dX6_readInt_28 (tgt := 44) (by decide) ?_
      refine aw_iload_n C dX6_readInt_44 rfl ?_
      refine aw_if_eq C dX6_readInt_45 (tgt := 56) (by decide) ⟨by omega, by omega⟩ (fun c7 => ?_) (fun c7 => ?_)
      · refine aw_aload_n C dX6_readInt_56 rfl ?_
        refine aw_getI C dX6_readInt_57 fX6_135 ⟨rfl, by decide⟩ rfl ?_
        exact aw_iret C E dX6_readInt_60 rfl (by
  obtain ⟨fr, q | q⟩ := fin
  · first
    | exact q.elim
    | (refine ⟨fr, Or.inl ⟨q.1, ?_, q.2.1, q.2.2.1, q.2.2.2⟩⟩; first | (rw [ev, if_pos (by omega), e12]) | (rw [ev, if_neg (by omega), e12]))
  · first
    | exact q.elim
    | exact ⟨fr, Or.inr ⟨q.1, ⟨_, rfl⟩, q.2⟩⟩)
      · refine aw_aload_n C dX6_readInt_48 rfl ?_
        refine aw_getI C dX6_readInt_49 fX6_135 ⟨rfl, by decide⟩ rfl ?_
        refine aw_ineg C dX6_readInt_52 ?_
        refine aw_goto C dX6_readInt_53 (tgt := 60) (by decide) ?_
        exact aw_iret C E dX6_readInt_60 rfl (by
  obtain ⟨fr, q | q⟩ := fin
  · first
    | exact q.elim
    | (refine ⟨fr, Or.inl ⟨q.1, ?_, q.2.1, q.2.2.1, q.2.2.2⟩⟩; first | (rw [ev, if_pos (by omega), e12]) | (rw [ev, if_neg (by omega), e12]))
  · first
    | exact q.elim
    | exact ⟨fr, Or.inr ⟨q.1, ⟨_, rfl⟩, q.2⟩⟩)
  refine aw_aload_n C dX6_readInt_0 rfl ?_
  refine aw_bipush C dX6_readInt_1 rfl ?_
  refine aw_call1 C dX6_readInt_3 lX6_173 vX6_isSign (t_X6_isSign h7 hM hi.1 (Or.inr (Or.inr rfl))) rfl rfl rfl ⟨rfl, by decide⟩ rfl ⟨by decide, by decide⟩ (Nat.le_of_ble_eq_true rfl) ?_
  refine aw_istore_n C dX6_readInt_6 (by decide) ?_
  refine aw_iload_n C dX6_readInt_7 rfl ?_
  refine aw_if_eq C dX6_readInt_8 (tgt := 15) (by decide) ⟨by omega, by omega⟩ (fun c1 => ?_) (fun c1 => ?_)
  · have e1 : fI1 A n t = t := by unfold fI1; rw [if_neg (fun z => by have := kbi.mpr z; omega)]
    --go
    rw [show b01 (t.1 = 45) = 0 by omega]; exact rest mu 0 (Or.inr ⟨rfl, fun z => by have := kbi.mpr z; omega⟩) frc.rf h7 (by rw [e1]; exact hM) (by rw [e1]; exact hi.1) hnb
  · refine aw_aload_n C dX6_readInt_11 rfl ?_
    refine aw_call C dX6_readInt_12 lX6_163 vX6_goOn (t_X6_goOn hK h7 (hM.nx (by omega)) b4.1 b4.2.1 hnb) rfl rfl rfl ⟨rfl, by decide⟩ rfl ⟨by decide, by decide⟩ (Nat.le_of_ble_eq_true rfl) (fun r2 mu2 hq2 => ?_)
    obtain ⟨rfl, f1, f2, f3⟩ := hq2
    have e1 : fI1 A n t = tok A n t.2.2.2 := by unfold fI1; rw [if_pos (kbi.mp (by omega))]
    generalize mu2 = m2 at *
    show AW _ _ _ _ _ [] _
    rw [show b01 (t.1 = 45) = 1 by omega]; exact rest m2 1 (Or.inl ⟨rfl, kbi.mp (by omega)⟩) (f1.mono goS_f) ((f1 _ _ (by unfold goS; omega)).trans h7) (by rw [e1]; exact f2) (by rw [e1]; exact (tok_i b4.1 b4.2.1).1) f3

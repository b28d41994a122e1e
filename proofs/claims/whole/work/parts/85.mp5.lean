/-! a ray's line -/
def rdM : Nat → Nat → Prop := fun a b => (a = 55 ∧ ((6 ≤ b ∧ b ≤ 13) ∨ b = 21 ∨ b = 22)) ∨ a = 57 ∨ a = 58 ∨ (60 ≤ a ∧ a ≤ 63)
theorem flS_r : ∀ a b, flS a b → rdM a b := fun a b h => by unfold flS at h; unfold rdM; omega
def rdP (mu m : Mem) (R : Int × TK × PD) : Prop := frc rdM mu m ∧ ((R.1 = 0 ∧ m 55 7 = 0 ∧ MT m R.2.1 ∧ nbM m ∧ pdM m = R.2.2) ∨ (R.1 ≠ 0 ∧ FS m R.1 R.2.1.2.2.1))
theorem rdK.rd {mu m : Mem} {A : Nat → Int} {n : Int} (h : rdK mu A n) (hf : frc rdM mu m) : rdK m A n := h.fr hf (by unfold rdM; omega) (fun j => by unfold rdM; omega)
theorem pd_addR {m m2 : Mem} {D : PD} {x y w : Int} (eD : pdM m = D) (h0 : 0 ≤ D.1) (e1 : m2 55 21 = D.1 + 1) (e2 : m2 55 22 = m 55 22) (e3 : ∀ j : Nat, (j : Int) ≤ D.1 → m2 60 j = if (j : Int) = D.1 then x else m 60 j) (e4 : ∀ j : Nat, (j : Int) ≤ D.1 → m2 61 j = if (j : Int) = D.1 then y else m 61 j) (e5 : ∀ j : Nat, (j : Int) ≤ D.1 → m2 57 j = if (j : Int) = D.1 then w else m 57 j) (e6 : m2 58 = m 58) (e7 : m2 62 = m 62) : pdM m2 = addR D x y w := by
  subst eD
  have z : (pdM m).1 = m 55 21 := rfl
  rw [z] at e1 e3 e4 e5 h0
  unfold pdM addR
  rw [e1, e2, e6, e7]
  show (_, _, cut1 (m 55 21 + 1) (m2 60), cut1 (m 55 21 + 1) (m2 61), cut1 (m 55 21 + 1) (m2 57), _, _) = (_, _, put (cut1 (m 55 21) (m 60)) (m 55 21) x, put (cut1 (m 55 21) (m 61)) (m 55 21) y, put (cut1 (m 55 21) (m 57)) (m 55 21) w, _, _)
  rw [cut_put e3, cut_put e4, cut_put e5]
theorem t_X6_readRay {mu : Mem} {A : Nat → Int} {n : Int} {t : TK} {D : PD} (hK : rdK mu A n) (h7 : mu 55 7 = 0) (hM : MT mu t) (hi : tI n t) (ht : t.1 = 1) (hnb : nbM mu) (eD : pdM mu = D) (hD : bD D) : TrS 8 mX6_readRay (fun _ => [vr 55]) mu (fun r m2 => r = none ∧ rdP mu m2 (rRy A n D t)) := by
  refine TrS.of (by decide +kernel) (fun _ => Nat.le_of_ble_eq_true rfl) (fun K C E hX => ?_)
  obtain ⟨R, eR⟩ : ∃ R, rRy A n D t = R := ⟨_, rfl⟩
  rw [eR] at E
  have n21 : mu 55 21 = D.1 := by rw [← eD]; rfl
  have hn := hD.1
  have b4 := hi.2.2
  have r83 : ∀ (v1 v2 v3 v4 : Vv) (m : Mem), frc rdM mu m → R.1 ≠ 0 → FS m R.1 R.2.1.2.2.1 → AW K mX6_readRay (NC, 0, 0) 83 [vr 55, v1, v2, v3, v4] [] m := by
    intro v1 v2 v3 v4 m z1 z2 z3
    have z4 := z3.1
    refine aw_aload_n C dX6_readRay_83 rfl ?_
    refine aw_call0 C dX6_readRay_84 lX6_163 vX6_goOn (t_X6_goOnF z3) rfl rfl rfl ⟨rfl, by decide⟩ rfl ⟨by decide, by decide⟩ (Nat.le_of_ble_eq_true rfl) ?_
    refine aw_aload_n C dX6_readRay_87 rfl ?_
    refine aw_getI C dX6_readRay_88 fX6_92 ⟨rfl, by decide⟩ rfl ?_
    refine aw_if_le C dX6_readRay_91 (tgt := 95) (by decide) ⟨by omega, by omega⟩ (fun c1 => ?_) (fun c1 => ?_)
    · exfalso; omega
    · exact aw_vret C E dX6_readRay_94 rfl ⟨rfl, z1, Or.inr ⟨z2, z3⟩⟩
  have r46 : ∀ (v1 v2 v3 v4 : Vv) (z : Int) (m : Mem), frc rdM mu m → R.1 ≠ 0 → FS m R.1 R.2.1.2.2.1 → AW K mX6_readRay (NC, 0, 0) 46 [vr 55, v1, v2, v3, v4] [vi z] m := by
    intro v1 v2 v3 v4 z m z1 z2 z3
    have z4 := z3.1
    refine aw_istore C dX6_readRay_46 (by decide) ?_
    refine aw_aload_n C dX6_readRay_48 rfl ?_
    refine aw_getI C dX6_readRay_49 fX6_92 ⟨rfl, by decide⟩ rfl ?_
    refine aw_if_ne C dX6_readRay_52 (tgt := 83) (by decide) ⟨by omega, by omega⟩ (fun c1 => ?_) (fun c1 => ?_)
    · exact r83 _ _ _ _ m z1 z2 z3
    · exfalso; omega
  have r35 : ∀ (v1 v2 v3 v4 : Vv) (z : Int) (m : Mem), frc rdM mu m → R.1 ≠ 0 → FS m R.1 R.2.1.2.2.1 → AW K mX6_readRay (NC, 0, 0) 35 [vr 55, v1, v2, v3, v4] [vi z] m := by
    intro v1 v2 v3 v4 z m z1 z2 z3
    refine aw_istore_n C dX6_readRay_35 (by decide) ?_
    refine aw_aload_n C dX6_readRay_36 rfl ?_
    refine aw_call0 C dX6_readRay_37 lX6_163 vX6_goOn (t_X6_goOnF z3) rfl rfl rfl ⟨rfl, by decide⟩ rfl ⟨by decide, by decide⟩ (Nat.le_of_ble_eq_true rfl) ?_
    refine aw_aload_n C dX6_readRay_40 rfl ?_
    refine aw_bipush C dX6_readRay_41 rfl ?_
    refine aw_call C dX6_readRay_43 lX6_198 vX6_readInt (t_X6_readIntF z3 ⟨by decide, by decide⟩) rfl rfl rfl ⟨rfl, by decide⟩ rfl ⟨by decide, by decide⟩ (Nat.le_of_ble_eq_true rfl) (fun r1 mu1 hq1 => ?_)
    obtain ⟨⟨z', rfl⟩, rfl⟩ := hq1
    show AW _ _ _ _ _ [vi z'] _
    exact r46 _ _ _ _ z' m z1 z2 z3
  have r29 : ∀ (v1 v2 v3 v4 : Vv) (m : Mem), frc rdM mu m → R.1 ≠ 0 → FS m R.1 R.2.1.2.2.1 → AW K mX6_readRay (NC, 0, 0) 29 [vr 55, v1, v2, v3, v4] [] m := by
    intro v1 v2 v3 v4 m z1 z2 z3
    refine aw_aload_n C dX6_readRay_29 rfl ?_
    refine aw_bipush C dX6_readRay_30 rfl ?_
    refine aw_call C dX6_readRay_32 lX6_198 vX6_readInt (t_X6_readIntF z3 ⟨by decide, by decide⟩) rfl rfl rfl ⟨rfl, by decide⟩ rfl ⟨by decide, by decide⟩ (Nat.le_of_ble_eq_true rfl) (fun r1 mu1 hq1 => ?_)
    obtain ⟨⟨z', rfl⟩, rfl⟩ := hq1
    show AW _ _ _ _ _ [vi z'] _
    exact r35 _ _ _ _ z' m z1 z2 z3
  have r22 : ∀ (v1 v2 v3 v4 : Vv) (z : Int) (m : Mem), frc rdM mu m → R.1 ≠ 0 → FS m R.1 R.2.1.2.2.1 → AW K mX6_readRay (NC, 0, 0) 22 [vr 55, v1, v2, v3, v4] [vl z] m := by
    intro v1 v2 v3 v4 z m z1 z2 z3
    refine aw_lstore_n C dX6_readRay_22 (by decide) ?_
    refine aw_aload_n C dX6_readRay_23 rfl ?_
    refine aw_ldcS C hX (i := 1) (by decide) rfl rfl dX6_readRay_24 ?_
    refine aw_callX C hX dX6_readRay_26 lX6_194 vX6_needs (t_X6_needsF (j := 1) (by decide) z3) rfl rfl rfl rfl ⟨rfl, by decide⟩ rfl ⟨by decide, by decide⟩ (Nat.le_of_ble_eq_true rfl) (fun r1 mu1 hq1 => ?_)
    obtain ⟨rfl, rfl⟩ := hq1
    show AW _ _ _ _ _ [] _
    exact r29 _ _ _ _ m z1 z2 z3
  have r14 : ∀ (v1 v2 v3 v4 : Vv) (m : Mem), frc rdM mu m → R.1 ≠ 0 → FS m R.1 R.2.1.2.2.1 → AW K mX6_readRay (NC, 0, 0) 14 [vr 55, v1, v2, v3, v4] [] m := by
    intro v1 v2 v3 v4 m z1 z2 z3
    refine aw_aload_n C dX6_readRay_14 rfl ?_
    refine aw_call0 C dX6_readRay_15 lX6_163 vX6_goOn (t_X6_goOnF z3) rfl rfl rfl ⟨rfl, by decide⟩ rfl ⟨by decide, by decide⟩ (Nat.le_of_ble_eq_true rfl) ?_
    refine aw_aload_n C dX6_readRay_18 rfl ?_
    refine aw_callX C hX dX6_readRay_19 lX6_190 vX6_readNew (t_X6_readNewF z3) rfl rfl rfl rfl ⟨rfl, by decide⟩ rfl ⟨by decide, by decide⟩ (Nat.le_of_ble_eq_true rfl) (fun r1 mu1 hq1 => ?_)
    obtain ⟨⟨z', rfl⟩, rfl⟩ := hq1
    show AW _ _ _ _ _ [vl z'] _
    exact r22 _ _ _ _ z' m z1 z2 z3
  unfold rRy at eR
  -- the first word of the line
  have p0 : ¬ 12 ≤ D.1 → ∀ (m : Mem) (t1 : TK), tI n t1 → frc goS mu m → MT m t1 → nbM m → rR1 A n D t1 = R → AW K mX6_readRay (NC, 0, 0) 18 [vr 55, vx, vx, vx, vx] [] m := by
    intro hD12 m t1 i1 g1 g2 g3 g4
    have y7 : m 55 7 = 0 := (g1 _ _ (by unfold goS; omega)).trans h7
    have eDm : pdM m = D := (pdM_fl (g1.mono goS_f)).trans eD
    have hKm := hK.go g1
    have c4 := i1.2.2
    unfold rR1 at g4
    refine aw_aload_n C dX6_readRay_18 rfl ?_
    refine aw_callX C hX dX6_readRay_19 lX6_190 vX6_readNew (t_X6_readNew0 hKm y7 g2 i1 g3 eDm hD) rfl rfl rfl rfl ⟨rfl, by decide⟩ rfl ⟨by decide, by decide⟩ (Nat.le_of_ble_eq_true rfl) (fun r m2 hq => ?_)
    obtain ⟨f1, hq⟩ := hq
    have fr2 := (g1.mono goS_f).tr f1
    rcases hq with ⟨f2, rfl, f3, f4, f5⟩ | ⟨f2, ⟨z, rfl⟩, f3⟩
    · rw [if_neg (fun w => w f2)] at g4
      have t1n : t1.1 = 1 := by
        unfold fNew at f2
        by_cases w : b01 (isNm t1) = 0
        · rw [if_pos w] at f2; omega
        · exact (b01_iff.mp (show b01 (isNm t1) = 1 by have := b01_01 (isNm t1); omega)).1
      have wb := i1.1.2.1 t1n
      have i2 := tok_i (A := A) c4.1 c4.2.1
      generalize tok A n t1.2.2.2 = t2 at *
      generalize t1.2.1 = wd at *
      have d4 := i2.2.2
      unfold rR2 at g4
      show AW _ _ _ _ _ [vl wd] _
      refine aw_lstore_n C dX6_readRay_22 (by decide) ?_
      refine aw_aload_n C dX6_readRay_23 rfl ?_
      refine aw_ldcS C hX (i := 1) (by decide) rfl rfl dX6_readRay_24 ?_
      refine aw_callX C hX dX6_readRay_26 lX6_194 vX6_needs (t_X6_needs0 (j := 1) (by decide) (hKm.fl f1) f3 f4 i2 f5) rfl rfl rfl rfl ⟨rfl, by decide⟩ rfl ⟨by decide, by decide⟩ (Nat.le_of_ble_eq_true rfl) (fun r m3 hq => ?_)
      obtain ⟨rfl, h1, hq⟩ := hq
      have fr3 := fr2.tr h1
      rw [nmS_1] at hq
      rcases hq with ⟨h2, h3, h4, h5⟩ | ⟨h2, h3⟩
      · rw [if_neg (fun w => w h2)] at g4
        have i3 := tok_i (A := A) d4.1 d4.2.1
        generalize tok A n t2.2.2.2 = t3 at *
        have e4 := i3.2.2
        unfold rR3 at g4
        show AW _ _ _ _ _ [] _
        refine aw_aload_n C dX6_readRay_29 rfl ?_
        refine aw_bipush C dX6_readRay_30 rfl ?_
        refine aw_call C dX6_readRay_32 lX6_198 vX6_readInt (t_X6_readInt0 ((hKm.fl f1).fl h1) h3 h4 i3 h5 (by omega)) rfl rfl rfl ⟨rfl, by decide⟩ rfl ⟨by decide, by decide⟩ (Nat.le_of_ble_eq_true rfl) (fun r m4 hq => ?_)
        obtain ⟨j1, hq⟩ := hq
        have fr4 := fr3.tr j1
        rcases hq with ⟨j2, rfl, j3, j4, j5⟩ | ⟨j2, ⟨z, rfl⟩, j3⟩
        · rw [if_neg (fun w => w j2)] at g4
          have bx := fIv_b i3 j2
          have if1 := fI1_i (A := A) i3
          have k3 : (fI1 A n t3).1 ≠ 3 := by
            unfold fIf at j2
            intro w
            rw [if_pos (by rw [w]; decide)] at j2
            omega
          generalize fIv A n t3 = x at *
          generalize fI1 A n t3 = t4 at *
          have f4' := if1.2.2
          have i5 := tok_i (A := A) f4'.1 f4'.2.1
          unfold rR4 at g4
          show AW _ _ _ _ _ [vi x] _
          refine aw_istore_n C dX6_readRay_35 (by decide) ?_
          refine aw_aload_n C dX6_readRay_36 rfl ?_
          refine aw_call C dX6_readRay_37 lX6_163 vX6_goOn (t_X6_goOn (((hKm.fl f1).fl h1).fl j1) j3 (j4.nx k3) f4'.1 f4'.2.1 j5) rfl rfl rfl ⟨rfl, by decide⟩ rfl ⟨by decide, by decide⟩ (Nat.le_of_ble_eq_true rfl) (fun r m5 hq => ?_)
          obtain ⟨rfl, l1, l2, l3⟩ := hq
          have fr5 := fr4.tr (l1.mono goS_f)
          have l7 : m5 55 7 = 0 := (l1 _ _ (by unfold goS; omega)).trans j3
          generalize tok A n t4.2.2.2 = t5 at *
          show AW _ _ _ _ _ [] _
          refine aw_aload_n C dX6_readRay_40 rfl ?_
          refine aw_bipush C dX6_readRay_41 rfl ?_
          refine aw_call C dX6_readRay_43 lX6_198 vX6_readInt (t_X6_readInt0 ((((hKm.fl f1).fl h1).fl j1).go l1) l7 l2 i5 l3 (by omega)) rfl rfl rfl ⟨rfl, by decide⟩ rfl ⟨by decide, by decide⟩ (Nat.le_of_ble_eq_true rfl) (fun r m6 hq => ?_)
          obtain ⟨o1, hq⟩ := hq
          have fr6 := fr5.tr o1
          rcases hq with ⟨o2, rfl, o3, o4, o5⟩ | ⟨o2, ⟨z, rfl⟩, o3⟩
          · rw [if_neg (fun w => w o2)] at g4
            have by_ := fIv_b i5 o2
            have if2 := fI1_i (A := A) i5
            have k5 : (fI1 A n t5).1 ≠ 3 := by
              unfold fIf at o2
              intro w
              rw [if_pos (by rw [w]; decide)] at o2
              omega
            generalize fIv A n t5 = y at *
            generalize fI1 A n t5 = t6 at *
            have g6' := if2.2.2
            have eD6 : pdM m6 = D := (pdM_fl fr6).trans eD
            have hK6 : rdK m6 A n := hK.fl fr6
            have kr := b01_01 (rAt D x y)
            have kri : b01 (rAt D x y) = 1 ↔ rAt D x y := b01_iff
            have bg : 0 ≤ (Int.gcd x y : Int) ∧ (Int.gcd x y : Int) ≤ 9 := ⟨by omega, gcd_le bx by_⟩
            have bad : (Int.gcd x y ≠ 1 ∨ b01 (rAt D x y) = 1) → AW K mX6_readRay (NC, 0, 0) 78 [vr 55, vl wd, vx, vi x, vi y] [] m6 := fun w => by
              rw [if_pos w] at g4
              refine aw_aload_n C dX6_readRay_78 rfl ?_
              refine aw_iconst C dX6_readRay_79 ?_
              refine aw_call C dX6_readRay_80 lX6_159 vX6_flaw (t_X6_flaw0 o3 (by omega) o5) rfl rfl rfl ⟨rfl, by decide⟩ rfl ⟨by decide, by decide⟩ (Nat.le_of_ble_eq_true rfl) (fun r1 mu1 hq1 => ?_)
              obtain ⟨rfl, q1, q2⟩ := hq1
              rw [o4.1] at q2
              generalize mu1 = m7 at *
              show AW _ _ _ _ _ [] _
              exact r83 _ _ _ _ m7 ((fr6.tr (q1.mono f78_f)).mono flS_r) (by rw [← g4]; show (2 : Int) ≠ 0; decide) (by rw [← g4]; exact q2)
            have good : ¬ (Int.gcd x y ≠ 1 ∨ b01 (rAt D x y) = 1) → AW K mX6_readRay (NC, 0, 0) 83 [vr 55, vl wd, vx, vi x, vi y] [] m6 := fun w => by
              rw [if_neg w] at g4
              have n6 : m6 55 21 = D.1 := by rw [← eD6]; rfl
              have d12 : D.1 < 12 := by
                rcases Int.lt_or_le D.1 12 with z | z
                · exact z
                · exact absurd z hD12
              refine aw_aload_n C dX6_readRay_83 rfl ?_
              refine aw_call C dX6_readRay_84 lX6_163 vX6_goOn (t_X6_goOn hK6 o3 (o4.nx k5) g6'.1 g6'.2.1 o5) rfl rfl rfl ⟨rfl, by decide⟩ rfl ⟨by decide, by decide⟩ (Nat.le_of_ble_eq_true rfl) (fun r1 mu1 hq1 => ?_)
              obtain ⟨rfl, q1, q2, q3⟩ := hq1
              have q7 : mu1 55 7 = 0 := (q1 _ _ (by unfold goS; omega)).trans o3
              have fr7 := fr6.tr (q1.mono goS_f)
              have eD7 : pdM mu1 = D := (pdM_fl fr7).trans eD
              have n7 : mu1 55 21 = D.1 := by rw [← eD7]; rfl
              generalize mu1 = m7 at *
              show AW _ _ _ _ _ [] _
              refine aw_aload_n C dX6_readRay_87 rfl ?_
              refine aw_getI C dX6_readRay_88 fX6_92 ⟨rfl, by decide⟩ rfl ?_
              refine aw_if_le C dX6_readRay_91 (tgt := 95) (by decide) ⟨by omega, by omega⟩ (fun c2 => ?_) (fun c2 => ?_)
              · refine aw_aload_n C dX6_readRay_95 rfl ?_
                refine aw_getS C dX6_readRay_96 fX6_19 ⟨rfl, by decide⟩ rfl rfl (srf 55 14 57 (by decide)) ?_
                refine aw_aload_n C dX6_readRay_99 rfl ?_
                refine aw_getI C dX6_readRay_100 fX6_180 ⟨rfl, by decide⟩ rfl ?_
                rw [n7]
                refine aw_lload_n C dX6_readRay_103 rfl ?_
                refine aw_last C dX6_readRay_104 ⟨rfl, by decide⟩ (by decide) (by omega) (by omega) ?_
                refine aw_aload_n C dX6_readRay_105 rfl ?_
                refine aw_getS C dX6_readRay_106 fX6_29 ⟨rfl, by decide⟩ rfl rfl (srf 55 17 60 (by decide)) ?_
                refine aw_aload_n C dX6_readRay_109 rfl ?_
                refine aw_getI C dX6_readRay_110 fX6_180 ⟨rfl, by decide⟩ rfl ?_
                rw [show wr m7 57 D.1.toNat wd 55 21 = D.1 by rw [wr_ne (by decide)]; exact n7]
                refine aw_iload_n C dX6_readRay_113 rfl ?_
                refine aw_iast C dX6_readRay_114 ⟨rfl, by decide⟩ (by decide) (by omega) (by omega) ?_
                refine aw_aload_n C dX6_readRay_115 rfl ?_
                refine aw_getS C dX6_readRay_116 fX6_32 ⟨rfl, by decide⟩ rfl rfl (srf 55 18 61 (by decide)) ?_
                refine aw_aload_n C dX6_readRay_119 rfl ?_
                refine aw_getI C dX6_readRay_120 fX6_180 ⟨rfl, by decide⟩ rfl ?_
                rw [show wr (wr m7 57 D.1.toNat wd) 60 D.1.toNat x 55 21 = D.1 by rw [wr_ne (by decide), wr_ne (by decide)]; exact n7]
                refine aw_iload C dX6_readRay_123 rfl ?_
                refine aw_iast C dX6_readRay_125 ⟨rfl, by decide⟩ (by decide) (by omega) (by omega) ?_
                refine aw_aload_n C dX6_readRay_126 rfl ?_
                refine aw_dup_a C dX6_readRay_127 ?_
                refine aw_getI C dX6_readRay_128 fX6_180 ⟨rfl, by decide⟩ rfl ?_
                rw [show wr (wr (wr m7 57 D.1.toNat wd) 60 D.1.toNat x) 61 D.1.toNat y 55 21 = D.1 by rw [wr_ne (by decide), wr_ne (by decide), wr_ne (by decide)]; exact n7]
                refine aw_iconst C dX6_readRay_131 ?_
                refine aw_iadd C dX6_readRay_132 ?_
                refine aw_putI C dX6_readRay_133 fX6_180 ⟨rfl, by decide⟩ rfl rfl rfl ?_
                exact aw_vret C E dX6_readRay_136 rfl (by
  have k55 : ∀ b, b ≠ 21 → wr (wr (wr (wr m7 57 D.1.toNat wd) 60 D.1.toNat x) 61 D.1.toNat y) 55 21 (D.1 + 1) 55 b = m7 55 b := fun b hb => by rw [wr_at, if_neg (fun w => hb w.2), wr_ne (by decide), wr_ne (by decide), wr_ne (by decide)]
  refine ⟨rfl, ((((fr7.mono flS_r).w (by unfold rdM; omega)).w (by unfold rdM; omega)).w (by unfold rdM; omega)).w (by unfold rdM; omega), Or.inl ⟨by rw [← g4], (k55 7 (by decide)).trans q7, ?_, ?_, ?_⟩⟩
  · rw [← g4]
    unfold MT
    rw [k55 10 (by decide), k55 6 (by decide), k55 9 (by decide), k55 13 (by decide), k55 12 (by decide), k55 11 (by decide)]
    exact q2
  · unfold nbM
    rw [k55 12 (by decide), k55 9 (by decide)]
    exact q3
  · rw [← g4]
    refine pd_addR eD7 hn.1 (by rw [wr_at, if_pos ⟨rfl, rfl⟩]) (k55 22 (by decide)) (fun j hj => ?_) (fun j hj => ?_) (fun j hj => ?_) ?_ ?_
    · rw [wr_ne (by decide), wr_ne (by decide), wr_self]
      show (if j = D.1.toNat then x else wr m7 57 D.1.toNat wd 60 j) = _
      rw [wr_ne (by decide)]
      by_cases e : (j : Int) = D.1
      · rw [if_pos (by omega), if_pos e]
      · rw [if_neg (by omega), if_neg e]
    · rw [wr_ne (by decide), wr_self]
      show (if j = D.1.toNat then y else wr (wr m7 57 D.1.toNat wd) 60 D.1.toNat x 61 j) = _
      rw [wr_ne (by decide), wr_ne (by decide)]
      by_cases e : (j : Int) = D.1
      · rw [if_pos (by omega), if_pos e]
      · rw [if_neg (by omega), if_neg e]
    · rw [wr_ne (by decide), wr_ne (by decide), wr_ne (by decide), wr_self]
      show (if j = D.1.toNat then wd else m7 57 j) = _
      by_cases e : (j : Int) = D.1
      · rw [if_pos (by omega), if_pos e]
      · rw [if_neg (by omega), if_neg e]
    · rw [wr_ne (by decide), wr_ne (by decide), wr_ne (by decide), wr_ne (by decide)]
    · rw [wr_ne (by decide), wr_ne (by decide), wr_ne (by decide), wr_ne (by decide)])
              · exfalso; omega
            show AW _ _ _ _ _ [vi y] _
            refine aw_istore C dX6_readRay_46 (by decide) ?_
            refine aw_aload_n C dX6_readRay_48 rfl ?_
            refine aw_getI C dX6_readRay_49 fX6_92 ⟨rfl, by decide⟩ rfl ?_
            refine aw_if_ne C dX6_readRay_52 (tgt := 83) (by decide) ⟨by omega, by omega⟩ (fun c1 => ?_) (fun c1 => ?_)
            · exfalso; omega
            · refine aw_iload_n C dX6_readRay_55 rfl ?_
              refine aw_i2l C dX6_readRay_56 ⟨by omega, by omega⟩ ?_
              refine aw_iload C dX6_readRay_57 rfl ?_
              refine aw_i2l C dX6_readRay_59 ⟨by omega, by omega⟩ ?_
              refine aw_callS1 C dX6_readRay_60 lX6_202 vX6_common (t_X6_common ⟨by omega, by omega⟩ ⟨by omega, by omega⟩) rfl rfl rfl ⟨by decide, by decide⟩ (Nat.le_of_ble_eq_true rfl) ?_
              refine aw_lconst C dX6_readRay_63 (v := 1) rfl ?_
              refine aw_lcmp_ne C dX6_readRay_64 dX6_readRay_65 (tgt := 78) (by decide) ⟨by omega, by omega⟩ ⟨by omega, by omega⟩ (fun c2 => ?_) (fun c2 => ?_)
              · exact bad (Or.inl (by omega))
              · refine aw_aload_n C dX6_readRay_68 rfl ?_
                refine aw_iload_n C dX6_readRay_69 rfl ?_
                refine aw_iload C dX6_readRay_70 rfl ?_
                refine aw_call1 C dX6_readRay_72 lX6_205 vX6_isThere (t_X6_isThere eD6 hD ⟨by omega, by omega⟩ ⟨by omega, by omega⟩) rfl rfl rfl ⟨rfl, by decide⟩ rfl ⟨by decide, by decide⟩ (Nat.le_of_ble_eq_true rfl) ?_
                refine aw_if_eq C dX6_readRay_75 (tgt := 83) (by decide) ⟨by omega, by omega⟩ (fun c3 => ?_) (fun c3 => ?_)
                · exact good (by omega)
                · exact bad (Or.inr (by omega))
          · rw [if_pos o2] at g4
            exact r46 _ _ _ _ z m6 (fr6.mono flS_r) (by rw [← g4]; exact o2) (by rw [← g4]; exact o3)
        · rw [if_pos j2] at g4
          exact r35 _ _ _ _ z m4 (fr4.mono flS_r) (by rw [← g4]; exact j2) (by rw [← g4]; exact j3)
      · rw [if_pos h2] at g4
        exact r29 _ _ _ _ m3 (fr3.mono flS_r) (by rw [← g4]; show (1 : Int) ≠ 0; decide) (by rw [← g4]; exact h3)
    · rw [if_pos f2] at g4
      exact r22 _ _ _ _ z m2 (fr2.mono flS_r) (by rw [← g4]; exact f2) (by rw [← g4]; exact f3)
  refine aw_aload_n C dX6_readRay_0 rfl ?_
  refine aw_getI C dX6_readRay_1 fX6_180 ⟨rfl, by decide⟩ rfl ?_
  refine aw_bipush C dX6_readRay_4 rfl ?_
  refine aw_icmp_ne C dX6_readRay_6 (tgt := 14) (by decide) ⟨by omega, by omega⟩ ⟨by omega, by omega⟩ (fun c1 => ?_) (fun c1 => ?_)
  · rw [if_neg (by omega)] at eR
    --go
    refine aw_aload_n C dX6_readRay_14 rfl ?_
    refine aw_call C dX6_readRay_15 lX6_163 vX6_goOn (t_X6_goOn hK h7 (hM.nx (by omega)) b4.1 b4.2.1 hnb) rfl rfl rfl ⟨rfl, by decide⟩ rfl ⟨by decide, by decide⟩ (Nat.le_of_ble_eq_true rfl) (fun r2 mu2 hq2 => ?_)
    obtain ⟨rfl, g1, g2, g3⟩ := hq2
    generalize mu2 = m2 at *
    show AW _ _ _ _ _ [] _
    exact p0 (by omega) m2 _ (tok_i b4.1 b4.2.1) g1 g2 g3 eR
  · rw [if_pos (by omega)] at eR
    --go
    refine aw_aload_n C dX6_readRay_9 rfl ?_
    refine aw_iconst C dX6_readRay_10 ?_
    refine aw_call C dX6_readRay_11 lX6_159 vX6_flaw (t_X6_flaw0 h7 (by omega) hnb) rfl rfl rfl ⟨rfl, by decide⟩ rfl ⟨by decide, by decide⟩ (Nat.le_of_ble_eq_true rfl) (fun r3 mu3 hq3 => ?_)
    obtain ⟨rfl, g1, g2⟩ := hq3
    rw [hM.1] at g2
    generalize mu3 = m2 at *
    show AW _ _ _ _ _ [] _
    exact r14 _ _ _ _ m2 ((g1.mono f78_f).mono flS_r) (by rw [← eR]; show (4 : Int) ≠ 0; decide) (by rw [← eR]; exact g2)

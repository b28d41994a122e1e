/-! the fan as the reference takes it -/
def mfP (mu m2 : Mem) (V : FV) (a : Int) (H : Nat → FV) (A : Nat → Int) (n : Int) (r : Option Vv) : Prop :=
  ((n < 0 ∨ mu 55 4 < n) ∧ r = some (vi (-1)) ∧ m2 = gd (wr mu 55 0 0) 2) ∨
  (¬ (n < 0 ∨ mu 55 4 < n) ∧ (∀ x y, x < 55 ∨ x = 56 ∨ 75 ≤ x → m2 x y = mu x y) ∧ m2 55 4 = 0 ∧ m2 55 0 = 0 ∧ m2 55 7 = fnF A n ∧ nbM m2 ∧
    ((fnF A n ≠ 0 ∧ r = some (vi (-1)) ∧ m2 55 1 = 4 ∧ m2 55 2 = (pAl A n 501 0 D0).2.1.2.2.1 ∧ mSt m2 V a H ∧ m2 59 = mu 59) ∨
     (fnF A n = 0 ∧ r = some (vi (pAl A n 501 0 D0).2.2.1) ∧ m2 55 1 = 0 ∧ m2 55 2 = -1 ∧ mSt m2 (bldD (pAl A n 501 0 D0).2.2) 0 H ∧ srt (bldD (pAl A n 501 0 D0).2.2) ∧ ∀ d : Nat, (d : Int) < (pAl A n 501 0 D0).2.2.2.1 → m2 59 d = (pAl A n 501 0 D0).2.2.2.2.2.2.2.1 d)))
theorem nB_of {m : Mem} {W : FV} (h : mv6 m = W) (hN : ∀ d j : Nat, hld (W.2.2.2.2 d j)) : nB m := fun d i hd hi => by
  have := hN d i
  rw [← h] at this
  have e : (mv6 m).2.2.2.2 d i = m 66 (25 * d + i) := by
    show cut2 6 (m 55 29) (fun d j => m 66 (25 * d + j)) d i = _
    unfold cut2
    rw [if_pos ⟨by omega, by omega⟩]
  rw [e] at this
  exact this
theorem t_X6_fan {mu : Mem} {V : FV} {a : Int} {H : Nat → FV} {n : Int} {A : Nat → Int} (S : mSt mu V a H) (hn : R32 n) (hu : 0 ≤ mu 55 4 ∧ mu 55 4 ≤ 500) (hA : ∀ j : Nat, A j = sby (mu 56 j)) (hb : ∀ j : Nat, 0 ≤ mu 56 j ∧ mu 56 j < 256) (hnb : nbM mu) : TrS 11 mX6_fan (fun _ => [vr 55, vi n]) mu (fun r m2 => mfP mu m2 V a H A n r) := by
  refine TrS.of (by decide +kernel) (fun _ => Nat.le_of_ble_eq_true rfl) (fun K C E hX => ?_)
  unfold R32 at hn
  have k4 : wr mu 55 0 0 55 4 = mu 55 4 := by rw [wr_at, if_neg (by decide)]
  have kb := b01_01 (0 ≤ n ∧ n ≤ mu 55 4)
  have kbi : b01 (0 ≤ n ∧ n ≤ mu 55 4) = 1 ↔ (0 ≤ n ∧ n ≤ mu 55 4) := b01_iff
  have gP : gD (pAl A n 501 0 D0).2.2 := pAl_g _ _ _ gD0
  unfold mfP at E
  obtain ⟨P, eP⟩ : ∃ P, pAl A n 501 0 D0 = P := ⟨_, rfl⟩
  obtain ⟨F, eF⟩ : ∃ F, fnF A n = F := ⟨_, rfl⟩
  rw [eP, eF] at E
  rw [eP] at gP
  have last : ¬ (n < 0 ∨ mu 55 4 < n) → F = 0 → bD P.2.2 → clo (bldD P.2.2) → ∀ (m0 : Mem), m0 55 7 = 0 → nbM m0 → (∀ x y, x < 55 ∨ x = 56 ∨ 75 ≤ x → m0 x y = mu x y) → m0 55 4 = 0 → m0 55 0 = 0 → m0 55 22 = P.2.2.2.1 → m0 55 30 = P.2.2.2.1 → (∀ d : Nat, (d : Int) < P.2.2.2.1 → m0 58 d = P.2.2.2.2.2.2.2.1 d) → m0 55 29 = P.2.2.1 → mv m0 = bldD P.2.2 → nB m0 → ∀ (q : Nat) (d : Int) (m : Mem), 0 ≤ d → d + q = P.2.2.2.1 → frc (fun a _ => a = 59) m0 m → (∀ j : Nat, (j : Int) < d → m 59 j = P.2.2.2.2.2.2.2.1 j) → AW K mX6_fan (NC, 0, 0) 85 [vr 55, vi n, vi d] [] m := by
    intro hg hF bP hcl m0 b1 b2 b3 b4 b5 b6 b7 b8 b9 b10 b11 q
    have bl := bP.2.1
    obtain ⟨oB, oS, oP, oN, oL⟩ := bldD_o gP bP
    have br := bP.1
    induction q with
    | zero =>
      intro d m q0 q1 q2 q3
      have m30 : m 55 30 = P.2.2.2.1 := (q2 _ _ (by omega)).trans b7
      have k29 : wr (wr m 55 32 1) 55 39 0 55 29 = P.2.2.1 := by rw [wr_at, if_neg (by decide), wr_at, if_neg (by decide), q2 _ _ (by omega)]; exact b9
      refine aw_iload_n C dX6_fan_85 rfl ?_
      refine aw_aload_n C dX6_fan_86 rfl ?_
      refine aw_getI C dX6_fan_87 fX6_279 ⟨rfl, by decide⟩ rfl ?_
      refine aw_icmp_ge C dX6_fan_90 (tgt := 111) (by decide) ⟨by omega, by omega⟩ ⟨by omega, by omega⟩ (fun c1 => ?_) (fun c1 => ?_)
      · refine aw_aload_n C dX6_fan_111 rfl ?_
        refine aw_iconst C dX6_fan_112 ?_
        refine aw_putZ C dX6_fan_113 fX6_264 ⟨rfl, by decide⟩ rfl rfl rfl (by omega) ?_
        refine aw_aload_n C dX6_fan_116 rfl ?_
        refine aw_iconst C dX6_fan_117 ?_
        refine aw_putI C dX6_fan_118 fX6_261 ⟨rfl, by decide⟩ rfl rfl rfl ?_
        refine aw_aload_n C dX6_fan_121 rfl ?_
        refine aw_aload_n C dX6_fan_122 rfl ?_
        refine aw_getI C dX6_fan_123 fX6_255 ⟨rfl, by decide⟩ rfl ?_
        rw [k29]
        refine aw_call1 C dX6_fan_126 lX6_270 vX6_good (t_X6_good) rfl rfl rfl ⟨rfl, by decide⟩ rfl ⟨by decide, by decide⟩ (Nat.le_of_ble_eq_true rfl) ?_
        exact aw_iret C E dX6_fan_129 rfl (by
  have kx : ∀ x y, ¬ (x = 55 ∧ (y = 1 ∨ y = 2 ∨ y = 32 ∨ y = 39)) → x ≠ 59 → gd (wr (wr m 55 32 1) 55 39 0) 0 x y = m0 x y := fun x y h1 h2 => by
    unfold gd
    rw [wr_at, if_neg (by omega), wr_at, if_neg (by omega), wr_at, if_neg (by omega), wr_at, if_neg (by omega)]
    exact q2 x y h2
  have k59 : gd (wr (wr m 55 32 1) 55 39 0) 0 59 = m 59 := by
    unfold gd
    rw [wr_ne (by decide), wr_ne (by decide), wr_ne (by decide), wr_ne (by decide)]
  refine Or.inr ⟨hg, fun x y h => (kx x y (by omega) (by omega)).trans (b3 x y h), (kx _ _ (by decide) (by decide)).trans b4, (kx _ _ (by decide) (by decide)).trans b5, ((kx _ _ (by decide) (by decide)).trans b1).trans hF.symm, ?_, Or.inr ⟨hF, rfl, ?_, ?_, ?_, oS, fun d hd => by rw [k59]; exact q3 d (by omega)⟩⟩
  · unfold nbM
    rw [kx 55 12 (by decide) (by decide), kx 55 9 (by decide) (by decide)]; exact b2
  · unfold gd
    rw [wr_at, if_neg (by decide), wr_at, if_pos ⟨rfl, rfl⟩]
  · unfold gd
    rw [wr_at, if_pos ⟨rfl, rfl⟩]
  · have k32 : gd (wr (wr m 55 32 1) 55 39 0) 0 55 32 = 1 := by
      unfold gd
      rw [wr_at, if_neg (by decide), wr_at, if_neg (by decide), wr_at, if_neg (by decide), wr_at, if_pos ⟨rfl, rfl⟩]
    have k39 : gd (wr (wr m 55 32 1) 55 39 0) 0 55 39 = 0 := by
      unfold gd
      rw [wr_at, if_neg (by decide), wr_at, if_neg (by decide), wr_at, if_pos ⟨rfl, rfl⟩]
    generalize gd (wr (wr m 55 32 1) 55 39 0) 0 = m9 at *
    refine ⟨⟨?_, ⟨oB, Or.inr ⟨hcl, oP⟩⟩, Or.inl ⟨k32, by have := hcl.1; omega⟩⟩, k39, fun j hj => by omega, ?_, fun j hj => by omega⟩
    · rw [← b10]
      unfold mv
      rw [kx 55 29 (by decide) (by decide), kx 55 30 (by decide) (by decide), show m9 64 = m0 64 from funext fun y => kx 64 y (by omega) (by decide), show m9 65 = m0 65 from funext fun y => kx 65 y (by omega) (by decide), show m9 66 = m0 66 from funext fun y => kx 66 y (by omega) (by decide)]
    · intro d i hd hi
      rw [kx 55 29 (by decide) (by decide)] at hi
      rw [kx 66 _ (by omega) (by decide)]
      exact b11 d i hd hi)
      · exfalso; omega
    | succ q ih =>
      intro d m q0 q1 q2 q3
      have m30 : m 55 30 = P.2.2.2.1 := (q2 _ _ (by omega)).trans b7
      have e58 : m 58 d.toNat = P.2.2.2.2.2.2.2.1 d.toNat := (q2 _ _ (by omega)).trans (b8 d.toNat (by omega))
      refine aw_iload_n C dX6_fan_85 rfl ?_
      refine aw_aload_n C dX6_fan_86 rfl ?_
      refine aw_getI C dX6_fan_87 fX6_279 ⟨rfl, by decide⟩ rfl ?_
      refine aw_icmp_ge C dX6_fan_90 (tgt := 111) (by decide) ⟨by omega, by omega⟩ ⟨by omega, by omega⟩ (fun c1 => ?_) (fun c1 => ?_)
      · exfalso; omega
      · refine aw_aload_n C dX6_fan_93 rfl ?_
        refine aw_getS C dX6_fan_94 fX6_26 ⟨rfl, by decide⟩ rfl rfl (srf 55 16 59 (by decide)) ?_
        refine aw_iload_n C dX6_fan_97 rfl ?_
        refine aw_aload_n C dX6_fan_98 rfl ?_
        refine aw_getS C dX6_fan_99 fX6_23 ⟨rfl, by decide⟩ rfl rfl (srf 55 15 58 (by decide)) ?_
        refine aw_iload_n C dX6_fan_102 rfl ?_
        refine aw_lald C dX6_fan_103 ⟨rfl, by decide⟩ (by decide) (by omega) (by omega) ?_
        rw [e58]
        refine aw_last C dX6_fan_104 ⟨rfl, by decide⟩ (by decide) (by omega) (by omega) ?_
        refine aw_iinc C dX6_fan_105 rfl ?_
        refine aw_goto C dX6_fan_108 (tgt := 85) (by decide) ?_
        refine ih (d + 1) _ (by omega) (by omega) (q2.w rfl) (fun j hj => ?_)
        rw [wr_at]
        by_cases z : (j : Int) = d
        · rw [if_pos ⟨rfl, by omega⟩, show d.toNat = j by omega]
        · rw [if_neg (by omega)]; exact q3 j (by omega)
  have flt : ¬ (n < 0 ∨ mu 55 4 < n) → F ≠ 0 → ∀ (m : Mem), (∀ x y, x < 55 ∨ x = 56 ∨ 75 ≤ x → m x y = mu x y) → m 55 4 = 0 → m 55 0 = 0 → FS m F P.2.1.2.2.1 → mSt m V a H → m 59 = mu 59 → AW K mX6_fan (NC, 0, 0) 49 [vr 55, vi n, vx] [] m := by
    intro hg hF m b1 b2 b3 b4 b5 b6
    have b7 := b4.1
    have kx : ∀ x y, ¬ (x = 55 ∧ (y = 1 ∨ y = 2)) → wr (wr m 55 1 4) 55 2 P.2.1.2.2.1 x y = m x y := fun x y h => by rw [wr_at, if_neg (by omega), wr_at, if_neg (by omega)]
    have k8 : wr m 55 1 4 55 8 = P.2.1.2.2.1 := by rw [wr_at, if_neg (by decide)]; exact b4.2.1
    refine aw_aload_n C dX6_fan_49 rfl ?_
    refine aw_getI C dX6_fan_50 fX6_92 ⟨rfl, by decide⟩ rfl ?_
    refine aw_if_le C dX6_fan_53 (tgt := 71) (by decide) ⟨by omega, by omega⟩ (fun c1 => ?_) (fun c1 => ?_)
    · exfalso; omega
    · refine aw_aload_n C dX6_fan_56 rfl ?_
      refine aw_iconst C dX6_fan_57 ?_
      refine aw_putI C dX6_fan_58 fX6_80 ⟨rfl, by decide⟩ rfl rfl rfl ?_
      refine aw_aload_n C dX6_fan_61 rfl ?_
      refine aw_aload_n C dX6_fan_62 rfl ?_
      refine aw_getI C dX6_fan_63 fX6_98 ⟨rfl, by decide⟩ rfl ?_
      rw [k8]
      refine aw_putI C dX6_fan_66 fX6_11 ⟨rfl, by decide⟩ rfl rfl rfl ?_
      refine aw_iconst C dX6_fan_69 ?_
      exact aw_iret C E dX6_fan_70 rfl (by
  refine Or.inr ⟨hg, fun x y h => (kx x y (by omega)).trans (b1 x y h), (kx _ _ (by decide)).trans b2, (kx _ _ (by decide)).trans b3, (kx _ _ (by decide)).trans b7.1, ?_, Or.inl ⟨hF, rfl, ?_, ?_, mSt_fr b5 (fun x y h => kx x y (by unfold kpM2 at h; omega)), ?_⟩⟩
  · unfold nbM
    rw [kx 55 12 (by decide), kx 55 9 (by decide)]; exact b4.2.2
  · rw [wr_at, if_neg (by decide), wr_at, if_pos ⟨rfl, rfl⟩]
  · rw [wr_at, if_pos ⟨rfl, rfl⟩]
  · rw [← b6]; exact funext fun y => kx 59 y (by omega))
  have k42 : ∀ x y, ¬ (x = 55 ∧ (y = 0 ∨ (4 ≤ y ∧ y ≤ 7))) → wr (wr (wr (wr (wr mu 55 0 0) 55 5 n) 55 4 0) 55 6 0) 55 7 0 x y = mu x y := fun x y h => by rw [wr_at, if_neg (by omega), wr_at, if_neg (by omega), wr_at, if_neg (by omega), wr_at, if_neg (by omega), wr_at, if_neg (by omega)]
  refine aw_aload_n C dX6_fan_0 rfl ?_
  refine aw_iconst C dX6_fan_1 ?_
  refine aw_putI C dX6_fan_2 fX6_77 ⟨rfl, by decide⟩ rfl rfl rfl ?_
  refine aw_iload_n C dX6_fan_5 rfl ?_
  refine aw_i2l C dX6_fan_6 ⟨by omega, by omega⟩ ?_
  refine aw_lconst C dX6_fan_7 (v := 0) rfl ?_
  refine aw_aload_n C dX6_fan_8 rfl ?_
  refine aw_getI C dX6_fan_9 fX6_89 ⟨rfl, by decide⟩ rfl ?_
  rw [k4]
  refine aw_i2l C dX6_fan_12 ⟨by omega, by omega⟩ ?_
  refine aw_callS1 C dX6_fan_13 lX6_108 vX6_in (t_X6_in ⟨by omega, by omega⟩ ⟨by omega, by omega⟩ ⟨by omega, by omega⟩) rfl rfl rfl ⟨by decide, by decide⟩ (Nat.le_of_ble_eq_true rfl) ?_
  refine aw_if_ne C dX6_fan_16 (tgt := 25) (by decide) ⟨by omega, by omega⟩ (fun c1 => ?_) (fun c1 => ?_)
  · have hgood : ¬ (n < 0 ∨ mu 55 4 < n) := by have := kbi.mp (by omega); omega
    --go
    refine aw_aload_n C dX6_fan_25 rfl ?_
    refine aw_iload_n C dX6_fan_26 rfl ?_
    refine aw_putI C dX6_fan_27 fX6_101 ⟨rfl, by decide⟩ rfl rfl rfl ?_
    refine aw_aload_n C dX6_fan_30 rfl ?_
    refine aw_iconst C dX6_fan_31 ?_
    refine aw_putI C dX6_fan_32 fX6_89 ⟨rfl, by decide⟩ rfl rfl rfl ?_
    refine aw_aload_n C dX6_fan_35 rfl ?_
    refine aw_iconst C dX6_fan_36 ?_
    refine aw_putI C dX6_fan_37 fX6_116 ⟨rfl, by decide⟩ rfl rfl rfl ?_
    refine aw_aload_n C dX6_fan_40 rfl ?_
    refine aw_iconst C dX6_fan_41 ?_
    refine aw_putI C dX6_fan_42 fX6_92 ⟨rfl, by decide⟩ rfl rfl rfl ?_
    refine aw_aload_n C dX6_fan_45 rfl ?_
    have u0 : wr (wr (wr (wr (wr mu 55 0 0) 55 5 n) 55 4 0) 55 6 0) 55 7 0 55 0 = 0 := by rw [wr_at, if_neg (by decide), wr_at, if_neg (by decide), wr_at, if_neg (by decide), wr_at, if_neg (by decide), wr_at, if_pos ⟨rfl, rfl⟩]
    have u5 : wr (wr (wr (wr (wr mu 55 0 0) 55 5 n) 55 4 0) 55 6 0) 55 7 0 55 5 = n := by rw [wr_at, if_neg (by decide), wr_at, if_neg (by decide), wr_at, if_neg (by decide), wr_at, if_pos ⟨rfl, rfl⟩]
    have u4 : wr (wr (wr (wr (wr mu 55 0 0) 55 5 n) 55 4 0) 55 6 0) 55 7 0 55 4 = 0 := by rw [wr_at, if_neg (by decide), wr_at, if_neg (by decide), wr_at, if_pos ⟨rfl, rfl⟩]
    have u6 : wr (wr (wr (wr (wr mu 55 0 0) 55 5 n) 55 4 0) 55 6 0) 55 7 0 55 6 = 0 := by rw [wr_at, if_neg (by decide), wr_at, if_pos ⟨rfl, rfl⟩]
    have u7 : wr (wr (wr (wr (wr mu 55 0 0) 55 5 n) 55 4 0) 55 6 0) 55 7 0 55 7 = 0 := by rw [wr_at, if_pos ⟨rfl, rfl⟩]
    generalize wr (wr (wr (wr (wr mu 55 0 0) 55 5 n) 55 4 0) 55 6 0) 55 7 0 = m1 at *
    have hK : rdK m1 A n := ⟨u5, ⟨by omega, by omega⟩, fun j => by rw [k42 56 j (by omega)]; exact hA j, fun j => by rw [k42 56 j (by omega)]; exact hb j⟩
    have nb1 : nbM m1 := by unfold nbM; rw [k42 55 12 (by omega), k42 55 9 (by omega)]; exact hnb
    refine aw_callX C hX dX6_fan_46 lX6_273 vX6_readAll (t_X6_readAll hK u7 u6 nb1) rfl rfl rfl rfl ⟨rfl, by decide⟩ rfl ⟨by decide, by decide⟩ (Nat.le_of_ble_eq_true rfl) (fun r2 mu2 hq2 => ?_)
    obtain ⟨rfl, f1, f2⟩ := hq2
    rw [eP, eF] at f2
    generalize mu2 = m2 at *
    have f0 : ∀ x y, x < 55 ∨ x = 56 ∨ 75 ≤ x → m2 x y = mu x y := fun x y h => (f1 x y (by unfold raM rdM bgS; omega)).trans (k42 x y (by omega))
    have f4 : m2 55 4 = 0 := (f1 _ _ (by unfold raM rdM bgS; omega)).trans u4
    have f00 : m2 55 0 = 0 := (f1 _ _ (by unfold raM rdM bgS; omega)).trans u0
    rcases f2 with ⟨v1, v2, v3, v4, v5, v6, v7, v8⟩ | ⟨v1, v2⟩
    case inr => exact flt hgood v1 m2 f0 f4 f00 v2 (mSt_fr S (fun x y h => (f1 x y (by unfold kpM2 at h; unfold raM rdM bgS; omega)).trans (k42 x y (by unfold kpM2 at h; omega)))) (funext fun y => (f1 59 y (by unfold raM rdM bgS; omega)).trans (k42 59 y (by omega)))
    show AW _ _ _ _ _ [] _
    refine aw_aload_n C dX6_fan_49 rfl ?_
    refine aw_getI C dX6_fan_50 fX6_92 ⟨rfl, by decide⟩ rfl ?_
    refine aw_if_le C dX6_fan_53 (tgt := 71) (by decide) ⟨by omega, by omega⟩ (fun c3 => ?_) (fun c3 => ?_)
    · refine aw_aload_n C dX6_fan_71 rfl ?_
      refine aw_call C dX6_fan_72 lX6_276 vX6_holds (t_X6_holds v5.1.1) rfl rfl rfl ⟨rfl, by decide⟩ rfl ⟨by decide, by decide⟩ (Nat.le_of_ble_eq_true rfl) (fun r4 mu4 hq4 => ?_)
      obtain ⟨rfl, h1, h2⟩ := hq4
      have bl := v7.2.1
      have e22 : m2 55 22 = P.2.2.2.1 := congrArg (fun z : PD => z.2.1) v4
      have w22 : mu4 55 22 = P.2.2.2.1 := (h1 _ _ (by unfold hdS; omega)).trans e22
      generalize mu4 = m3 at *
      show AW _ _ _ _ _ [] _
      refine aw_aload_n C dX6_fan_75 rfl ?_
      refine aw_aload_n C dX6_fan_76 rfl ?_
      refine aw_getI C dX6_fan_77 fX6_187 ⟨rfl, by decide⟩ rfl ?_
      rw [w22]
      refine aw_putI C dX6_fan_80 fX6_279 ⟨rfl, by decide⟩ rfl rfl rfl ?_
      refine aw_iconst C dX6_fan_83 ?_
      refine aw_istore_n C dX6_fan_84 (by decide) ?_
      have kx : ∀ x y, ¬ (x = 55 ∧ (y = 30 ∨ y = 29)) → (x < 64 ∨ 66 < x) → wr m3 55 30 P.2.2.2.1 x y = m2 x y := fun x y h h3 => by rw [wr_at, if_neg (by omega)]; exact h1 x y (by unfold hdS; omega)
      have oN := (bldD_o gP v7).2.2.2.1
      have n30 : wr m3 55 30 P.2.2.2.1 55 30 = P.2.2.2.1 := by rw [wr_at, if_pos ⟨rfl, rfl⟩]
      have e6 : mv6 (wr m3 55 30 P.2.2.2.1) = sv m2 := by
        rw [← h2]
        unfold mv6
        rw [show wr m3 55 30 P.2.2.2.1 55 29 = m3 55 29 by rw [wr_at, if_neg (by decide)], wr_ne (by decide), wr_ne (by decide), wr_ne (by decide)]
      refine last hgood v1 v7 v8 (wr m3 55 30 P.2.2.2.1) ((kx _ _ (by decide) (by decide)).trans v2) ?_ (fun x y h => (kx x y (by omega) (by omega)).trans (f0 x y h)) ((kx _ _ (by decide) (by decide)).trans f4) ((kx _ _ (by decide) (by decide)).trans f00) ((kx _ _ (by decide) (by decide)).trans e22) n30 (fun d hd => ?_) ?_ ?_ (nB_of e6 v5.2.2) P.2.2.2.1.toNat 0 _ (by omega) (by omega) frc.rf (fun j hj => by omega)
      · unfold nbM
        rw [kx 55 12 (by decide) (by decide), kx 55 9 (by decide) (by decide)]; exact v3
      · rw [kx 58 d (by omega) (by decide), ← v4]
        exact (cut1_at (i := (d : Int)) (by omega) (by rw [e22]; exact hd)).symm
      · rw [← oN, ← v6]
        exact congrArg (fun z : FV => z.1) e6
      · rw [mv_rs (by rw [n30]; omega), n30, e6]; exact v6
    · exfalso; omega
  · have hbad : n < 0 ∨ mu 55 4 < n := by omega
    --go
    refine aw_aload_n C dX6_fan_19 rfl ?_
    refine aw_iconst C dX6_fan_20 ?_
    refine aw_call1 C dX6_fan_21 lX6_267 vX6_refused (t_X6_refused) rfl rfl rfl ⟨rfl, by decide⟩ rfl ⟨by decide, by decide⟩ (Nat.le_of_ble_eq_true rfl) ?_
    exact aw_iret C E dX6_fan_24 rfl (Or.inl ⟨hbad, rfl, rfl⟩)

/-! the star of a cone -/
def stX (V : FV) (i : Int) : Int := (gx V i + gx V (nxt V i)).tdiv (Int.gcd (gx V i + gx V (nxt V i)) (gy V i + gy V (nxt V i)) : Int)
def stY (V : FV) (i : Int) : Int := (gy V i + gy V (nxt V i)).tdiv (Int.gcd (gx V i + gx V (nxt V i)) (gy V i + gy V (nxt V i)) : Int)
theorem pos_of_mul {a b : Int} (ha : 0 < a) (h : 0 < a * b) : 0 < b := by
  rcases Int.lt_or_le 0 b with w | w
  · exact w
  · have := Int.mul_nonpos_of_nonneg_of_nonpos (show 0 ≤ a by omega) w
    omega
theorem gcd_by {X Y : Int} (h : ¬ (X = 0 ∧ Y = 0)) : 0 < (Int.gcd X Y : Int) ∧ X = (Int.gcd X Y : Int) * X.tdiv (Int.gcd X Y) ∧ Y = (Int.gcd X Y : Int) * Y.tdiv (Int.gcd X Y) ∧ Int.gcd (X.tdiv (Int.gcd X Y)) (Y.tdiv (Int.gcd X Y)) = 1 := by
  have g0 : Int.gcd X Y ≠ 0 := fun w => h (Int.gcd_eq_zero_iff.mp w)
  have g1 : 0 < (Int.gcd X Y : Int) := by omega
  have e1 : X = (Int.gcd X Y : Int) * X.tdiv (Int.gcd X Y) := (Int.mul_tdiv_cancel_of_dvd (Int.gcd_dvd_left X Y)).symm
  have e2 : Y = (Int.gcd X Y : Int) * Y.tdiv (Int.gcd X Y) := (Int.mul_tdiv_cancel_of_dvd (Int.gcd_dvd_right X Y)).symm
  refine ⟨g1, e1, e2, ?_⟩
  have e3 : Int.gcd X Y = Int.gcd ((Int.gcd X Y : Int) * X.tdiv (Int.gcd X Y)) ((Int.gcd X Y : Int) * Y.tdiv (Int.gcd X Y)) := by rw [← e1, ← e2]
  rw [Int.gcd_mul_left] at e3
  have e4 : (Int.gcd X Y : Int).natAbs = Int.gcd X Y := by omega
  rw [e4] at e3
  have : Int.gcd X Y * Int.gcd (X.tdiv (Int.gcd X Y)) (Y.tdiv (Int.gcd X Y)) = Int.gcd X Y * 1 := by omega
  exact Nat.eq_of_mul_eq_mul_left (by omega) this
theorem st_in {V : FV} {i : Int} (t : 0 < trn V i) : 0 < gx V i * stY V i - gy V i * stX V i ∧ 0 < stX V i * gy V (nxt V i) - stY V i * gx V (nxt V i) ∧ Int.gcd (stX V i) (stY V i) = 1 := by
  unfold trn crs at t
  have nz : ¬ (gx V i + gx V (nxt V i) = 0 ∧ gy V i + gy V (nxt V i) = 0) := by
    rintro ⟨z1, z2⟩
    rw [show gx V (nxt V i) = -gx V i by omega, show gy V (nxt V i) = -gy V i by omega, Int.mul_neg, Int.mul_neg, Int.mul_comm] at t
    omega
  obtain ⟨g1, e1, e2, g2⟩ := gcd_by nz
  refine ⟨?_, ?_, g2⟩
  · refine pos_of_mul g1 ?_
    rw [Int.mul_sub, Int.mul_left_comm, Int.mul_left_comm _ (gy V i)]
    unfold stX stY
    rw [← e1, ← e2, Int.mul_add, Int.mul_add, Int.mul_comm (gy V i) (gx V i)]
    omega
  · refine pos_of_mul g1 ?_
    rw [Int.mul_sub, ← Int.mul_assoc, ← Int.mul_assoc]
    unfold stX stY
    rw [← e1, ← e2, Int.add_mul, Int.add_mul, Int.mul_comm (gy V (nxt V i)) (gx V (nxt V i))]
    omega
noncomputable def qSt (V : FV) (i : Int) : Int × Int := if ¬ (0 ≤ i ∧ i < V.1) then (-1, 1) else if b01 (okI V V i (stX V i) (stY V i)) = 1 then (pos V (stX V i) (stY V i), 0) else (-1, 3)
noncomputable def wSt (V : FV) (i : Int) : FV := insV V (pos V (stX V i) (stY V i)).toNat (stX V i) (stY V i) (fun d => ftt V d i (stX V i) (stY V i) / trn V i)
theorem oV.g {V : FV} (h : oV V) : gV V := ⟨h.1, Or.inr ⟨h.2.1, h.2.2.1⟩⟩
theorem adj_n {V : FV} {i : Int} (h0 : 0 ≤ i) (h1 : i < V.1) : adj V (gx V i) (gy V i) (gx V (nxt V i)) (gy V (nxt V i)) := ⟨i, h0, h1, ⟨rfl, rfl⟩, rfl, rfl⟩
theorem st_good {V : FV} (h : oV V) {i : Int} (h0 : 0 ≤ i) (h1 : i < V.1) (hk : okI V V i (stX V i) (stY V i)) : splt V (stX V i) (stY V i) (pos V (stX V i) (stY V i)) ∧ oV (wSt V i) := by
  have s := st_in (h.2.1.2 i h0 h1)
  have g := ins_good h (adj_n h0 h1) s.1 s.2.1 s.2.2 hk.1 hk.2.1 hk.2.2.1 (g := fun d => ftt V d i (stX V i) (stY V i) / trn V i) (fun d hd => hk.2.2.2 d (by omega) hd)
  exact ⟨g.1, g.2.1⟩
theorem t_X5_star {mu : Mem} {V : FV} {a : Int} {H : Nat → FV} {i : Int} (S : cSt mu V a H) (hs : srt V) (hi : R32 i) : Tr 4 mX5_star [vr 0, vi i] mu (fun r m2 => r = some (vi (qSt V i).1) ∧ actR mu m2 V a H (qSt V i).2 (wSt V i)) := by
  refine Tr.of (by decide +kernel) (Nat.le_of_ble_eq_true rfl) (fun K C E => ?_)
  obtain ⟨f, g, p, r, h, rfl⟩ := S.rn
  obtain ⟨⟨hf, ef⟩, ⟨hg, eg⟩, ⟨hp, ep⟩, fne⟩ := id r
  have hV := h.2.2.1
  have hn := hV.n
  have hl := hV.l
  have en0 : (fv mu f).1 = mu f 0 := rfl
  have el0 : (fv mu f).2.1 = mu f 1 := rfl
  unfold qSt at E
  have k2 := b01_01 (0 ≤ i ∧ i < mu f 0)
  have k2t : b01 (0 ≤ i ∧ i < mu f 0) = 1 → 0 ≤ i ∧ i < mu f 0 := b01_iff.mp
  have k2f : b01 (0 ≤ i ∧ i < mu f 0) = 0 → ¬ (0 ≤ i ∧ i < mu f 0) := b01_niff.mp
  have k3 := b01_01 (okI (fv mu f) (fv mu f) i (stX (fv mu f) i) (stY (fv mu f) i))
  have fin : ∀ {v90 v91 v92 v93 v94 v95 : Vv} (c : Int), (c = 0 ∧ 0 ≤ i ∧ i < mu f 0) ∨ (c = 1 ∧ ¬ (0 ≤ i ∧ i < mu f 0)) → AW K mX5_star (NC, 0, 0) 14 [vr 0, vi i, v90, v91, v92, v93, v94, v95] [vi c, vr 0] mu := by
    rintro v90 v91 v92 v93 v94 v95 c (⟨rfl, q⟩ | ⟨rfl, q⟩)
    · rw [if_neg (show ¬ ¬ (0 ≤ i ∧ i < (fv mu f).1) from fun z => z q)] at E
      have cl := h.2.2.cl (Or.inl (show 0 < (fv mu f).1 by omega))
      have ho : oV (fv mu f) := ⟨hV, cl.1, cl.2, hs⟩
      have pin := pos_in (V := fv mu f) (x := stX (fv mu f) i) (y := stY (fv mu f) i) (by omega)
      obtain ⟨n1, n2x⟩ : 0 ≤ nxt (fv mu f) i ∧ nxt (fv mu f) i < mu f 0 := nxt_in q.1 q.2
      have b1 := hV.x i
      have b2 := hV.x (nxt (fv mu f) i)
      have b3 := hV.y i
      have b4 := hV.y (nxt (fv mu f) i)
      have bg : (Int.gcd (gx (fv mu f) i + gx (fv mu f) (nxt (fv mu f) i)) (gy (fv mu f) i + gy (fv mu f) (nxt (fv mu f) i)) : Int) ≤ 120 := gcd_le ⟨by omega, by omega⟩ ⟨by omega, by omega⟩
      have bx : -120 ≤ stX (fv mu f) i ∧ stX (fv mu f) i ≤ 120 := by
        have := Int.natAbs_tdiv_le_natAbs (gx (fv mu f) i + gx (fv mu f) (nxt (fv mu f) i)) (Int.gcd (gx (fv mu f) i + gx (fv mu f) (nxt (fv mu f) i)) (gy (fv mu f) i + gy (fv mu f) (nxt (fv mu f) i)) : Int)
        unfold stX
        omega
      have by_ : -120 ≤ stY (fv mu f) i ∧ stY (fv mu f) i ≤ 120 := by
        have := Int.natAbs_tdiv_le_natAbs (gy (fv mu f) i + gy (fv mu f) (nxt (fv mu f) i)) (Int.gcd (gx (fv mu f) i + gx (fv mu f) (nxt (fv mu f) i)) (gy (fv mu f) i + gy (fv mu f) (nxt (fv mu f) i)) : Int)
        unfold stY
        omega
      refine aw_putI C dX5_star_14 fX5_62 ⟨rfl, by decide⟩ rfl rfl rfl ?_
      have hc : cE mu (wr mu 0 11 0) 0 := cE_w
      generalize wr mu 0 11 0 = m1 at *
      obtain ⟨e5, ev, hV1, en, el, e11⟩ := hc.all h
      have e6 : m1 0 6 = (g : Int) := ((hc.df (g := g)).c0 hg (by decide)).trans eg
      refine aw_aload_n C dX5_star_17 rfl ?_
      refine aw_getI C dX5_star_18 fX5_62 ⟨rfl, by decide⟩ rfl ?_
      rw [e11]
      refine aw_if_eq C dX5_star_21 (tgt := 26) (by decide) ⟨by omega, by omega⟩ (fun c1 => ?_) (fun c1 => ?_)
      · refine aw_aload_n C dX5_star_26 rfl ?_
        refine aw_getR C dX5_star_27 fX5_47 ⟨rfl, by decide⟩ rfl e6 ?_
        refine aw_aload_n C dX5_star_30 rfl ?_
        refine aw_getR C dX5_star_31 fX5_43 ⟨rfl, by decide⟩ rfl e5 ?_
        refine aw_call C dX5_star_34 lX5_234 vX1_copyFrom (t_X1_copyFrom hg hf (fun w => fne w.symm) (by omega) (by omega)) rfl rfl rfl hg.s0 rfl ⟨by decide, by decide⟩ (Nat.le_of_ble_eq_true rfl) (fun r2 mu2 hq2 => ?_)
        obtain ⟨rfl, y1, y2⟩ := hq2
        have D2 : dfr g mu mu2 := (hc.df (g := g)).m y2
        have e5b : mu2 0 5 = (f : Int) := (D2.c0 hg (by decide)).trans ef
        have e6b : mu2 0 6 = (g : Int) := (D2.c0 hg (by decide)).trans eg
        have e11b : mu2 0 11 = 0 := by have := hg.ge; rw [y2 0 (by unfold fanS; omega)]; exact e11
        have n2 : mu2 g 0 = mu f 0 := by rw [ev] at y1; exact congrArg (fun z : FV => z.1) y1
        have l2 : mu2 g 1 = mu f 1 := by rw [ev] at y1; exact congrArg (fun z : FV => z.2.1) y1
        rw [ev] at y1
        have hVg : bV (fv mu2 g) := by rw [y1]; exact hV
        have evb : fv mu2 f = fv mu f := D2.fv hg hf fne
        have hVf : bV (fv mu2 f) := by rw [evb]; exact hV
        have n2f : mu2 f 0 = mu f 0 := congrArg (fun z : FV => z.1) evb
        have l2f : mu2 f 1 = mu f 1 := congrArg (fun z : FV => z.2.1) evb
        generalize mu2 = m2 at *
        show AW _ _ _ _ _ [] _
        refine aw_aload_n C dX5_star_37 rfl ?_
        refine aw_getR C dX5_star_38 fX5_43 ⟨rfl, by decide⟩ rfl e5b ?_
        refine aw_iload_n C dX5_star_41 rfl ?_
        refine aw_call1 C dX5_star_42 lX5_258 vX1_behind (t_X1_behind hf hVf (by omega) (by omega)) rfl rfl rfl hf.s0 rfl ⟨by decide, by decide⟩ (Nat.le_of_ble_eq_true rfl) ?_
        rw [evb]
        refine aw_istore_n C dX5_star_45 (by decide) ?_
        refine aw_aload_n C dX5_star_46 rfl ?_
        refine aw_getR C dX5_star_47 fX5_43 ⟨rfl, by decide⟩ rfl e5b ?_
        refine aw_iload_n C dX5_star_50 rfl ?_
        refine aw_call1 C dX5_star_51 lX5_132 vX1_x (t_X1_x hf hVf (by omega) (by omega)) rfl rfl rfl hf.s0 rfl ⟨by decide, by decide⟩ (Nat.le_of_ble_eq_true rfl) ?_
        rw [evb]
        refine aw_aload_n C dX5_star_54 rfl ?_
        refine aw_getR C dX5_star_55 fX5_43 ⟨rfl, by decide⟩ rfl e5b ?_
        refine aw_iload_n C dX5_star_58 rfl ?_
        refine aw_call1 C dX5_star_59 lX5_132 vX1_x (t_X1_x hf hVf (by omega) (by omega)) rfl rfl rfl hf.s0 rfl ⟨by decide, by decide⟩ (Nat.le_of_ble_eq_true rfl) ?_
        rw [evb]
        refine aw_iadd C dX5_star_62 ?_
        refine aw_istore_n C dX5_star_63 (by decide) ?_
        refine aw_aload_n C dX5_star_64 rfl ?_
        refine aw_getR C dX5_star_65 fX5_43 ⟨rfl, by decide⟩ rfl e5b ?_
        refine aw_iload_n C dX5_star_68 rfl ?_
        refine aw_call1 C dX5_star_69 lX5_135 vX1_y (t_X1_y hf hVf (by omega) (by omega)) rfl rfl rfl hf.s0 rfl ⟨by decide, by decide⟩ (Nat.le_of_ble_eq_true rfl) ?_
        rw [evb]
        refine aw_aload_n C dX5_star_72 rfl ?_
        refine aw_getR C dX5_star_73 fX5_43 ⟨rfl, by decide⟩ rfl e5b ?_
        refine aw_iload_n C dX5_star_76 rfl ?_
        refine aw_call1 C dX5_star_77 lX5_135 vX1_y (t_X1_y hf hVf (by omega) (by omega)) rfl rfl rfl hf.s0 rfl ⟨by decide, by decide⟩ (Nat.le_of_ble_eq_true rfl) ?_
        rw [evb]
        refine aw_iadd C dX5_star_80 ?_
        refine aw_istore C dX5_star_81 (by decide) ?_
        refine aw_iload_n C dX5_star_83 rfl ?_
        refine aw_i2l C dX5_star_84 ⟨by omega, by omega⟩ ?_
        refine aw_iload C dX5_star_85 rfl ?_
        refine aw_i2l C dX5_star_87 ⟨by omega, by omega⟩ ?_
        refine aw_callS1 C dX5_star_88 lX5_175 vX4_common (t_X4_common ⟨by omega, by omega⟩ ⟨by omega, by omega⟩) rfl rfl rfl ⟨by decide, by decide⟩ (Nat.le_of_ble_eq_true rfl) ?_
        refine aw_lstore C dX5_star_91 (by decide) ?_
        refine aw_aload_n C dX5_star_93 rfl ?_
        refine aw_getR C dX5_star_94 fX5_47 ⟨rfl, by decide⟩ rfl e6b ?_
        refine aw_aload_n C dX5_star_97 rfl ?_
        refine aw_getR C dX5_star_98 fX5_43 ⟨rfl, by decide⟩ rfl e5b ?_
        refine aw_iload_n C dX5_star_101 rfl ?_
        refine aw_iload_n C dX5_star_102 rfl ?_
        refine aw_i2l C dX5_star_103 ⟨by omega, by omega⟩ ?_
        refine aw_lload C dX5_star_104 rfl ?_
        refine aw_callS1 C dX5_star_106 lX5_181 vX4_by (t_X4_by ⟨by omega, by omega⟩ ⟨by omega, by omega⟩) rfl rfl rfl ⟨by decide, by decide⟩ (Nat.le_of_ble_eq_true rfl) ?_
        refine aw_l2i C dX5_star_109 ?_
        refine aw_iload C dX5_star_110 rfl ?_
        refine aw_i2l C dX5_star_112 ⟨by omega, by omega⟩ ?_
        refine aw_lload C dX5_star_113 rfl ?_
        refine aw_callS1 C dX5_star_115 lX5_181 vX4_by (t_X4_by ⟨by omega, by omega⟩ ⟨by omega, by omega⟩) rfl rfl rfl ⟨by decide, by decide⟩ (Nat.le_of_ble_eq_true rfl) ?_
        refine aw_l2i C dX5_star_118 ?_
        refine aw_call C dX5_star_119 lX5_261 vX1_insert (t_X1_insert (x := stX (fv mu f) i) (y := stY (fv mu f) i) hg hf (fun w => fne w.symm) hVg hVf (by rw [evb]; exact cl.1) (by omega) (by omega) (by omega) ⟨by omega, by omega⟩ ⟨by omega, by omega⟩) rfl rfl rfl hg.s0 rfl ⟨by decide, by decide⟩ (Nat.le_of_ble_eq_true rfl) (fun r3 mu3 hq3 => ?_)
        obtain ⟨w1, w2⟩ := hq3
        rw [y1, evb] at w2
        have D3 : dfr g mu mu3 := D2.m w1
        have e11c : mu3 0 11 = 0 := by have := hg.ge; rw [w1 0 (by unfold fanS; omega)]; exact e11b
        obtain ⟨fr, hfr, hz⟩ : ∃ z, r3 = some (vi z) ∧ ((b01 (okI (fv mu f) (fv mu f) i (stX (fv mu f) i) (stY (fv mu f) i)) = 1 ∧ z = pos (fv mu f) (stX (fv mu f) i) (stY (fv mu f) i) ∧ fv mu3 g = wSt (fv mu f) i) ∨ (b01 (okI (fv mu f) (fv mu f) i (stX (fv mu f) i) (stY (fv mu f) i)) = 0 ∧ z = -1)) := by
          rcases w2 with ⟨o1, o2, o3⟩ | ⟨o1, o2⟩
          · exact ⟨_, o2, Or.inl ⟨b01_t o1, rfl, o3⟩⟩
          · exact ⟨_, o2, Or.inr ⟨b01_f o1, rfl⟩⟩
        subst hfr
        generalize mu3 = m3 at *
        show AW _ _ _ _ _ (vi fr :: []) _
        refine aw_istore C dX5_star_122 (by decide) ?_
        refine aw_aload_n C dX5_star_124 rfl ?_
        refine aw_iload C dX5_star_125 rfl ?_
        refine aw_iconst C dX5_star_127 ?_
        refine aw_icmp_eq C dX5_star_128 (tgt := 135) (by decide) ⟨by omega, by omega⟩ ⟨by omega, by omega⟩ (fun cz => ?_) (fun cz => ?_)
        · have o1 : b01 (okI (fv mu f) (fv mu f) i (stX (fv mu f) i) (stY (fv mu f) i)) = 0 := by omega
          rw [if_neg (by omega)] at E
          --go
          refine aw_iconst C dX5_star_135 ?_
          refine aw_call1 C dX5_star_136 lX5_251 vX5_keepIf (ki S r D3 (by first | exact Or.inl rfl | exact Or.inr rfl)) rfl rfl rfl ⟨rfl, by decide⟩ rfl ⟨by decide, by decide⟩ (Nat.le_of_ble_eq_true rfl) ?_
          first | rw [if_pos rfl] | rw [if_neg (by decide)]
          refine aw_if_eq C dX5_star_139 (tgt := 147) (by decide) ⟨by omega, by omega⟩ (fun c4 => ?_) (fun c4 => ?_)
          · refine aw_iconst C dX5_star_147 ?_
            exact aw_iret C E dX5_star_148 rfl (by first | exact ⟨rfl, act_n S hg eg D3.w (by rw [wr_at, if_pos ⟨rfl, rfl⟩]) (by decide)⟩ | exact ⟨rfl, act_k S r D3 e11c (by omega) o3 (st_good ho q.1 q.2 (b01_iff.mp o1)).2.g⟩)
          · exfalso; omega
        · have o1 : b01 (okI (fv mu f) (fv mu f) i (stX (fv mu f) i) (stY (fv mu f) i)) = 1 := by omega
          have o2 : fr = pos (fv mu f) (stX (fv mu f) i) (stY (fv mu f) i) := by omega
          have o3 : fv m3 g = wSt (fv mu f) i := by
            rcases hz with ⟨-, -, z⟩ | ⟨z, -⟩
            · exact z
            · exfalso; omega
          rw [if_pos o1, ← o2] at E
          --go
          refine aw_iconst C dX5_star_131 ?_
          refine aw_goto C dX5_star_132 (tgt := 136) (by decide) ?_
          refine aw_call1 C dX5_star_136 lX5_251 vX5_keepIf (ki S r D3 (by first | exact Or.inl rfl | exact Or.inr rfl)) rfl rfl rfl ⟨rfl, by decide⟩ rfl ⟨by decide, by decide⟩ (Nat.le_of_ble_eq_true rfl) ?_
          first | rw [if_pos rfl] | rw [if_neg (by decide)]
          refine aw_if_eq C dX5_star_139 (tgt := 147) (by decide) ⟨by omega, by omega⟩ (fun c5 => ?_) (fun c5 => ?_)
          · exfalso; omega
          · refine aw_iload C dX5_star_142 rfl ?_
            refine aw_goto C dX5_star_144 (tgt := 148) (by decide) ?_
            exact aw_iret C E dX5_star_148 rfl (by first | exact ⟨rfl, act_n S hg eg D3.w (by rw [wr_at, if_pos ⟨rfl, rfl⟩]) (by decide)⟩ | exact ⟨rfl, act_k S r D3 e11c (by omega) o3 (st_good ho q.1 q.2 (b01_iff.mp o1)).2.g⟩)
      · exfalso; omega
    · rw [if_pos (show ¬ (0 ≤ i ∧ i < (fv mu f).1) from q)] at E
      refine aw_putI C dX5_star_14 fX5_62 ⟨rfl, by decide⟩ rfl rfl rfl ?_
      have hc : cE mu (wr mu 0 11 1) 1 := cE_w
      generalize wr mu 0 11 1 = m1 at *
      obtain ⟨e5, ev, hV1, en, el, e11⟩ := hc.all h
      have e6 : m1 0 6 = (g : Int) := ((hc.df (g := g)).c0 hg (by decide)).trans eg
      refine aw_aload_n C dX5_star_17 rfl ?_
      refine aw_getI C dX5_star_18 fX5_62 ⟨rfl, by decide⟩ rfl ?_
      rw [e11]
      refine aw_if_eq C dX5_star_21 (tgt := 26) (by decide) ⟨by omega, by omega⟩ (fun c1 => ?_) (fun c1 => ?_)
      · exfalso; omega
      · refine aw_iconst C dX5_star_24 ?_
        exact aw_iret C E dX5_star_25 rfl ⟨rfl, act_n S hg eg hc.df e11 (by decide)⟩
  refine aw_aload_n C dX5_star_0 rfl ?_
  refine aw_aload_n C dX5_star_1 rfl ?_
  refine aw_iload_n C dX5_star_2 rfl ?_
  refine aw_call1 C dX5_star_3 lX5_126 vX5_hasRay (t_X5_hasRay h hi) rfl rfl rfl ⟨rfl, by decide⟩ rfl ⟨by decide, by decide⟩ (Nat.le_of_ble_eq_true rfl) ?_
  refine aw_if_eq C dX5_star_6 (tgt := 13) (by decide) ⟨by omega, by omega⟩ (fun c1 => ?_) (fun c1 => ?_)
  · refine aw_iconst C dX5_star_13 ?_
    first
    | exact fin 1 (Or.inr ⟨rfl, k2f (by omega)⟩)
    | exact fin 0 (Or.inl ⟨rfl, k2t (by omega)⟩)
  · refine aw_iconst C dX5_star_9 ?_
    refine aw_goto C dX5_star_10 (tgt := 14) (by decide) ?_
    first
    | exact fin 1 (Or.inr ⟨rfl, k2f (by omega)⟩)
    | exact fin 0 (Or.inl ⟨rfl, k2t (by omega)⟩)

def put (A : Nat → Int) (i v : Int) : Nat → Int := fun j => if (j : Int) = i then v else A j
def addR (D : PD) (x y w : Int) : PD := (D.1 + 1, D.2.1, put D.2.2.1 D.1 x, put D.2.2.2.1 D.1 y, put D.2.2.2.2.1 D.1 w, D.2.2.2.2.2.1, D.2.2.2.2.2.2)
def addL (D : PD) (w : Int) (N : Nat → Int) : PD := (D.1, D.2.1 + 1, D.2.2.1, D.2.2.2.1, D.2.2.2.2.1, put D.2.2.2.2.2.1 D.2.1 w, fun d r => if (d : Int) = D.2.1 then (if r < 12 then N r else 0) else D.2.2.2.2.2.2 d r)
noncomputable def rR4 (A : Nat → Int) (n : Int) (D : PD) (w x : Int) (t5 : TK) : Int × TK × PD := if fIf A n 9 t5 ≠ 0 then (fIf A n 9 t5, fI1 A n t5, D) else if Int.gcd x (fIv A n t5) ≠ 1 ∨ b01 (rAt D x (fIv A n t5)) = 1 then (2, fI1 A n t5, D) else (0, tok A n (fI1 A n t5).2.2.2, addR D x (fIv A n t5) w)
noncomputable def rR3 (A : Nat → Int) (n : Int) (D : PD) (w : Int) (t3 : TK) : Int × TK × PD := if fIf A n 9 t3 ≠ 0 then (fIf A n 9 t3, fI1 A n t3, D) else rR4 A n D w (fIv A n t3) (tok A n (fI1 A n t3).2.2.2)
noncomputable def rR2 (A : Nat → Int) (n : Int) (D : PD) (w : Int) (t2 : TK) : Int × TK × PD := if fWd t2 52 ≠ 0 then (1, t2, D) else rR3 A n D w (tok A n t2.2.2.2)
noncomputable def rR1 (A : Nat → Int) (n : Int) (D : PD) (t1 : TK) : Int × TK × PD := if fNew D t1 ≠ 0 then (fNew D t1, t1, D) else rR2 A n D t1.2.1 (tok A n t1.2.2.2)
noncomputable def rRy (A : Nat → Int) (n : Int) (D : PD) (t : TK) : Int × TK × PD := if 12 ≤ D.1 then (4, t, D) else rR1 A n D (tok A n t.2.2.2)
noncomputable def pPt (A : Nat → Int) (n : Int) (D : PD) : Nat → Nat → (Nat → Int) → TK → Int × TK × (Nat → Int)
  | 0, _, N, t => (1, t, N)
  | k + 1, b, N, t => if (fPf A n D b (tok A n t.2.2.2)).1 ≠ 0 then ((fPf A n D b (tok A n t.2.2.2)).1, (fPf A n D b (tok A n t.2.2.2)).2, N)
    else if (tok A n (fPf A n D b (tok A n t.2.2.2)).2.2.2.2).1 = 44 then pPt A n D k (b ||| 2 ^ (rNm D (fPf A n D b (tok A n t.2.2.2)).2.2.1).toNat) (put N (rNm D (fPf A n D b (tok A n t.2.2.2)).2.2.1) (fIv A n (tok A n t.2.2.2))) (tok A n (fPf A n D b (tok A n t.2.2.2)).2.2.2.2)
    else (0, tok A n (fPf A n D b (tok A n t.2.2.2)).2.2.2.2, put N (rNm D (fPf A n D b (tok A n t.2.2.2)).2.2.1) (fIv A n (tok A n t.2.2.2)))
noncomputable def rL1 (A : Nat → Int) (n : Int) (D : PD) (t1 : TK) : Int × TK × PD := if fNew D t1 ≠ 0 then (fNew D t1, t1, D) else ((pPt A n D 13 0 (fun _ => 0) t1).1, (pPt A n D 13 0 (fun _ => 0) t1).2.1, addL D t1.2.1 (pPt A n D 13 0 (fun _ => 0) t1).2.2)
noncomputable def rL (A : Nat → Int) (n : Int) (D : PD) (t : TK) : Int × TK × PD := if 6 ≤ D.2.1 then (4, t, D) else rL1 A n D (tok A n t.2.2.2)
noncomputable def rLn (A : Nat → Int) (n : Int) (D : PD) (t : TK) : Int × TK × PD := if t.1 ≠ 1 then (1, t, D) else if t.2.1 = 18489 then rRy A n D t else if t.2.1 = 408612 then rL A n D t else (1, t, D)
noncomputable def pAl (A : Nat → Int) (n : Int) : Nat → Int → PD → Int × TK × PD
  | 0, p, D => (1, tok A n p, D)
  | k + 1, p, D => if (rLn A n D (tok A n p)).1 ≠ 0 then rLn A n D (tok A n p)
    else if (rLn A n D (tok A n p)).2.1.1 = 0 then rLn A n D (tok A n p)
    else if (rLn A n D (tok A n p)).2.1.1 ≠ 59 then (1, (rLn A n D (tok A n p)).2.1, (rLn A n D (tok A n p)).2.2)
    else pAl A n k (rLn A n D (tok A n p)).2.1.2.2.2 (rLn A n D (tok A n p)).2.2
def rdS : Nat → Nat → Prop := fun a b => (a = 1 ∧ (b = 5 ∨ b = 6 ∨ b = 7 ∨ b = 11 ∨ b = 12 ∨ b = 13 ∨ b = 14)) ∨ a = 2 ∨ a = 3 ∨ a = 4 ∨ a = 5 ∨ a = 7
theorem tpS_r : ∀ a b, tpS a b → rdS a b := fun a b h => Or.inl ⟨h.1, by have := h.2; omega⟩
theorem tpS2_r : ∀ a b, tpS2 a b → rdS a b := fun a b h => Or.inl ⟨h.1, by have := h.2; omega⟩
theorem tOk.frr {mu m : Mem} {n : Int} (h : tOk mu n) (hf : frc rdS mu m) : tOk m n ∧ m 6 = mu 6 := by
  have e : m 6 = mu 6 := funext fun j => hf 6 j (by unfold rdS; omega)
  exact ⟨⟨by rw [hf 1 10 (by unfold rdS; omega)]; exact h.1, h.2.1, h.2.2.1, fun j hj => by rw [e]; exact h.2.2.2 j hj⟩, e⟩
/-- rows of loads that are still to come hold nothing -/
def zrw (m : Mem) (l : Int) : Prop := ∀ j : Nat, 12 * l ≤ j → j < 72 → m 5 j = 0
theorem cut_put {n v : Int} {A B : Nat → Int} (h : ∀ j : Nat, (j : Int) ≤ n → B j = if (j : Int) = n then v else A j) : cut1 (n + 1) B = put (cut1 n A) n v := by
  funext j
  unfold cut1 put
  dsimp only
  by_cases hj : (j : Int) < n + 1
  · rw [if_pos hj, h j (by omega)]
    by_cases e : (j : Int) = n
    · rw [if_pos e, if_pos e]
    · rw [if_neg e, if_neg e, if_pos (by omega)]
  · rw [if_neg hj, if_neg (by omega), if_neg (by omega)]
theorem bD_addR {D : PD} (h : bD D) {x y w : Int} (hn : D.1 < 12) (hx : -9 ≤ x ∧ x ≤ 9) (hy : -9 ≤ y ∧ y ≤ 9) (hw : 0 ≤ w ∧ w < 1073741824) : bD (addR D x y w) := by
  obtain ⟨a, b, c, d, e, f, g⟩ := h
  refine ⟨by show 0 ≤ D.1 + 1 ∧ D.1 + 1 ≤ 12; omega, b, fun i => ?_, fun i => ?_, fun i => ?_, f, g⟩
  · show -9 ≤ put D.2.2.1 D.1 x i ∧ put D.2.2.1 D.1 x i ≤ 9
    unfold put; split; exact hx; exact c i
  · show -9 ≤ put D.2.2.2.1 D.1 y i ∧ put D.2.2.2.1 D.1 y i ≤ 9
    unfold put; split; exact hy; exact d i
  · show 0 ≤ put D.2.2.2.2.1 D.1 w i ∧ put D.2.2.2.2.1 D.1 w i < 1073741824
    unfold put; split; exact hw; exact e i
theorem bD_addL {D : PD} (h : bD D) {w : Int} {N : Nat → Int} (hn : D.2.1 < 6) (hw : 0 ≤ w ∧ w < 1073741824) (hN : ∀ r, r < 12 → -20 ≤ N r ∧ N r ≤ 20) : bD (addL D w N) := by
  obtain ⟨a, b, c, d, e, f, g⟩ := h
  refine ⟨a, by show 0 ≤ D.2.1 + 1 ∧ D.2.1 + 1 ≤ 6; omega, c, d, e, fun i => ?_, fun d2 r => ?_⟩
  · show 0 ≤ put D.2.2.2.2.2.1 D.2.1 w i ∧ put D.2.2.2.2.2.1 D.2.1 w i < 1073741824
    unfold put; split; exact hw; exact f i
  · show -20 ≤ (if (d2 : Int) = D.2.1 then (if r < 12 then N r else 0) else D.2.2.2.2.2.2 d2 r) ∧ (if (d2 : Int) = D.2.1 then (if r < 12 then N r else 0) else D.2.2.2.2.2.2 d2 r) ≤ 20
    split
    · split
      · exact hN r (by assumption)
      · omega
    · exact g d2 r
theorem fIv_b {A : Nat → Int} {n most : Int} {t : TK} (hi : tI n t) (h : fIf A n most t = 0) : -most ≤ fIv A n t ∧ fIv A n t ≤ most := by
  have i1 : tI n (fI1 A n t) := fI1_i hi
  unfold fIf at h
  unfold fIv
  split at h
  · cases h
  · rename_i w
    have w : (fI1 A n t).1 = 2 := Classical.not_not.mp w
    have := i1.1.2.2 w
    split at h
    · cases h
    · split <;> omega
theorem gcd_le {x y B : Int} (hx : -B ≤ x ∧ x ≤ B) (hy : -B ≤ y ∧ y ≤ B) : (Int.gcd x y : Int) ≤ B := by
  by_cases h : x = 0
  · subst h; rw [Int.gcd_zero_left]; omega
  · have := Nat.le_of_dvd (by omega) (Int.gcd_dvd_natAbs_left x y)
    omega
theorem t_X3_readRay {mu : Mem} {n : Int} {t : TK} (h : tOk mu n) (hD : bD (pdC mu)) (ht : TSt mu t) (hi : tI n t) : Tr 3 mX3_readRay [vr 1] mu (fun r m2 => r = some (vi (rRy (mu 6) n (pdC mu) t).1) ∧ frc rdS mu m2 ∧ TSt m2 (rRy (mu 6) n (pdC mu) t).2.1 ∧ ((rRy (mu 6) n (pdC mu) t).1 = 0 → pdC m2 = (rRy (mu 6) n (pdC mu) t).2.2 ∧ m2 5 = mu 5 ∧ bD (pdC m2))) := by
  refine Tr.of (by decide +kernel) (Nat.le_of_ble_eq_true rfl) (fun K C E => ?_)
  have hrc : 0 ≤ mu 1 6 ∧ mu 1 6 ≤ 12 := hD.1
  generalize hA : mu 6 = A at *
  generalize hDD : pdC mu = D at *
  have hD1 : D.1 = mu 1 6 := by rw [← hDD]; rfl
  unfold rRy at E
  rw [hD1] at E
  have i1 : tI n (tok A n t.2.2.2) := tok_i hi.2.2.1 hi.2.2.2.1
  generalize ht1 : tok A n t.2.2.2 = t1 at *
  have i2 : tI n (tok A n t1.2.2.2) := tok_i i1.2.2.1 i1.2.2.2.1
  unfold rR1 rR2 rR3 at E
  generalize ht2 : tok A n t1.2.2.2 = t2 at *
  have i3 : tI n (tok A n t2.2.2.2) := tok_i i2.2.2.1 i2.2.2.2.1
  generalize ht3 : tok A n t2.2.2.2 = t3 at *
  have i4 : tI n (fI1 A n t3) := fI1_i i3
  generalize ht4 : fI1 A n t3 = t4 at *
  have i5 : tI n (tok A n t4.2.2.2) := tok_i i4.2.2.1 i4.2.2.2.1
  generalize ht5 : tok A n t4.2.2.2 = t5 at *
  unfold rR4 at E
  have i6 : tI n (fI1 A n t5) := fI1_i i5
  generalize ht6 : fI1 A n t5 = t6 at *
  have w0 : fNew D t1 = 0 ∨ fNew D t1 = 1 ∨ fNew D t1 = 3 := by unfold fNew; split; omega; split <;> omega
  have w1 := fWd_01 t2 52
  have w2 := fIf_012 A n 9 t3
  have w3 := fIf_012 A n 9 t5
  have nm : fNew D t1 = 0 → isNm t1 := fun w => by
    unfold fNew at w
    split at w
    · cases w
    · rename_i q
      have := b01_01 (isNm t1)
      exact b01_iff.mp (by omega)
  have f75 : ∀ (Qf : Option Vv → Mem → Prop), CR K (NC, 0, 0) mX3_readRay Qf → ∀ (p : Int) (v1 v3 : Vv) (m : Mem), p = 1 ∨ p = 2 ∨ p = 3 → Qf (some (vi p)) m → AW K mX3_readRay (NC, 0, 0) 75 [vr 1, v1, vi p, v3] [] m := by
    intro Qf E p v1 v3 m hp hq
    refine aw_iload_n C dX3_readRay_75 rfl ?_
    refine aw_if_eq C dX3_readRay_76 (tgt := 81) (by decide) ⟨by omega, by omega⟩ (fun c1 => ?_) (fun c1 => ?_)
    · exfalso; omega
    · refine aw_iload_n C dX3_readRay_79 rfl ?_
      exact aw_iret C E dX3_readRay_80 rfl hq
  have f55 : ∀ (Qf : Option Vv → Mem → Prop), CR K (NC, 0, 0) mX3_readRay Qf → ∀ (p : Int) (v1 v3 : Vv) (m : Mem), p = 1 ∨ p = 2 ∨ p = 3 → Qf (some (vi p)) m → AW K mX3_readRay (NC, 0, 0) 55 [vr 1, v1, vi p, v3] [] m := by
    intro Qf E p v1 v3 m hp hq
    refine aw_aload_n C dX3_readRay_55 rfl ?_
    refine aw_getI C dX3_readRay_56 fX3_85 ⟨rfl, by decide⟩ rfl ?_
    refine aw_istore_n C dX3_readRay_59 (by decide) ?_
    refine aw_iload_n C dX3_readRay_60 rfl ?_
    refine aw_if_ne C dX3_readRay_61 (tgt := 75) (by decide) ⟨by omega, by omega⟩ (fun c1 => ?_) (fun c1 => ?_)
    · exact f75 Qf E p _ _ m hp hq
    · exfalso; omega
  have f40 : ∀ (Qf : Option Vv → Mem → Prop), CR K (NC, 0, 0) mX3_readRay Qf → ∀ (p : Int) (v1 v3 : Vv) (m : Mem), p = 1 ∨ p = 2 ∨ p = 3 → Qf (some (vi p)) m → AW K mX3_readRay (NC, 0, 0) 40 [vr 1, v1, vi p, v3] [] m := by
    intro Qf E p v1 v3 m hp hq
    refine aw_iload_n C dX3_readRay_40 rfl ?_
    refine aw_if_ne C dX3_readRay_41 (tgt := 55) (by decide) ⟨by omega, by omega⟩ (fun c1 => ?_) (fun c1 => ?_)
    · exact f55 Qf E p _ _ m hp hq
    · exfalso; omega
  refine aw_aload_n C dX3_readRay_0 rfl ?_
  refine aw_getI C dX3_readRay_1 fX3_53 ⟨rfl, by decide⟩ rfl ?_
  refine aw_bipush C dX3_readRay_4 rfl ?_
  refine aw_icmp_lt C dX3_readRay_6 (tgt := 11) (by decide) ⟨by omega, by omega⟩ ⟨by omega, by omega⟩ (fun c1 => ?_) (fun c1 => ?_)
  · rw [if_neg (by omega)] at E
    --go
    refine aw_aload_n C dX3_readRay_11 rfl ?_
    refine aw_call C dX3_readRay_12 lX3_59 vX3_take (t_X3_take h ht.2.2.2 hi.2.2.1 hi.2.2.2.1) rfl rfl rfl ⟨rfl, by decide⟩ rfl ⟨by decide, by decide⟩ (Nat.le_of_ble_eq_true rfl) (fun r1 mu1 hq1 => ?_)
    obtain ⟨rfl, u1, u2⟩ := hq1
    rw [hA, ht1] at u2
    have v1 := (h.fr u1).1
    have v1A : mu1 6 = A := (h.fr u1).2.trans hA
    have f1 : frc tpS2 mu mu1 := u1.mono tpS_2
    have d1 : pdC mu1 = D := (pdC_fr f1).trans hDD
    have F := f1.mono tpS2_r
    have T := u2
    show AW _ _ _ _ _ [] _
    refine aw_aload_n C dX3_readRay_15 rfl ?_
    refine aw_getI C dX3_readRay_16 fX3_65 ⟨rfl, by decide⟩ rfl ?_
    refine aw_istore_n C dX3_readRay_19 (by decide) ?_
    refine aw_aload_n C dX3_readRay_20 rfl ?_
    refine aw_call1 C dX3_readRay_21 lX3_76 vX3_faultOfNewName (t_X3_faultOfNewName (by rw [d1]; exact hD) u2 i1.1) rfl rfl rfl ⟨rfl, by decide⟩ rfl ⟨by decide, by decide⟩ (Nat.le_of_ble_eq_true rfl) ?_
    rw [d1]
    refine aw_istore_n C dX3_readRay_24 (by decide) ?_
    refine aw_iload_n C dX3_readRay_25 rfl ?_
    refine aw_if_ne C dX3_readRay_26 (tgt := 40) (by decide) ⟨by omega, by omega⟩ (fun c2 => ?_) (fun c2 => ?_)
    · rw [if_pos c2] at E
      exact f40 _ E _ _ _ _ (by omega) ⟨rfl, F, T, fun w => absurd w c2⟩
    · rw [if_neg (fun w => w c2)] at E
      have hnm := nm c2
      have hwd := i1.1.2.1 hnm.1
      rw [u2.2.1 (Or.inl hnm.1)]
      --go
      refine aw_aload_n C dX3_readRay_29 rfl ?_
      refine aw_call C dX3_readRay_30 lX3_59 vX3_take (t_X3_take v1 u2.2.2.2 i1.2.2.1 i1.2.2.2.1) rfl rfl rfl ⟨rfl, by decide⟩ rfl ⟨by decide, by decide⟩ (Nat.le_of_ble_eq_true rfl) (fun r2 mu2 hq2 => ?_)
      obtain ⟨rfl, y1, y2⟩ := hq2
      rw [v1A, ht2] at y2
      have v2 := (v1.fr y1).1
      have v2A : mu2 6 = A := (v1.fr y1).2.trans v1A
      have f1 : frc tpS2 mu mu2 := f1.tr (y1.mono tpS_2)
      have F := f1.mono tpS2_r
      have T := y2
      show AW _ _ _ _ _ [] _
      refine aw_aload_n C dX3_readRay_33 rfl ?_
      refine aw_bipush C dX3_readRay_34 rfl ?_
      refine aw_call1 C dX3_readRay_36 lX3_79 vX3_faultOfWord (t_X3_faultOfWord y2 i2.1 ⟨by omega, by omega⟩) rfl rfl rfl ⟨rfl, by decide⟩ rfl ⟨by decide, by decide⟩ (Nat.le_of_ble_eq_true rfl) ?_
      refine aw_istore_n C dX3_readRay_39 (by decide) ?_
      refine aw_iload_n C dX3_readRay_40 rfl ?_
      refine aw_if_ne C dX3_readRay_41 (tgt := 55) (by decide) ⟨by omega, by omega⟩ (fun c3 => ?_) (fun c3 => ?_)
      · rw [if_pos c3] at E
        exact f55 _ E _ _ _ _ (by omega) ⟨by rw [show fWd t2 52 = 1 by omega], F, T, fun w => absurd (show (1 : Int) = 0 from w) (by decide)⟩
      · rw [if_neg (fun w => w c3)] at E
        --go
        refine aw_aload_n C dX3_readRay_44 rfl ?_
        refine aw_call C dX3_readRay_45 lX3_59 vX3_take (t_X3_take v2 y2.2.2.2 i2.2.2.1 i2.2.2.2.1) rfl rfl rfl ⟨rfl, by decide⟩ rfl ⟨by decide, by decide⟩ (Nat.le_of_ble_eq_true rfl) (fun r3 mu3 hq3 => ?_)
        obtain ⟨rfl, x1, x2⟩ := hq3
        rw [v2A, ht3] at x2
        have v3 := (v2.fr x1).1
        have v3A : mu3 6 = A := (v2.fr x1).2.trans v2A
        have f1 : frc tpS2 mu mu3 := f1.tr (x1.mono tpS_2)
        show AW _ _ _ _ _ [] _
        refine aw_aload_n C dX3_readRay_48 rfl ?_
        refine aw_bipush C dX3_readRay_49 rfl ?_
        refine aw_call C dX3_readRay_51 lX3_82 vX3_faultOfInt (t_X3_faultOfInt v3 x2 i3 ⟨by omega, by omega⟩) rfl rfl rfl ⟨rfl, by decide⟩ rfl ⟨by decide, by decide⟩ (Nat.le_of_ble_eq_true rfl) (fun r4 mu4 hq4 => ?_)
        obtain ⟨rfl, z1, z2, z3⟩ := hq4
        rw [v3A] at z2 z3
        rw [ht4] at z2
        have v4 := (v3.fr2 z1).1
        have v4A : mu4 6 = A := (v3.fr2 z1).2.trans v3A
        have f1 : frc tpS2 mu mu4 := f1.tr z1
        have F := f1.mono tpS2_r
        have T := z2
        rw [v3A]
        show AW _ _ _ _ _ (vi (fIf A n 9 t3) :: _) _
        refine aw_istore_n C dX3_readRay_54 (by decide) ?_
        refine aw_aload_n C dX3_readRay_55 rfl ?_
        refine aw_getI C dX3_readRay_56 fX3_85 ⟨rfl, by decide⟩ rfl ?_
        refine aw_istore_n C dX3_readRay_59 (by decide) ?_
        refine aw_iload_n C dX3_readRay_60 rfl ?_
        refine aw_if_ne C dX3_readRay_61 (tgt := 75) (by decide) ⟨by omega, by omega⟩ (fun c4 => ?_) (fun c4 => ?_)
        · rw [if_pos c4] at E
          exact f75 _ E _ _ _ _ (by omega) ⟨rfl, F, T, fun w => absurd w c4⟩
        · rw [if_neg (fun w => w c4)] at E
          have e14 := z3 (by omega)
          have b14 := fIv_b i3 c4
          rw [e14]
          --go
          refine aw_aload_n C dX3_readRay_64 rfl ?_
          refine aw_call C dX3_readRay_65 lX3_59 vX3_take (t_X3_take v4 z2.2.2.2 i4.2.2.1 i4.2.2.2.1) rfl rfl rfl ⟨rfl, by decide⟩ rfl ⟨by decide, by decide⟩ (Nat.le_of_ble_eq_true rfl) (fun r5 mu5 hq5 => ?_)
          obtain ⟨rfl, k1, k2⟩ := hq5
          rw [v4A, ht5] at k2
          have v5 := (v4.fr k1).1
          have v5A : mu5 6 = A := (v4.fr k1).2.trans v4A
          have f1 : frc tpS2 mu mu5 := f1.tr (k1.mono tpS_2)
          show AW _ _ _ _ _ [] _
          refine aw_aload_n C dX3_readRay_68 rfl ?_
          refine aw_bipush C dX3_readRay_69 rfl ?_
          refine aw_call C dX3_readRay_71 lX3_82 vX3_faultOfInt (t_X3_faultOfInt v5 k2 i5 ⟨by omega, by omega⟩) rfl rfl rfl ⟨rfl, by decide⟩ rfl ⟨by decide, by decide⟩ (Nat.le_of_ble_eq_true rfl) (fun r6 mu6 hq6 => ?_)
          obtain ⟨rfl, j1, j2, j3⟩ := hq6
          rw [v5A] at j2 j3
          rw [ht6] at j2
          have v6 := (v5.fr2 j1).1
          have v6A : mu6 6 = A := (v5.fr2 j1).2.trans v5A
          have f1 : frc tpS2 mu mu6 := f1.tr j1
          have F := f1.mono tpS2_r
          have T := j2
          have d6 : pdC mu6 = D := (pdC_fr f1).trans hDD
          have e6 : mu6 1 6 = mu 1 6 := f1 1 6 (by unfold tpS2; omega)
          rw [v5A]
          generalize mu6 = M at *
          show AW _ _ _ _ _ (vi (fIf A n 9 t5) :: _) _
          refine aw_istore_n C dX3_readRay_74 (by decide) ?_
          refine aw_iload_n C dX3_readRay_75 rfl ?_
          refine aw_if_eq C dX3_readRay_76 (tgt := 81) (by decide) ⟨by omega, by omega⟩ (fun c5 => ?_) (fun c5 => ?_)
          · rw [if_neg (fun w => w c5)] at E
            have e15 := j3 (by omega)
            have b15 := fIv_b i5 c5
            have bg := gcd_le b14 b15
            have g01 := b01_01 (rAt D (fIv A n t3) (fIv A n t5))
            --go
            refine aw_iload_n C dX3_readRay_81 rfl ?_
            refine aw_i2l C dX3_readRay_82 ⟨by omega, by omega⟩ ?_
            refine aw_aload_n C dX3_readRay_83 rfl ?_
            refine aw_getI C dX3_readRay_84 fX3_85 ⟨rfl, by decide⟩ rfl ?_
            rw [e15]
            refine aw_i2l C dX3_readRay_87 ⟨by omega, by omega⟩ ?_
            refine aw_callS1 C dX3_readRay_88 lX3_88 vX4_common (t_X4_common ⟨by omega, by omega⟩ ⟨by omega, by omega⟩) rfl rfl rfl ⟨by decide, by decide⟩ (Nat.le_of_ble_eq_true rfl) ?_
            refine aw_lconst C dX3_readRay_91 (v := 1) rfl ?_
            refine aw_lcmp_ne C dX3_readRay_92 dX3_readRay_93 (tgt := 108) (by decide) ⟨by omega, by omega⟩ ⟨by omega, by omega⟩ (fun c6 => ?_) (fun c6 => ?_)
            · rw [if_pos (Or.inl (fun w => c6 (by rw [w]; rfl)))] at E
              --go
              refine aw_iconst C dX3_readRay_108 ?_
              exact aw_iret C E dX3_readRay_109 rfl ⟨rfl, F, T, fun w => absurd (show (2 : Int) = 0 from w) (by decide)⟩
            · refine aw_aload_n C dX3_readRay_96 rfl ?_
              refine aw_iload_n C dX3_readRay_97 rfl ?_
              refine aw_aload_n C dX3_readRay_98 rfl ?_
              refine aw_getI C dX3_readRay_99 fX3_85 ⟨rfl, by decide⟩ rfl ?_
              rw [e15]
              refine aw_call1 C dX3_readRay_102 lX3_94 vX3_isRayAt (t_X3_isRayAt (by rw [d6]; exact hD) ⟨by omega, by omega⟩ ⟨by omega, by omega⟩) rfl rfl rfl ⟨rfl, by decide⟩ rfl ⟨by decide, by decide⟩ (Nat.le_of_ble_eq_true rfl) ?_
              rw [d6]
              refine aw_if_eq C dX3_readRay_105 (tgt := 110) (by decide) ⟨by omega, by omega⟩ (fun c7 => ?_) (fun c7 => ?_)
              · have hg1 : ¬ (Int.gcd (fIv A n t3) (fIv A n t5) ≠ 1 ∨ b01 (rAt D (fIv A n t3) (fIv A n t5)) = 1) := fun w => by
                  rcases w with w | w
                  · exact w (by omega)
                  · omega
                rw [if_neg hg1] at E
                --go
                refine aw_aload_n C dX3_readRay_110 rfl ?_
                refine aw_getS C dX3_readRay_111 fX3_11 ⟨rfl, by decide⟩ rfl rfl (srf 1 0 2 (by decide)) ?_
                refine aw_aload_n C dX3_readRay_114 rfl ?_
                refine aw_getI C dX3_readRay_115 fX3_53 ⟨rfl, by decide⟩ rfl ?_
                rw [e6]
                refine aw_iload_n C dX3_readRay_118 rfl ?_
                refine aw_iast C dX3_readRay_119 ⟨rfl, by decide⟩ (by decide) (by omega) (by omega) ?_
                refine aw_aload_n C dX3_readRay_120 rfl ?_
                refine aw_getS C dX3_readRay_121 fX3_15 ⟨rfl, by decide⟩ rfl rfl (srf 1 1 3 (by decide)) ?_
                refine aw_aload_n C dX3_readRay_124 rfl ?_
                refine aw_getI C dX3_readRay_125 fX3_53 ⟨rfl, by decide⟩ rfl ?_
                rw [wr_ne (show (1 : Nat) ≠ 2 by decide), e6]
                refine aw_aload_n C dX3_readRay_128 rfl ?_
                refine aw_getI C dX3_readRay_129 fX3_85 ⟨rfl, by decide⟩ rfl ?_
                rw [wr_ne (show (1 : Nat) ≠ 2 by decide), e15]
                refine aw_iast C dX3_readRay_132 ⟨rfl, by decide⟩ (by decide) (by omega) (by omega) ?_
                refine aw_aload_n C dX3_readRay_133 rfl ?_
                refine aw_getS C dX3_readRay_134 fX3_30 ⟨rfl, by decide⟩ rfl rfl (srf 1 9 7 (by decide)) ?_
                refine aw_aload_n C dX3_readRay_137 rfl ?_
                refine aw_getI C dX3_readRay_138 fX3_53 ⟨rfl, by decide⟩ rfl ?_
                rw [wr_ne (show (1 : Nat) ≠ 3 by decide), wr_ne (show (1 : Nat) ≠ 2 by decide), e6]
                refine aw_iload_n C dX3_readRay_141 rfl ?_
                refine aw_iast C dX3_readRay_142 ⟨rfl, by decide⟩ (by decide) (by omega) (by omega) ?_
                refine aw_aload_n C dX3_readRay_143 rfl ?_
                refine aw_dup_a C dX3_readRay_144 ?_
                refine aw_getI C dX3_readRay_145 fX3_53 ⟨rfl, by decide⟩ rfl ?_
                rw [wr_ne (show (1 : Nat) ≠ 7 by decide), wr_ne (show (1 : Nat) ≠ 3 by decide), wr_ne (show (1 : Nat) ≠ 2 by decide), e6]
                refine aw_iconst C dX3_readRay_148 ?_
                refine aw_iadd C dX3_readRay_149 ?_
                refine aw_putI C dX3_readRay_150 fX3_53 ⟨rfl, by decide⟩ rfl rfl rfl ?_
                obtain ⟨MF, hMF⟩ : ∃ MF, MF = wr (wr (wr (wr M 2 (mu 1 6).toNat (fIv A n t3)) 3 (mu 1 6).toNat (fIv A n t5)) 7 (mu 1 6).toNat t1.2.1) 1 6 (mu 1 6 + 1) := ⟨_, rfl⟩
                rw [← hMF]
                have o0 : ∀ b, b ≠ 6 → MF 1 b = M 1 b := fun b hb => by rw [hMF, wr_at, if_neg (by omega), wr_ne (by omega), wr_ne (by omega), wr_ne (by omega)]
                have o1 : ∀ a, a ≠ 1 → a ≠ 2 → a ≠ 3 → a ≠ 7 → MF a = M a := fun a h1 h2 h3 h4 => by rw [hMF, wr_ne h1, wr_ne h4, wr_ne h3, wr_ne h2]
                have o2 : frc rdS mu MF := by
                  rw [hMF]
                  exact (((F.w (Or.inr (by omega))).w (Or.inr (by omega))).w (Or.inr (by omega))).w (Or.inl ⟨rfl, by omega⟩)
                have o7 := (h.frr o2).1
                have o6 : MF 6 = A := (h.frr o2).2.trans hA
                have o8 : MF 1 11 = t6.2.2.2 := (o0 11 (by decide)).trans T.2.2.2
                have o5 : pdC MF = addR D (fIv A n t3) (fIv A n t5) t1.2.1 := by
                  have q6 : MF 1 6 = mu 1 6 + 1 := by rw [hMF, wr_at, if_pos ⟨rfl, rfl⟩]
                  have q7 : MF 1 7 = M 1 7 := o0 7 (by decide)
                  rw [← d6]
                  unfold pdC addR
                  rw [q6, q7, e6, o1 4 (by decide) (by decide) (by decide) (by decide), o1 5 (by decide) (by decide) (by decide) (by decide)]
                  refine congrArg _ (congrArg _ (congr (congrArg _ ?_) (congr (congrArg _ ?_) (congr (congrArg _ ?_) rfl))))
                  · refine cut_put (fun j hj => ?_)
                    rw [hMF, wr_ne (by omega), wr_ne (by omega), wr_ne (by omega), wr_at]
                    by_cases e : (j : Int) = mu 1 6
                    · rw [if_pos (by omega), if_pos e]
                    · rw [if_neg (by omega), if_neg e]
                  · refine cut_put (fun j hj => ?_)
                    rw [hMF, wr_ne (by omega), wr_ne (by omega), wr_at, wr_ne (by omega)]
                    by_cases e : (j : Int) = mu 1 6
                    · rw [if_pos (by omega), if_pos e]
                    · rw [if_neg (by omega), if_neg e]
                  · refine cut_put (fun j hj => ?_)
                    rw [hMF, wr_ne (by omega), wr_at, wr_ne (by omega), wr_ne (by omega)]
                    by_cases e : (j : Int) = mu 1 6
                    · rw [if_pos (by omega), if_pos e]
                    · rw [if_neg (by omega), if_neg e]
                refine aw_aload_n C dX3_readRay_153 rfl ?_
                refine aw_call C dX3_readRay_154 lX3_59 vX3_take (t_X3_take o7 o8 i6.2.2.1 i6.2.2.2.1) rfl rfl rfl ⟨rfl, by decide⟩ rfl ⟨by decide, by decide⟩ (Nat.le_of_ble_eq_true rfl) (fun r7 mu7 hq7 => ?_)
                obtain ⟨rfl, l1, l2⟩ := hq7
                rw [o6] at l2
                have o9 : frc tpS2 _ mu7 := l1.mono tpS_2
                have oD := pdC_fr o9
                have o10 : mu7 5 = MF 5 := funext fun j => l1 5 j (by unfold tpS; omega)
                rw [o5] at oD
                show AW _ _ _ _ _ [] _
                refine aw_iconst C dX3_readRay_157 ?_
                exact aw_iret C E dX3_readRay_158 rfl ⟨rfl, o2.tr (l1.mono tpS_r), l2, fun _ => ⟨oD, by rw [o10, o1 5 (by decide) (by decide) (by decide) (by decide)]; exact funext fun j => f1 5 j (by unfold tpS2; omega), by rw [oD]; exact bD_addR hD (by omega) (by omega) (by omega) hwd⟩⟩
              · rw [if_pos (Or.inr (by omega))] at E
                --go
                refine aw_iconst C dX3_readRay_108 ?_
                exact aw_iret C E dX3_readRay_109 rfl ⟨rfl, F, T, fun w => absurd (show (2 : Int) = 0 from w) (by decide)⟩
          · rw [if_pos c5] at E
            --go
            refine aw_iload_n C dX3_readRay_79 rfl ?_
            exact aw_iret C E dX3_readRay_80 rfl ⟨rfl, F, T, fun w => absurd w c5⟩
  · rw [if_pos (by omega)] at E
    --go
    refine aw_iconst C dX3_readRay_9 ?_
    exact aw_iret C E dX3_readRay_10 rfl ⟨rfl, frc.rf, ht, fun w => absurd (show (4 : Int) = 0 from w) (by decide)⟩
theorem pPt_b {A : Nat → Int} {n : Int} {D : PD} : ∀ (k b : Nat) (N : Nat → Int) (t : TK), tI n t → (∀ r, -20 ≤ N r ∧ N r ≤ 20) → (pPt A n D k b N t).1 = 0 → ∀ r, -20 ≤ (pPt A n D k b N t).2.2 r ∧ (pPt A n D k b N t).2.2 r ≤ 20
  | 0, b, N, t, _, h, _ => h
  | k + 1, b, N, t, hi, h, h0 => by
    have i1 : tI n (tok A n t.2.2.2) := tok_i hi.2.2.1 hi.2.2.2.1
    have e : pPt A n D (k + 1) b N t = (if (fPf A n D b (tok A n t.2.2.2)).1 ≠ 0 then ((fPf A n D b (tok A n t.2.2.2)).1, (fPf A n D b (tok A n t.2.2.2)).2, N)
      else if (tok A n (fPf A n D b (tok A n t.2.2.2)).2.2.2.2).1 = 44 then pPt A n D k (b ||| 2 ^ (rNm D (fPf A n D b (tok A n t.2.2.2)).2.2.1).toNat) (put N (rNm D (fPf A n D b (tok A n t.2.2.2)).2.2.1) (fIv A n (tok A n t.2.2.2))) (tok A n (fPf A n D b (tok A n t.2.2.2)).2.2.2.2)
      else (0, tok A n (fPf A n D b (tok A n t.2.2.2)).2.2.2.2, put N (rNm D (fPf A n D b (tok A n t.2.2.2)).2.2.1) (fIv A n (tok A n t.2.2.2)))) := rfl
    rw [e] at h0 ⊢
    by_cases c1 : (fPf A n D b (tok A n t.2.2.2)).1 ≠ 0
    · rw [if_pos c1]; exact h
    · rw [if_neg c1] at h0 ⊢
      have hf0 : fIf A n 20 (tok A n t.2.2.2) = 0 := by
        have c1 := Classical.not_not.mp c1
        unfold fPf at c1
        by_cases w : fIf A n 20 (tok A n t.2.2.2) ≠ 0
        · rw [if_pos w] at c1; exact absurd c1 w
        · exact Classical.not_not.mp w
      have hi2 : tI n (fPf A n D b (tok A n t.2.2.2)).2 := by
        have j1 := fI1_i (A := A) i1
        have j2 : tI n (tok A n (fI1 A n (tok A n t.2.2.2)).2.2.2) := tok_i j1.2.2.1 j1.2.2.2.1
        have j3 : tI n (tok A n (tok A n (fI1 A n (tok A n t.2.2.2)).2.2.2).2.2.2) := tok_i j2.2.2.1 j2.2.2.2.1
        unfold fPf
        split
        · exact j1
        · split
          · exact j2
          · split
            · exact j3
            · split <;> exact j3
      have hN : ∀ r, -20 ≤ put N (rNm D (fPf A n D b (tok A n t.2.2.2)).2.2.1) (fIv A n (tok A n t.2.2.2)) r ∧ put N (rNm D (fPf A n D b (tok A n t.2.2.2)).2.2.1) (fIv A n (tok A n t.2.2.2)) r ≤ 20 := fun r => by
        unfold put
        split
        · exact fIv_b i1 hf0
        · exact h r
      by_cases c2 : (tok A n (fPf A n D b (tok A n t.2.2.2)).2.2.2.2).1 = 44
      · rw [if_pos c2] at h0 ⊢
        exact pPt_b k _ _ _ (tok_i hi2.2.2.1 hi2.2.2.2.1) hN h0
      · rw [if_neg c2]; exact hN

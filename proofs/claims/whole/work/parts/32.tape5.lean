theorem fPf_cg {A : Nat → Int} {n : Int} {D D2 : PD} (h1 : D2.1 = D.1) (h2 : D2.2.2.2.2.1 = D.2.2.2.2.1) (b : Nat) (t : TK) : fPf A n D2 b t = fPf A n D b t := by
  have e : ∀ w, rNm D2 w = rNm D w := fun w => by unfold rNm; rw [h1, h2]
  unfold fPf
  rw [e]
theorem fPf_i {A : Nat → Int} {n : Int} {D : PD} {b : Nat} {t : TK} (i1 : tI n t) : tI n (fPf A n D b t).2 := by
  have j1 := fI1_i (A := A) i1
  have j2 : tI n (tok A n (fI1 A n t).2.2.2) := tok_i j1.2.2.1 j1.2.2.2.1
  have j3 : tI n (tok A n (tok A n (fI1 A n t).2.2.2).2.2.2) := tok_i j2.2.2.1 j2.2.2.2.1
  unfold fPf
  split
  · exact j1
  · split
    · exact j2
    · split
      · exact j3
      · split <;> exact j3
theorem fPf_0 {A : Nat → Int} {n : Int} {D : PD} {b : Nat} {t : TK} (h : (fPf A n D b t).1 = 0) : fIf A n 20 t = 0 ∧ isNm (fPf A n D b t).2 ∧ rNm D (fPf A n D b t).2.2.1 ≠ -1 := by
  unfold fPf at h ⊢
  by_cases w1 : fIf A n 20 t ≠ 0
  · rw [if_pos w1] at h; exact absurd h w1
  rw [if_neg w1] at h ⊢
  by_cases w2 : fWd (tok A n (fI1 A n t).2.2.2) 494 ≠ 0
  · rw [if_pos w2] at h; exact absurd (show (1 : Int) = 0 from h) (by decide)
  rw [if_neg w2] at h ⊢
  generalize tok A n (tok A n (fI1 A n t).2.2.2).2.2.2 = t3 at *
  by_cases w3 : b01 (isNm t3) = 0
  · rw [if_pos w3] at h; exact absurd (show (1 : Int) = 0 from h) (by decide)
  rw [if_neg w3] at h ⊢
  by_cases w4 : rNm D t3.2.1 = -1 ∨ b.testBit (rNm D t3.2.1).toNat = true
  · rw [if_pos w4] at h; exact absurd (show (3 : Int) = 0 from h) (by decide)
  rw [if_neg w4] at h ⊢
  have := b01_01 (isNm t3)
  exact ⟨Classical.not_not.mp w1, show isNm t3 from b01_iff.mp (by omega), fun w => w4 (Or.inl w)⟩
/-- a load that is being read -/
def lSt (mu m : Mem) (l : Nat) (w : Int) (N : Nat → Int) : Prop := frc rdS mu m ∧ m 1 6 = mu 1 6 ∧ m 1 7 = (l : Int) + 1 ∧ m 2 = mu 2 ∧ m 3 = mu 3 ∧ m 7 = mu 7 ∧ (∀ j : Nat, (j : Int) ≤ l → m 4 j = if (j : Int) = l then w else mu 4 j) ∧ (∀ j : Nat, j < 12 * l → m 5 j = mu 5 j) ∧ (∀ r : Nat, r < 12 → m 5 (12 * l + r) = N r) ∧ zrw m ((l : Int) + 1)
theorem lSt.fr {mu m m2 : Mem} {l : Nat} {w : Int} {N : Nat → Int} (h : lSt mu m l w N) (hf : frc tpS2 m m2) : lSt mu m2 l w N := by
  obtain ⟨a, b, c, d, e, f, g, i, j, k⟩ := h
  have q : ∀ a, a ≠ 1 → m2 a = m a := fun a ha => funext fun z => hf a z (by unfold tpS2; omega)
  have q1 : ∀ z, z = 6 ∨ z = 7 → m2 1 z = m 1 z := fun z hz => hf 1 z (by unfold tpS2; omega)
  refine ⟨a.tr (hf.mono tpS2_r), ?_, ?_, ?_, ?_, ?_, ?_, ?_, ?_, ?_⟩
  · rw [q1 6 (by omega)]; exact b
  · rw [q1 7 (by omega)]; exact c
  · rw [q 2 (by omega)]; exact d
  · rw [q 3 (by omega)]; exact e
  · rw [q 7 (by omega)]; exact f
  · rw [q 4 (by omega)]; exact g
  · rw [q 5 (by omega)]; exact i
  · rw [q 5 (by omega)]; exact j
  · unfold zrw; rw [q 5 (by omega)]; exact k
theorem lSt.pd {mu m : Mem} {l : Nat} {w : Int} {N : Nat → Int} (h : lSt mu m l w N) (hl : mu 1 7 = l) : pdC m = addL (pdC mu) w N := by
  obtain ⟨a, b, c, d, e, f, g, i, j, k⟩ := h
  unfold pdC addL
  rw [b, c, d, e, f, hl]
  refine congrArg _ (congrArg _ (congrArg _ (congrArg _ (congrArg _ (congr (congrArg _ ?_) ?_)))))
  · exact cut_put (fun j hj => g j hj)
  · funext x r
    unfold cut2
    dsimp only
    by_cases hx : (x : Int) = l
    · rw [if_pos hx]
      have hx : x = l := by omega
      subst hx
      by_cases hr : r < 12
      · rw [if_pos ⟨by omega, by omega⟩, if_pos hr, j r hr]
      · rw [if_neg (by omega), if_neg hr]
    · rw [if_neg hx]
      by_cases hr : r < 12 ∧ x < l
      · rw [if_pos ⟨by omega, by omega⟩, if_pos ⟨by omega, by omega⟩, i _ (by omega)]
      · rw [if_neg (by omega), if_neg (by omega)]
theorem lSt.w {mu m : Mem} {l : Nat} {w v : Int} {r : Int} {N : Nat → Int} (h : lSt mu m l w N) (h0 : 0 ≤ r) (h1 : r < 12) : lSt mu (wr m 5 ((l : Int) * 12 + r).toNat v) l w (put N r v) := by
  obtain ⟨a, b, c, d, e, f, g, i, j, k⟩ := h
  refine ⟨a.w (by unfold rdS; omega), ?_, ?_, ?_, ?_, ?_, ?_, fun x hx => ?_, fun x hx => ?_, fun x hx hx2 => ?_⟩
  · rw [wr_ne (by omega)]; exact b
  · rw [wr_ne (by omega)]; exact c
  · rw [wr_ne (by omega)]; exact d
  · rw [wr_ne (by omega)]; exact e
  · rw [wr_ne (by omega)]; exact f
  · rw [wr_ne (by omega)]; exact g
  · rw [wr_at, if_neg (by omega)]; exact i x hx
  · rw [wr_at]
    unfold put
    by_cases q : (x : Int) = r
    · rw [if_pos ⟨rfl, by omega⟩, if_pos q]
    · rw [if_neg (by omega), if_neg q]; exact j x hx
  · rw [wr_at, if_neg (by omega)]; exact k x hx hx2
theorem t_X3_readLoad {mu : Mem} {n : Int} {t : TK} (h : tOk mu n) (hD : bD (pdC mu)) (hz : zrw mu (mu 1 7)) (ht : TSt mu t) (hi : tI n t) : Tr 4 mX3_readLoad [vr 1] mu (fun r m2 => r = some (vi (rL (mu 6) n (pdC mu) t).1) ∧ frc rdS mu m2 ∧ TSt m2 (rL (mu 6) n (pdC mu) t).2.1 ∧ ((rL (mu 6) n (pdC mu) t).1 = 0 → pdC m2 = (rL (mu 6) n (pdC mu) t).2.2 ∧ zrw m2 (m2 1 7) ∧ bD (pdC m2))) := by
  refine Tr.of (by decide +kernel) (Nat.le_of_ble_eq_true rfl) (fun K C E => ?_)
  have hlc : 0 ≤ mu 1 7 ∧ mu 1 7 ≤ 6 := hD.2.1
  obtain ⟨l, hl⟩ : ∃ l : Nat, mu 1 7 = l := ⟨(mu 1 7).toNat, by omega⟩
  generalize hA : mu 6 = A at *
  obtain ⟨D, hDD⟩ : ∃ D, D = pdC mu := ⟨_, rfl⟩
  rw [← hDD] at E hD
  have hD1 : D.2.1 = mu 1 7 := by rw [hDD]; rfl
  unfold rL rL1 at E
  rw [hD1] at E
  have i1 : tI n (tok A n t.2.2.2) := tok_i hi.2.2.1 hi.2.2.2.1
  generalize ht1 : tok A n t.2.2.2 = t1 at *
  have w0 : fNew D t1 = 0 ∨ fNew D t1 = 1 ∨ fNew D t1 = 3 := by unfold fNew; split; omega; split <;> omega
  have nm : fNew D t1 = 0 → isNm t1 := fun w => by
    unfold fNew at w
    split at w
    · cases w
    · rename_i q
      have := b01_01 (isNm t1)
      exact b01_iff.mp (by omega)
  by_cases c6 : 6 ≤ mu 1 7
  · rw [if_pos c6] at E
    refine aw_aload_n C dX3_readLoad_0 rfl ?_
    refine aw_getI C dX3_readLoad_1 fX3_56 ⟨rfl, by decide⟩ rfl ?_
    refine aw_istore_n C dX3_readLoad_4 (by decide) ?_
    refine aw_iload_n C dX3_readLoad_5 rfl ?_
    refine aw_bipush C dX3_readLoad_6 rfl ?_
    refine aw_icmp_lt C dX3_readLoad_8 (tgt := 13) (by decide) ⟨by omega, by omega⟩ ⟨by omega, by omega⟩ (fun c1 => ?_) (fun c1 => ?_)
    · exfalso; omega
    · refine aw_iconst C dX3_readLoad_11 ?_
      exact aw_iret C E dX3_readLoad_12 rfl ⟨rfl, frc.rf, ht, fun w => absurd (show (4 : Int) = 0 from w) (by decide)⟩
  rw [if_neg c6] at E
  have loop : fNew D t1 = 0 → (0 ≤ t1.2.1 ∧ t1.2.1 < 1073741824) → CR K (NC, 0, 0) mX3_readLoad (fun r m2 => r = some (vi (pPt A n D 13 0 (fun _ => 0) t1).1) ∧ frc rdS mu m2 ∧ TSt m2 (pPt A n D 13 0 (fun _ => 0) t1).2.1 ∧ ((pPt A n D 13 0 (fun _ => 0) t1).1 = 0 → pdC m2 = addL D t1.2.1 (pPt A n D 13 0 (fun _ => 0) t1).2.2 ∧ zrw m2 (m2 1 7) ∧ bD (pdC m2))) → ∀ (k b : Nat) (N : Nat → Int) (s : TK) (i : Int) (m : Mem) (v1 v5 v6 : Vv), i + k = 13 → 0 ≤ i → b < 4096 → (∀ r, -20 ≤ N r ∧ N r ≤ 20) → pPt A n D k b N s = pPt A n D 13 0 (fun _ => 0) t1 → lSt mu m l t1.2.1 N → TSt m s → tI n s → AW K mX3_readLoad (NC, 0, 0) 53 [vr 1, vi (l : Int), v1, vi (b : Int), vi i, v5, v6] [] m := by
    intro hf0 hw1 E k
    induction k with
    | zero =>
      intro b N s i m v1 v5 v6 q1 q2 q3 q4 q5 q6 q7 q8
      rw [← q5] at E
      refine aw_iload C dX3_readLoad_53 rfl ?_
      refine aw_bipush C dX3_readLoad_55 rfl ?_
      refine aw_icmp_gt C dX3_readLoad_57 (tgt := 149) (by decide) ⟨by omega, by omega⟩ ⟨by omega, by omega⟩ (fun c1 => ?_) (fun c1 => ?_)
      · refine aw_iconst C dX3_readLoad_149 ?_
        exact aw_iret C E dX3_readLoad_150 rfl ⟨rfl, q6.1, q7, fun w => absurd (show (1 : Int) = 0 from w) (by decide)⟩
      · exfalso; omega
    | succ k ih =>
      intro b N s i m v1 v5 v6 q1 q2 q3 q4 q5 q6 q7 q8
      have e : pPt A n D (k + 1) b N s = (if (fPf A n D b (tok A n s.2.2.2)).1 ≠ 0 then ((fPf A n D b (tok A n s.2.2.2)).1, (fPf A n D b (tok A n s.2.2.2)).2, N)
        else if (tok A n (fPf A n D b (tok A n s.2.2.2)).2.2.2.2).1 = 44 then pPt A n D k (b ||| 2 ^ (rNm D (fPf A n D b (tok A n s.2.2.2)).2.2.1).toNat) (put N (rNm D (fPf A n D b (tok A n s.2.2.2)).2.2.1) (fIv A n (tok A n s.2.2.2))) (tok A n (fPf A n D b (tok A n s.2.2.2)).2.2.2.2)
        else (0, tok A n (fPf A n D b (tok A n s.2.2.2)).2.2.2.2, put N (rNm D (fPf A n D b (tok A n s.2.2.2)).2.2.1) (fIv A n (tok A n s.2.2.2)))) := rfl
      rw [e] at q5
      have j1 : tI n (tok A n s.2.2.2) := tok_i q8.2.2.1 q8.2.2.2.1
      generalize hs1 : tok A n s.2.2.2 = s1 at *
      have j2 : tI n (fPf A n D b s1).2 := fPf_i j1
      have j0 : (fPf A n D b s1).1 = 0 → fIf A n 20 s1 = 0 ∧ isNm (fPf A n D b s1).2 ∧ rNm D (fPf A n D b s1).2.2.1 ≠ -1 := fPf_0
      have j9 : (fPf A n D b s1).1 = 0 ∨ (fPf A n D b s1).1 = 1 ∨ (fPf A n D b s1).1 = 2 ∨ (fPf A n D b s1).1 = 3 := by
        have := fIf_012 A n 20 s1
        unfold fPf
        split
        · show fIf A n 20 s1 = 0 ∨ fIf A n 20 s1 = 1 ∨ fIf A n 20 s1 = 2 ∨ fIf A n 20 s1 = 3; omega
        · split
          · exact Or.inr (Or.inl rfl)
          · split
            · exact Or.inr (Or.inl rfl)
            · split
              · exact Or.inr (Or.inr (Or.inr rfl))
              · exact Or.inl rfl
      generalize hF : fPf A n D b s1 = F at *
      obtain ⟨fp, s2⟩ := F
      dsimp only at q5 j2 j0 j9
      have j3 : tI n (tok A n s2.2.2.2) := tok_i j2.2.2.1 j2.2.2.2.1
      generalize hs3 : tok A n s2.2.2.2 = s3 at *
      have mt := h.frr q6.1
      have mA : m 6 = A := mt.2.trans hA
      have rn := rNm_in hD s2.2.1
      generalize hrr : rNm D s2.2.1 = rr at *
      refine aw_iload C dX3_readLoad_53 rfl ?_
      refine aw_bipush C dX3_readLoad_55 rfl ?_
      refine aw_icmp_gt C dX3_readLoad_57 (tgt := 149) (by decide) ⟨by omega, by omega⟩ ⟨by omega, by omega⟩ (fun c1 => ?_) (fun c1 => ?_)
      · exfalso; omega
      · refine aw_aload_n C dX3_readLoad_60 rfl ?_
        refine aw_call C dX3_readLoad_61 lX3_59 vX3_take (t_X3_take mt.1 q7.2.2.2 q8.2.2.1 q8.2.2.2.1) rfl rfl rfl ⟨rfl, by decide⟩ rfl ⟨by decide, by decide⟩ (Nat.le_of_ble_eq_true rfl) (fun r2 mu2 hq2 => ?_)
        obtain ⟨rfl, u1, u2⟩ := hq2
        rw [mA, hs1] at u2
        have L1 := q6.fr (u1.mono tpS_2)
        have m1 := h.frr L1.1
        have m1A : mu2 6 = A := m1.2.trans hA
        have p1 : pdC mu2 = addL D t1.2.1 N := by rw [hDD]; exact L1.pd hl
        have b1 : bD (pdC mu2) := by rw [p1]; exact bD_addL hD (by omega) hw1 (fun r _ => q4 r)
        have p2 : fPf A n (pdC mu2) b s1 = (fp, s2) := by rw [p1]; exact (fPf_cg (D := D) (D2 := addL D t1.2.1 N) rfl rfl b s1).trans hF
        show AW _ _ _ _ _ [] _
        refine aw_aload_n C dX3_readLoad_64 rfl ?_
        refine aw_iload_n C dX3_readLoad_65 rfl ?_
        refine aw_call C dX3_readLoad_66 lX3_98 vX3_faultOfPart (t_X3_faultOfPart m1.1 b1 q3 u2 j1) rfl rfl rfl ⟨rfl, by decide⟩ rfl ⟨by decide, by decide⟩ (Nat.le_of_ble_eq_true rfl) (fun r3 mu3 hq3 => ?_)
        obtain ⟨rfl, y1, y2, y3⟩ := hq3
        rw [m1A, p2] at y2 y3
        dsimp only at y2 y3
        have L2 := L1.fr y1
        have m2 := h.frr L2.1
        have p3 : pdC mu3 = addL D t1.2.1 N := by rw [hDD]; exact L2.pd hl
        have b3 : bD (pdC mu3) := by rw [p3]; exact bD_addL hD (by omega) hw1 (fun r _ => q4 r)
        rw [m1A, p2]
        generalize mu3 = M at *
        show AW _ _ _ _ _ (vi fp :: _) _
        refine aw_istore_n C dX3_readLoad_69 (by decide) ?_
        refine aw_iload_n C dX3_readLoad_70 rfl ?_
        refine aw_if_eq C dX3_readLoad_71 (tgt := 76) (by decide) ⟨by omega, by omega⟩ (fun c1 => ?_) (fun c1 => ?_)
        · rw [if_neg (fun w => w c1)] at q5
          obtain ⟨z1, z2, z3⟩ := j0 c1
          have e13 : M 1 13 = s2.2.1 := y2.2.1 (Or.inl z2.1)
          have b13 := j2.1.2.1 z2.1
          have e14 : M 1 14 = _ := y3 c1
          have b14 := fIv_b j1 z1
          have bs := bset (r := rr) q3 (by omega) (by omega)
          have prn : rNm (pdC M) s2.2.1 = rr := by rw [p3]; exact hrr
          --go
          refine aw_aload_n C dX3_readLoad_76 rfl ?_
          refine aw_aload_n C dX3_readLoad_77 rfl ?_
          refine aw_getI C dX3_readLoad_78 fX3_65 ⟨rfl, by decide⟩ rfl ?_
          rw [e13]
          refine aw_call1 C dX3_readLoad_81 lX3_101 vX3_rayNamed (t_X3_rayNamed b3 ⟨by omega, by omega⟩) rfl rfl rfl ⟨rfl, by decide⟩ rfl ⟨by decide, by decide⟩ (Nat.le_of_ble_eq_true rfl) ?_
          rw [prn]
          refine aw_istore C dX3_readLoad_84 (by decide) ?_
          refine aw_iload_n C dX3_readLoad_86 rfl ?_
          refine aw_iconst C dX3_readLoad_87 ?_
          refine aw_iload C dX3_readLoad_88 rfl ?_
          refine aw_ishl C dX3_readLoad_90 ?_
          refine aw_ior C dX3_readLoad_91 ?_
          rw [bs.1]
          refine aw_istore_n C dX3_readLoad_92 (by decide) ?_
          refine aw_iload_n C dX3_readLoad_93 rfl ?_
          refine aw_bipush C dX3_readLoad_94 rfl ?_
          refine aw_imul C dX3_readLoad_96 ?_
          refine aw_iload C dX3_readLoad_97 rfl ?_
          refine aw_iadd C dX3_readLoad_99 ?_
          refine aw_istore C dX3_readLoad_100 (by decide) ?_
          refine aw_iload C dX3_readLoad_102 rfl ?_
          refine aw_if_lt C dX3_readLoad_104 (tgt := 128) (by decide) ⟨by omega, by omega⟩ (fun c2 => ?_) (fun c2 => ?_)
          · exfalso; omega
          · refine aw_iload C dX3_readLoad_107 rfl ?_
            refine aw_aload_n C dX3_readLoad_109 rfl ?_
            refine aw_getS C dX3_readLoad_110 fX3_23 ⟨rfl, by decide⟩ rfl rfl (srf 1 3 5 (by decide)) ?_
            refine aw_alen C dX3_readLoad_113 ⟨rfl, by decide⟩ (by decide) ?_
            refine aw_icmp_ge C dX3_readLoad_114 (tgt := 128) (by decide) ⟨by omega, by omega⟩ ⟨by omega, by omega⟩ (fun c3 => ?_) (fun c3 => ?_)
            · exfalso; omega
            · refine aw_aload_n C dX3_readLoad_117 rfl ?_
              refine aw_getS C dX3_readLoad_118 fX3_23 ⟨rfl, by decide⟩ rfl rfl (srf 1 3 5 (by decide)) ?_
              refine aw_iload C dX3_readLoad_121 rfl ?_
              refine aw_aload_n C dX3_readLoad_123 rfl ?_
              refine aw_getI C dX3_readLoad_124 fX3_85 ⟨rfl, by decide⟩ rfl ?_
              rw [e14]
              refine aw_iast C dX3_readLoad_127 ⟨rfl, by decide⟩ (by decide) (by omega) (by omega) ?_
              have L3 := L2.w (v := fIv A n s1) (r := rr) (by omega) (by omega)
              have m3 := h.frr L3.1
              have m3A := m3.2.trans hA
              have y5 : wr M 5 ((l : Int) * 12 + rr).toNat (fIv A n s1) 1 11 = s2.2.2.2 := by rw [wr_ne (by omega)]; exact y2.2.2.2
              refine aw_aload_n C dX3_readLoad_128 rfl ?_
              refine aw_call C dX3_readLoad_129 lX3_59 vX3_take (t_X3_take m3.1 y5 j2.2.2.1 j2.2.2.2.1) rfl rfl rfl ⟨rfl, by decide⟩ rfl ⟨by decide, by decide⟩ (Nat.le_of_ble_eq_true rfl) (fun r4 mu4 hq4 => ?_)
              obtain ⟨rfl, x1, x2⟩ := hq4
              rw [m3A, hs3] at x2
              have L4 := L3.fr (x1.mono tpS_2)
              have k12 := x2.1
              have k13 := j3.1.1
              show AW _ _ _ _ _ [] _
              refine aw_aload_n C dX3_readLoad_132 rfl ?_
              refine aw_getI C dX3_readLoad_133 fX3_62 ⟨rfl, by decide⟩ rfl ?_
              rw [k12]
              refine aw_bipush C dX3_readLoad_136 rfl ?_
              refine aw_icmp_eq C dX3_readLoad_138 (tgt := 143) (by decide) ⟨by omega, by omega⟩ ⟨by omega, by omega⟩ (fun c4 => ?_) (fun c4 => ?_)
              · rw [if_pos c4] at q5
                --go
                refine aw_iinc C dX3_readLoad_143 rfl ?_
                refine aw_goto C dX3_readLoad_146 (tgt := 53) (by decide) ?_
                exact ih _ _ s3 (i + 1) _ _ _ _ (by omega) (by omega) bs.2 (fun r => by unfold put; split; exact b14; exact q4 r) q5 L4 x2 j3
              · rw [if_neg c4] at q5
                rw [← q5] at E
                --go
                refine aw_iconst C dX3_readLoad_141 ?_
                exact aw_iret C E dX3_readLoad_142 rfl ⟨rfl, L4.1, x2, fun _ => ⟨by rw [hDD]; exact L4.pd hl, by rw [L4.2.2.1]; exact L4.2.2.2.2.2.2.2.2.2, by rw [L4.pd hl, ← hDD]; exact bD_addL hD (by omega) hw1 (fun r _ => by unfold put; split; exact b14; exact q4 r)⟩⟩
        · rw [if_pos c1] at q5
          --go
          refine aw_iload_n C dX3_readLoad_74 rfl ?_
          exact aw_iret C E dX3_readLoad_75 rfl ⟨by rw [← q5], L2.1, by rw [← q5]; exact y2, fun w => absurd (by rw [← q5] at w; exact w) c1⟩
  refine aw_aload_n C dX3_readLoad_0 rfl ?_
  refine aw_getI C dX3_readLoad_1 fX3_56 ⟨rfl, by decide⟩ rfl ?_
  rw [hl]
  refine aw_istore_n C dX3_readLoad_4 (by decide) ?_
  refine aw_iload_n C dX3_readLoad_5 rfl ?_
  refine aw_bipush C dX3_readLoad_6 rfl ?_
  refine aw_icmp_lt C dX3_readLoad_8 (tgt := 13) (by decide) ⟨by omega, by omega⟩ ⟨by omega, by omega⟩ (fun c1 => ?_) (fun c1 => ?_)
  · refine aw_aload_n C dX3_readLoad_13 rfl ?_
    refine aw_call C dX3_readLoad_14 lX3_59 vX3_take (t_X3_take h ht.2.2.2 hi.2.2.1 hi.2.2.2.1) rfl rfl rfl ⟨rfl, by decide⟩ rfl ⟨by decide, by decide⟩ (Nat.le_of_ble_eq_true rfl) (fun r2 mu2 hq2 => ?_)
    obtain ⟨rfl, u1, u2⟩ := hq2
    rw [hA, ht1] at u2
    have f1 : frc tpS2 mu mu2 := u1.mono tpS_2
    have F := f1.mono tpS2_r
    have d1 : pdC mu2 = D := (pdC_fr f1).trans hDD.symm
    have e7 : mu2 1 7 = (l : Int) := (f1 1 7 (by unfold tpS2; omega)).trans hl
    generalize mu2 = M at *
    show AW _ _ _ _ _ [] _
    refine aw_aload_n C dX3_readLoad_17 rfl ?_
    refine aw_call1 C dX3_readLoad_18 lX3_76 vX3_faultOfNewName (t_X3_faultOfNewName (by rw [d1]; exact hD) u2 i1.1) rfl rfl rfl ⟨rfl, by decide⟩ rfl ⟨by decide, by decide⟩ (Nat.le_of_ble_eq_true rfl) ?_
    rw [d1]
    refine aw_istore_n C dX3_readLoad_21 (by decide) ?_
    refine aw_iload_n C dX3_readLoad_22 rfl ?_
    refine aw_if_eq C dX3_readLoad_23 (tgt := 28) (by decide) ⟨by omega, by omega⟩ (fun c1 => ?_) (fun c1 => ?_)
    · rw [if_neg (fun w => w c1)] at E
      have hnm := nm c1
      have hwd := i1.1.2.1 hnm.1
      --go
      refine aw_aload_n C dX3_readLoad_28 rfl ?_
      refine aw_getS C dX3_readLoad_29 fX3_20 ⟨rfl, by decide⟩ rfl rfl (srf 1 2 4 (by decide)) ?_
      refine aw_iload_n C dX3_readLoad_32 rfl ?_
      refine aw_aload_n C dX3_readLoad_33 rfl ?_
      refine aw_getI C dX3_readLoad_34 fX3_65 ⟨rfl, by decide⟩ rfl ?_
      rw [u2.2.1 (Or.inl hnm.1)]
      refine aw_iast C dX3_readLoad_37 ⟨rfl, by decide⟩ (by decide) (by omega) (by omega) ?_
      refine aw_aload_n C dX3_readLoad_38 rfl ?_
      refine aw_dup_a C dX3_readLoad_39 ?_
      refine aw_getI C dX3_readLoad_40 fX3_56 ⟨rfl, by decide⟩ rfl ?_
      rw [wr_ne (show (1 : Nat) ≠ 4 by decide), e7]
      refine aw_iconst C dX3_readLoad_43 ?_
      refine aw_iadd C dX3_readLoad_44 ?_
      refine aw_putI C dX3_readLoad_45 fX3_56 ⟨rfl, by decide⟩ rfl rfl rfl ?_
      refine aw_iconst C dX3_readLoad_48 ?_
      refine aw_istore_n C dX3_readLoad_49 (by decide) ?_
      refine aw_iconst C dX3_readLoad_50 ?_
      refine aw_istore C dX3_readLoad_51 (by decide) ?_
      have q : ∀ a b, a ≠ 4 → ¬ (a = 1 ∧ b = 7) → wr (wr M 4 (l : Int).toNat t1.2.1) 1 7 ((l : Int) + 1) a b = M a b := fun a b h1 h2 => by rw [wr_at, if_neg h2, wr_at, if_neg (fun w => h1 w.1)]
      have g5 : ∀ j, M 5 j = mu 5 j := fun j => f1 5 j (by unfold tpS2; omega)
      refine loop c1 hwd E 13 0 (fun _ => 0) t1 0 _ _ _ _ (by omega) (by omega) (by omega) (fun _ => ⟨by decide, by decide⟩) rfl ⟨(F.w (by unfold rdS; omega)).w (by unfold rdS; omega), ?_, by rw [wr_at, if_pos ⟨rfl, rfl⟩], ?_, ?_, ?_, fun j hj => ?_, fun j hj => ?_, fun r hr => ?_, fun j hj hj2 => ?_⟩ ⟨?_, fun w => ?_, ?_, ?_⟩ i1
      · rw [q 1 6 (by omega) (by omega)]; exact f1 1 6 (by unfold tpS2; omega)
      · funext j; rw [q 2 j (by omega) (by omega)]; exact f1 2 j (by unfold tpS2; omega)
      · funext j; rw [q 3 j (by omega) (by omega)]; exact f1 3 j (by unfold tpS2; omega)
      · funext j; rw [q 7 j (by omega) (by omega)]; exact f1 7 j (by unfold tpS2; omega)
      · rw [wr_ne (by omega), wr_at]
        by_cases z : (j : Int) = l
        · rw [if_pos ⟨rfl, by omega⟩, if_pos z]
        · rw [if_neg (by omega), if_neg z]; exact f1 4 j (by unfold tpS2; omega)
      · rw [q 5 j (by omega) (by omega)]; exact g5 j
      · rw [q 5 _ (by omega) (by omega), g5]; exact hz _ (by omega) (by omega)
      · rw [q 5 j (by omega) (by omega), g5]; exact hz _ (by omega) (by omega)
      · rw [q 1 12 (by omega) (by omega)]; exact u2.1
      · rw [q 1 13 (by omega) (by omega)]; exact u2.2.1 w
      · rw [q 1 5 (by omega) (by omega)]; exact u2.2.2.1
      · rw [q 1 11 (by omega) (by omega)]; exact u2.2.2.2
    · rw [if_pos c1] at E
      --go
      refine aw_iload_n C dX3_readLoad_26 rfl ?_
      exact aw_iret C E dX3_readLoad_27 rfl ⟨rfl, F, u2, fun w => absurd w c1⟩
  · exfalso; omega

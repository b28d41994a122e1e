/-! a load's line -/
def pop (b : Nat) : Nat → Nat
  | 0 => 0
  | r + 1 => pop b r + (if b.testBit r = true then 1 else 0)
theorem pop_le (b : Nat) : ∀ q, pop b q ≤ q
  | 0 => Nat.le_refl _
  | q + 1 => by
    have := pop_le b q
    show pop b q + _ ≤ q + 1
    split <;> omega
theorem pop_or {b i : Nat} (h : b.testBit i = false) : ∀ q, pop (b ||| 2 ^ i) q = pop b q + (if i < q then 1 else 0)
  | 0 => rfl
  | q + 1 => by
    have ih := pop_or h q
    show pop (b ||| 2 ^ i) q + (if (b ||| 2 ^ i).testBit q = true then 1 else 0) = pop b q + (if b.testBit q = true then 1 else 0) + _
    rw [ih, Nat.testBit_or, Nat.testBit_two_pow]
    by_cases e : i = q
    · subst e
      rw [h, decide_eq_true rfl, if_neg (Nat.lt_irrefl _), if_pos (Nat.lt_succ_self _)]
      rfl
    · rw [decide_eq_false e, Bool.or_false]
      by_cases w : i < q
      · rw [if_pos w, if_pos (show i < q + 1 by omega)]; omega
      · rw [if_neg w, if_neg (show ¬ i < q + 1 by omega)]; rfl
theorem fPf_bt {A : Nat → Int} {n : Int} {D : PD} {b : Nat} {t : TK} (h : (fPf A n D b t).1 = 0) : b.testBit (rNm D (fPf A n D b t).2.2.1).toNat = false := by
  unfold fPf at h ⊢
  by_cases w1 : fIf A n 20 t ≠ 0
  · rw [if_pos w1] at h; exact absurd h w1
  rw [if_neg w1] at h ⊢
  by_cases w2 : fWd (tok A n (fI1 A n t).2.2.2) 494 ≠ 0
  · rw [if_pos w2] at h; exact absurd (show (1 : Int) = 0 from h) (by decide)
  rw [if_neg w2] at h ⊢
  generalize tok A n (tok A n (fI1 A n t).2.2.2).2.2.2 = t3 at *
  by_cases w3 : b01 (isNm t3) = 0
  · rw [if_pos w3] at h; exact absurd (show (1 : Int) = 0 from h) (by decide)
  rw [if_neg w3] at h ⊢
  by_cases w4 : rNm D t3.2.1 = -1 ∨ b.testBit (rNm D t3.2.1).toNat = true
  · rw [if_pos w4] at h; exact absurd (show (3 : Int) = 0 from h) (by decide)
  rw [if_neg w4] at h ⊢
  show b.testBit (rNm D t3.2.1).toNat = false
  exact Bool.eq_false_iff.mpr (fun w => w4 (Or.inr w))
def lDs (mu m : Mem) (l : Nat) (N : Nat → Int) (b : Nat) : Prop := frc rdM mu m ∧ (m 55 21 = mu 55 21 ∧ m 55 22 = mu 55 22) ∧ (m 57 = mu 57 ∧ m 58 = mu 58 ∧ m 60 = mu 60 ∧ m 61 = mu 61) ∧ (∀ j : Nat, j < 12 * l → m 62 j = mu 62 j) ∧ (∀ r : Nat, r < 12 → m 62 (12 * l + r) = N r) ∧ m 63 l = b
theorem lDs.fr {mu m m2 : Mem} {l b : Nat} {N : Nat → Int} (h : lDs mu m l N b) (hf : frc flS m m2) : lDs mu m2 l N b := by
  obtain ⟨a, ⟨b1, b2⟩, ⟨c1, c2, c3, c4⟩, d, e, f⟩ := h
  have q : ∀ a, a ≠ 55 → m2 a = m a := fun a ha => funext fun z => hf a z (by unfold flS; omega)
  refine ⟨a.tr (hf.mono flS_r), ⟨?_, ?_⟩, ⟨?_, ?_, ?_, ?_⟩, ?_, ?_, ?_⟩
  · rw [hf 55 21 (by unfold flS; omega)]; exact b1
  · rw [hf 55 22 (by unfold flS; omega)]; exact b2
  · rw [q 57 (by omega)]; exact c1
  · rw [q 58 (by omega)]; exact c2
  · rw [q 60 (by omega)]; exact c3
  · rw [q 61 (by omega)]; exact c4
  · rw [q 62 (by omega)]; exact d
  · rw [q 62 (by omega)]; exact e
  · rw [q 63 (by omega)]; exact f
theorem lDs.w {mu m : Mem} {l b b2 : Nat} {v r : Int} {N : Nat → Int} (h : lDs mu m l N b) (h0 : 0 ≤ r) (h1 : r < 12) : lDs mu (wr (wr m 63 (l : Int).toNat (b2 : Int)) 62 (12 * (l : Int) + r).toNat v) l (put N r v) b2 := by
  obtain ⟨a, ⟨b1, b2⟩, ⟨c1, c2, c3, c4⟩, d, e, f⟩ := h
  refine ⟨(a.w (by unfold rdM; omega)).w (by unfold rdM; omega), ⟨?_, ?_⟩, ⟨?_, ?_, ?_, ?_⟩, fun x hx => ?_, fun x hx => ?_, ?_⟩
  · rw [wr_ne (by omega), wr_ne (by omega)]; exact b1
  · rw [wr_ne (by omega), wr_ne (by omega)]; exact b2
  · rw [wr_ne (by omega), wr_ne (by omega)]; exact c1
  · rw [wr_ne (by omega), wr_ne (by omega)]; exact c2
  · rw [wr_ne (by omega), wr_ne (by omega)]; exact c3
  · rw [wr_ne (by omega), wr_ne (by omega)]; exact c4
  · rw [wr_at, if_neg (by omega), wr_ne (by omega)]; exact d x hx
  · rw [wr_at]
    unfold put
    by_cases q : (x : Int) = r
    · rw [if_pos ⟨rfl, by omega⟩, if_pos q]
    · rw [if_neg (by omega), if_neg q, wr_ne (by omega)]; exact e x hx
  · rw [wr_ne (by omega), wr_at, if_pos ⟨rfl, by omega⟩]
theorem lDs.pd0 {mu m : Mem} {l b : Nat} {N : Nat → Int} (h : lDs mu m l N b) (hl : mu 55 22 = l) : pdM m = pdM mu := by
  obtain ⟨a, ⟨b1, b2⟩, ⟨c1, c2, c3, c4⟩, d, e, f⟩ := h
  unfold pdM
  rw [b1, b2, c1, c2, c3, c4]
  refine congrArg _ (congrArg _ (congrArg _ (congrArg _ (congrArg _ (congrArg _ ?_)))))
  funext x r
  unfold cut2
  dsimp only
  by_cases hr : r < 12 ∧ x < l
  · rw [if_pos ⟨by omega, by omega⟩, if_pos ⟨by omega, by omega⟩, d _ (by omega)]
  · rw [if_neg (by omega), if_neg (by omega)]
theorem lDs.pd {mu m : Mem} {l b : Nat} {w : Int} {N : Nat → Int} (h : lDs mu m l N b) (hl : mu 55 22 = l) : pdM (wr (wr m 58 (l : Int).toNat w) 55 22 ((l : Int) + 1)) = addL (pdM mu) w N := by
  obtain ⟨a, ⟨b1, b2⟩, ⟨c1, c2, c3, c4⟩, d, e, f⟩ := h
  have k : ∀ x, x ≠ 58 → x ≠ 55 → wr (wr m 58 (l : Int).toNat w) 55 22 ((l : Int) + 1) x = m x := fun x h1 h2 => by rw [wr_ne h2, wr_ne h1]
  unfold pdM addL
  rw [k 57 (by decide) (by decide), k 60 (by decide) (by decide), k 61 (by decide) (by decide), k 62 (by decide) (by decide), c1, c3, c4, show wr (wr m 58 (l : Int).toNat w) 55 22 ((l : Int) + 1) 55 21 = mu 55 21 by rw [wr_at, if_neg (by decide), wr_ne (by decide)]; exact b1, show wr (wr m 58 (l : Int).toNat w) 55 22 ((l : Int) + 1) 55 22 = (l : Int) + 1 by rw [wr_at, if_pos ⟨rfl, rfl⟩], hl]
  refine congrArg _ (congrArg _ (congrArg _ (congrArg _ (congrArg _ (congr (congrArg _ ?_) ?_)))))
  · refine cut_put (fun j hj => ?_)
    rw [wr_ne (by decide), wr_at, c2]
    by_cases z : (j : Int) = l
    · rw [if_pos ⟨rfl, by omega⟩, if_pos z]
    · rw [if_neg (by omega), if_neg z]
  · funext x r
    unfold cut2
    dsimp only
    by_cases hx : (x : Int) = l
    · rw [if_pos hx]
      have hx : x = l := by omega
      subst hx
      by_cases hr : r < 12
      · rw [if_pos ⟨by omega, by omega⟩, if_pos hr, e r hr]
      · rw [if_neg (by omega), if_neg hr]
    · rw [if_neg hx]
      by_cases hr : r < 12 ∧ x < l
      · rw [if_pos ⟨by omega, by omega⟩, if_pos ⟨by omega, by omega⟩, d _ (by omega)]
      · rw [if_neg (by omega), if_neg (by omega)]
theorem FS.w {m : Mem} {f pl v : Int} {a b : Nat} (h : FS m f pl) (hn : a ≠ 55 ∨ 14 ≤ b) : FS (wr m a b v) f pl := by
  obtain ⟨⟨h1, h2⟩, h3, h4⟩ := h
  have k : ∀ x, x < 14 → wr m a b v 55 x = m 55 x := fun x hx => by rw [wr_at, if_neg (by omega)]
  refine ⟨⟨?_, h2⟩, ?_, ?_⟩
  · rw [k 7 (by decide)]; exact h1
  · rw [k 8 (by decide)]; exact h3
  · unfold nbM
    rw [k 12 (by decide), k 9 (by decide)]; exact h4
theorem MT.w {m : Mem} {t : TK} {v : Int} {a b : Nat} (h : MT m t) (hn : a ≠ 55 ∨ 14 ≤ b) : MT (wr m a b v) t := by
  have k : ∀ x, x < 14 → wr m a b v 55 x = m 55 x := fun x hx => by rw [wr_at, if_neg (by omega)]
  unfold MT
  rw [k 10 (by decide), k 6 (by decide), k 9 (by decide), k 13 (by decide), k 12 (by decide), k 11 (by decide)]
  exact h
theorem nbM.w {m : Mem} {v : Int} {a b : Nat} (h : nbM m) (hn : a ≠ 55 ∨ 14 ≤ b) : nbM (wr m a b v) := by
  have k : ∀ x, x < 14 → wr m a b v 55 x = m 55 x := fun x hx => by rw [wr_at, if_neg (by omega)]
  unfold nbM
  rw [k 12 (by decide), k 9 (by decide)]
  exact h
theorem t_X6_readLoad {mu : Mem} {A : Nat → Int} {n : Int} {t : TK} {D : PD} (hK : rdK mu A n) (h7 : mu 55 7 = 0) (hM : MT mu t) (hi : tI n t) (ht : t.1 = 1) (hnb : nbM mu) (eD : pdM mu = D) (hD : bD D) : TrS 8 mX6_readLoad (fun _ => [vr 55]) mu (fun r m2 => r = none ∧ rdP mu m2 (rL A n D t)) := by
  refine TrS.of (by decide +kernel) (fun _ => Nat.le_of_ble_eq_true rfl) (fun K C E hX => ?_)
  have n22 : mu 55 22 = D.2.1 := by rw [← eD]; rfl
  have hn := hD.2.1
  obtain ⟨l, hl⟩ : ∃ l : Nat, mu 55 22 = l := ⟨(mu 55 22).toNat, by omega⟩
  obtain ⟨R, eR⟩ : ∃ R, rL A n D t = R := ⟨_, rfl⟩
  rw [eR] at E
  have b4 := hi.2.2
  have r23 : ∀ (v1 v2 v3 v4 : Vv) (z : Int) (m : Mem), frc rdM mu m → R.1 ≠ 0 → FS m R.1 R.2.1.2.2.1 → AW K mX6_readLoad (NC, 0, 0) 22 [vr 55, v1, v2, v3, v4] [vl z] m := by
    intro v1 v2 v3 v4 z m z1 z2 z3
    have z4 := z3.1
    refine aw_lstore_n C dX6_readLoad_22 (by decide) ?_
    refine aw_aload_n C dX6_readLoad_23 rfl ?_
    refine aw_getI C dX6_readLoad_24 fX6_92 ⟨rfl, by decide⟩ rfl ?_
    refine aw_if_le C dX6_readLoad_27 (tgt := 31) (by decide) ⟨by omega, by omega⟩ (fun c1 => ?_) (fun c1 => ?_)
    · exfalso; omega
    · exact aw_vret C E dX6_readLoad_30 rfl ⟨rfl, z1, Or.inr ⟨z2, z3⟩⟩
  unfold rL at eR
  by_cases c6 : 6 ≤ D.2.1
  · rw [if_pos c6] at eR
    refine aw_aload_n C dX6_readLoad_0 rfl ?_
    refine aw_getI C dX6_readLoad_1 fX6_187 ⟨rfl, by decide⟩ rfl ?_
    refine aw_bipush C dX6_readLoad_4 rfl ?_
    refine aw_icmp_ne C dX6_readLoad_6 (tgt := 14) (by decide) ⟨by omega, by omega⟩ ⟨by omega, by omega⟩ (fun c1 => ?_) (fun c1 => ?_)
    · exfalso; omega
    · refine aw_aload_n C dX6_readLoad_9 rfl ?_
      refine aw_iconst C dX6_readLoad_10 ?_
      refine aw_call C dX6_readLoad_11 lX6_159 vX6_flaw (t_X6_flaw0 h7 (by omega) hnb) rfl rfl rfl ⟨rfl, by decide⟩ rfl ⟨by decide, by decide⟩ (Nat.le_of_ble_eq_true rfl) (fun r2 mu2 hq2 => ?_)
      obtain ⟨rfl, g1, g2⟩ := hq2
      rw [hM.1] at g2
      generalize mu2 = m2 at *
      show AW _ _ _ _ _ [] _
      refine aw_aload_n C dX6_readLoad_14 rfl ?_
      refine aw_call0 C dX6_readLoad_15 lX6_163 vX6_goOn (t_X6_goOnF g2) rfl rfl rfl ⟨rfl, by decide⟩ rfl ⟨by decide, by decide⟩ (Nat.le_of_ble_eq_true rfl) ?_
      refine aw_aload_n C dX6_readLoad_18 rfl ?_
      refine aw_callX C hX dX6_readLoad_19 lX6_190 vX6_readNew (t_X6_readNewF g2) rfl rfl rfl rfl ⟨rfl, by decide⟩ rfl ⟨by decide, by decide⟩ (Nat.le_of_ble_eq_true rfl) (fun r3 mu3 hq3 => ?_)
      obtain ⟨⟨z', rfl⟩, rfl⟩ := hq3
      show AW _ _ _ _ _ [vl z'] _
      exact r23 _ _ _ _ z' m2 ((g1.mono f78_f).mono flS_r) (by rw [← eR]; show (4 : Int) ≠ 0; decide) (by rw [← eR]; exact g2)
  rw [if_neg c6] at eR
  have i1 : tI n (tok A n t.2.2.2) := tok_i b4.1 b4.2.1
  generalize ht1 : tok A n t.2.2.2 = t1 at *
  unfold rL1 at eR
  have c4 := i1.2.2
  -- parts and commas
  have loop : fNew D t1 = 0 → ∀ (k b : Nat) (N : Nat → Int) (s : TK) (m0 m : Mem), k + pop b 12 = 12 → b < 4096 → pPt A n D (k + 1) b N s = pPt A n D 13 0 (fun _ => 0) t1 → lDs mu m0 l N b → tI n s → onP m0 m A n D b l (tok A n s.2.2.2) → AW K mX6_readLoad (NC, 0, 0) 77 [vr 55, vl t1.2.1, vx, vi (l : Int), vi 12] [] m := by
    intro f0 k
    rw [if_neg (fun w => w f0)] at eR
    induction k with
    | zero =>
      intro b N s m0 m q1 q2 q3 q4 q5 q6
      have e : pPt A n D (0 + 1) b N s = (if (fPf A n D b (tok A n s.2.2.2)).1 ≠ 0 then ((fPf A n D b (tok A n s.2.2.2)).1, (fPf A n D b (tok A n s.2.2.2)).2, N)
        else if (tok A n (fPf A n D b (tok A n s.2.2.2)).2.2.2.2).1 = 44 then pPt A n D 0 (b ||| 2 ^ (rNm D (fPf A n D b (tok A n s.2.2.2)).2.2.1).toNat) (put N (rNm D (fPf A n D b (tok A n s.2.2.2)).2.2.1) (fIv A n (tok A n s.2.2.2))) (tok A n (fPf A n D b (tok A n s.2.2.2)).2.2.2.2)
        else (0, tok A n (fPf A n D b (tok A n s.2.2.2)).2.2.2.2, put N (rNm D (fPf A n D b (tok A n s.2.2.2)).2.2.1) (fIv A n (tok A n s.2.2.2)))) := rfl
      rw [e] at q3
      rcases q6 with ⟨a1, _⟩ | ⟨a1, a2, a3⟩
      · exfalso
        have k1 := pop_or (fPf_bt a1) 12
        have k2 := pop_le (b ||| 2 ^ (rNm D (fPf A n D b (tok A n s.2.2.2)).2.2.1).toNat) 12
        have k3 := rNm_in hD (fPf A n D b (tok A n s.2.2.2)).2.2.1
        rw [if_pos (by omega)] at k1
        omega
      · rw [if_pos a1] at q3
        rw [← q3] at eR
        have L1 := q4.fr a2
        have l22 : m 55 22 = l := L1.2.1.2.trans hl
        refine aw_aload_n C dX6_readLoad_77 rfl ?_
        refine aw_bipush C dX6_readLoad_78 rfl ?_
        refine aw_call1 C dX6_readLoad_80 lX6_173 vX6_isSign (t_X6_isSignF a3) rfl rfl rfl ⟨rfl, by decide⟩ rfl ⟨by decide, by decide⟩ (Nat.le_of_ble_eq_true rfl) ?_
        refine aw_if_eq C dX6_readLoad_83 (tgt := 98) (by decide) ⟨by omega, by omega⟩ (fun c1 => ?_) (fun c1 => ?_)
        · refine aw_aload_n C dX6_readLoad_98 rfl ?_
          refine aw_getS C dX6_readLoad_99 fX6_23 ⟨rfl, by decide⟩ rfl rfl (srf 55 15 58 (by decide)) ?_
          refine aw_iload_n C dX6_readLoad_102 rfl ?_
          refine aw_lload_n C dX6_readLoad_103 rfl ?_
          refine aw_last C dX6_readLoad_104 ⟨rfl, by decide⟩ (by decide) (by omega) (by omega) ?_
          refine aw_aload_n C dX6_readLoad_105 rfl ?_
          refine aw_dup_a C dX6_readLoad_106 ?_
          refine aw_getI C dX6_readLoad_107 fX6_187 ⟨rfl, by decide⟩ rfl ?_
          rw [show wr m 58 (l : Int).toNat t1.2.1 55 22 = l by rw [wr_ne (by decide)]; exact l22]
          refine aw_iconst C dX6_readLoad_110 ?_
          refine aw_iadd C dX6_readLoad_111 ?_
          refine aw_putI C dX6_readLoad_112 fX6_187 ⟨rfl, by decide⟩ rfl rfl rfl ?_
          exact aw_vret C E dX6_readLoad_115 rfl ⟨rfl, (L1.1.w (by unfold rdM; omega)).w (by unfold rdM; omega), Or.inr ⟨by rw [← eR]; exact a1, by rw [← eR]; exact (a3.w (by omega)).w (by omega)⟩⟩
        · exfalso; omega
    | succ k ih =>
      intro b N s m0 m q1 q2 q3 q4 q5 q6
      have e : pPt A n D (k + 1 + 1) b N s = (if (fPf A n D b (tok A n s.2.2.2)).1 ≠ 0 then ((fPf A n D b (tok A n s.2.2.2)).1, (fPf A n D b (tok A n s.2.2.2)).2, N)
        else if (tok A n (fPf A n D b (tok A n s.2.2.2)).2.2.2.2).1 = 44 then pPt A n D (k + 1) (b ||| 2 ^ (rNm D (fPf A n D b (tok A n s.2.2.2)).2.2.1).toNat) (put N (rNm D (fPf A n D b (tok A n s.2.2.2)).2.2.1) (fIv A n (tok A n s.2.2.2))) (tok A n (fPf A n D b (tok A n s.2.2.2)).2.2.2.2)
        else (0, tok A n (fPf A n D b (tok A n s.2.2.2)).2.2.2.2, put N (rNm D (fPf A n D b (tok A n s.2.2.2)).2.2.1) (fIv A n (tok A n s.2.2.2)))) := rfl
      rw [e] at q3
      have j1 : tI n (tok A n s.2.2.2) := tok_i q5.2.2.1 q5.2.2.2.1
      rcases q6 with ⟨a1, m1, a2, a3, a4, a5, a6⟩ | ⟨a1, a2, a3⟩
      · rw [if_neg (fun w => w a1)] at q3
        have k1 := pop_or (fPf_bt a1) 12
        have k3 := rNm_in hD (fPf A n D b (tok A n s.2.2.2)).2.2.1
        have k4 := (fPf_0 a1).2.2
        rw [if_pos (by omega)] at k1
        have bs := (bset (r := rNm D (fPf A n D b (tok A n s.2.2.2)).2.2.1) q2 (by omega) (by omega)).2
        have j2 : tI n (fPf A n D b (tok A n s.2.2.2)).2 := fPf_i j1
        have j3 := tok_i (A := A) j2.2.2.1 j2.2.2.2.1
        have L1 := (q4.fr a2).w (b2 := b ||| 2 ^ (rNm D (fPf A n D b (tok A n s.2.2.2)).2.2.1).toNat) (v := fIv A n (tok A n s.2.2.2)) (r := rNm D (fPf A n D b (tok A n s.2.2.2)).2.2.1) (by omega) (by omega)
        have a7 : m 55 7 = 0 := by rw [a6, wr_ne (by decide), wr_ne (by decide)]; exact a3
        have a4' : MT m (tok A n (fPf A n D b (tok A n s.2.2.2)).2.2.2.2) := by rw [a6]; exact (a4.w (by omega)).w (by omega)
        have a5' : nbM m := by rw [a6]; exact (a5.w (by omega)).w (by omega)
        rw [← a6] at L1
        clear a4 a5 a6 a3 a2
        generalize tok A n (fPf A n D b (tok A n s.2.2.2)).2.2.2.2 = s3 at *
        generalize fIv A n (tok A n s.2.2.2) = v at *
        generalize rNm D (fPf A n D b (tok A n s.2.2.2)).2.2.1 = rr at *
        have kb := b01_01 (s3.1 = 44)
        have kbi : b01 (s3.1 = 44) = 1 ↔ s3.1 = 44 := b01_iff
        have l22 : m 55 22 = l := L1.2.1.2.trans hl
        have hKm : rdK m A n := hK.rd L1.1
        have e4 := j3.2.2
        refine aw_aload_n C dX6_readLoad_77 rfl ?_
        refine aw_bipush C dX6_readLoad_78 rfl ?_
        refine aw_call1 C dX6_readLoad_80 lX6_173 vX6_isSign (t_X6_isSign a7 a4' j3.1 (Or.inr (Or.inl rfl))) rfl rfl rfl ⟨rfl, by decide⟩ rfl ⟨by decide, by decide⟩ (Nat.le_of_ble_eq_true rfl) ?_
        refine aw_if_eq C dX6_readLoad_83 (tgt := 98) (by decide) ⟨by omega, by omega⟩ (fun c1 => ?_) (fun c1 => ?_)
        · rw [if_neg (fun z => by have := kbi.mpr z; omega)] at q3
          rw [← q3] at eR
          --go
          refine aw_aload_n C dX6_readLoad_98 rfl ?_
          refine aw_getS C dX6_readLoad_99 fX6_23 ⟨rfl, by decide⟩ rfl rfl (srf 55 15 58 (by decide)) ?_
          refine aw_iload_n C dX6_readLoad_102 rfl ?_
          refine aw_lload_n C dX6_readLoad_103 rfl ?_
          refine aw_last C dX6_readLoad_104 ⟨rfl, by decide⟩ (by decide) (by omega) (by omega) ?_
          refine aw_aload_n C dX6_readLoad_105 rfl ?_
          refine aw_dup_a C dX6_readLoad_106 ?_
          refine aw_getI C dX6_readLoad_107 fX6_187 ⟨rfl, by decide⟩ rfl ?_
          rw [show wr m 58 (l : Int).toNat t1.2.1 55 22 = l by rw [wr_ne (by decide)]; exact l22]
          refine aw_iconst C dX6_readLoad_110 ?_
          refine aw_iadd C dX6_readLoad_111 ?_
          refine aw_putI C dX6_readLoad_112 fX6_187 ⟨rfl, by decide⟩ rfl rfl rfl ?_
          exact aw_vret C E dX6_readLoad_115 rfl ⟨rfl, (L1.1.w (by unfold rdM; omega)).w (by unfold rdM; omega), Or.inl ⟨by rw [← eR], by rw [wr_at, if_neg (by decide), wr_ne (by decide)]; exact a7, by rw [← eR]; exact (a4'.w (by omega)).w (by omega), (a5'.w (by omega)).w (by omega), by rw [← eR, ← eD]; exact L1.pd hl⟩⟩
        · have s44 := kbi.mp (by omega)
          rw [if_pos s44] at q3
          --go
          refine aw_aload_n C dX6_readLoad_86 rfl ?_
          refine aw_call C dX6_readLoad_87 lX6_163 vX6_goOn (t_X6_goOn hKm a7 (a4'.nx (by omega)) e4.1 e4.2.1 a5') rfl rfl rfl ⟨rfl, by decide⟩ rfl ⟨by decide, by decide⟩ (Nat.le_of_ble_eq_true rfl) (fun r2 mu2 hq2 => ?_)
          obtain ⟨rfl, g1, g2, g3⟩ := hq2
          have g7 : mu2 55 7 = 0 := (g1 _ _ (by unfold goS; omega)).trans a7
          have L2 := L1.fr (g1.mono goS_f)
          have eD2 := (L2.pd0 hl).trans eD
          generalize mu2 = m5 at *
          show AW _ _ _ _ _ [] _
          refine aw_aload_n C dX6_readLoad_90 rfl ?_
          refine aw_iload_n C dX6_readLoad_91 rfl ?_
          refine aw_callX C hX dX6_readLoad_92 lX6_209 vX6_readOn (t_X6_readOn0 (d := (l : Int)) (b := b ||| 2 ^ rr.toNat) (hK.rd L2.1) g7 g2 (tok_i e4.1 e4.2.1) g3 eD2 hD (by omega) bs L2.2.2.2.2.2) rfl rfl rfl rfl ⟨rfl, by decide⟩ rfl ⟨by decide, by decide⟩ (Nat.le_of_ble_eq_true rfl) (fun r3 mu3 hq3 => ?_)
          obtain ⟨rfl, hp⟩ := hq3
          generalize mu3 = m6 at *
          show AW _ _ _ _ _ [] _
          refine aw_goto C dX6_readLoad_95 (tgt := 77) (by decide) ?_
          exact ih _ _ s3 m5 m6 (by omega) bs q3 L2 j3 hp
      · rw [if_pos a1] at q3
        rw [← q3] at eR
        have L1 := q4.fr a2
        have l22 : m 55 22 = l := L1.2.1.2.trans hl
        refine aw_aload_n C dX6_readLoad_77 rfl ?_
        refine aw_bipush C dX6_readLoad_78 rfl ?_
        refine aw_call1 C dX6_readLoad_80 lX6_173 vX6_isSign (t_X6_isSignF a3) rfl rfl rfl ⟨rfl, by decide⟩ rfl ⟨by decide, by decide⟩ (Nat.le_of_ble_eq_true rfl) ?_
        refine aw_if_eq C dX6_readLoad_83 (tgt := 98) (by decide) ⟨by omega, by omega⟩ (fun c1 => ?_) (fun c1 => ?_)
        · refine aw_aload_n C dX6_readLoad_98 rfl ?_
          refine aw_getS C dX6_readLoad_99 fX6_23 ⟨rfl, by decide⟩ rfl rfl (srf 55 15 58 (by decide)) ?_
          refine aw_iload_n C dX6_readLoad_102 rfl ?_
          refine aw_lload_n C dX6_readLoad_103 rfl ?_
          refine aw_last C dX6_readLoad_104 ⟨rfl, by decide⟩ (by decide) (by omega) (by omega) ?_
          refine aw_aload_n C dX6_readLoad_105 rfl ?_
          refine aw_dup_a C dX6_readLoad_106 ?_
          refine aw_getI C dX6_readLoad_107 fX6_187 ⟨rfl, by decide⟩ rfl ?_
          rw [show wr m 58 (l : Int).toNat t1.2.1 55 22 = l by rw [wr_ne (by decide)]; exact l22]
          refine aw_iconst C dX6_readLoad_110 ?_
          refine aw_iadd C dX6_readLoad_111 ?_
          refine aw_putI C dX6_readLoad_112 fX6_187 ⟨rfl, by decide⟩ rfl rfl rfl ?_
          exact aw_vret C E dX6_readLoad_115 rfl ⟨rfl, (L1.1.w (by unfold rdM; omega)).w (by unfold rdM; omega), Or.inr ⟨by rw [← eR]; exact a1, by rw [← eR]; exact (a3.w (by omega)).w (by omega)⟩⟩
        · exfalso; omega
  -- the row is cleared
  have clr : fNew D t1 = 0 → ∀ (q : Nat) (i : Int) (m : Mem), 0 ≤ i → i + q = 12 → frc rdM mu m → (m 55 7 = 0 ∧ MT m (tok A n t1.2.2.2) ∧ nbM m) → ((m 55 21 = mu 55 21 ∧ m 55 22 = mu 55 22) ∧ (m 57 = mu 57 ∧ m 58 = mu 58 ∧ m 60 = mu 60 ∧ m 61 = mu 61) ∧ (∀ j : Nat, j < 12 * l → m 62 j = mu 62 j) ∧ (∀ r : Nat, (r : Int) < i → m 62 (12 * l + r) = 0) ∧ m 63 l = 0) → AW K mX6_readLoad (NC, 0, 0) 46 [vr 55, vl t1.2.1, vx, vi (l : Int), vi i] [] m := by
    intro f0 q
    induction q with
    | zero =>
      intro i m q0 q1 q2 q3 q4
      obtain ⟨g7, g2, g3⟩ := q3
      have ei : i = 12 := by omega
      subst ei
      have L : lDs mu m l (fun _ => 0) 0 := ⟨q2, q4.1, q4.2.1, q4.2.2.1, fun r hr => q4.2.2.2.1 r (by omega), q4.2.2.2.2⟩
      refine aw_iload C dX6_readLoad_46 rfl ?_
      refine aw_bipush C dX6_readLoad_48 rfl ?_
      refine aw_icmp_ge C dX6_readLoad_50 (tgt := 72) (by decide) ⟨by omega, by omega⟩ ⟨by omega, by omega⟩ (fun c1 => ?_) (fun c1 => ?_)
      · refine aw_aload_n C dX6_readLoad_72 rfl ?_
        refine aw_iload_n C dX6_readLoad_73 rfl ?_
        refine aw_callX C hX dX6_readLoad_74 lX6_209 vX6_readOn (t_X6_readOn0 (d := (l : Int)) (b := 0) (hK.rd q2) g7 g2 (tok_i c4.1 c4.2.1) g3 ((L.pd0 hl).trans eD) hD (by omega) (by decide) q4.2.2.2.2) rfl rfl rfl rfl ⟨rfl, by decide⟩ rfl ⟨by decide, by decide⟩ (Nat.le_of_ble_eq_true rfl) (fun r2 mu2 hq2 => ?_)
        obtain ⟨rfl, hp⟩ := hq2
        generalize mu2 = m6 at *
        show AW _ _ _ _ _ [] _
        exact loop f0 12 0 _ t1 m m6 (by decide) (by decide) rfl L i1 hp
      · exfalso; omega
    | succ q ih =>
      intro i m q0 q1 q2 q3 q4
      obtain ⟨g7, g2, g3⟩ := q3
      obtain ⟨⟨b1, b2⟩, ⟨y1, y2, y3, y4⟩, d, e, f⟩ := q4
      refine aw_iload C dX6_readLoad_46 rfl ?_
      refine aw_bipush C dX6_readLoad_48 rfl ?_
      refine aw_icmp_ge C dX6_readLoad_50 (tgt := 72) (by decide) ⟨by omega, by omega⟩ ⟨by omega, by omega⟩ (fun c1 => ?_) (fun c1 => ?_)
      · exfalso; omega
      · refine aw_aload_n C dX6_readLoad_53 rfl ?_
        refine aw_getS C dX6_readLoad_54 fX6_35 ⟨rfl, by decide⟩ rfl rfl (srf 55 19 62 (by decide)) ?_
        refine aw_bipush C dX6_readLoad_57 rfl ?_
        refine aw_iload_n C dX6_readLoad_59 rfl ?_
        refine aw_imul C dX6_readLoad_60 ?_
        refine aw_iload C dX6_readLoad_61 rfl ?_
        refine aw_iadd C dX6_readLoad_63 ?_
        refine aw_iconst C dX6_readLoad_64 ?_
        refine aw_iast C dX6_readLoad_65 ⟨rfl, by decide⟩ (by decide) (by omega) (by omega) ?_
        refine aw_iinc C dX6_readLoad_66 rfl ?_
        refine aw_goto C dX6_readLoad_69 (tgt := 46) (by decide) ?_
        refine ih (i + 1) _ (by omega) (by omega) (q2.w (by unfold rdM; omega)) ⟨by rw [wr_ne (by decide)]; exact g7, g2.w (by omega), g3.w (by omega)⟩ ⟨⟨by rw [wr_ne (by decide)]; exact b1, by rw [wr_ne (by decide)]; exact b2⟩, ⟨by rw [wr_ne (by decide)]; exact y1, by rw [wr_ne (by decide)]; exact y2, by rw [wr_ne (by decide)]; exact y3, by rw [wr_ne (by decide)]; exact y4⟩, fun j hj => ?_, fun r hr => ?_, by rw [wr_ne (by decide)]; exact f⟩
        · rw [wr_at, if_neg (by omega)]; exact d j hj
        · rw [wr_at]
          by_cases z : (r : Int) = i
          · rw [if_pos ⟨rfl, by omega⟩]
          · rw [if_neg (by omega)]; exact e r (by omega)
  refine aw_aload_n C dX6_readLoad_0 rfl ?_
  refine aw_getI C dX6_readLoad_1 fX6_187 ⟨rfl, by decide⟩ rfl ?_
  refine aw_bipush C dX6_readLoad_4 rfl ?_
  refine aw_icmp_ne C dX6_readLoad_6 (tgt := 14) (by decide) ⟨by omega, by omega⟩ ⟨by omega, by omega⟩ (fun c1 => ?_) (fun c1 => ?_)
  · refine aw_aload_n C dX6_readLoad_14 rfl ?_
    refine aw_call C dX6_readLoad_15 lX6_163 vX6_goOn (t_X6_goOn hK h7 (hM.nx (by omega)) b4.1 b4.2.1 hnb) rfl rfl rfl ⟨rfl, by decide⟩ rfl ⟨by decide, by decide⟩ (Nat.le_of_ble_eq_true rfl) (fun r2 mu2 hq2 => ?_)
    obtain ⟨rfl, g1, g2, g3⟩ := hq2
    rw [ht1] at g2
    have g7 : mu2 55 7 = 0 := (g1 _ _ (by unfold goS; omega)).trans h7
    have eD2 := (pdM_fl (g1.mono goS_f)).trans eD
    generalize mu2 = m2 at *
    show AW _ _ _ _ _ [] _
    refine aw_aload_n C dX6_readLoad_18 rfl ?_
    refine aw_callX C hX dX6_readLoad_19 lX6_190 vX6_readNew (t_X6_readNew0 (hK.go g1) g7 g2 i1 g3 eD2 hD) rfl rfl rfl rfl ⟨rfl, by decide⟩ rfl ⟨by decide, by decide⟩ (Nat.le_of_ble_eq_true rfl) (fun r3 mu3 hq3 => ?_)
    obtain ⟨f1, hq3⟩ := hq3
    have fr2 := (g1.mono goS_f).tr f1
    generalize mu3 = m3 at *
    rcases hq3 with ⟨f2, rfl, f3, f4, f5⟩ | ⟨f2, ⟨z, rfl⟩, f3⟩
    case inr => rw [if_pos f2] at eR; exact r23 _ _ _ _ z m3 (fr2.mono flS_r) (by rw [← eR]; exact f2) (by rw [← eR]; exact f3)
    have l22 : m3 55 22 = l := (fr2 _ _ (by unfold flS; omega)).trans hl
    show AW _ _ _ _ _ [vl t1.2.1] _
    refine aw_lstore_n C dX6_readLoad_22 (by decide) ?_
    refine aw_aload_n C dX6_readLoad_23 rfl ?_
    refine aw_getI C dX6_readLoad_24 fX6_92 ⟨rfl, by decide⟩ rfl ?_
    refine aw_if_le C dX6_readLoad_27 (tgt := 31) (by decide) ⟨by omega, by omega⟩ (fun c4 => ?_) (fun c4 => ?_)
    · refine aw_aload_n C dX6_readLoad_31 rfl ?_
      refine aw_getI C dX6_readLoad_32 fX6_187 ⟨rfl, by decide⟩ rfl ?_
      rw [l22]
      refine aw_istore_n C dX6_readLoad_35 (by decide) ?_
      refine aw_aload_n C dX6_readLoad_36 rfl ?_
      refine aw_getS C dX6_readLoad_37 fX6_38 ⟨rfl, by decide⟩ rfl rfl (srf 55 20 63 (by decide)) ?_
      refine aw_iload_n C dX6_readLoad_40 rfl ?_
      refine aw_iconst C dX6_readLoad_41 ?_
      refine aw_iast C dX6_readLoad_42 ⟨rfl, by decide⟩ (by decide) (by omega) (by omega) ?_
      refine aw_iconst C dX6_readLoad_43 ?_
      refine aw_istore C dX6_readLoad_44 (by decide) ?_
      refine clr f2 12 0 _ (by omega) (by omega) ((fr2.mono flS_r).w (by unfold rdM; omega)) ⟨by rw [wr_ne (by decide)]; exact f3, f4.w (by omega), f5.w (by omega)⟩ ⟨⟨by rw [wr_ne (by decide)]; exact fr2 _ _ (by unfold flS; omega), by rw [wr_ne (by decide)]; exact fr2 _ _ (by unfold flS; omega)⟩, ⟨?_, ?_, ?_, ?_⟩, fun j hj => ?_, fun r hr => by omega, by rw [wr_at, if_pos ⟨rfl, by omega⟩]⟩
      · rw [wr_ne (by decide)]; exact funext fun j => fr2 _ _ (by unfold flS; omega)
      · rw [wr_ne (by decide)]; exact funext fun j => fr2 _ _ (by unfold flS; omega)
      · rw [wr_ne (by decide)]; exact funext fun j => fr2 _ _ (by unfold flS; omega)
      · rw [wr_ne (by decide)]; exact funext fun j => fr2 _ _ (by unfold flS; omega)
      · rw [wr_ne (by decide)]; exact fr2 _ _ (by unfold flS; omega)
    · exfalso; omega
  · exfalso; omega

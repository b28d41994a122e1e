/-! the whole text -/
def raM : Nat → Nat → Prop := fun a b => rdM a b ∨ bgS a b
theorem rdM_a : ∀ a b, rdM a b → raM a b := fun _ _ h => Or.inl h
theorem bgS_a : ∀ a b, bgS a b → raM a b := fun _ _ h => Or.inr h
theorem pdM_0 {m : Mem} (h1 : m 55 21 = 0) (h2 : m 55 22 = 0) : pdM m = D0 := by
  unfold pdM D0
  rw [h1, h2]
  have q : ∀ A : Nat → Int, cut1 0 A = fun _ => 0 := fun A => funext fun j => by unfold cut1; rw [if_neg (by omega)]
  have q2 : ∀ A : Nat → Nat → Int, cut2 0 12 A = fun _ _ => 0 := fun A => funext fun j => funext fun r => by unfold cut2; rw [if_neg (by omega)]
  rw [q, q, q, q, q2]
theorem pAl_b {A : Nat → Int} {n : Int} : ∀ (k : Nat) (p : Int) (D : PD), 0 ≤ p → p ≤ n → bD D → (pAl A n k p D).1 = 0 → bD (pAl A n k p D).2.2
  | 0, p, D, _, _, h, _ => h
  | k + 1, p, D, p0, p1, h, hz => by
    have e : pAl A n (k + 1) p D = if (rLn A n D (tok A n p)).1 ≠ 0 then rLn A n D (tok A n p)
      else if (rLn A n D (tok A n p)).2.1.1 = 0 then rLn A n D (tok A n p)
      else if (rLn A n D (tok A n p)).2.1.1 ≠ 59 then (1, (rLn A n D (tok A n p)).2.1, (rLn A n D (tok A n p)).2.2)
      else pAl A n k (rLn A n D (tok A n p)).2.1.2.2.2 (rLn A n D (tok A n p)).2.2 := rfl
    have i1 : tI n (tok A n p) := tok_i p0 p1
    have li := (rLn_i (A := A) (D := D) i1).1
    rw [e] at hz ⊢
    by_cases c1 : (rLn A n D (tok A n p)).1 ≠ 0
    · rw [if_pos c1] at hz; exact absurd hz c1
    have b1 := rLn_b h i1 (Classical.not_not.mp c1)
    rw [if_neg c1] at hz ⊢
    by_cases c2 : (rLn A n D (tok A n p)).2.1.1 = 0
    · rw [if_pos c2]; exact b1
    rw [if_neg c2] at hz ⊢
    by_cases c3 : (rLn A n D (tok A n p)).2.1.1 ≠ 59
    · rw [if_pos c3]; exact b1
    rw [if_neg c3] at hz ⊢
    exact pAl_b k _ _ li.2.2.1 li.2.2.2.1 b1 hz
theorem MT.e0 {m : Mem} {t : TK} (h : MT m t) : (m 55 9 = 1 ↔ t.1 = 0) := by
  obtain ⟨-, -, h⟩ := h
  rcases h with h | h | h | h | h
  · exact ⟨fun _ => h.1, fun _ => h.2⟩
  · exact ⟨fun w => by omega, fun w => by omega⟩
  · exact ⟨fun w => by omega, fun w => by omega⟩
  · exact ⟨fun w => by omega, fun w => by omega⟩
  · exact ⟨fun w => by omega, fun w => by omega⟩
def raP (mu m : Mem) (A : Nat → Int) (n : Int) : Prop := frc raM mu m ∧ ((fnF A n = 0 ∧ m 55 7 = 0 ∧ nbM m ∧ pdM m = (pAl A n 501 0 D0).2.2 ∧ hW (sv m) ∧ rsV (pAl A n 501 0 D0).2.2.2.1 (sv m) = bldD (pAl A n 501 0 D0).2.2 ∧ bD (pAl A n 501 0 D0).2.2 ∧ clo (bldD (pAl A n 501 0 D0).2.2)) ∨ (fnF A n ≠ 0 ∧ FS m (fnF A n) (pAl A n 501 0 D0).2.1.2.2.1))
theorem t_X6_readAll {mu : Mem} {A : Nat → Int} {n : Int} (hK : rdK mu A n) (h7 : mu 55 7 = 0) (h6 : mu 55 6 = 0) (hnb : nbM mu) : TrS 10 mX6_readAll (fun _ => [vr 55]) mu (fun r m2 => r = none ∧ raP mu m2 A n) := by
  refine TrS.of (by decide +kernel) (fun _ => Nat.le_of_ble_eq_true rfl) (fun K C E hX => ?_)
  unfold raP fnF at E
  have hn := hK.2.1
  have gP : gD (pAl A n 501 0 D0).2.2 := pAl_g _ _ _ gD0
  have bP0 : (pAl A n 501 0 D0).1 = 0 → bD (pAl A n 501 0 D0).2.2 := pAl_b 501 0 D0 (by omega) hn.1 bD0
  obtain ⟨P, eP⟩ : ∃ P, pAl A n 501 0 D0 = P := ⟨_, rfl⟩
  rw [eP] at E gP bP0
  have kc := b01_01 (clo (bldD P.2.2))
  have kci : b01 (clo (bldD P.2.2)) = 1 ↔ clo (bldD P.2.2) := b01_iff
  have bad : ∀ m : Mem, frc rdM mu m → P.1 ≠ 0 → FS m P.1 P.2.1.2.2.1 → AW K mX6_readAll (NC, 0, 0) 58 [vr 55, vx, vx] [] m := by
    intro m z1 z2 z3
    have z4 := z3.1
    refine aw_aload_n C dX6_readAll_58 rfl ?_
    refine aw_getI C dX6_readAll_59 fX6_92 ⟨rfl, by decide⟩ rfl ?_
    refine aw_if_le C dX6_readAll_62 (tgt := 66) (by decide) ⟨by omega, by omega⟩ (fun c1 => ?_) (fun c1 => ?_)
    · exfalso; omega
    · exact aw_vret C E dX6_readAll_65 rfl ⟨rfl, z1.mono rdM_a, Or.inr ⟨by rw [if_pos z2]; exact z2, by rw [if_pos z2]; exact z3⟩⟩
  have chk : ∀ m : Mem, P.1 = 0 → bD P.2.2 → frc raM mu m → m 55 7 = 0 → m 55 10 = P.2.1.2.2.1 → nbM m → pdM m = P.2.2 → hW (sv m) → rsV P.2.2.2.1 (sv m) = bldD P.2.2 → AW K mX6_readAll (NC, 0, 0) 70 [vr 55, vx, vx] [] m := by
    intro m z2 bP fr2 g7 g10 gn gp f2 f3
    rw [if_neg (fun w => w z2)] at E
    obtain ⟨oB, oS, oP, oN, oL⟩ := bldD_o gP bP
    have e31 : m 55 31 = (bldD P.2.2).1 := by rw [← f3]; rfl
    have tb : ∀ i, -7200 ≤ trn (bldD P.2.2) i ∧ trn (bldD P.2.2) i ≤ 7200 := fun i => oB.trn i
    have hn24 : 0 ≤ (bldD P.2.2).1 ∧ (bldD P.2.2).1 ≤ 24 := oB.1
    have gxe : ∀ i : Int, 0 ≤ i → i < (bldD P.2.2).1 → m 67 i.toNat = gx (bldD P.2.2) i ∧ m 68 i.toNat = gy (bldD P.2.2) i := fun i i0 i1 => by
      rw [← f3]
      exact ⟨(cut1_at i0 (by rw [e31]; exact i1)).symm, (cut1_at i0 (by rw [e31]; exact i1)).symm⟩
    have yes : clo (bldD P.2.2) → ∀ v2 : Vv, AW K mX6_readAll (NC, 0, 0) 154 [vr 55, vi 1, v2] [] m := fun w v2 => by
      refine aw_iload_n C dX6_readAll_154 rfl ?_
      refine aw_if_ne C dX6_readAll_155 (tgt := 163) (by decide) ⟨by omega, by omega⟩ (fun c1 => ?_) (fun c1 => ?_)
      · exact aw_vret C E dX6_readAll_163 rfl ⟨rfl, fr2, Or.inl ⟨by rw [if_pos (kci.mpr w)], g7, gn, gp, f2, f3, bP, w⟩⟩
      · exfalso; omega
    have no : ¬ clo (bldD P.2.2) → ∀ v2 : Vv, AW K mX6_readAll (NC, 0, 0) 154 [vr 55, vi 0, v2] [] m := fun w v2 => by
      refine aw_iload_n C dX6_readAll_154 rfl ?_
      refine aw_if_ne C dX6_readAll_155 (tgt := 163) (by decide) ⟨by omega, by omega⟩ (fun c1 => ?_) (fun c1 => ?_)
      · exfalso; omega
      · refine aw_aload_n C dX6_readAll_158 rfl ?_
        refine aw_iconst C dX6_readAll_159 ?_
        refine aw_call C dX6_readAll_160 lX6_159 vX6_flaw (t_X6_flaw0 g7 (by omega) gn) rfl rfl rfl ⟨rfl, by decide⟩ rfl ⟨by decide, by decide⟩ (Nat.le_of_ble_eq_true rfl) (fun r2 mu2 hq2 => ?_)
        obtain ⟨rfl, q1, q2⟩ := hq2
        rw [g10] at q2
        have fr3 := fr2.tr (q1.mono (fun a b h => Or.inl (flS_r a b (f78_f a b h))))
        generalize mu2 = m4 at *
        show AW _ _ _ _ _ [] _
        exact aw_vret C E dX6_readAll_163 rfl ⟨rfl, fr3, Or.inr ⟨by rw [if_neg (fun z => w (kci.mp z))]; decide, by rw [if_neg (fun z => w (kci.mp z))]; exact q2⟩⟩
    have no2 : ¬ clo (bldD P.2.2) → ∀ i : Int, AW K mX6_readAll (NC, 0, 0) 86 [vr 55, vi 0, vi i] [] m := fun w i => by
      refine aw_iload_n C dX6_readAll_86 rfl ?_
      refine aw_if_eq C dX6_readAll_87 (tgt := 154) (by decide) ⟨by omega, by omega⟩ (fun c1 => ?_) (fun c1 => ?_)
      · exact no w _
      · exfalso; omega
    have loop : 3 ≤ (bldD P.2.2).1 → ∀ (q : Nat) (i : Int), 0 ≤ i → i + q = (bldD P.2.2).1 → (∀ j, 0 ≤ j → j < i → 0 < trn (bldD P.2.2) j) → AW K mX6_readAll (NC, 0, 0) 86 [vr 55, vi 1, vi i] [] m := by
      intro h3 q
      induction q with
      | zero =>
        intro i q0 q1 q2
        refine aw_iload_n C dX6_readAll_86 rfl ?_
        refine aw_if_eq C dX6_readAll_87 (tgt := 154) (by decide) ⟨by omega, by omega⟩ (fun c1 => ?_) (fun c1 => ?_)
        · exfalso; omega
        · refine aw_iload_n C dX6_readAll_90 rfl ?_
          refine aw_aload_n C dX6_readAll_91 rfl ?_
          refine aw_getI C dX6_readAll_92 fX6_224 ⟨rfl, by decide⟩ rfl ?_
          refine aw_icmp_ge C dX6_readAll_95 (tgt := 154) (by decide) ⟨by omega, by omega⟩ ⟨by omega, by omega⟩ (fun c2 => ?_) (fun c2 => ?_)
          · exact yes ⟨h3, fun j j0 j1 => q2 j j0 (by omega)⟩ _
          · exfalso; omega
      | succ q ih =>
        intro i q0 q1 q2
        have nx := nxt_in (V := bldD P.2.2) (i := i) q0 (by omega)
        have en : (i + 1).tmod (m 55 31) = nxt (bldD P.2.2) i := by
          unfold nxt
          rw [e31, Int.tmod_eq_emod_of_nonneg (by omega)]
          split
          · rw [show i + 1 = (bldD P.2.2).1 by omega, Int.emod_self]
          · rw [Int.emod_eq_of_lt (by omega) (by omega)]
        obtain ⟨a1, a2⟩ := gxe i q0 (by omega)
        obtain ⟨a3, a4⟩ := gxe _ nx.1 nx.2
        have et : gx (bldD P.2.2) i * gy (bldD P.2.2) (nxt (bldD P.2.2) i) - gy (bldD P.2.2) i * gx (bldD P.2.2) (nxt (bldD P.2.2) i) = trn (bldD P.2.2) i := rfl
        have tbi := tb i
        refine aw_iload_n C dX6_readAll_86 rfl ?_
        refine aw_if_eq C dX6_readAll_87 (tgt := 154) (by decide) ⟨by omega, by omega⟩ (fun c1 => ?_) (fun c1 => ?_)
        · exfalso; omega
        · refine aw_iload_n C dX6_readAll_90 rfl ?_
          refine aw_aload_n C dX6_readAll_91 rfl ?_
          refine aw_getI C dX6_readAll_92 fX6_224 ⟨rfl, by decide⟩ rfl ?_
          refine aw_icmp_ge C dX6_readAll_95 (tgt := 154) (by decide) ⟨by omega, by omega⟩ ⟨by omega, by omega⟩ (fun c2 => ?_) (fun c2 => ?_)
          · exfalso; omega
          · refine aw_aload_n C dX6_readAll_98 rfl ?_
            refine aw_getS C dX6_readAll_99 fX6_50 ⟨rfl, by decide⟩ rfl rfl (srf 55 26 67 (by decide)) ?_
            refine aw_iload_n C dX6_readAll_102 rfl ?_
            refine aw_iald C dX6_readAll_103 ⟨rfl, by decide⟩ (by decide) (by omega) (by omega) ?_
            rw [a1]
            refine aw_aload_n C dX6_readAll_104 rfl ?_
            refine aw_getS C dX6_readAll_105 fX6_53 ⟨rfl, by decide⟩ rfl rfl (srf 55 27 68 (by decide)) ?_
            refine aw_iload_n C dX6_readAll_108 rfl ?_
            refine aw_iald C dX6_readAll_109 ⟨rfl, by decide⟩ (by decide) (by omega) (by omega) ?_
            rw [a2]
            refine aw_aload_n C dX6_readAll_110 rfl ?_
            refine aw_getS C dX6_readAll_111 fX6_50 ⟨rfl, by decide⟩ rfl rfl (srf 55 26 67 (by decide)) ?_
            refine aw_iload_n C dX6_readAll_114 rfl ?_
            refine aw_iconst C dX6_readAll_115 ?_
            refine aw_iadd C dX6_readAll_116 ?_
            refine aw_aload_n C dX6_readAll_117 rfl ?_
            refine aw_getI C dX6_readAll_118 fX6_224 ⟨rfl, by decide⟩ rfl ?_
            refine aw_irem C dX6_readAll_121 ⟨by omega, by omega⟩ ⟨by omega, by omega⟩ (by omega) ?_
            rw [en]
            refine aw_iald C dX6_readAll_122 ⟨rfl, by decide⟩ (by decide) (by omega) (by omega) ?_
            rw [a3]
            refine aw_aload_n C dX6_readAll_123 rfl ?_
            refine aw_getS C dX6_readAll_124 fX6_53 ⟨rfl, by decide⟩ rfl rfl (srf 55 27 68 (by decide)) ?_
            refine aw_iload_n C dX6_readAll_127 rfl ?_
            refine aw_iconst C dX6_readAll_128 ?_
            refine aw_iadd C dX6_readAll_129 ?_
            refine aw_aload_n C dX6_readAll_130 rfl ?_
            refine aw_getI C dX6_readAll_131 fX6_224 ⟨rfl, by decide⟩ rfl ?_
            refine aw_irem C dX6_readAll_134 ⟨by omega, by omega⟩ ⟨by omega, by omega⟩ (by omega) ?_
            rw [en]
            refine aw_iald C dX6_readAll_135 ⟨rfl, by decide⟩ (by decide) (by omega) (by omega) ?_
            rw [a4]
            refine aw_callS1 C dX6_readAll_136 lX6_227 vX6_cross (t_X6_cross) rfl rfl rfl ⟨by decide, by decide⟩ (Nat.le_of_ble_eq_true rfl) ?_
            rw [et]
            refine aw_if_le C dX6_readAll_139 (tgt := 146) (by decide) ⟨by omega, by omega⟩ (fun ct => ?_) (fun ct => ?_)
            · --go
              refine aw_iconst C dX6_readAll_146 ?_
              refine aw_istore_n C dX6_readAll_147 (by decide) ?_
              refine aw_iinc C dX6_readAll_148 rfl ?_
              refine aw_goto C dX6_readAll_151 (tgt := 86) (by decide) ?_
              exact no2 (fun w => by have := w.2 i q0 (by omega); omega) _
            · --go
              refine aw_iconst C dX6_readAll_142 ?_
              refine aw_goto C dX6_readAll_143 (tgt := 147) (by decide) ?_
              refine aw_istore_n C dX6_readAll_147 (by decide) ?_
              refine aw_iinc C dX6_readAll_148 rfl ?_
              refine aw_goto C dX6_readAll_151 (tgt := 86) (by decide) ?_
              exact ih (i + 1) (by omega) (by omega) (fun j j0 j1 => by by_cases e : j = i; rw [e]; exact ct; exact q2 j j0 (by omega))
    refine aw_aload_n C dX6_readAll_70 rfl ?_
    refine aw_getI C dX6_readAll_71 fX6_224 ⟨rfl, by decide⟩ rfl ?_
    refine aw_iconst C dX6_readAll_74 ?_
    refine aw_icmp_lt C dX6_readAll_75 (tgt := 82) (by decide) ⟨by omega, by omega⟩ ⟨by omega, by omega⟩ (fun c1 => ?_) (fun c1 => ?_)
    · --go
      refine aw_iconst C dX6_readAll_82 ?_
      refine aw_istore_n C dX6_readAll_83 (by decide) ?_
      refine aw_iconst C dX6_readAll_84 ?_
      refine aw_istore_n C dX6_readAll_85 (by decide) ?_
      exact no2 (fun w => by have := w.1; omega) _
    · --go
      refine aw_iconst C dX6_readAll_78 ?_
      refine aw_goto C dX6_readAll_79 (tgt := 83) (by decide) ?_
      refine aw_istore_n C dX6_readAll_83 (by decide) ?_
      refine aw_iconst C dX6_readAll_84 ?_
      refine aw_istore_n C dX6_readAll_85 (by decide) ?_
      exact loop (by omega) _ 0 (by omega) (show 0 + ((bldD P.2.2).1.toNat : Int) = _ by omega) (fun j j0 j1 => by omega)
  have fin : ∀ m : Mem, frc rdM mu m → P.1 = 0 → m 55 7 = 0 → MT m P.2.1 → nbM m → pdM m = P.2.2 → AW K mX6_readAll (NC, 0, 0) 58 [vr 55, vx, vx] [] m := by
    intro m z1 z2 z3 z4 z5 z6
    have bP := bP0 z2
    refine aw_aload_n C dX6_readAll_58 rfl ?_
    refine aw_getI C dX6_readAll_59 fX6_92 ⟨rfl, by decide⟩ rfl ?_
    refine aw_if_le C dX6_readAll_62 (tgt := 66) (by decide) ⟨by omega, by omega⟩ (fun c1 => ?_) (fun c1 => ?_)
    · refine aw_aload_n C dX6_readAll_66 rfl ?_
      refine aw_call C dX6_readAll_67 lX6_221 vX6_laysRead (t_X6_laysRead z6 bP gP) rfl rfl rfl ⟨rfl, by decide⟩ rfl ⟨by decide, by decide⟩ (Nat.le_of_ble_eq_true rfl) (fun r2 mu2 hq2 => ?_)
      obtain ⟨rfl, f1, f2, f3⟩ := hq2
      have fr2 : frc raM mu mu2 := (z1.mono rdM_a).tr (f1.mono bgS_a)
      have g7 : mu2 55 7 = 0 := (f1 _ _ (by unfold bgS; omega)).trans z3
      have g10 : mu2 55 10 = P.2.1.2.2.1 := (f1 _ _ (by unfold bgS; omega)).trans z4.1
      have gn : nbM mu2 := by
        unfold nbM
        rw [f1 55 12 (by unfold bgS; omega), f1 55 9 (by unfold bgS; omega)]
        exact z5
      have gp : pdM mu2 = P.2.2 := (pdM_fr f1 (by unfold bgS; omega) (by unfold bgS; omega) (fun x y w => by unfold bgS; omega)).trans z6
      generalize mu2 = m3 at *
      show AW _ _ _ _ _ [] _
      exact chk m3 z2 bP fr2 g7 g10 gn gp f2 f3
    · exfalso; omega
  -- lines
  have loop : ∀ (k : Nat) (i p : Int) (D : PD) (m : Mem), i + k = 500 → 0 ≤ i → i ≤ p → p ≤ n → pAl A n (k + 1) p D = P → frc rdM mu m → ((((rLn A n D (tok A n p)).1 = 0 ∧ m 55 7 = 0 ∧ MT m (rLn A n D (tok A n p)).2.1 ∧ nbM m ∧ pdM m = (rLn A n D (tok A n p)).2.2) ∨ ((rLn A n D (tok A n p)).1 ≠ 0 ∧ FS m (rLn A n D (tok A n p)).1 (rLn A n D (tok A n p)).2.1.2.2.1))) → bD D → AW K mX6_readAll (NC, 0, 0) 18 [vr 55, vx, vx] [] m := by
    intro k
    induction k with
    | zero =>
      intro i p D m q1 q2 q3 q4 q5 q6 q7 q8
      have i1 : tI n (tok A n p) := tok_i (by omega) q4
      have li := (rLn_i (A := A) (D := D) i1).1
      have p59 := rLn_59 (A := A) (n := n) (p := p) (D := D) ⟨by omega, q4⟩
      have e : pAl A n (0 + 1) p D = (if (rLn A n D (tok A n p)).1 ≠ 0 then rLn A n D (tok A n p)
        else if (rLn A n D (tok A n p)).2.1.1 = 0 then rLn A n D (tok A n p)
        else if (rLn A n D (tok A n p)).2.1.1 ≠ 59 then (1, (rLn A n D (tok A n p)).2.1, (rLn A n D (tok A n p)).2.2)
        else pAl A n 0 (rLn A n D (tok A n p)).2.1.2.2.2 (rLn A n D (tok A n p)).2.2) := rfl
      rw [e] at q5
      generalize rLn A n D (tok A n p) = R at *
      have l5 := li.2.2.2.1
      have kb := b01_01 (R.2.1.1 = 59)
      have kbi : b01 (R.2.1.1 = 59) = 1 ↔ R.2.1.1 = 59 := b01_iff
      rcases q7 with ⟨a1, a2, a3, a4, a5⟩ | ⟨a1, a2⟩
      case inr =>
        rw [if_pos a1] at q5
        subst q5
        have a3 := a2.1
        refine aw_aload_n C dX6_readAll_18 rfl ?_
        refine aw_bipush C dX6_readAll_19 rfl ?_
        refine aw_call1 C dX6_readAll_21 lX6_173 vX6_isSign (t_X6_isSignF a2) rfl rfl rfl ⟨rfl, by decide⟩ rfl ⟨by decide, by decide⟩ (Nat.le_of_ble_eq_true rfl) ?_
        refine aw_if_eq C dX6_readAll_24 (tgt := 38) (by decide) ⟨by omega, by omega⟩ (fun c1 => ?_) (fun c1 => ?_)
        · refine aw_aload_n C dX6_readAll_38 rfl ?_
          refine aw_getI C dX6_readAll_39 fX6_92 ⟨rfl, by decide⟩ rfl ?_
          refine aw_if_ne C dX6_readAll_42 (tgt := 58) (by decide) ⟨by omega, by omega⟩ (fun c2 => ?_) (fun c2 => ?_)
          · exact bad m q6 a1 a2
          · exfalso; omega
        · exfalso; omega
      rw [if_neg (fun w => w a1)] at q5
      have e0 := a3.e0
      have nb9 := a4.2
      refine aw_aload_n C dX6_readAll_18 rfl ?_
      refine aw_bipush C dX6_readAll_19 rfl ?_
      refine aw_call1 C dX6_readAll_21 lX6_173 vX6_isSign (t_X6_isSign a2 a3 li.1 (Or.inl rfl)) rfl rfl rfl ⟨rfl, by decide⟩ rfl ⟨by decide, by decide⟩ (Nat.le_of_ble_eq_true rfl) ?_
      refine aw_if_eq C dX6_readAll_24 (tgt := 38) (by decide) ⟨by omega, by omega⟩ (fun c1 => ?_) (fun c1 => ?_)
      · have n59 : ¬ R.2.1.1 = 59 := fun z => by have := kbi.mpr z; omega
        --go
        refine aw_aload_n C dX6_readAll_38 rfl ?_
        refine aw_getI C dX6_readAll_39 fX6_92 ⟨rfl, by decide⟩ rfl ?_
        refine aw_if_ne C dX6_readAll_42 (tgt := 58) (by decide) ⟨by omega, by omega⟩ (fun c2 => ?_) (fun c2 => ?_)
        · exfalso; omega
        · refine aw_aload_n C dX6_readAll_45 rfl ?_
          refine aw_getI C dX6_readAll_46 fX6_119 ⟨rfl, by decide⟩ rfl ?_
          refine aw_iconst C dX6_readAll_49 ?_
          refine aw_icmp_eq C dX6_readAll_50 (tgt := 58) (by decide) ⟨by omega, by omega⟩ ⟨by omega, by omega⟩ (fun c3 => ?_) (fun c3 => ?_)
          · rw [if_pos (e0.mp (by omega))] at q5
            subst q5
            --go
            exact fin m q6 a1 a2 a3 a4 a5
          · rw [if_neg (fun z => by have := e0.mpr z; omega), if_pos n59] at q5
            subst q5
            --go
            refine aw_aload_n C dX6_readAll_53 rfl ?_
            refine aw_iconst C dX6_readAll_54 ?_
            refine aw_call C dX6_readAll_55 lX6_159 vX6_flaw (t_X6_flaw0 a2 (by omega) a4) rfl rfl rfl ⟨rfl, by decide⟩ rfl ⟨by decide, by decide⟩ (Nat.le_of_ble_eq_true rfl) (fun r4 mu4 hq4 => ?_)
            obtain ⟨rfl, g1, g2⟩ := hq4
            rw [a3.1] at g2
            have fr1 := q6.tr ((g1.mono f78_f).mono flS_r)
            generalize mu4 = m2 at *
            show AW _ _ _ _ _ [] _
            exact bad m2 fr1 (by show (1 : Int) ≠ 0; decide) g2
      · exfalso
        have := p59 a1 (kbi.mp (by omega))
        omega
    | succ k ih =>
      intro i p D m q1 q2 q3 q4 q5 q6 q7 q8
      have i1 : tI n (tok A n p) := tok_i (by omega) q4
      have li := (rLn_i (A := A) (D := D) i1).1
      have p59 := rLn_59 (A := A) (n := n) (p := p) (D := D) ⟨by omega, q4⟩
      have rb := rLn_b (A := A) (D := D) q8 i1
      have e : pAl A n (k + 1 + 1) p D = (if (rLn A n D (tok A n p)).1 ≠ 0 then rLn A n D (tok A n p)
        else if (rLn A n D (tok A n p)).2.1.1 = 0 then rLn A n D (tok A n p)
        else if (rLn A n D (tok A n p)).2.1.1 ≠ 59 then (1, (rLn A n D (tok A n p)).2.1, (rLn A n D (tok A n p)).2.2)
        else pAl A n (k + 1) (rLn A n D (tok A n p)).2.1.2.2.2 (rLn A n D (tok A n p)).2.2) := rfl
      rw [e] at q5
      generalize rLn A n D (tok A n p) = R at *
      have l5 := li.2.2.2.1
      have kb := b01_01 (R.2.1.1 = 59)
      have kbi : b01 (R.2.1.1 = 59) = 1 ↔ R.2.1.1 = 59 := b01_iff
      rcases q7 with ⟨a1, a2, a3, a4, a5⟩ | ⟨a1, a2⟩
      case inr =>
        rw [if_pos a1] at q5
        subst q5
        have a3 := a2.1
        refine aw_aload_n C dX6_readAll_18 rfl ?_
        refine aw_bipush C dX6_readAll_19 rfl ?_
        refine aw_call1 C dX6_readAll_21 lX6_173 vX6_isSign (t_X6_isSignF a2) rfl rfl rfl ⟨rfl, by decide⟩ rfl ⟨by decide, by decide⟩ (Nat.le_of_ble_eq_true rfl) ?_
        refine aw_if_eq C dX6_readAll_24 (tgt := 38) (by decide) ⟨by omega, by omega⟩ (fun c1 => ?_) (fun c1 => ?_)
        · refine aw_aload_n C dX6_readAll_38 rfl ?_
          refine aw_getI C dX6_readAll_39 fX6_92 ⟨rfl, by decide⟩ rfl ?_
          refine aw_if_ne C dX6_readAll_42 (tgt := 58) (by decide) ⟨by omega, by omega⟩ (fun c2 => ?_) (fun c2 => ?_)
          · exact bad m q6 a1 a2
          · exfalso; omega
        · exfalso; omega
      rw [if_neg (fun w => w a1)] at q5
      have e0 := a3.e0
      have nb9 := a4.2
      refine aw_aload_n C dX6_readAll_18 rfl ?_
      refine aw_bipush C dX6_readAll_19 rfl ?_
      refine aw_call1 C dX6_readAll_21 lX6_173 vX6_isSign (t_X6_isSign a2 a3 li.1 (Or.inl rfl)) rfl rfl rfl ⟨rfl, by decide⟩ rfl ⟨by decide, by decide⟩ (Nat.le_of_ble_eq_true rfl) ?_
      refine aw_if_eq C dX6_readAll_24 (tgt := 38) (by decide) ⟨by omega, by omega⟩ (fun c1 => ?_) (fun c1 => ?_)
      · have n59 : ¬ R.2.1.1 = 59 := fun z => by have := kbi.mpr z; omega
        --go
        refine aw_aload_n C dX6_readAll_38 rfl ?_
        refine aw_getI C dX6_readAll_39 fX6_92 ⟨rfl, by decide⟩ rfl ?_
        refine aw_if_ne C dX6_readAll_42 (tgt := 58) (by decide) ⟨by omega, by omega⟩ (fun c2 => ?_) (fun c2 => ?_)
        · exfalso; omega
        · refine aw_aload_n C dX6_readAll_45 rfl ?_
          refine aw_getI C dX6_readAll_46 fX6_119 ⟨rfl, by decide⟩ rfl ?_
          refine aw_iconst C dX6_readAll_49 ?_
          refine aw_icmp_eq C dX6_readAll_50 (tgt := 58) (by decide) ⟨by omega, by omega⟩ ⟨by omega, by omega⟩ (fun c3 => ?_) (fun c3 => ?_)
          · rw [if_pos (e0.mp (by omega))] at q5
            subst q5
            --go
            exact fin m q6 a1 a2 a3 a4 a5
          · rw [if_neg (fun z => by have := e0.mpr z; omega), if_pos n59] at q5
            subst q5
            --go
            refine aw_aload_n C dX6_readAll_53 rfl ?_
            refine aw_iconst C dX6_readAll_54 ?_
            refine aw_call C dX6_readAll_55 lX6_159 vX6_flaw (t_X6_flaw0 a2 (by omega) a4) rfl rfl rfl ⟨rfl, by decide⟩ rfl ⟨by decide, by decide⟩ (Nat.le_of_ble_eq_true rfl) (fun r4 mu4 hq4 => ?_)
            obtain ⟨rfl, g1, g2⟩ := hq4
            rw [a3.1] at g2
            have fr1 := q6.tr ((g1.mono f78_f).mono flS_r)
            generalize mu4 = m2 at *
            show AW _ _ _ _ _ [] _
            exact bad m2 fr1 (by show (1 : Int) ≠ 0; decide) g2
      · have y59 := kbi.mp (show b01 (R.2.1.1 = 59) = 1 by omega)
        rw [if_neg (by omega), if_neg (fun z => z y59)] at q5
        --go
        refine aw_aload_n C dX6_readAll_27 rfl ?_
        refine aw_call C dX6_readAll_28 lX6_163 vX6_goOn (t_X6_goOn (hK.rd q6) a2 (a3.nx (by omega)) li.2.2.1 l5 a4) rfl rfl rfl ⟨rfl, by decide⟩ rfl ⟨by decide, by decide⟩ (Nat.le_of_ble_eq_true rfl) (fun r5 mu5 hq5 => ?_)
        obtain ⟨rfl, g1, g2, g3⟩ := hq5
        have g7 : mu5 55 7 = 0 := (g1 _ _ (by unfold goS; omega)).trans a2
        have eD2 := (pdM_fl (g1.mono goS_f)).trans a5
        have fr1 := q6.tr ((g1.mono goS_f).mono flS_r)
        generalize mu5 = m2 at *
        show AW _ _ _ _ _ [] _
        refine aw_aload_n C dX6_readAll_31 rfl ?_
        refine aw_callX C hX dX6_readAll_32 lX6_218 vX6_readLine (t_X6_readLine (hK.rd fr1) g7 g2 (tok_i li.2.2.1 l5) g3 eD2 (rb a1)) rfl rfl rfl rfl ⟨rfl, by decide⟩ rfl ⟨by decide, by decide⟩ (Nat.le_of_ble_eq_true rfl) (fun r6 mu6 hq6 => ?_)
        obtain ⟨rfl, f1, f2⟩ := hq6
        have fr2 := fr1.tr f1
        generalize mu6 = m3 at *
        show AW _ _ _ _ _ [] _
        refine aw_goto C dX6_readAll_35 (tgt := 18) (by decide) ?_
        exact ih (i + 1) R.2.1.2.2.2 R.2.2 m3 (by omega) (by omega) (by have := p59 a1 y59; omega) l5 q5 fr2 f2 (rb a1)
  refine aw_aload_n C dX6_readAll_0 rfl ?_
  refine aw_iconst C dX6_readAll_1 ?_
  refine aw_putI C dX6_readAll_2 fX6_180 ⟨rfl, by decide⟩ rfl rfl rfl ?_
  refine aw_aload_n C dX6_readAll_5 rfl ?_
  refine aw_iconst C dX6_readAll_6 ?_
  refine aw_putI C dX6_readAll_7 fX6_187 ⟨rfl, by decide⟩ rfl rfl rfl ?_
  have fr0 : frc rdM mu (wr (wr mu 55 21 0) 55 22 0) := (frc.rf.w (by unfold rdM; omega)).w (by unfold rdM; omega)
  have k55 : ∀ x, x ≠ 21 → x ≠ 22 → wr (wr mu 55 21 0) 55 22 0 55 x = mu 55 x := fun x x1 x2 => by rw [wr_at, if_neg (by omega), wr_at, if_neg (by omega)]
  have o7 := (k55 7 (by decide) (by decide)).trans h7
  have o6 := (k55 6 (by decide) (by decide)).trans h6
  have onb : nbM (wr (wr mu 55 21 0) 55 22 0) := by unfold nbM; rw [k55 12 (by decide) (by decide), k55 9 (by decide) (by decide)]; exact hnb
  have oD : pdM (wr (wr mu 55 21 0) 55 22 0) = D0 := pdM_0 (by rw [wr_at, if_neg (by decide), wr_at, if_pos ⟨rfl, rfl⟩]) (by rw [wr_at, if_pos ⟨rfl, rfl⟩])
  generalize wr (wr mu 55 21 0) 55 22 0 = m1 at *
  refine aw_aload_n C dX6_readAll_10 rfl ?_
  refine aw_call C dX6_readAll_11 lX6_163 vX6_goOn (t_X6_goOn (hK.rd fr0) o7 o6 (by omega) hn.1 onb) rfl rfl rfl ⟨rfl, by decide⟩ rfl ⟨by decide, by decide⟩ (Nat.le_of_ble_eq_true rfl) (fun r1 mu1 hq1 => ?_)
  obtain ⟨rfl, g1, g2, g3⟩ := hq1
  have g7 : mu1 55 7 = 0 := (g1 _ _ (by unfold goS; omega)).trans o7
  have eD2 := (pdM_fl (g1.mono goS_f)).trans oD
  have fr1 := fr0.tr ((g1.mono goS_f).mono flS_r)
  generalize mu1 = m2 at *
  show AW _ _ _ _ _ [] _
  refine aw_aload_n C dX6_readAll_14 rfl ?_
  refine aw_callX C hX dX6_readAll_15 lX6_218 vX6_readLine (t_X6_readLine (hK.rd fr1) g7 g2 (tok_i (by omega) hn.1) g3 eD2 bD0) rfl rfl rfl rfl ⟨rfl, by decide⟩ rfl ⟨by decide, by decide⟩ (Nat.le_of_ble_eq_true rfl) (fun r2 mu2 hq2 => ?_)
  obtain ⟨rfl, f1, f2⟩ := hq2
  have fr2 := fr1.tr f1
  generalize mu2 = m3 at *
  show AW _ _ _ _ _ [] _
  exact loop 500 0 0 D0 m3 (by omega) (by omega) (by omega) hn.1 eP fr2 f2 bD0

/-! tokens go on -/
theorem tok_up {A : Nat → Int} {n p : Int} (h : p ≤ n) : p ≤ (tok A n p).2.2.2 := by have := tok_in (A := A) h; omega
theorem tok_59 {A : Nat → Int} {n p : Int} (h : p ≤ n) (h2 : (tok A n p).1 = 59) : p + 1 ≤ (tok A n p).2.2.2 := by
  have h1 := sc_in (A := A) (P := bl) h
  unfold tok at h2 ⊢
  split
  · rename_i w; rw [if_pos w] at h2; exact absurd (show (0 : Int) = 59 from h2) (by decide)
  · rename_i w; rw [if_neg w] at h2
    split
    · rename_i w; rw [if_pos w] at h2
      split at h2
      · exact absurd (show (1 : Int) = 59 from h2) (by decide)
      · exact absurd (show (3 : Int) = 59 from h2) (by decide)
    · rename_i w; rw [if_neg w] at h2
      split
      · rename_i w; rw [if_pos w] at h2
        split at h2
        · exact absurd (show (2 : Int) = 59 from h2) (by decide)
        · exact absurd (show (3 : Int) = 59 from h2) (by decide)
      · rename_i w; rw [if_neg w] at h2
        split
        · show p + 1 ≤ sc A bl n p + 1; omega
        · rename_i w; rw [if_neg w] at h2; exact absurd (show (3 : Int) = 59 from h2) (by decide)
theorem fI1_up {A : Nat → Int} {n : Int} {t : TK} (h : tI n t) : t.2.2.2 ≤ (fI1 A n t).2.2.2 := by
  unfold fI1
  split
  · exact tok_up h.2.2.2.1
  · exact Int.le_refl _
theorem fPf_up {A : Nat → Int} {n : Int} {D : PD} {b : Nat} {t : TK} (i1 : tI n t) : t.2.2.2 ≤ (fPf A n D b t).2.2.2.2 := by
  have j0 := fI1_up (A := A) i1
  have j1 := fI1_i (A := A) i1
  have j2 : tI n (tok A n (fI1 A n t).2.2.2) := tok_i j1.2.2.1 j1.2.2.2.1
  have k2 := tok_up (A := A) j1.2.2.2.1
  have k3 := tok_up (A := A) j2.2.2.2.1
  have q3 : t.2.2.2 ≤ (tok A n (tok A n (fI1 A n t).2.2.2).2.2.2).2.2.2 := by omega
  unfold fPf
  split
  · exact j0
  · split
    · exact Int.le_trans j0 k2
    · split
      · exact q3
      · split <;> exact q3
theorem pPt_i {A : Nat → Int} {n : Int} {D : PD} : ∀ (k b : Nat) (N : Nat → Int) (t : TK), tI n t → tI n (pPt A n D k b N t).2.1 ∧ ((pPt A n D k b N t).1 = 0 → ∃ q, t.2.2.2 ≤ q ∧ q ≤ n ∧ (pPt A n D k b N t).2.1 = tok A n q)
  | 0, b, N, t, h => ⟨h, fun w => absurd (show (1 : Int) = 0 from w) (by decide)⟩
  | k + 1, b, N, t, hi => by
    have i1 : tI n (tok A n t.2.2.2) := tok_i hi.2.2.1 hi.2.2.2.1
    have e : pPt A n D (k + 1) b N t = (if (fPf A n D b (tok A n t.2.2.2)).1 ≠ 0 then ((fPf A n D b (tok A n t.2.2.2)).1, (fPf A n D b (tok A n t.2.2.2)).2, N)
      else if (tok A n (fPf A n D b (tok A n t.2.2.2)).2.2.2.2).1 = 44 then pPt A n D k (b ||| 2 ^ (rNm D (fPf A n D b (tok A n t.2.2.2)).2.2.1).toNat) (put N (rNm D (fPf A n D b (tok A n t.2.2.2)).2.2.1) (fIv A n (tok A n t.2.2.2))) (tok A n (fPf A n D b (tok A n t.2.2.2)).2.2.2.2)
      else (0, tok A n (fPf A n D b (tok A n t.2.2.2)).2.2.2.2, put N (rNm D (fPf A n D b (tok A n t.2.2.2)).2.2.1) (fIv A n (tok A n t.2.2.2)))) := rfl
    rw [e]
    have i2 : tI n (fPf A n D b (tok A n t.2.2.2)).2 := fPf_i i1
    have u1 := tok_up (A := A) hi.2.2.2.1
    have u2 := fPf_up (A := A) (D := D) (b := b) i1
    have u3 := tok_up (A := A) i2.2.2.2.1
    have i3 : tI n (tok A n (fPf A n D b (tok A n t.2.2.2)).2.2.2.2) := tok_i i2.2.2.1 i2.2.2.2.1
    by_cases c1 : (fPf A n D b (tok A n t.2.2.2)).1 ≠ 0
    · rw [if_pos c1]; exact ⟨i2, fun w => absurd w c1⟩
    · rw [if_neg c1]
      by_cases c2 : (tok A n (fPf A n D b (tok A n t.2.2.2)).2.2.2.2).1 = 44
      · rw [if_pos c2]
        obtain ⟨a, b2⟩ := pPt_i (A := A) (D := D) k (b ||| 2 ^ (rNm D (fPf A n D b (tok A n t.2.2.2)).2.2.1).toNat) (put N (rNm D (fPf A n D b (tok A n t.2.2.2)).2.2.1) (fIv A n (tok A n t.2.2.2))) _ i3
        exact ⟨a, fun w => by obtain ⟨q, z1, z2, z3⟩ := b2 w; exact ⟨q, by omega, z2, z3⟩⟩
      · rw [if_neg c2]
        exact ⟨i3, fun _ => ⟨(fPf A n D b (tok A n t.2.2.2)).2.2.2.2, by omega, i2.2.2.2.1, rfl⟩⟩
theorem rRy_i {A : Nat → Int} {n : Int} {D : PD} {t : TK} (hi : tI n t) : tI n (rRy A n D t).2.1 ∧ ((rRy A n D t).1 = 0 → ∃ q, t.2.2.2 ≤ q ∧ q ≤ n ∧ (rRy A n D t).2.1 = tok A n q) := by
  unfold rRy rR1 rR2 rR3 rR4
  have i1 : tI n (tok A n t.2.2.2) := tok_i hi.2.2.1 hi.2.2.2.1
  have u1 := tok_up (A := A) hi.2.2.2.1
  generalize ht1 : tok A n t.2.2.2 = t1 at *
  have i2 : tI n (tok A n t1.2.2.2) := tok_i i1.2.2.1 i1.2.2.2.1
  have u2 := tok_up (A := A) i1.2.2.2.1
  generalize ht2 : tok A n t1.2.2.2 = t2 at *
  have i3 : tI n (tok A n t2.2.2.2) := tok_i i2.2.2.1 i2.2.2.2.1
  have u3 := tok_up (A := A) i2.2.2.2.1
  generalize ht3 : tok A n t2.2.2.2 = t3 at *
  have i4 : tI n (fI1 A n t3) := fI1_i i3
  have u4 := fI1_up (A := A) i3
  generalize ht4 : fI1 A n t3 = t4 at *
  have i5 : tI n (tok A n t4.2.2.2) := tok_i i4.2.2.1 i4.2.2.2.1
  have u5 := tok_up (A := A) i4.2.2.2.1
  generalize ht5 : tok A n t4.2.2.2 = t5 at *
  have i6 : tI n (fI1 A n t5) := fI1_i i5
  have u6 := fI1_up (A := A) i5
  generalize ht6 : fI1 A n t5 = t6 at *
  have i7 : tI n (tok A n t6.2.2.2) := tok_i i6.2.2.1 i6.2.2.2.1
  split
  · exact ⟨hi, fun w => absurd (show (4 : Int) = 0 from w) (by decide)⟩
  · split
    · rename_i w1; exact ⟨i1, fun w => absurd w w1⟩
    · split
      · exact ⟨i2, fun w => absurd (show (1 : Int) = 0 from w) (by decide)⟩
      · split
        · rename_i w1; exact ⟨i4, fun w => absurd w w1⟩
        · split
          · rename_i w1; exact ⟨i6, fun w => absurd w w1⟩
          · split
            · exact ⟨i6, fun w => absurd (show (2 : Int) = 0 from w) (by decide)⟩
            · exact ⟨i7, fun _ => ⟨t6.2.2.2, by omega, i6.2.2.2.1, rfl⟩⟩
theorem rL_i {A : Nat → Int} {n : Int} {D : PD} {t : TK} (hi : tI n t) : tI n (rL A n D t).2.1 ∧ ((rL A n D t).1 = 0 → ∃ q, t.2.2.2 ≤ q ∧ q ≤ n ∧ (rL A n D t).2.1 = tok A n q) := by
  unfold rL rL1
  have i1 : tI n (tok A n t.2.2.2) := tok_i hi.2.2.1 hi.2.2.2.1
  have u1 := tok_up (A := A) hi.2.2.2.1
  split
  · exact ⟨hi, fun w => absurd (show (4 : Int) = 0 from w) (by decide)⟩
  · split
    · rename_i w1; exact ⟨i1, fun w => absurd w w1⟩
    · obtain ⟨a, b2⟩ := pPt_i (A := A) (D := D) 13 0 (fun _ => 0) _ i1
      exact ⟨a, fun w => by obtain ⟨q, z1, z2, z3⟩ := b2 w; exact ⟨q, by omega, z2, z3⟩⟩
theorem rLn_i {A : Nat → Int} {n : Int} {D : PD} {t : TK} (hi : tI n t) : tI n (rLn A n D t).2.1 ∧ ((rLn A n D t).1 = 0 → ∃ q, t.2.2.2 ≤ q ∧ q ≤ n ∧ (rLn A n D t).2.1 = tok A n q) := by
  unfold rLn
  split
  · exact ⟨hi, fun w => absurd (show (1 : Int) = 0 from w) (by decide)⟩
  · split
    · exact rRy_i hi
    · split
      · exact rL_i hi
      · exact ⟨hi, fun w => absurd (show (1 : Int) = 0 from w) (by decide)⟩
theorem rLn_59 {A : Nat → Int} {n p : Int} {D : PD} (h : 0 ≤ p ∧ p ≤ n) (h0 : (rLn A n D (tok A n p)).1 = 0) (h1 : (rLn A n D (tok A n p)).2.1.1 = 59) : p + 1 ≤ (rLn A n D (tok A n p)).2.1.2.2.2 := by
  obtain ⟨q, z1, z2, z3⟩ := (rLn_i (A := A) (D := D) (tok_i (A := A) h.1 h.2)).2 h0
  have := tok_up (A := A) h.2
  rw [z3] at h1 ⊢
  have := tok_59 z2 h1
  omega
theorem k04_0 : (0 : Int) ≤ 0 ∧ (0 : Int) ≤ 4 := by decide
theorem k04_1 : (0 : Int) ≤ 1 ∧ (1 : Int) ≤ 4 := by decide
theorem k04_2 : (0 : Int) ≤ 2 ∧ (2 : Int) ≤ 4 := by decide
theorem k04_3 : (0 : Int) ≤ 3 ∧ (3 : Int) ≤ 4 := by decide
theorem k04_4 : (0 : Int) ≤ 4 ∧ (4 : Int) ≤ 4 := by decide
theorem rLn_f {A : Nat → Int} {n : Int} {D : PD} {t : TK} : 0 ≤ (rLn A n D t).1 ∧ (rLn A n D t).1 ≤ 4 := by
  have p : ∀ (k b : Nat) (N : Nat → Int) (t : TK), 0 ≤ (pPt A n D k b N t).1 ∧ (pPt A n D k b N t).1 ≤ 4 := by
    intro k
    induction k with
    | zero => intro b N t; first | exact k04_1 | exact k04_0 | exact k04_2 | exact k04_3 | exact k04_4
    | succ k ih =>
      intro b N t
      have e : pPt A n D (k + 1) b N t = (if (fPf A n D b (tok A n t.2.2.2)).1 ≠ 0 then ((fPf A n D b (tok A n t.2.2.2)).1, (fPf A n D b (tok A n t.2.2.2)).2, N)
        else if (tok A n (fPf A n D b (tok A n t.2.2.2)).2.2.2.2).1 = 44 then pPt A n D k (b ||| 2 ^ (rNm D (fPf A n D b (tok A n t.2.2.2)).2.2.1).toNat) (put N (rNm D (fPf A n D b (tok A n t.2.2.2)).2.2.1) (fIv A n (tok A n t.2.2.2))) (tok A n (fPf A n D b (tok A n t.2.2.2)).2.2.2.2)
        else (0, tok A n (fPf A n D b (tok A n t.2.2.2)).2.2.2.2, put N (rNm D (fPf A n D b (tok A n t.2.2.2)).2.2.1) (fIv A n (tok A n t.2.2.2)))) := rfl
      rw [e]
      split
      · have := fIf_012 A n 20 (tok A n t.2.2.2)
        show 0 ≤ (fPf A n D b (tok A n t.2.2.2)).1 ∧ (fPf A n D b (tok A n t.2.2.2)).1 ≤ 4
        unfold fPf
        split
        · show 0 ≤ fIf A n 20 _ ∧ fIf A n 20 _ ≤ 4; omega
        · split
          · first | exact k04_1 | exact k04_0 | exact k04_2 | exact k04_3 | exact k04_4
          · split
            · first | exact k04_1 | exact k04_0 | exact k04_2 | exact k04_3 | exact k04_4
            · split <;> first | exact k04_1 | exact k04_0 | exact k04_2 | exact k04_3 | exact k04_4
      · split
        · exact ih _ _ _
        · first | exact k04_1 | exact k04_0 | exact k04_2 | exact k04_3 | exact k04_4
  have f : ∀ s, 0 ≤ fNew D s ∧ fNew D s ≤ 4 := fun s => by unfold fNew; split; omega; split <;> omega
  unfold rLn
  split
  · first | exact k04_1 | exact k04_0 | exact k04_2 | exact k04_3 | exact k04_4
  · split
    · unfold rRy rR1 rR2 rR3 rR4
      split
      · first | exact k04_1 | exact k04_0 | exact k04_2 | exact k04_3 | exact k04_4
      · split
        · exact f _
        · split
          · first | exact k04_1 | exact k04_0 | exact k04_2 | exact k04_3 | exact k04_4
          · split
            · have := fIf_012 A n 9 (tok A n (tok A n (tok A n t.2.2.2).2.2.2).2.2.2); show 0 ≤ fIf A n 9 _ ∧ fIf A n 9 _ ≤ 4; omega
            · split
              · have := fIf_012 A n 9 (tok A n (fI1 A n (tok A n (tok A n (tok A n t.2.2.2).2.2.2).2.2.2)).2.2.2); show 0 ≤ fIf A n 9 _ ∧ fIf A n 9 _ ≤ 4; omega
              · split <;> first | exact k04_1 | exact k04_0 | exact k04_2 | exact k04_3 | exact k04_4
    · split
      · unfold rL rL1
        split
        · first | exact k04_1 | exact k04_0 | exact k04_2 | exact k04_3 | exact k04_4
        · split
          · exact f _
          · exact p _ _ _ _
      · first | exact k04_1 | exact k04_0 | exact k04_2 | exact k04_3 | exact k04_4
theorem rRy_l {A : Nat → Int} {n : Int} {D : PD} {t : TK} (h : (rRy A n D t).1 = 0) : (rRy A n D t).2.2.2.1 = D.2.1 := by
  unfold rRy rR1 rR2 rR3 rR4
  split
  · rfl
  · split
    · rfl
    · split
      · rfl
      · split
        · rfl
        · split
          · rfl
          · split <;> rfl
def rdA : Nat → Nat → Prop := fun a b => (a = 1 ∧ (b = 5 ∨ b = 6 ∨ b = 7 ∨ b = 10 ∨ b = 11 ∨ b = 12 ∨ b = 13 ∨ b = 14)) ∨ a = 2 ∨ a = 3 ∨ a = 4 ∨ a = 5 ∨ a = 7
theorem rdS_A : ∀ a b, rdS a b → rdA a b := fun a b h => by unfold rdS at h; unfold rdA; omega
def D0 : PD := (0, 0, fun _ => 0, fun _ => 0, fun _ => 0, fun _ => 0, fun _ _ => 0)
theorem bD0 : bD D0 := ⟨show (0 : Int) ≤ 0 ∧ (0 : Int) ≤ 12 by decide, show (0 : Int) ≤ 0 ∧ (0 : Int) ≤ 6 by decide, fun _ => show -9 ≤ (0 : Int) ∧ (0 : Int) ≤ 9 by decide, fun _ => show -9 ≤ (0 : Int) ∧ (0 : Int) ≤ 9 by decide, fun _ => show (0 : Int) ≤ 0 ∧ (0 : Int) < 1073741824 by decide, fun _ => show (0 : Int) ≤ 0 ∧ (0 : Int) < 1073741824 by decide, fun _ _ => show -20 ≤ (0 : Int) ∧ (0 : Int) ≤ 20 by decide⟩
theorem pdC_0 {m : Mem} (h1 : m 1 6 = 0) (h2 : m 1 7 = 0) : pdC m = D0 := by
  unfold pdC D0
  rw [h1, h2]
  have q : ∀ A : Nat → Int, cut1 0 A = fun _ => 0 := fun A => funext fun j => by unfold cut1; rw [if_neg (by omega)]
  have q2 : ∀ A : Nat → Nat → Int, cut2 0 12 A = fun _ _ => 0 := fun A => funext fun j => funext fun r => by unfold cut2; rw [if_neg (by omega)]
  rw [q, q, q, q, q2]
theorem t_X3_read {mu : Mem} {n : Int} (hn : 0 ≤ n ∧ n ≤ 500) (hb : ∀ j : Nat, (j : Int) < n → -128 ≤ mu 6 j ∧ mu 6 j ≤ 127) : Tr 5 mX3_read [vr 1, vi n] mu (fun r m2 => r = some (vi (pAl (mu 6) n 501 0 D0).1) ∧ frc rdA mu m2 ∧ m2 1 5 = (pAl (mu 6) n 501 0 D0).2.1.2.2.1 ∧ (0 ≤ (pAl (mu 6) n 501 0 D0).1 ∧ (pAl (mu 6) n 501 0 D0).1 ≤ 4) ∧ (0 ≤ m2 1 5 ∧ m2 1 5 ≤ 500) ∧ ((pAl (mu 6) n 501 0 D0).1 = 0 → pdC m2 = (pAl (mu 6) n 501 0 D0).2.2 ∧ bD (pdC m2))) := by
  refine Tr.of (by decide +kernel) (Nat.le_of_ble_eq_true rfl) (fun K C E => ?_)
  generalize hA : mu 6 = A at *
  have loop : ∀ (k : Nat) (i p : Int) (m : Mem) (D : PD) (v3 : Vv), i + k = 501 → 0 ≤ i → i ≤ p → p ≤ n → pAl A n k p D = pAl A n 501 0 D0 → frc rdA mu m → tOk m n → m 1 11 = p → pdC m = D → bD D → zrw m (m 1 7) → AW K mX3_read (NC, 0, 0) 54 [vr 1, vi n, vi i, v3] [] m := by
    intro k
    induction k with
    | zero => intro i p m D v3 q1 q2 q3 q4; omega
    | succ k ih =>
      intro i p m D v3 q1 q2 q3 q4 q5 q6 q7 q8 q9 q10 q11
      have e : pAl A n (k + 1) p D = (if (rLn A n D (tok A n p)).1 ≠ 0 then rLn A n D (tok A n p)
        else if (rLn A n D (tok A n p)).2.1.1 = 0 then rLn A n D (tok A n p)
        else if (rLn A n D (tok A n p)).2.1.1 ≠ 59 then (1, (rLn A n D (tok A n p)).2.1, (rLn A n D (tok A n p)).2.2)
        else pAl A n k (rLn A n D (tok A n p)).2.1.2.2.2 (rLn A n D (tok A n p)).2.2) := rfl
      have p59 := rLn_59 (A := A) (n := n) (p := p) (D := D) ⟨by omega, q4⟩
      have i1 : tI n (tok A n p) := tok_i (by omega) q4
      have li := (rLn_i (A := A) (D := D) i1).1
      have lf := rLn_f (A := A) (n := n) (D := D) (t := tok A n p)
      rw [e] at q5
      generalize ht : tok A n p = t at *
      obtain ⟨R, hR⟩ : ∃ R, R = rLn A n D t := ⟨_, rfl⟩
      rw [← hR] at q5 p59 li lf
      have mA : m 6 = A := (funext fun j => q6 6 j (by unfold rdA; omega)).trans hA
      have g : ∀ (m2 : Mem) (v3 : Vv), frc rdA mu m2 → tOk m2 n → TSt m2 R.2.1 → (R.1 = 0 → pdC m2 = R.2.2 ∧ zrw m2 (m2 1 7) ∧ bD (pdC m2)) → AW K mX3_read (NC, 0, 0) 111 [vr 1, vi n, vi i, v3] [vi R.1] m2 := by
        intro m2 v3 g1 g2 g3 g4
        have kk := li.1.1
        have pp : 0 ≤ R.2.1.2.2.1 ∧ R.2.1.2.2.1 ≤ 500 := ⟨li.2.1, by have := li.2.2.2.2; omega⟩
        refine aw_istore_n C dX3_read_111 (by decide) ?_
        refine aw_iload_n C dX3_read_112 rfl ?_
        refine aw_if_eq C dX3_read_113 (tgt := 118) (by decide) ⟨by omega, by omega⟩ (fun c1 => ?_) (fun c1 => ?_)
        · rw [if_neg (fun w => w c1)] at q5
          obtain ⟨g5, g6, g7⟩ := g4 c1
          --go
          refine aw_aload_n C dX3_read_118 rfl ?_
          refine aw_getI C dX3_read_119 fX3_62 ⟨rfl, by decide⟩ rfl ?_
          rw [g3.1]
          refine aw_if_ne C dX3_read_122 (tgt := 127) (by decide) ⟨by omega, by omega⟩ (fun c2 => ?_) (fun c2 => ?_)
          · rw [if_neg c2] at q5
            --go
            refine aw_aload_n C dX3_read_127 rfl ?_
            refine aw_getI C dX3_read_128 fX3_62 ⟨rfl, by decide⟩ rfl ?_
            rw [g3.1]
            refine aw_bipush C dX3_read_131 rfl ?_
            refine aw_icmp_eq C dX3_read_133 (tgt := 138) (by decide) ⟨by omega, by omega⟩ ⟨by omega, by omega⟩ (fun c3 => ?_) (fun c3 => ?_)
            · rw [if_neg (fun w => w c3)] at q5
              --go
              refine aw_iinc C dX3_read_138 rfl ?_
              refine aw_goto C dX3_read_141 (tgt := 54) (by decide) ?_
              exact ih (i + 1) _ m2 _ _ (by omega) (by omega) (show i + 1 ≤ R.2.1.2.2.2 by have := p59 c1 c3; omega) li.2.2.2.1 q5 g1 g2 g3.2.2.2 g5 (by rw [← g5]; exact g7) g6
            · rw [if_pos c3] at q5
              rw [← q5] at E
              --go
              refine aw_iconst C dX3_read_136 ?_
              exact aw_iret C E dX3_read_137 rfl ⟨rfl, g1, g3.2.2.1, k04_1, by rw [g3.2.2.1]; exact pp, fun w => absurd (show (1 : Int) = 0 from w) (by decide)⟩
          · rw [if_pos c2] at q5
            rw [← q5] at E
            --go
            refine aw_iconst C dX3_read_125 ?_
            exact aw_iret C E dX3_read_126 rfl ⟨by rw [c1], g1, g3.2.2.1, lf, by rw [g3.2.2.1]; exact pp, fun w => ⟨g5, g7⟩⟩
        · rw [if_pos c1] at q5
          rw [← q5] at E
          --go
          refine aw_iload_n C dX3_read_116 rfl ?_
          exact aw_iret C E dX3_read_117 rfl ⟨rfl, g1, g3.2.2.1, lf, by rw [g3.2.2.1]; exact pp, fun w => absurd w c1⟩
      refine aw_iload_n C dX3_read_54 rfl ?_
      refine aw_sipush C dX3_read_55 rfl ?_
      refine aw_icmp_gt C dX3_read_58 (tgt := 144) (by decide) ⟨by omega, by omega⟩ ⟨by omega, by omega⟩ (fun c1 => ?_) (fun c1 => ?_)
      · exfalso; omega
      · refine aw_aload_n C dX3_read_61 rfl ?_
        refine aw_call C dX3_read_62 lX3_59 vX3_take (t_X3_take q7 q8 (by omega) q4) rfl rfl rfl ⟨rfl, by decide⟩ rfl ⟨by decide, by decide⟩ (Nat.le_of_ble_eq_true rfl) (fun r2 mu2 hq2 => ?_)
        obtain ⟨rfl, u1, u2⟩ := hq2
        rw [mA, ht] at u2
        have v1 := (q7.fr u1).1
        have v1A : mu2 6 = A := (q7.fr u1).2.trans mA
        have f1 : frc tpS2 m mu2 := u1.mono tpS_2
        have d1 : pdC mu2 = D := (pdC_fr f1).trans q9
        have z1 : zrw mu2 (mu2 1 7) := by
          rw [f1 1 7 (by unfold tpS2; omega)]
          unfold zrw
          rw [show mu2 5 = m 5 from funext fun j => f1 5 j (by unfold tpS2; omega)]
          exact q11
        have F : frc rdA mu mu2 := q6.tr ((f1.mono tpS2_r).mono rdS_A)
        generalize mu2 = M at *
        have k1 := u2.1
        have k2 := i1.1.1
        show AW _ _ _ _ _ [] _
        refine aw_aload_n C dX3_read_65 rfl ?_
        refine aw_getI C dX3_read_66 fX3_62 ⟨rfl, by decide⟩ rfl ?_
        rw [k1]
        refine aw_iconst C dX3_read_69 ?_
        refine aw_icmp_eq C dX3_read_70 (tgt := 77) (by decide) ⟨by omega, by omega⟩ ⟨by omega, by omega⟩ (fun c1 => ?_) (fun c1 => ?_)
        · have k3 := i1.1.2.1 c1
          --go
          refine aw_aload_n C dX3_read_77 rfl ?_
          refine aw_getI C dX3_read_78 fX3_65 ⟨rfl, by decide⟩ rfl ?_
          rw [u2.2.1 (Or.inl c1)]
          refine aw_sipush C dX3_read_81 rfl ?_
          refine aw_icmp_ne C dX3_read_84 (tgt := 94) (by decide) ⟨by omega, by omega⟩ ⟨by omega, by omega⟩ (fun c2 => ?_) (fun c2 => ?_)
          · refine aw_aload_n C dX3_read_94 rfl ?_
            refine aw_getI C dX3_read_95 fX3_65 ⟨rfl, by decide⟩ rfl ?_
            rw [u2.2.1 (Or.inl c1)]
            refine aw_ldc C dX3_read_98 kX3_72 (z := 408612) (by decide +kernel) ?_
            refine aw_icmp_ne C dX3_read_100 (tgt := 110) (by decide) ⟨by omega, by omega⟩ ⟨by omega, by omega⟩ (fun c3 => ?_) (fun c3 => ?_)
            · refine aw_iconst C dX3_read_110 ?_
              first
              | exact gg _
              | have rr : ((1 : Int), t, D) = R := by
                  rw [hR]; unfold rLn
                  first
                  | rw [if_pos c1]
                  | rw [if_neg (fun w => w c1), if_neg c2, if_neg c3]
                have z : ∀ v, AW K mX3_read (NC, 0, 0) 111 [vr 1, vi n, vi i, v] [vi 1] M := fun v => by
                  have z := g M v F v1 (by rw [← rr]; exact u2) (fun w => absurd (show (1 : Int) = 0 by rw [← rr] at w; exact w) (by decide))
                  rw [← rr] at z
                  exact z
                exact z _
            · refine aw_aload_n C dX3_read_103 rfl ?_
              refine aw_call C dX3_read_104 lX3_73 vX3_readLoad (t_X3_readLoad v1 (by rw [d1]; exact q10) z1 u2 i1) rfl rfl rfl ⟨rfl, by decide⟩ rfl ⟨by decide, by decide⟩ (Nat.le_of_ble_eq_true rfl) (fun r3 mu3 hq3 => ?_)
              obtain ⟨rfl, x1, x2, x3⟩ := hq3
              rw [v1A, d1] at x2 x3
              rw [v1A, d1]
              have rr : rL A n D t = R := by rw [hR]; unfold rLn; rw [if_neg (fun w => w c1), if_neg c2, if_pos c3]
              rw [rr] at x2 x3
              rw [rr]
              have gg := fun v => g mu3 v (F.tr (x1.mono rdS_A)) (v1.frr x1).1 x2 x3
              show AW _ _ _ _ _ [vi R.1] _
              refine aw_goto C dX3_read_107 (tgt := 111) (by decide) ?_
              first
              | exact gg _
              | have rr : ((1 : Int), t, D) = R := by
                  rw [hR]; unfold rLn
                  first
                  | rw [if_pos c1]
                  | rw [if_neg (fun w => w c1), if_neg c2, if_neg c3]
                have z : ∀ v, AW K mX3_read (NC, 0, 0) 111 [vr 1, vi n, vi i, v] [vi 1] M := fun v => by
                  have z := g M v F v1 (by rw [← rr]; exact u2) (fun w => absurd (show (1 : Int) = 0 by rw [← rr] at w; exact w) (by decide))
                  rw [← rr] at z
                  exact z
                exact z _
          · refine aw_aload_n C dX3_read_87 rfl ?_
            refine aw_call C dX3_read_88 lX3_68 vX3_readRay (t_X3_readRay v1 (by rw [d1]; exact q10) u2 i1) rfl rfl rfl ⟨rfl, by decide⟩ rfl ⟨by decide, by decide⟩ (Nat.le_of_ble_eq_true rfl) (fun r4 mu4 hq4 => ?_)
            obtain ⟨rfl, x1, x2, x3⟩ := hq4
            rw [v1A, d1] at x2 x3
            rw [v1A, d1]
            have rr : rRy A n D t = R := by rw [hR]; unfold rLn; rw [if_neg (fun w => w c1), if_pos c2]
            rw [rr] at x2 x3
            rw [rr]
            have gg := fun v => g mu4 v (F.tr (x1.mono rdS_A)) (v1.frr x1).1 x2 (fun w => ⟨(x3 w).1, by rw [show mu4 1 7 = M 1 7 from (congrArg (fun z : PD => z.2.1) (x3 w).1).trans ((show R.2.2.2.1 = D.2.1 by rw [← rr]; exact rRy_l (by rw [rr]; exact w)).trans (congrArg (fun z : PD => z.2.1) d1.symm))]; unfold zrw; rw [(x3 w).2.1]; exact z1, (x3 w).2.2⟩)
            show AW _ _ _ _ _ [vi R.1] _
            refine aw_goto C dX3_read_91 (tgt := 111) (by decide) ?_
            first
            | exact gg _
            | have rr : ((1 : Int), t, D) = R := by
                rw [hR]; unfold rLn
                first
                | rw [if_pos c1]
                | rw [if_neg (fun w => w c1), if_neg c2, if_neg c3]
              have z : ∀ v, AW K mX3_read (NC, 0, 0) 111 [vr 1, vi n, vi i, v] [vi 1] M := fun v => by
                have z := g M v F v1 (by rw [← rr]; exact u2) (fun w => absurd (show (1 : Int) = 0 by rw [← rr] at w; exact w) (by decide))
                rw [← rr] at z
                exact z
              exact z _
        · refine aw_iconst C dX3_read_73 ?_
          refine aw_goto C dX3_read_74 (tgt := 111) (by decide) ?_
          first
          | exact gg _
          | have rr : ((1 : Int), t, D) = R := by
              rw [hR]; unfold rLn
              first
              | rw [if_pos c1]
              | rw [if_neg (fun w => w c1), if_neg c2, if_neg c3]
            have z : ∀ v, AW K mX3_read (NC, 0, 0) 111 [vr 1, vi n, vi i, v] [vi 1] M := fun v => by
              have z := g M v F v1 (by rw [← rr]; exact u2) (fun w => absurd (show (1 : Int) = 0 by rw [← rr] at w; exact w) (by decide))
              rw [← rr] at z
              exact z
            exact z _
  have zero : ∀ (k : Nat) (i : Int) (m : Mem) (v3 : Vv), i + k = 72 → 0 ≤ i → frc rdA mu m → m 1 10 = n → m 1 11 = 0 → m 1 6 = 0 → m 1 7 = 0 → (∀ j : Nat, (j : Int) < i → m 5 j = 0) → AW K mX3_read (NC, 0, 0) 30 [vr 1, vi n, vi i, v3] [] m := by
    intro k
    induction k with
    | zero =>
      intro i m v3 q1 q2 q3 q4 q5 q6 q7 q8
      have mA : m 6 = A := (funext fun j => q3 6 j (by unfold rdA; omega)).trans hA
      refine aw_iload_n C dX3_read_30 rfl ?_
      refine aw_aload_n C dX3_read_31 rfl ?_
      refine aw_getS C dX3_read_32 fX3_23 ⟨rfl, by decide⟩ rfl rfl (srf 1 3 5 (by decide)) ?_
      refine aw_alen C dX3_read_35 ⟨rfl, by decide⟩ (by decide) ?_
      refine aw_icmp_ge C dX3_read_36 (tgt := 52) (by decide) ⟨by omega, by omega⟩ ⟨by omega, by omega⟩ (fun c1 => ?_) (fun c1 => ?_)
      · refine aw_iconst C dX3_read_52 ?_
        refine aw_istore_n C dX3_read_53 (by decide) ?_
        exact loop 501 0 0 m D0 _ (by omega) (by omega) (by omega) (by omega) rfl q3 ⟨q4, hn.1, hn.2, by rw [mA]; exact hb⟩ q5 (pdC_0 q6 q7) bD0 (fun j _ hj => q8 j (by omega))
      · exfalso; omega
    | succ k ih =>
      intro i m v3 q1 q2 q3 q4 q5 q6 q7 q8
      refine aw_iload_n C dX3_read_30 rfl ?_
      refine aw_aload_n C dX3_read_31 rfl ?_
      refine aw_getS C dX3_read_32 fX3_23 ⟨rfl, by decide⟩ rfl rfl (srf 1 3 5 (by decide)) ?_
      refine aw_alen C dX3_read_35 ⟨rfl, by decide⟩ (by decide) ?_
      refine aw_icmp_ge C dX3_read_36 (tgt := 52) (by decide) ⟨by omega, by omega⟩ ⟨by omega, by omega⟩ (fun c1 => ?_) (fun c1 => ?_)
      · exfalso; omega
      · refine aw_aload_n C dX3_read_39 rfl ?_
        refine aw_getS C dX3_read_40 fX3_23 ⟨rfl, by decide⟩ rfl rfl (srf 1 3 5 (by decide)) ?_
        refine aw_iload_n C dX3_read_43 rfl ?_
        refine aw_iconst C dX3_read_44 ?_
        refine aw_iast C dX3_read_45 ⟨rfl, by decide⟩ (by decide) (by omega) (by omega) ?_
        refine aw_iinc C dX3_read_46 rfl ?_
        refine aw_goto C dX3_read_49 (tgt := 30) (by decide) ?_
        refine ih (i + 1) _ _ (by omega) (by omega) (q3.w (Or.inr (by omega))) ?_ ?_ ?_ ?_ (fun j hj => ?_)
        · rw [wr_ne (by omega)]; exact q4
        · rw [wr_ne (by omega)]; exact q5
        · rw [wr_ne (by omega)]; exact q6
        · rw [wr_ne (by omega)]; exact q7
        · rw [wr_at]
          by_cases w : (j : Int) = i
          · rw [if_pos ⟨rfl, by omega⟩]
          · rw [if_neg (by omega)]; exact q8 j (by omega)
  refine aw_aload_n C dX3_read_0 rfl ?_
  refine aw_iload_n C dX3_read_1 rfl ?_
  refine aw_aload_n C dX3_read_2 rfl ?_
  refine aw_getS C dX3_read_3 fX3_26 ⟨rfl, by decide⟩ rfl rfl (srf 1 8 6 (by decide)) ?_
  refine aw_alen C dX3_read_6 ⟨rfl, by decide⟩ (by decide) ?_
  refine aw_callS1 C dX3_read_7 lX3_41 vJ9_min_7cf53 (t_J9_min_7cf53 ⟨by omega, by omega⟩ ⟨by omega, by omega⟩) rfl rfl rfl ⟨by decide, by decide⟩ (Nat.le_of_ble_eq_true rfl) ?_
  rw [show min n ((500 : Nat) : Int) = n by omega]
  refine aw_putI C dX3_read_10 fX3_47 ⟨rfl, by decide⟩ rfl rfl rfl ?_
  refine aw_aload_n C dX3_read_13 rfl ?_
  refine aw_iconst C dX3_read_14 ?_
  refine aw_putI C dX3_read_15 fX3_50 ⟨rfl, by decide⟩ rfl rfl rfl ?_
  refine aw_aload_n C dX3_read_18 rfl ?_
  refine aw_iconst C dX3_read_19 ?_
  refine aw_putI C dX3_read_20 fX3_53 ⟨rfl, by decide⟩ rfl rfl rfl ?_
  refine aw_aload_n C dX3_read_23 rfl ?_
  refine aw_iconst C dX3_read_24 ?_
  refine aw_putI C dX3_read_25 fX3_56 ⟨rfl, by decide⟩ rfl rfl rfl ?_
  refine aw_iconst C dX3_read_28 ?_
  refine aw_istore_n C dX3_read_29 (by decide) ?_
  refine zero 72 0 _ _ (by omega) (by omega) ((((frc.rf.w (Or.inl ⟨rfl, by omega⟩)).w (Or.inl ⟨rfl, by omega⟩)).w (Or.inl ⟨rfl, by omega⟩)).w (Or.inl ⟨rfl, by omega⟩)) ?_ ?_ ?_ ?_ (fun j hj => by omega)
  · rw [wr_at, if_neg (by omega), wr_at, if_neg (by omega), wr_at, if_neg (by omega), wr_at, if_pos ⟨rfl, rfl⟩]
  · rw [wr_at, if_neg (by omega), wr_at, if_neg (by omega), wr_at, if_pos ⟨rfl, rfl⟩]
  · rw [wr_at, if_neg (by omega), wr_at, if_pos ⟨rfl, rfl⟩]
  · rw [wr_at, if_pos ⟨rfl, rfl⟩]

/-! one INT -/
def fI1 (A : Nat → Int) (n : Int) (t : TK) : TK := if t.1 = 45 then tok A n t.2.2.2 else t
def fIf (A : Nat → Int) (n most : Int) (t : TK) : Int := if (fI1 A n t).1 ≠ 2 then 1 else if (fI1 A n t).2.1 > most then 2 else 0
def fIv (A : Nat → Int) (n : Int) (t : TK) : Int := if t.1 = 45 then -(fI1 A n t).2.1 else (fI1 A n t).2.1
def tpS2 : Nat → Nat → Prop := fun a b => a = 1 ∧ (b = 5 ∨ b = 11 ∨ b = 12 ∨ b = 13 ∨ b = 14)
theorem tpS_2 : ∀ a b, tpS a b → tpS2 a b := fun a b h => ⟨h.1, by have := h.2; omega⟩
theorem tOk.fr2 {mu m : Mem} {n : Int} (h : tOk mu n) (hf : frc tpS2 mu m) : tOk m n ∧ m 6 = mu 6 := by
  have e : m 6 = mu 6 := funext fun j => hf 6 j (by unfold tpS2; omega)
  exact ⟨⟨by rw [hf 1 10 (by unfold tpS2; omega)]; exact h.1, h.2.1, h.2.2.1, fun j hj => by rw [e]; exact h.2.2.2 j hj⟩, e⟩
theorem TSt.w {m : Mem} {t : TK} {v : Int} (h : TSt m t) : TSt (wr m 1 14 v) t := by
  obtain ⟨a, b, c, d⟩ := h
  refine ⟨?_, fun q => ?_, ?_, ?_⟩
  · rw [wr_at, if_neg (by omega)]; exact a
  · rw [wr_at, if_neg (by omega)]; exact b q
  · rw [wr_at, if_neg (by omega)]; exact c
  · rw [wr_at, if_neg (by omega)]; exact d
/-- a token that stands in the text -/
def tI (n : Int) (t : TK) : Prop := tB t ∧ 0 ≤ t.2.2.1 ∧ 0 ≤ t.2.2.2 ∧ t.2.2.2 ≤ n ∧ t.2.2.1 ≤ n
theorem tok_i {A : Nat → Int} {n p : Int} (h0 : 0 ≤ p) (h : p ≤ n) : tI n (tok A n p) := by
  have := tok_in (A := A) h
  exact ⟨tok_b h, by omega, by omega, by omega, by omega⟩
theorem fI1_i {A : Nat → Int} {n : Int} {t : TK} (h : tI n t) : tI n (fI1 A n t) := by
  unfold fI1
  split
  · exact tok_i h.2.2.1 h.2.2.2.1
  · exact h
theorem t_X3_faultOfInt {mu : Mem} {n most : Int} {t : TK} (h : tOk mu n) (ht : TSt mu t) (hi : tI n t) (hm : R32 most) : Tr 2 mX3_faultOfInt [vr 1, vi most] mu (fun r m2 => r = some (vi (fIf (mu 6) n most t)) ∧ frc tpS2 mu m2 ∧ TSt m2 (fI1 (mu 6) n t) ∧ (fIf (mu 6) n most t ≠ 1 → m2 1 14 = fIv (mu 6) n t)) := by
  refine Tr.of (by decide +kernel) (Nat.le_of_ble_eq_true rfl) (fun K C E => ?_)
  have hb := hi.1.1
  have fin : ∀ (z : Int) (m : Mem) (t1 : TK), (z = 1 ∧ t.1 = 45) ∨ (z = 0 ∧ t.1 ≠ 45) → fI1 (mu 6) n t = t1 → TSt m t1 → tI n t1 → frc tpS2 mu m → AW K mX3_faultOfInt (NC, 0, 0) 23 [vr 1, vi most, vi z] [] m := by
    intro z m t1 hz e1 q1 q2 q3
    unfold fIf fIv at E
    rw [e1] at E
    obtain ⟨a1, a2, a3, a4⟩ := q1
    obtain ⟨⟨b1, b2, b3⟩, -⟩ := q2
    by_cases h2 : t1.1 = 2
    · have e := a2 (Or.inr h2)
      have b := b3 h2
      rw [if_neg (fun w => w h2)] at E
      have k1 : ∀ v, wr m 1 14 v 1 13 = t1.2.1 := fun v => by rw [wr_at, if_neg (by omega)]; exact e
      refine aw_aload_n C dX3_faultOfInt_23 rfl ?_
      refine aw_getI C dX3_faultOfInt_24 fX3_62 ⟨rfl, by decide⟩ rfl ?_
      rw [a1]
      refine aw_iconst C dX3_faultOfInt_27 ?_
      refine aw_icmp_eq C dX3_faultOfInt_28 (tgt := 33) (by decide) ⟨by omega, by omega⟩ ⟨by omega, by omega⟩ (fun c1 => ?_) (fun c1 => ?_)
      · refine aw_aload_n C dX3_faultOfInt_33 rfl ?_
        refine aw_iload_n C dX3_faultOfInt_34 rfl ?_
        refine aw_if_eq C dX3_faultOfInt_35 (tgt := 46) (by decide) ⟨by omega, by omega⟩ (fun c2 => ?_) (fun c2 => ?_)
        · rw [if_neg (show ¬ t.1 = 45 by omega)] at E
          --go
          refine aw_aload_n C dX3_faultOfInt_46 rfl ?_
          refine aw_getI C dX3_faultOfInt_47 fX3_65 ⟨rfl, by decide⟩ rfl ?_
          try rw [e]
          refine aw_putI C dX3_faultOfInt_50 fX3_85 ⟨rfl, by decide⟩ rfl rfl rfl ?_
          refine aw_aload_n C dX3_faultOfInt_53 rfl ?_
          refine aw_getI C dX3_faultOfInt_54 fX3_65 ⟨rfl, by decide⟩ rfl ?_
          rw [k1]
          refine aw_iload_n C dX3_faultOfInt_57 rfl ?_
          refine aw_icmp_le C dX3_faultOfInt_58 (tgt := 65) (by decide) ⟨by omega, by omega⟩ ⟨by omega, by omega⟩ (fun c3 => ?_) (fun c3 => ?_)
          · refine aw_iconst C dX3_faultOfInt_65 ?_
            exact aw_iret C E dX3_faultOfInt_66 rfl ⟨by first | rw [if_pos (by omega)] | rw [if_neg (by omega)], q3.w ⟨rfl, by omega⟩, TSt.w ⟨a1, a2, a3, a4⟩, fun _ => by rw [wr_at, if_pos ⟨rfl, rfl⟩]⟩
          · refine aw_iconst C dX3_faultOfInt_61 ?_
            refine aw_goto C dX3_faultOfInt_62 (tgt := 66) (by decide) ?_
            exact aw_iret C E dX3_faultOfInt_66 rfl ⟨by first | rw [if_pos (by omega)] | rw [if_neg (by omega)], q3.w ⟨rfl, by omega⟩, TSt.w ⟨a1, a2, a3, a4⟩, fun _ => by rw [wr_at, if_pos ⟨rfl, rfl⟩]⟩
        · rw [if_pos (show t.1 = 45 by omega)] at E
          --go
          refine aw_aload_n C dX3_faultOfInt_38 rfl ?_
          refine aw_getI C dX3_faultOfInt_39 fX3_65 ⟨rfl, by decide⟩ rfl ?_
          rw [e]
          refine aw_ineg C dX3_faultOfInt_42 ?_
          refine aw_goto C dX3_faultOfInt_43 (tgt := 50) (by decide) ?_
          try rw [e]
          refine aw_putI C dX3_faultOfInt_50 fX3_85 ⟨rfl, by decide⟩ rfl rfl rfl ?_
          refine aw_aload_n C dX3_faultOfInt_53 rfl ?_
          refine aw_getI C dX3_faultOfInt_54 fX3_65 ⟨rfl, by decide⟩ rfl ?_
          rw [k1]
          refine aw_iload_n C dX3_faultOfInt_57 rfl ?_
          refine aw_icmp_le C dX3_faultOfInt_58 (tgt := 65) (by decide) ⟨by omega, by omega⟩ ⟨by omega, by omega⟩ (fun c4 => ?_) (fun c4 => ?_)
          · refine aw_iconst C dX3_faultOfInt_65 ?_
            exact aw_iret C E dX3_faultOfInt_66 rfl ⟨by first | rw [if_pos (by omega)] | rw [if_neg (by omega)], q3.w ⟨rfl, by omega⟩, TSt.w ⟨a1, a2, a3, a4⟩, fun _ => by rw [wr_at, if_pos ⟨rfl, rfl⟩]⟩
          · refine aw_iconst C dX3_faultOfInt_61 ?_
            refine aw_goto C dX3_faultOfInt_62 (tgt := 66) (by decide) ?_
            exact aw_iret C E dX3_faultOfInt_66 rfl ⟨by first | rw [if_pos (by omega)] | rw [if_neg (by omega)], q3.w ⟨rfl, by omega⟩, TSt.w ⟨a1, a2, a3, a4⟩, fun _ => by rw [wr_at, if_pos ⟨rfl, rfl⟩]⟩
      · exfalso; omega
    · rw [if_pos h2] at E
      refine aw_aload_n C dX3_faultOfInt_23 rfl ?_
      refine aw_getI C dX3_faultOfInt_24 fX3_62 ⟨rfl, by decide⟩ rfl ?_
      rw [a1]
      refine aw_iconst C dX3_faultOfInt_27 ?_
      refine aw_icmp_eq C dX3_faultOfInt_28 (tgt := 33) (by decide) ⟨by omega, by omega⟩ ⟨by omega, by omega⟩ (fun c1 => ?_) (fun c1 => ?_)
      · exfalso; omega
      · refine aw_iconst C dX3_faultOfInt_31 ?_
        exact aw_iret C E dX3_faultOfInt_32 rfl ⟨rfl, q3, ⟨a1, a2, a3, a4⟩, fun w => absurd rfl w⟩
  have e12 := ht.1
  by_cases h45 : t.1 = 45
  · refine aw_aload_n C dX3_faultOfInt_0 rfl ?_
    refine aw_getI C dX3_faultOfInt_1 fX3_62 ⟨rfl, by decide⟩ rfl ?_
    rw [e12]
    refine aw_bipush C dX3_faultOfInt_4 rfl ?_
    refine aw_icmp_ne C dX3_faultOfInt_6 (tgt := 13) (by decide) ⟨by omega, by omega⟩ ⟨by omega, by omega⟩ (fun c1 => ?_) (fun c1 => ?_)
    · exfalso; omega
    · refine aw_iconst C dX3_faultOfInt_9 ?_
      refine aw_goto C dX3_faultOfInt_10 (tgt := 14) (by decide) ?_
      refine aw_istore_n C dX3_faultOfInt_14 (by decide) ?_
      refine aw_iload_n C dX3_faultOfInt_15 rfl ?_
      refine aw_if_eq C dX3_faultOfInt_16 (tgt := 23) (by decide) ⟨by omega, by omega⟩ (fun c2 => ?_) (fun c2 => ?_)
      · exfalso; omega
      · refine aw_aload_n C dX3_faultOfInt_19 rfl ?_
        refine aw_call C dX3_faultOfInt_20 lX3_59 vX3_take (t_X3_take h ht.2.2.2 hi.2.2.1 hi.2.2.2.1) rfl rfl rfl ⟨rfl, by decide⟩ rfl ⟨by decide, by decide⟩ (Nat.le_of_ble_eq_true rfl) (fun r3 mu3 hq3 => ?_)
        obtain ⟨rfl, u1, u2⟩ := hq3
        show AW _ _ _ _ _ [] _
        exact fin 1 _ _ (Or.inl ⟨rfl, h45⟩) (if_pos h45) u2 (tok_i hi.2.2.1 hi.2.2.2.1) (u1.mono tpS_2)
  · refine aw_aload_n C dX3_faultOfInt_0 rfl ?_
    refine aw_getI C dX3_faultOfInt_1 fX3_62 ⟨rfl, by decide⟩ rfl ?_
    rw [e12]
    refine aw_bipush C dX3_faultOfInt_4 rfl ?_
    refine aw_icmp_ne C dX3_faultOfInt_6 (tgt := 13) (by decide) ⟨by omega, by omega⟩ ⟨by omega, by omega⟩ (fun c1 => ?_) (fun c1 => ?_)
    · refine aw_iconst C dX3_faultOfInt_13 ?_
      refine aw_istore_n C dX3_faultOfInt_14 (by decide) ?_
      refine aw_iload_n C dX3_faultOfInt_15 rfl ?_
      refine aw_if_eq C dX3_faultOfInt_16 (tgt := 23) (by decide) ⟨by omega, by omega⟩ (fun c2 => ?_) (fun c2 => ?_)
      · exact fin 0 _ _ (Or.inr ⟨rfl, h45⟩) (if_neg h45) ht hi frc.rf
      · exfalso; omega
    · exfalso; omega
/-! bits of what was told -/
theorem btst {b : Nat} {r : Int} (hb : b < 4096) (h0 : 0 ≤ r) (h1 : r < 12) : (Int32.ofInt ((Int32.ofInt (b : Int)).toUInt32 >>> ((Int32.ofInt r).toUInt32 &&& Int32.toUInt32 31)).toInt32.toInt &&& Int32.ofInt 1).toInt = if b.testBit r.toNat then 1 else 0 := by
  rw [Int32.ofInt_toInt]
  have e : Int32.ofInt ((b : Nat) : Int) = nI b := Int32.ofInt_eq_ofNat
  have hs : (((Int32.ofInt r).toUInt32 &&& Int32.toUInt32 31).toBitVec % 32).toNat = r.toNat := by
    obtain ⟨k, rfl⟩ := Int.eq_ofNat_of_zero_le h0
    have hk : k < 12 := by omega
    have : k = 0 ∨ k = 1 ∨ k = 2 ∨ k = 3 ∨ k = 4 ∨ k = 5 ∨ k = 6 ∨ k = 7 ∨ k = 8 ∨ k = 9 ∨ k = 10 ∨ k = 11 := by omega
    rcases this with rfl | rfl | rfl | rfl | rfl | rfl | rfl | rfl | rfl | rfl | rfl | rfl <;> decide
  rw [e, pk_ushrN (by omega) _ _ hs, pk_andN (Nat.lt_of_le_of_lt (Nat.div_le_self _ _) (by omega)) 1 (by decide), nI_toInt (by have := Nat.mod_lt (b / 2 ^ r.toNat) (show 0 < 2 ^ 1 by decide); omega)]
  have ht : b.testBit r.toNat = decide (b / 2 ^ r.toNat % 2 = 1) := Nat.testBit_eq_decide_div_mod_eq
  rw [ht, show (2 : Nat) ^ 1 = 2 by decide]
  have := Nat.mod_lt (b / 2 ^ r.toNat) (show 0 < 2 by decide)
  by_cases h : b / 2 ^ r.toNat % 2 = 1
  · rw [h]; rfl
  · rw [show b / 2 ^ r.toNat % 2 = 0 by omega]; rfl
theorem bset {b : Nat} {r : Int} (hb : b < 4096) (h0 : 0 ≤ r) (h1 : r < 12) : (Int32.ofInt (b : Int) ||| Int32.ofInt (Int32.ofInt 1 <<< (Int32.ofInt r &&& 31)).toInt).toInt = ((b ||| 2 ^ r.toNat : Nat) : Int) ∧ b ||| 2 ^ r.toNat < 4096 := by
  rw [Int32.ofInt_toInt]
  have e : Int32.ofInt ((b : Nat) : Int) = nI b := Int32.ofInt_eq_ofNat
  have hlt : b ||| 2 ^ r.toNat < 4096 := Nat.or_lt_two_pow (n := 12) hb (Nat.pow_lt_pow_right (by decide) (by omega))
  refine ⟨?_, hlt⟩
  have hs : Int32.ofInt 1 <<< (Int32.ofInt r &&& 31) = nI (2 ^ r.toNat) := by
    obtain ⟨k, rfl⟩ := Int.eq_ofNat_of_zero_le h0
    have hk : k < 12 := by omega
    have : k = 0 ∨ k = 1 ∨ k = 2 ∨ k = 3 ∨ k = 4 ∨ k = 5 ∨ k = 6 ∨ k = 7 ∨ k = 8 ∨ k = 9 ∨ k = 10 ∨ k = 11 := by omega
    rcases this with rfl | rfl | rfl | rfl | rfl | rfl | rfl | rfl | rfl | rfl | rfl | rfl <;> decide
  have ho : nI b ||| nI (2 ^ r.toNat) = nI (b ||| 2 ^ r.toNat) := by
    apply Int32.toBitVec_inj.mp
    apply BitVec.eq_of_toNat_eq
    have hp : 2 ^ r.toNat < 4096 := Nat.pow_lt_pow_right (m := r.toNat) (n := 12) (by decide) (by omega)
    rw [Int32.toBitVec_or, BitVec.toNat_or, pk_tn (by omega), pk_tn (by omega), pk_tn (by omega)]
  rw [e, hs, ho, nI_toInt (by omega)]
/-! one part of a load -/
noncomputable def fPf (A : Nat → Int) (n : Int) (D : PD) (b : Nat) (t : TK) : Int × TK :=
  if fIf A n 20 t ≠ 0 then (fIf A n 20 t, fI1 A n t)
  else if fWd (tok A n (fI1 A n t).2.2.2) 494 ≠ 0 then (1, tok A n (fI1 A n t).2.2.2)
  else if b01 (isNm (tok A n (tok A n (fI1 A n t).2.2.2).2.2.2)) = 0 then (1, tok A n (tok A n (fI1 A n t).2.2.2).2.2.2)
  else if rNm D (tok A n (tok A n (fI1 A n t).2.2.2).2.2.2).2.1 = -1 ∨ b.testBit (rNm D (tok A n (tok A n (fI1 A n t).2.2.2).2.2.2).2.1).toNat = true then (3, tok A n (tok A n (fI1 A n t).2.2.2).2.2.2)
  else (0, tok A n (tok A n (fI1 A n t).2.2.2).2.2.2)
theorem rNm_in {D : PD} (h : bD D) (w : Int) : -1 ≤ rNm D w ∧ rNm D w < 12 ∧ rNm D w < max D.1 0 := by
  have hr := fst_in2 (P := fun i => D.2.2.2.2.1 i.toNat = w) D.1.toNat 0
  have := h.1
  have e : rNm D w = fst (fun i => D.2.2.2.2.1 i.toNat = w) (-1) D.1.toNat 0 := rfl
  rw [e]
  rcases hr with q | q <;> omega
theorem pdC_fr {mu m : Mem} (h : frc tpS2 mu m) : pdC m = pdC mu := by
  unfold pdC
  rw [h 1 6 (by unfold tpS2; omega), h 1 7 (by unfold tpS2; omega), show m 2 = mu 2 from funext fun j => h 2 j (by unfold tpS2; omega), show m 3 = mu 3 from funext fun j => h 3 j (by unfold tpS2; omega), show m 7 = mu 7 from funext fun j => h 7 j (by unfold tpS2; omega), show m 4 = mu 4 from funext fun j => h 4 j (by unfold tpS2; omega), show m 5 = mu 5 from funext fun j => h 5 j (by unfold tpS2; omega)]
theorem fWd_01 (t : TK) (w : Int) : fWd t w = 0 ∨ fWd t w = 1 := by unfold fWd; split <;> omega
theorem fIf_012 (A : Nat → Int) (n w : Int) (t : TK) : fIf A n w t = 0 ∨ fIf A n w t = 1 ∨ fIf A n w t = 2 := by unfold fIf; split; omega; split <;> omega
theorem t_X3_faultOfPart {mu : Mem} {n : Int} {b : Nat} {t : TK} (h : tOk mu n) (hD : bD (pdC mu)) (hb : b < 4096) (ht : TSt mu t) (hi : tI n t) : Tr 3 mX3_faultOfPart [vr 1, vi (b : Int)] mu (fun r m2 => r = some (vi (fPf (mu 6) n (pdC mu) b t).1) ∧ frc tpS2 mu m2 ∧ TSt m2 (fPf (mu 6) n (pdC mu) b t).2 ∧ ((fPf (mu 6) n (pdC mu) b t).1 = 0 → m2 1 14 = fIv (mu 6) n t)) := by
  refine Tr.of (by decide +kernel) (Nat.le_of_ble_eq_true rfl) (fun K C E => ?_)
  have w1 := fIf_012 (mu 6) n 20 t
  unfold fPf at E
  have i1 : tI n (fI1 (mu 6) n t) := fI1_i hi
  generalize hA : mu 6 = A at *
  generalize hDD : pdC mu = D at *
  generalize ht1 : fI1 A n t = t1 at *
  have i2 : tI n (tok A n t1.2.2.2) := tok_i i1.2.2.1 i1.2.2.2.1
  generalize ht2 : tok A n t1.2.2.2 = t2 at *
  have i3 : tI n (tok A n t2.2.2.2) := tok_i i2.2.2.1 i2.2.2.2.1
  generalize ht3 : tok A n t2.2.2.2 = t3 at *
  have w2 := fWd_01 t2 494
  have w3 := b01_01 (isNm t3)
  have w4 := rNm_in hD t3.2.1
  refine aw_aload_n C dX3_faultOfPart_0 rfl ?_
  refine aw_bipush C dX3_faultOfPart_1 rfl ?_
  refine aw_call C dX3_faultOfPart_3 lX3_82 vX3_faultOfInt (t_X3_faultOfInt h ht hi ⟨by omega, by omega⟩) rfl rfl rfl ⟨rfl, by decide⟩ rfl ⟨by decide, by decide⟩ (Nat.le_of_ble_eq_true rfl) (fun r1 mu1 hq1 => ?_)
  obtain ⟨rfl, u1, u2, u3⟩ := hq1
  rw [hA] at u2 u3
  rw [ht1] at u2
  have v1 := (h.fr2 u1).1
  have v1A : mu1 6 = A := (h.fr2 u1).2.trans hA
  rw [hA]
  show AW _ _ _ _ _ (vi (fIf A n 20 t) :: _) _
  refine aw_istore_n C dX3_faultOfPart_6 (by decide) ?_
  refine aw_iload_n C dX3_faultOfPart_7 rfl ?_
  refine aw_if_eq C dX3_faultOfPart_8 (tgt := 13) (by decide) ⟨by omega, by omega⟩ (fun c1 => ?_) (fun c1 => ?_)
  · rw [if_neg (fun w => w c1)] at E
    --go
    refine aw_aload_n C dX3_faultOfPart_13 rfl ?_
    refine aw_call C dX3_faultOfPart_14 lX3_59 vX3_take (t_X3_take v1 u2.2.2.2 i1.2.2.1 i1.2.2.2.1) rfl rfl rfl ⟨rfl, by decide⟩ rfl ⟨by decide, by decide⟩ (Nat.le_of_ble_eq_true rfl) (fun r2 mu2 hq2 => ?_)
    obtain ⟨rfl, y1, y2⟩ := hq2
    rw [v1A, ht2] at y2
    have v2 := (v1.fr y1).1
    have v2A : mu2 6 = A := (v1.fr y1).2.trans v1A
    show AW _ _ _ _ _ [] _
    refine aw_aload_n C dX3_faultOfPart_17 rfl ?_
    refine aw_sipush C dX3_faultOfPart_18 rfl ?_
    refine aw_call1 C dX3_faultOfPart_21 lX3_79 vX3_faultOfWord (t_X3_faultOfWord y2 i2.1 ⟨by omega, by omega⟩) rfl rfl rfl ⟨rfl, by decide⟩ rfl ⟨by decide, by decide⟩ (Nat.le_of_ble_eq_true rfl) ?_
    refine aw_istore_n C dX3_faultOfPart_24 (by decide) ?_
    refine aw_iload_n C dX3_faultOfPart_25 rfl ?_
    refine aw_if_eq C dX3_faultOfPart_26 (tgt := 31) (by decide) ⟨by omega, by omega⟩ (fun c2 => ?_) (fun c2 => ?_)
    · rw [if_neg (fun w => w c2)] at E
      --go
      refine aw_aload_n C dX3_faultOfPart_31 rfl ?_
      refine aw_call C dX3_faultOfPart_32 lX3_59 vX3_take (t_X3_take v2 y2.2.2.2 i2.2.2.1 i2.2.2.2.1) rfl rfl rfl ⟨rfl, by decide⟩ rfl ⟨by decide, by decide⟩ (Nat.le_of_ble_eq_true rfl) (fun r3 mu3 hq3 => ?_)
      obtain ⟨rfl, x1, x2⟩ := hq3
      rw [v2A, ht3] at x2
      have xf : frc tpS2 mu mu3 := (u1.tr (y1.mono tpS_2)).tr (x1.mono tpS_2)
      have xD : pdC mu3 = D := (pdC_fr xf).trans hDD
      have x14 : mu3 1 14 = fIv A n t := by rw [x1 1 14 (by unfold tpS; omega), y1 1 14 (by unfold tpS; omega)]; exact u3 (by omega)
      show AW _ _ _ _ _ [] _
      refine aw_aload_n C dX3_faultOfPart_35 rfl ?_
      refine aw_call1 C dX3_faultOfPart_36 lX3_104 vX3_isName (t_X3_isName x2 i3.1) rfl rfl rfl ⟨rfl, by decide⟩ rfl ⟨by decide, by decide⟩ (Nat.le_of_ble_eq_true rfl) ?_
      refine aw_if_ne C dX3_faultOfPart_39 (tgt := 44) (by decide) ⟨by omega, by omega⟩ (fun c3 => ?_) (fun c3 => ?_)
      · rw [if_neg c3] at E
        have nm := b01_iff.mp (show b01 (isNm t3) = 1 by omega)
        have e13 := x2.2.1 (Or.inl nm.1)
        have b13 := i3.1.2.1 nm.1
        --go
        refine aw_aload_n C dX3_faultOfPart_44 rfl ?_
        refine aw_aload_n C dX3_faultOfPart_45 rfl ?_
        refine aw_getI C dX3_faultOfPart_46 fX3_65 ⟨rfl, by decide⟩ rfl ?_
        rw [e13]
        refine aw_call1 C dX3_faultOfPart_49 lX3_101 vX3_rayNamed (t_X3_rayNamed (by rw [xD]; exact hD) ⟨by omega, by omega⟩) rfl rfl rfl ⟨rfl, by decide⟩ rfl ⟨by decide, by decide⟩ (Nat.le_of_ble_eq_true rfl) ?_
        rw [xD]
        refine aw_istore_n C dX3_faultOfPart_52 (by decide) ?_
        refine aw_iload_n C dX3_faultOfPart_53 rfl ?_
        refine aw_iconst C dX3_faultOfPart_54 ?_
        refine aw_icmp_eq C dX3_faultOfPart_55 (tgt := 67) (by decide) ⟨by omega, by omega⟩ ⟨by omega, by omega⟩ (fun c4 => ?_) (fun c4 => ?_)
        · rw [if_pos (Or.inl c4)] at E
          --go
          refine aw_iconst C dX3_faultOfPart_67 ?_
          refine aw_goto C dX3_faultOfPart_68 (tgt := 72) (by decide) ?_
          exact aw_iret C E dX3_faultOfPart_72 rfl ⟨rfl, xf, x2, fun _ => x14⟩
        · have bt := btst (r := rNm D t3.2.1) hb (by omega) (by omega)
          --go
          refine aw_iload_n C dX3_faultOfPart_58 rfl ?_
          refine aw_iload_n C dX3_faultOfPart_59 rfl ?_
          refine aw_iushr C dX3_faultOfPart_60 ?_
          refine aw_iconst C dX3_faultOfPart_61 ?_
          refine aw_iand C dX3_faultOfPart_62 ?_
          rw [bt]
          refine aw_iconst C dX3_faultOfPart_63 ?_
          refine aw_icmp_ne C dX3_faultOfPart_64 (tgt := 71) (by decide) ⟨by split <;> omega, by split <;> omega⟩ ⟨by omega, by omega⟩ (fun c5 => ?_) (fun c5 => ?_)
          · rw [if_neg (fun w => by rcases w with w | w; omega; rw [if_pos w] at c5; omega)] at E
            --go
            refine aw_iconst C dX3_faultOfPart_71 ?_
            exact aw_iret C E dX3_faultOfPart_72 rfl ⟨rfl, xf, x2, fun _ => x14⟩
          · rw [if_pos (Or.inr (by by_cases w : b.testBit (rNm D t3.2.1).toNat = true; exact w; rw [if_neg w] at c5; omega))] at E
            --go
            refine aw_iconst C dX3_faultOfPart_67 ?_
            refine aw_goto C dX3_faultOfPart_68 (tgt := 72) (by decide) ?_
            exact aw_iret C E dX3_faultOfPart_72 rfl ⟨rfl, xf, x2, fun _ => x14⟩
      · rw [if_pos c3] at E
        --go
        refine aw_iconst C dX3_faultOfPart_42 ?_
        exact aw_iret C E dX3_faultOfPart_43 rfl ⟨rfl, xf, x2, fun w => absurd (show (1 : Int) = 0 from w) (by decide)⟩
    · rw [if_pos c2] at E
      --go
      refine aw_iload_n C dX3_faultOfPart_29 rfl ?_
      exact aw_iret C E dX3_faultOfPart_30 rfl ⟨by rw [show fWd t2 494 = 1 by omega], u1.tr (y1.mono tpS_2), y2, fun w => absurd (show (1 : Int) = 0 from w) (by decide)⟩
  · rw [if_pos c1] at E
    --go
    refine aw_iload_n C dX3_faultOfPart_11 rfl ?_
    exact aw_iret C E dX3_faultOfPart_12 rfl ⟨rfl, u1, u2, fun w => absurd w c1⟩

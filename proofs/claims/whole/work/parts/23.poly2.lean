theorem t_X2_endOfRun {mu : Mem} {s l to : Int} (hP : bP (pv mu)) (hs : sOk s) (hl0 : 0 ≤ l) (hl1 : l < mu 9 3) (ht : mOk to) : Tr 2 mX2_endOfRun [vr 9, vi s, vi l, vl to] mu (fun r m2 => ∃ e, r = some (vl e) ∧ mu = m2 ∧ e ≤ to ∧ -20000000 ≤ e ∧ (∀ i, pln (pv mu) s i → 0 < pfl (pv mu) i l s → e * pfl (pv mu) i l s ≤ pgp (pv mu) i l s) ∧ (e = to ∨ ∃ i, pln (pv mu) s i ∧ 0 < pfl (pv mu) i l s ∧ pgp (pv mu) i l s < (e + 1) * pfl (pv mu) i l s)) := by
  refine Tr.of (by decide +kernel) (Nat.le_of_ble_eq_true rfl) (fun K C E => ?_)
  have hn : 0 ≤ mu 9 3 ∧ mu 9 3 ≤ 24 := hP.1
  have hs2 : s = 1 ∨ s = -1 := hs
  unfold mOk at ht
  have loop : ∀ (k : Nat) (i e : Int) (v8 v9 v10 v11 : Vv), 0 ≤ i → i + k = mu 9 3 → e ≤ to → -20000000 ≤ e → (∀ j, pln (pv mu) s j → j < i → 0 < pfl (pv mu) j l s → e * pfl (pv mu) j l s ≤ pgp (pv mu) j l s) → (e = to ∨ ∃ i, pln (pv mu) s i ∧ 0 < pfl (pv mu) i l s ∧ pgp (pv mu) i l s < (e + 1) * pfl (pv mu) i l s) → AW K mX2_endOfRun (NC, 0, 0) 18 [vr 9, vi s, vi l, vl to, vx, vl e, vx, vi i, v8, v9, v10, v11] [] mu := by
    intro k
    induction k with
    | zero =>
      intro i e v8 v9 v10 v11 q0 q1 q2 q3 q4 q5
      refine aw_iload C dX2_endOfRun_18 rfl ?_
      refine aw_aload_n C dX2_endOfRun_20 rfl ?_
      refine aw_getI C dX2_endOfRun_21 fX2_34 ⟨rfl, by decide⟩ rfl ?_
      refine aw_icmp_ge C dX2_endOfRun_24 (tgt := 116) (by decide) ⟨by omega, by omega⟩ ⟨by omega, by omega⟩ (fun c1 => ?_) (fun c1 => ?_)
      · refine aw_lload C dX2_endOfRun_116 rfl ?_
        exact aw_lret C E dX2_endOfRun_118 rfl ⟨e, rfl, rfl, q2, q3, fun j hj => q4 j hj (by have : j < mu 9 3 := hj.2.1; omega), q5⟩
      · exfalso; omega
    | succ k ih =>
      intro i e v8 v9 v10 v11 q0 q1 q2 q3 q4 q5
      have hi : i < mu 9 3 := by omega
      have b1 : -60 ≤ mu 11 i.toNat ∧ mu 11 i.toNat ≤ 60 := (hP.2 i q0 hi).2.1
      have b2 : -60 ≤ mu 11 l.toNat ∧ mu 11 l.toNat ≤ 60 := (hP.2 l hl0 hl1).2.1
      have eL : pln (pv mu) s i ↔ 0 < mu 11 i.toNat * s := ⟨fun q => q.2.2, fun q => ⟨q0, hi, q⟩⟩
      have b3 : -60 ≤ mu 11 i.toNat * s ∧ mu 11 i.toNat * s ≤ 60 := by rcases hs2 with rfl | rfl <;> omega
      have hf := hP.fl q0 hi hl0 hl1 hs
      have hg := hP.gp q0 hi hl0 hl1 hs
      have eg : (mu 12 i.toNat * mu 11 l.toNat - mu 12 l.toNat * mu 11 i.toNat) * s = pgp (pv mu) i l s := rfl
      have ext : ∀ e2, e2 ≤ e → (pln (pv mu) s i → 0 < pfl (pv mu) i l s → e2 * pfl (pv mu) i l s ≤ pgp (pv mu) i l s) → ∀ j, pln (pv mu) s j → j < i + 1 → 0 < pfl (pv mu) j l s → e2 * pfl (pv mu) j l s ≤ pgp (pv mu) j l s := by
        intro e2 he h j hj hji hp
        rcases Int.lt_or_eq_of_le (show j ≤ i by omega) with w | w
        · exact Int.le_trans (Int.mul_le_mul_of_nonneg_right he (by omega)) (q4 j hj w hp)
        · subst w; exact h hj hp
      refine aw_iload C dX2_endOfRun_18 rfl ?_
      refine aw_aload_n C dX2_endOfRun_20 rfl ?_
      refine aw_getI C dX2_endOfRun_21 fX2_34 ⟨rfl, by decide⟩ rfl ?_
      refine aw_icmp_ge C dX2_endOfRun_24 (tgt := 116) (by decide) ⟨by omega, by omega⟩ ⟨by omega, by omega⟩ (fun c1 => ?_) (fun c1 => ?_)
      · exfalso; omega
      · refine aw_aload_n C dX2_endOfRun_27 rfl ?_
        refine aw_getS C dX2_endOfRun_28 fX2_17 ⟨rfl, by decide⟩ rfl rfl (srf 9 1 11 (by decide)) ?_
        refine aw_iload C dX2_endOfRun_31 rfl ?_
        refine aw_iald C dX2_endOfRun_33 ⟨rfl, by decide⟩ (by decide) (by omega) (by omega) ?_
        refine aw_iload_n C dX2_endOfRun_34 rfl ?_
        refine aw_imul C dX2_endOfRun_35 ?_
        refine aw_if_le C dX2_endOfRun_36 (tgt := 50) (by decide) ⟨by omega, by omega⟩ (fun c2 => ?_) (fun c2 => ?_)
        · have hz : ¬ pln (pv mu) s i := fun q => by have := eL.mp q; omega
          --go
          refine aw_lconst C dX2_endOfRun_50 (v := 0) rfl ?_
          refine aw_lstore C dX2_endOfRun_51 (by decide) ?_
          refine aw_lload C dX2_endOfRun_53 rfl ?_
          refine aw_lconst C dX2_endOfRun_55 (v := 0) rfl ?_
          refine aw_lcmp_le C dX2_endOfRun_56 dX2_endOfRun_57 (tgt := 110) (by decide) ⟨by omega, by omega⟩ ⟨by omega, by omega⟩ (fun c3 => ?_) (fun c3 => ?_)
          · have hx := ext e (Int.le_refl e) (fun w1 w2 => by first | exact absurd w1 hz | omega)
            --go
            refine aw_iinc C dX2_endOfRun_110 rfl ?_
            refine aw_goto C dX2_endOfRun_113 (tgt := 18) (by decide) ?_
            first
              | exact ih (i + 1) e _ _ _ _ (by omega) (by omega) q2 q3 hx q5
              | (refine ih (i + 1) _ _ _ _ _ (by omega) (by omega) (by omega) (by omega) (ext _ (by omega) (fun _ _ => (d3 _).mp (by omega))) ?_
                 rcases Int.le_total e (pgp (pv mu) i l s / pfl (pv mu) i l s) with w | w
                 · rw [show min e (pgp (pv mu) i l s / pfl (pv mu) i l s) = e by omega]; exact q5
                 · refine Or.inr ⟨i, eL.mpr (by omega), by omega, ?_⟩
                   rw [show min e (pgp (pv mu) i l s / pfl (pv mu) i l s) = pgp (pv mu) i l s / pfl (pv mu) i l s by omega]
                   exact Int.not_le.mp (fun z => by have := (d3 _).mpr z; omega))
          · exfalso; omega
        · refine aw_aload_n C dX2_endOfRun_39 rfl ?_
          refine aw_iload C dX2_endOfRun_40 rfl ?_
          refine aw_iload_n C dX2_endOfRun_42 rfl ?_
          refine aw_iload_n C dX2_endOfRun_43 rfl ?_
          refine aw_call1 C dX2_endOfRun_44 lX2_108 vX2_fall (t_X2_fall hP (by omega) (by omega) (by omega) (by omega) hs) rfl rfl rfl ⟨rfl, by decide⟩ rfl ⟨by decide, by decide⟩ (Nat.le_of_ble_eq_true rfl) ?_
          refine aw_goto C dX2_endOfRun_47 (tgt := 51) (by decide) ?_
          refine aw_lstore C dX2_endOfRun_51 (by decide) ?_
          refine aw_lload C dX2_endOfRun_53 rfl ?_
          refine aw_lconst C dX2_endOfRun_55 (v := 0) rfl ?_
          refine aw_lcmp_le C dX2_endOfRun_56 dX2_endOfRun_57 (tgt := 110) (by decide) ⟨by omega, by omega⟩ ⟨by omega, by omega⟩ (fun c4 => ?_) (fun c4 => ?_)
          · have hx := ext e (Int.le_refl e) (fun w1 w2 => by first | exact absurd w1 hz | omega)
            --go
            refine aw_iinc C dX2_endOfRun_110 rfl ?_
            refine aw_goto C dX2_endOfRun_113 (tgt := 18) (by decide) ?_
            first
              | exact ih (i + 1) e _ _ _ _ (by omega) (by omega) q2 q3 hx q5
              | (refine ih (i + 1) _ _ _ _ _ (by omega) (by omega) (by omega) (by omega) (ext _ (by omega) (fun _ _ => (d3 _).mp (by omega))) ?_
                 rcases Int.le_total e (pgp (pv mu) i l s / pfl (pv mu) i l s) with w | w
                 · rw [show min e (pgp (pv mu) i l s / pfl (pv mu) i l s) = e by omega]; exact q5
                 · refine Or.inr ⟨i, eL.mpr (by omega), by omega, ?_⟩
                   rw [show min e (pgp (pv mu) i l s / pfl (pv mu) i l s) = pgp (pv mu) i l s / pfl (pv mu) i l s by omega]
                   exact Int.not_le.mp (fun z => by have := (d3 _).mpr z; omega))
          · refine aw_aload_n C dX2_endOfRun_60 rfl ?_
            refine aw_getS C dX2_endOfRun_61 fX2_20 ⟨rfl, by decide⟩ rfl rfl (srf 9 2 12 (by decide)) ?_
            refine aw_iload C dX2_endOfRun_64 rfl ?_
            refine aw_lald C dX2_endOfRun_66 ⟨rfl, by decide⟩ (by decide) (by omega) (by omega) ?_
            refine aw_aload_n C dX2_endOfRun_67 rfl ?_
            refine aw_getS C dX2_endOfRun_68 fX2_17 ⟨rfl, by decide⟩ rfl rfl (srf 9 1 11 (by decide)) ?_
            refine aw_iload_n C dX2_endOfRun_71 rfl ?_
            refine aw_iald C dX2_endOfRun_72 ⟨rfl, by decide⟩ (by decide) (by omega) (by omega) ?_
            refine aw_i2l C dX2_endOfRun_73 ⟨by omega, by omega⟩ ?_
            refine aw_lmul C dX2_endOfRun_74 ?_
            refine aw_aload_n C dX2_endOfRun_75 rfl ?_
            refine aw_getS C dX2_endOfRun_76 fX2_20 ⟨rfl, by decide⟩ rfl rfl (srf 9 2 12 (by decide)) ?_
            refine aw_iload_n C dX2_endOfRun_79 rfl ?_
            refine aw_lald C dX2_endOfRun_80 ⟨rfl, by decide⟩ (by decide) (by omega) (by omega) ?_
            refine aw_aload_n C dX2_endOfRun_81 rfl ?_
            refine aw_getS C dX2_endOfRun_82 fX2_17 ⟨rfl, by decide⟩ rfl rfl (srf 9 1 11 (by decide)) ?_
            refine aw_iload C dX2_endOfRun_85 rfl ?_
            refine aw_iald C dX2_endOfRun_87 ⟨rfl, by decide⟩ (by decide) (by omega) (by omega) ?_
            refine aw_i2l C dX2_endOfRun_88 ⟨by omega, by omega⟩ ?_
            refine aw_lmul C dX2_endOfRun_89 ?_
            refine aw_lsub C dX2_endOfRun_90 ?_
            refine aw_iload_n C dX2_endOfRun_91 rfl ?_
            refine aw_i2l C dX2_endOfRun_92 ⟨by omega, by omega⟩ ?_
            refine aw_lmul C dX2_endOfRun_93 ?_
            rw [eg]
            refine aw_lstore C dX2_endOfRun_94 (by decide) ?_
            have d1 : pgp (pv mu) i l s / pfl (pv mu) i l s ≤ 960120 := by
              have w1 := Int.ediv_le_ediv (show 0 < pfl (pv mu) i l s by omega) hg.2
              have w2 := Int.ediv_le_self (a := 960120) (pfl (pv mu) i l s) (by omega)
              omega
            have d2 : -960120 ≤ pgp (pv mu) i l s / pfl (pv mu) i l s := Int.le_ediv_of_mul_le (by omega) (by
              have := Int.mul_le_mul_of_nonneg_left (show (1 : Int) ≤ pfl (pv mu) i l s by omega) (show (0 : Int) ≤ 960120 by omega)
              omega)
            have d3 : ∀ z, z ≤ pgp (pv mu) i l s / pfl (pv mu) i l s ↔ z * pfl (pv mu) i l s ≤ pgp (pv mu) i l s := fun z => Int.le_ediv_iff_mul_le (by omega)
            refine aw_lload C dX2_endOfRun_96 rfl ?_
            refine aw_lload C dX2_endOfRun_98 rfl ?_
            refine aw_lload C dX2_endOfRun_100 rfl ?_
            refine aw_callS1 C dX2_endOfRun_102 lX2_73 vX4_floorBy (t_X4_floorBy ⟨by omega, by omega⟩ ⟨by omega, by omega⟩ (by omega)) rfl rfl rfl ⟨by decide, by decide⟩ (Nat.le_of_ble_eq_true rfl) ?_
            refine aw_callS1 C dX2_endOfRun_105 lX2_89 vJ9_min_f86c9 (t_J9_min_f86c9 ⟨by omega, by omega⟩ ⟨by omega, by omega⟩) rfl rfl rfl ⟨by decide, by decide⟩ (Nat.le_of_ble_eq_true rfl) ?_
            refine aw_lstore C dX2_endOfRun_108 (by decide) ?_
            refine aw_iinc C dX2_endOfRun_110 rfl ?_
            refine aw_goto C dX2_endOfRun_113 (tgt := 18) (by decide) ?_
            first
              | exact ih (i + 1) e _ _ _ _ (by omega) (by omega) q2 q3 hx q5
              | (refine ih (i + 1) _ _ _ _ _ (by omega) (by omega) (by omega) (by omega) (ext _ (by omega) (fun _ _ => (d3 _).mp (by omega))) ?_
                 rcases Int.le_total e (pgp (pv mu) i l s / pfl (pv mu) i l s) with w | w
                 · rw [show min e (pgp (pv mu) i l s / pfl (pv mu) i l s) = e by omega]; exact q5
                 · refine Or.inr ⟨i, eL.mpr (by omega), by omega, ?_⟩
                   rw [show min e (pgp (pv mu) i l s / pfl (pv mu) i l s) = pgp (pv mu) i l s / pfl (pv mu) i l s by omega]
                   exact Int.not_le.mp (fun z => by have := (d3 _).mpr z; omega))
  refine aw_iload_n C dX2_endOfRun_0 rfl ?_
  refine aw_if_lt C dX2_endOfRun_1 (tgt := 10) (by decide) ⟨by omega, by omega⟩ (fun c1 => ?_) (fun c1 => ?_)
  · exfalso; omega
  · refine aw_iload_n C dX2_endOfRun_4 rfl ?_
    refine aw_bipush C dX2_endOfRun_5 rfl ?_
    refine aw_icmp_lt C dX2_endOfRun_7 (tgt := 12) (by decide) ⟨by omega, by omega⟩ ⟨by omega, by omega⟩ (fun c2 => ?_) (fun c2 => ?_)
    · refine aw_lload_n C dX2_endOfRun_12 rfl ?_
      refine aw_lstore C dX2_endOfRun_13 (by decide) ?_
      refine aw_iconst C dX2_endOfRun_15 ?_
      refine aw_istore C dX2_endOfRun_16 (by decide) ?_
      exact loop (mu 9 3).toNat 0 to _ _ _ _ (by omega) (by omega) (by omega) (by omega) (fun j hj hji => by have := hj.1; omega) (Or.inl rfl)
    · exfalso; omega
/-- what a side leaves at m -/
def isMn (P : PV) (s m v : Int) : Prop := (∃ i, pln P s i ∧ v = ptop P i m / (pY P i * s)) ∧ ∀ i, pln P s i → v ≤ ptop P i m / (pY P i * s)
theorem isMn_u {P : PV} {s m v w : Int} (h1 : isMn P s m v) (h2 : isMn P s m w) : v = w := by
  obtain ⟨⟨i, hi, ei⟩, a⟩ := h1
  obtain ⟨⟨j, hj, ej⟩, b⟩ := h2
  have := a j hj
  have := b i hi
  omega
noncomputable def mfl (P : PV) (s m : Int) : Int := @dite _ (∃ v, isMn P s m v) (Classical.propDecidable _) (fun h => h.choose) (fun _ => 0)
theorem mfl_eq {P : PV} {s m v : Int} (h : isMn P s m v) : mfl P s m = v := by
  have hx : ∃ v, isMn P s m v := ⟨v, h⟩
  unfold mfl
  rw [dif_pos hx]
  exact isMn_u hx.choose_spec h
theorem lst.mn {P : PV} {s l m : Int} (h : pln P s l) (h2 : ∀ j, pln P s j → ptop P l m * (pY P j * s) ≤ ptop P j m * (pY P l * s)) : mfl P s m = ptop P l m / (pY P l * s) :=
  mfl_eq ⟨⟨l, h, rfl⟩, fun i hi => fr_floor h.2.2 hi.2.2 (h2 i hi)⟩
/-- how many lines of a side fall behind l -/
noncomputable def pcn (P : PV) (s l : Int) : Int := sm (fun j => b01 (pln P s j ∧ 0 < pfl P j l s)) P.1.toNat
theorem sm_le {h g : Nat → Int} : ∀ k : Nat, (∀ j, j < k → h j ≤ g j) → sm h k ≤ sm g k
  | 0, _ => Int.le_refl _
  | k + 1, q => by
    show sm h k + h k ≤ sm g k + g k
    have := sm_le k (fun j hj => q j (by omega))
    have := q k (by omega)
    omega
theorem sm_lt {h g : Nat → Int} {j0 : Nat} (h0 : h j0 < g j0) : ∀ k : Nat, j0 < k → (∀ j, j < k → h j ≤ g j) → sm h k < sm g k
  | 0, z, _ => by omega
  | k + 1, z, q => by
    show sm h k + h k < sm g k + g k
    by_cases e : j0 = k
    · subst e
      have := sm_le j0 (fun j hj => q j (by omega))
      omega
    · have := sm_lt h0 k (by omega) (fun j hj => q j (by omega))
      have := q k (by omega)
      omega
theorem pcn_in {P : PV} (hn : 0 ≤ P.1) {s l : Int} (hl : pln P s l) : 0 ≤ pcn P s l ∧ pcn P s l < P.1 := by
  refine ⟨?_, ?_⟩
  · have := sm_le (h := fun _ => 0) (g := fun j => b01 (pln P s j ∧ 0 < pfl P j l s)) P.1.toNat (fun j _ => by have := b01_01 (pln P s j ∧ 0 < pfl P j l s); omega)
    rw [sm_const] at this
    unfold pcn; omega
  · have := sm_lt (h := fun j => b01 (pln P s j ∧ 0 < pfl P j l s)) (g := fun _ => 1) (j0 := l.toNat) (by
      show b01 _ < 1
      rw [b01_f (fun q => by
        have := q.2
        rw [Int.toNat_of_nonneg hl.1, pfl_iff] at this
        omega)]
      omega) P.1.toNat (by have := hl.1; have := hl.2.1; omega) (fun j _ => by have := b01_01 (pln P s j ∧ 0 < pfl P j l s); show b01 _ ≤ 1; omega)
    rw [sm_const] at this
    unfold pcn; omega
theorem pcn_lt {P : PV} {s l k : Int} (hl : pln P s l) (hk : pln P s k) (h : 0 < pfl P k l s) : pcn P s k < pcn P s l := by
  refine sm_lt (j0 := k.toNat) ?_ P.1.toNat (by have := hk.1; have := hk.2.1; omega) (fun j _ => ?_)
  · show b01 _ < b01 _
    have e1 : b01 (pln P s k ∧ 0 < pfl P k l s) = 1 := b01_t ⟨hk, h⟩
    have e2 : b01 (pln P s k ∧ 0 < pfl P k k s) = 0 := b01_f (fun q => by have := q.2; rw [pfl_iff] at this; omega)
    rw [Int.toNat_of_nonneg hk.1, e1, e2]
    omega
  · show b01 _ ≤ b01 _
    by_cases q : pln P s j ∧ 0 < pfl P j k s
    · rw [b01_t q, b01_t]; omega
      refine ⟨q.1, ?_⟩
      have q2 := q.2
      rw [pfl_iff] at *
      have := fr_lt q.1.2.2 hk.2.2 hl.2.2 (x := pX P j) (y := pX P k) (z := pX P l) (by omega) (by omega)
      omega
    · rw [b01_f q]; have := b01_01 (pln P s j ∧ 0 < pfl P j l s); omega
theorem pcn_pos {P : PV} {s l i : Int} (hi : pln P s i) (h : 0 < pfl P i l s) : 1 ≤ pcn P s l := by
  have := sm_lt (h := fun _ => 0) (g := fun j => b01 (pln P s j ∧ 0 < pfl P j l s)) (j0 := i.toNat) (by
    show 0 < b01 _
    rw [Int.toNat_of_nonneg hi.1, b01_t ⟨hi, h⟩]; omega) P.1.toNat (by have := hi.1; have := hi.2.1; omega) (fun j _ => by have := b01_01 (pln P s j ∧ 0 < pfl P j l s); omega)
  rw [sm_const] at this
  unfold pcn; omega
theorem t_X2_sumOfSide {mu : Mem} {s to : Int} (hP : bP (pv mu)) (hs : sOk s) (ht : -10000001 ≤ to ∧ to ≤ 10000000) (hF : -10000000 ≤ mu 9 4 ∧ mu 9 4 ≤ 10000000) (hft : mu 9 4 ≤ to) (hL : ∃ l, pln (pv mu) s l) : TrE 4 mX2_sumOfSide [vr 9, vi s, vl to] mu (some (vl (sm (fun j => mfl (pv mu) s (mu 9 4 + j)) (to - mu 9 4 + 1).toNat))) mu := by
  refine Tr.of (by decide +kernel) (Nat.le_of_ble_eq_true rfl) (fun K C E => ?_)
  have hn : 0 ≤ mu 9 3 ∧ mu 9 3 ≤ 24 := hP.1
  have hs2 : s = 1 ∨ s = -1 := hs
  have loop : ∀ (k : Nat) (a m t : Int) (v9 v10 v11 : Vv), mu 9 4 ≤ m → m ≤ to + 1 → 0 ≤ t → t ≤ 24 → (m ≤ to → t < 24 ∧ 0 < k ∧ ∀ l, lst (pv mu) s l m → t + pcn (pv mu) s l < 24 ∧ pcn (pv mu) s l < k) → a = sm (fun j => mfl (pv mu) s (mu 9 4 + j)) (m - mu 9 4).toNat → AW K mX2_sumOfSide (NC, 0, 0) 12 [vr 9, vi s, vl to, vx, vl a, vx, vl m, vx, vi t, v9, v10, v11] [] mu := by
    intro k
    induction k with
    | zero =>
      intro a m t v9 v10 v11 q0 q1 q2 q4 q3 q5
      have w : m = to + 1 := by
        rcases Int.lt_or_le to m with w | w
        · omega
        · have := (q3 w).2.1; omega
      subst w
      refine aw_iload C dX2_sumOfSide_12 rfl ?_
      refine aw_bipush C dX2_sumOfSide_14 rfl ?_
      refine aw_icmp_ge C dX2_sumOfSide_16 (tgt := 107) (by decide) ⟨by omega, by omega⟩ ⟨by omega, by omega⟩ (fun c1 => ?_) (fun c1 => ?_)
      · refine aw_lload C dX2_sumOfSide_107 rfl ?_
        exact aw_lret C E dX2_sumOfSide_109 rfl ⟨by rw [q5]; congr 3; omega, rfl⟩
      · refine aw_lload C dX2_sumOfSide_19 rfl ?_
        refine aw_lload_n C dX2_sumOfSide_21 rfl ?_
        refine aw_lcmp_gt C dX2_sumOfSide_22 dX2_sumOfSide_23 (tgt := 107) (by decide) ⟨by omega, by omega⟩ ⟨by omega, by omega⟩ (fun c2 => ?_) (fun c2 => ?_)
        · refine aw_lload C dX2_sumOfSide_107 rfl ?_
          exact aw_lret C E dX2_sumOfSide_109 rfl ⟨by rw [q5]; congr 3; omega, rfl⟩
        · exfalso; omega
    | succ k ih =>
      intro a m t v9 v10 v11 q0 q1 q2 q4 q3 q5
      rcases Int.lt_or_le to m with w | w
      · have w : m = to + 1 := by omega
        subst w
        refine aw_iload C dX2_sumOfSide_12 rfl ?_
        refine aw_bipush C dX2_sumOfSide_14 rfl ?_
        refine aw_icmp_ge C dX2_sumOfSide_16 (tgt := 107) (by decide) ⟨by omega, by omega⟩ ⟨by omega, by omega⟩ (fun c1 => ?_) (fun c1 => ?_)
        · refine aw_lload C dX2_sumOfSide_107 rfl ?_
          exact aw_lret C E dX2_sumOfSide_109 rfl ⟨by rw [q5]; congr 3; omega, rfl⟩
        · refine aw_lload C dX2_sumOfSide_19 rfl ?_
          refine aw_lload_n C dX2_sumOfSide_21 rfl ?_
          refine aw_lcmp_gt C dX2_sumOfSide_22 dX2_sumOfSide_23 (tgt := 107) (by decide) ⟨by omega, by omega⟩ ⟨by omega, by omega⟩ (fun c2 => ?_) (fun c2 => ?_)
          · refine aw_lload C dX2_sumOfSide_107 rfl ?_
            exact aw_lret C E dX2_sumOfSide_109 rfl ⟨by rw [q5]; congr 3; omega, rfl⟩
          · exfalso; omega
      · obtain ⟨z1, z2, z3⟩ := q3 w
        refine aw_iload C dX2_sumOfSide_12 rfl ?_
        refine aw_bipush C dX2_sumOfSide_14 rfl ?_
        refine aw_icmp_ge C dX2_sumOfSide_16 (tgt := 107) (by decide) ⟨by omega, by omega⟩ ⟨by omega, by omega⟩ (fun c1 => ?_) (fun c1 => ?_)
        · exfalso; omega
        · refine aw_lload C dX2_sumOfSide_19 rfl ?_
          refine aw_lload_n C dX2_sumOfSide_21 rfl ?_
          refine aw_lcmp_gt C dX2_sumOfSide_22 dX2_sumOfSide_23 (tgt := 107) (by decide) ⟨by omega, by omega⟩ ⟨by omega, by omega⟩ (fun c2 => ?_) (fun c2 => ?_)
          · exfalso; omega
          · refine aw_aload_n C dX2_sumOfSide_26 rfl ?_
            refine aw_iload_n C dX2_sumOfSide_27 rfl ?_
            refine aw_lload C dX2_sumOfSide_28 rfl ?_
            refine aw_call C dX2_sumOfSide_30 lX2_65 vX2_leastLine (t_X2_leastLine hP hs ⟨by omega, by omega⟩) rfl rfl rfl ⟨rfl, by decide⟩ rfl ⟨by decide, by decide⟩ (Nat.le_of_ble_eq_true rfl) (fun r3 mu3 hq3 => ?_)
            obtain ⟨l, rfl, rfl, hl⟩ := hq3
            have hl : lst (pv mu) s l m := by
              rcases hl with ⟨-, hl⟩ | hl
              · obtain ⟨j, hj⟩ := hL
                exact absurd hj (hl j)
              · exact hl
            have l0 : 0 ≤ l := hl.1.1
            have l1 : l < mu 9 3 := hl.1.2.1
            obtain ⟨y1, y2⟩ := z3 l hl
            have b1 : -60 ≤ mu 10 l.toNat ∧ mu 10 l.toNat ≤ 60 := (hP.2 l l0 l1).1
            have b2 : -60 ≤ mu 11 l.toNat ∧ mu 11 l.toNat ≤ 60 := (hP.2 l l0 l1).2.1
            have b3 : -60 ≤ mu 11 l.toNat * s ∧ mu 11 l.toNat * s ≤ 60 := by rcases hs2 with rfl | rfl <;> omega
            have b4 : 0 < mu 11 l.toNat * s := hl.1.2.2
            have b5 := hP.top l0 l1 (m := m) ⟨by omega, by omega⟩
            show AW _ _ _ _ _ (vi l :: _) _
            refine aw_istore C dX2_sumOfSide_33 (by decide) ?_
            refine aw_iload C dX2_sumOfSide_35 rfl ?_
            refine aw_iconst C dX2_sumOfSide_37 ?_
            refine aw_icmp_ne C dX2_sumOfSide_38 (tgt := 44) (by decide) ⟨by omega, by omega⟩ ⟨by omega, by omega⟩ (fun c4 => ?_) (fun c4 => ?_)
            · refine aw_aload_n C dX2_sumOfSide_44 rfl ?_
              refine aw_iload_n C dX2_sumOfSide_45 rfl ?_
              refine aw_iload C dX2_sumOfSide_46 rfl ?_
              refine aw_lload_n C dX2_sumOfSide_48 rfl ?_
              refine aw_call C dX2_sumOfSide_49 lX2_96 vX2_endOfRun (t_X2_endOfRun hP hs l0 l1 ⟨by omega, by omega⟩) rfl rfl rfl ⟨rfl, by decide⟩ rfl ⟨by decide, by decide⟩ (Nat.le_of_ble_eq_true rfl) (fun r5 mu5 hq5 => ?_)
              obtain ⟨e, rfl, rfl, e1, e2, e3, e4⟩ := hq5
              have hlm : ∀ j, pln (pv mu) s j → m * pfl (pv mu) j l s ≤ pgp (pv mu) j l s := fun j hj => by
                have w1 := hl.le hj
                have w2 := pdf_gap (P := pv mu) (i := j) (l := l) (s := s) (m := m)
                rw [pdf_iff] at w2
                omega
              have em : m ≤ e := by
                rcases e4 with e4 | ⟨i, hi, w1, w2⟩
                · omega
                · have w3 := hlm i hi
                  have w4 : m * pfl (pv mu) i l s < (e + 1) * pfl (pv mu) i l s := by omega
                  have := Int.lt_of_mul_lt_mul_right w4 (by omega)
                  omega
              show AW _ _ _ _ _ (vl e :: _) _
              refine aw_lstore C dX2_sumOfSide_52 (by decide) ?_
              refine aw_lload C dX2_sumOfSide_54 rfl ?_
              refine aw_lload C dX2_sumOfSide_56 rfl ?_
              refine aw_lload C dX2_sumOfSide_58 rfl ?_
              refine aw_lsub C dX2_sumOfSide_60 ?_
              refine aw_lconst C dX2_sumOfSide_61 (v := 1) rfl ?_
              refine aw_ladd C dX2_sumOfSide_62 ?_
              refine aw_aload_n C dX2_sumOfSide_63 rfl ?_
              refine aw_getS C dX2_sumOfSide_64 fX2_17 ⟨rfl, by decide⟩ rfl rfl (srf 9 1 11 (by decide)) ?_
              refine aw_iload C dX2_sumOfSide_67 rfl ?_
              refine aw_iald C dX2_sumOfSide_69 ⟨rfl, by decide⟩ (by decide) (by omega) (by omega) ?_
              refine aw_iload_n C dX2_sumOfSide_70 rfl ?_
              refine aw_imul C dX2_sumOfSide_71 ?_
              refine aw_i2l C dX2_sumOfSide_72 ⟨by omega, by omega⟩ ?_
              refine aw_aload_n C dX2_sumOfSide_73 rfl ?_
              refine aw_getS C dX2_sumOfSide_74 fX2_11 ⟨rfl, by decide⟩ rfl rfl (srf 9 0 10 (by decide)) ?_
              refine aw_iload C dX2_sumOfSide_77 rfl ?_
              refine aw_iald C dX2_sumOfSide_79 ⟨rfl, by decide⟩ (by decide) (by omega) (by omega) ?_
              refine aw_i2l C dX2_sumOfSide_80 ⟨by omega, by omega⟩ ?_
              refine aw_aload_n C dX2_sumOfSide_81 rfl ?_
              refine aw_iload C dX2_sumOfSide_82 rfl ?_
              refine aw_lload C dX2_sumOfSide_84 rfl ?_
              refine aw_call1 C dX2_sumOfSide_86 lX2_69 vX2_topOf (t_X2_topOf hP l0 l1) rfl rfl rfl ⟨rfl, by decide⟩ rfl ⟨by decide, by decide⟩ (Nat.le_of_ble_eq_true rfl) ?_
              refine aw_callS1 C dX2_sumOfSide_89 lX2_100 vX4_floorSum (t_X4_floorSum (by omega) (by omega) b4 (by omega) (by omega) (by omega)) rfl rfl rfl ⟨by decide, by decide⟩ (Nat.le_of_ble_eq_true rfl) ?_
              refine aw_ladd C dX2_sumOfSide_92 ?_
              refine aw_lstore C dX2_sumOfSide_93 (by decide) ?_
              refine aw_lload C dX2_sumOfSide_95 rfl ?_
              refine aw_lconst C dX2_sumOfSide_97 (v := 1) rfl ?_
              refine aw_ladd C dX2_sumOfSide_98 ?_
              refine aw_lstore C dX2_sumOfSide_99 (by decide) ?_
              refine aw_iinc C dX2_sumOfSide_101 rfl ?_
              refine aw_goto C dX2_sumOfSide_104 (tgt := 12) (by decide) ?_
              refine ih _ (e + 1) (t + 1) _ _ _ (by omega) (by omega) (by omega) (by omega) (fun w5 => ?_) ?_
              · have e4 : ∃ i, pln (pv mu) s i ∧ 0 < pfl (pv mu) i l s ∧ pgp (pv mu) i l s < (e + 1) * pfl (pv mu) i l s := by
                  rcases e4 with e4 | e4
                  · omega
                  · exact e4
                obtain ⟨i, hi, w1, w2⟩ := e4
                have w3 := pcn_pos hi w1
                refine ⟨by omega, by omega, fun l2 hl2 => ?_⟩
                have w4 := hl2.le hi
                have w6 := pdf_gap (P := pv mu) (i := i) (l := l) (s := s) (m := e + 1)
                rw [pdf_iff] at w6
                have w7 := fr_lt' hl2.1.2.2 hi.2.2 hl.1.2.2 (x := ptop (pv mu) l2 (e + 1)) (y := ptop (pv mu) i (e + 1)) (z := ptop (pv mu) l (e + 1)) w4 (by omega)
                have w8 := pdf_gap (P := pv mu) (i := l2) (l := l) (s := s) (m := e + 1)
                rw [pdf_iff] at w8
                have w9 := hlm l2 hl2.1
                have w10 : 0 < pfl (pv mu) l2 l s := by
                  have w11 : m * pfl (pv mu) l2 l s < (e + 1) * pfl (pv mu) l2 l s := by omega
                  rcases Int.lt_or_le 0 (pfl (pv mu) l2 l s) with q | q
                  · exact q
                  · have := Int.mul_le_mul_of_nonpos_right (show m ≤ e + 1 by omega) q
                    omega
                have := pcn_lt hl.1 hl2.1 w10
                omega
              · rw [q5, show (e + 1 - mu 9 4).toNat = (m - mu 9 4).toNat + (e - m + 1).toNat by omega, sm_split]
                congr 1
                unfold fsm
                refine sm_congr _ (fun j hj => ?_)
                have hmj : mu 9 4 + (((m - mu 9 4).toNat + j : Nat) : Int) = m + j := by omega
                rw [hmj, lst.mn hl.1 (fun i hi => ?_)]
                · have ex : ptop (pv mu) l (m + j) = mu 10 l.toNat * j + ptop (pv mu) l m := by
                    show pR (pv mu) l + (m + j) * pX (pv mu) l = pX (pv mu) l * j + (pR (pv mu) l + m * pX (pv mu) l)
                    rw [Int.add_mul, Int.mul_comm (j : Int)]; omega
                  rw [ex]
                  rfl
                · have w6 := pdf_gap (P := pv mu) (i := i) (l := l) (s := s) (m := m + j)
                  rw [pdf_iff] at w6
                  have w9 := hlm i hi
                  have w10 : (m + j) * pfl (pv mu) i l s ≤ pgp (pv mu) i l s := by
                    rcases Int.lt_or_le 0 (pfl (pv mu) i l s) with q | q
                    · exact Int.le_trans (Int.mul_le_mul_of_nonneg_right (show m + (j : Int) ≤ e by omega) (by omega)) (e3 i hi q)
                    · exact Int.le_trans (Int.mul_le_mul_of_nonpos_right (show m ≤ m + (j : Int) by omega) q) w9
                  omega
            · exfalso; omega
  have h0 : ∀ l, lst (pv mu) s l (mu 9 4) → 0 + pcn (pv mu) s l < 24 ∧ pcn (pv mu) s l < (24 : Nat) := fun l hl => by
    have := pcn_in (P := pv mu) hn.1 hl.1
    have h2 : (pv mu).1 = mu 9 3 := rfl
    omega
  refine aw_lconst C dX2_sumOfSide_0 (v := 0) rfl ?_
  refine aw_lstore C dX2_sumOfSide_1 (by decide) ?_
  refine aw_aload_n C dX2_sumOfSide_3 rfl ?_
  refine aw_getL C dX2_sumOfSide_4 fX2_56 ⟨rfl, by decide⟩ rfl ?_
  refine aw_lstore C dX2_sumOfSide_7 (by decide) ?_
  refine aw_iconst C dX2_sumOfSide_9 ?_
  refine aw_istore C dX2_sumOfSide_10 (by decide) ?_
  exact loop 24 0 (mu 9 4) 0 _ _ _ (by omega) (by omega) (by omega) (by omega) (fun _ => ⟨by omega, by omega, h0⟩) (by rw [Int.sub_self]; rfl)
theorem t_X2_countTo {mu : Mem} {m : Int} (hP : bP (pv mu)) (hm : mOk m) (hF : -10000000 ≤ mu 9 4 ∧ mu 9 4 ≤ 10000000) (hLa : -10000001 ≤ mu 9 5 ∧ mu 9 5 ≤ 10000000) (hL1 : ∃ l, pln (pv mu) 1 l) (hL2 : ∃ l, pln (pv mu) (-1) l) : TrE 5 mX2_countTo [vr 9, vl m] mu (some (vl (sm (fun j => mfl (pv mu) 1 (mu 9 4 + j) + mfl (pv mu) (-1) (mu 9 4 + j) + 1) (min m (mu 9 5) - mu 9 4 + 1).toNat))) mu := by
  refine Tr.of (by decide +kernel) (Nat.le_of_ble_eq_true rfl) (fun K C E => ?_)
  unfold mOk at hm
  refine aw_lload_n C dX2_countTo_0 rfl ?_
  refine aw_aload_n C dX2_countTo_1 rfl ?_
  refine aw_getL C dX2_countTo_2 fX2_48 ⟨rfl, by decide⟩ rfl ?_
  refine aw_callS1 C dX2_countTo_5 lX2_89 vJ9_min_f86c9 (t_J9_min_f86c9 ⟨by omega, by omega⟩ ⟨by omega, by omega⟩) rfl rfl rfl ⟨by decide, by decide⟩ (Nat.le_of_ble_eq_true rfl) ?_
  refine aw_lstore_n C dX2_countTo_8 (by decide) ?_
  refine aw_lload_n C dX2_countTo_9 rfl ?_
  refine aw_aload_n C dX2_countTo_10 rfl ?_
  refine aw_getL C dX2_countTo_11 fX2_56 ⟨rfl, by decide⟩ rfl ?_
  refine aw_lcmp_ge C dX2_countTo_14 dX2_countTo_15 (tgt := 20) (by decide) ⟨by omega, by omega⟩ ⟨by omega, by omega⟩ (fun c1 => ?_) (fun c1 => ?_)
  · refine aw_aload_n C dX2_countTo_20 rfl ?_
    refine aw_iconst C dX2_countTo_21 ?_
    refine aw_lload_n C dX2_countTo_22 rfl ?_
    refine aw_call1 C dX2_countTo_23 lX2_93 vX2_sumOfSide (t_X2_sumOfSide hP (Or.inl rfl) (by omega) hF (by omega) hL1) rfl rfl rfl ⟨rfl, by decide⟩ rfl ⟨by decide, by decide⟩ (Nat.le_of_ble_eq_true rfl) ?_
    refine aw_aload_n C dX2_countTo_26 rfl ?_
    refine aw_iconst C dX2_countTo_27 ?_
    refine aw_lload_n C dX2_countTo_28 rfl ?_
    refine aw_call1 C dX2_countTo_29 lX2_93 vX2_sumOfSide (t_X2_sumOfSide hP (Or.inr rfl) (by omega) hF (by omega) hL2) rfl rfl rfl ⟨rfl, by decide⟩ rfl ⟨by decide, by decide⟩ (Nat.le_of_ble_eq_true rfl) ?_
    refine aw_ladd C dX2_countTo_32 ?_
    refine aw_lload_n C dX2_countTo_33 rfl ?_
    refine aw_ladd C dX2_countTo_34 ?_
    refine aw_aload_n C dX2_countTo_35 rfl ?_
    refine aw_getL C dX2_countTo_36 fX2_56 ⟨rfl, by decide⟩ rfl ?_
    refine aw_lsub C dX2_countTo_39 ?_
    refine aw_lconst C dX2_countTo_40 (v := 1) rfl ?_
    refine aw_ladd C dX2_countTo_41 ?_
    exact aw_lret C E dX2_countTo_42 rfl ⟨by rw [sm_add, sm_add, sm_const]; congr 2; omega, rfl⟩
  · refine aw_lconst C dX2_countTo_18 (v := 0) rfl ?_
    exact aw_lret C E dX2_countTo_19 rfl ⟨by rw [show (min m (mu 9 5) - mu 9 4 + 1).toNat = 0 by omega]; rfl, rfl⟩

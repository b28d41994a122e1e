theorem cum_last {m : Mem} {P : PV} (h : isPo m P) : cum P (m 9 4) (m 9 5) (m 9 5) = cumN P 10000000 := by
  rw [← cum_N h (show (10000000 : Int) ≤ 10000000 by decide)]
  obtain ⟨-, ⟨-, ⟨b1, b2⟩⟩, -⟩ := h
  unfold cum
  rw [show min (10000000 : Int) (m 9 5) = min (m 9 5) (m 9 5) by omega]
theorem cE.ply {mu m m2 : Mem} {c : Int} (h : cE mu m c) (h2 : frm plyS m m2) : cE mu m2 c := by
  refine ⟨fun a b hab => ?_, ?_⟩
  · rw [h2 a (fun w => hab (Or.inr (by unfold plyS at w; omega)))]; exact h.1 a b hab
  · rw [h2 0 (by unfold plyS; omega)]; exact h.2
/-- there is a least line -/
theorem mn_ex {P : PV} {s m : Int} (h : ∃ l, pln P s l) : isMn P s m (mfl P s m) := by
  have ind : ∀ k : Nat, (∃ l, pln P s l ∧ l < k) → ∃ l, pln P s l ∧ l < k ∧ ∀ j, pln P s j → j < k → ptop P l m / (pY P l * s) ≤ ptop P j m / (pY P j * s) := by
    intro k
    induction k with
    | zero => rintro ⟨l, h1, h2⟩; have := h1.1; omega
    | succ k ih =>
      rintro ⟨l, h1, h2⟩
      by_cases c : ∃ l, pln P s l ∧ l < (k : Int)
      · obtain ⟨l, a1, a2, a3⟩ := ih c
        by_cases d : pln P s (k : Int) ∧ ptop P (k : Int) m / (pY P (k : Int) * s) < ptop P l m / (pY P l * s)
        · refine ⟨k, d.1, by omega, fun j j1 j2 => ?_⟩
          by_cases e : j < (k : Int)
          · have := a3 j j1 e; omega
          · rw [show j = (k : Int) by omega]; omega
        · refine ⟨l, a1, by omega, fun j j1 j2 => ?_⟩
          by_cases e : j < (k : Int)
          · exact a3 j j1 e
          · have e : j = (k : Int) := by omega
            subst e
            rcases Int.lt_or_le (ptop P (k : Int) m / (pY P (k : Int) * s)) (ptop P l m / (pY P l * s)) with w | w
            · exact absurd ⟨j1, w⟩ d
            · exact w
      · refine ⟨l, h1, h2, fun j j1 j2 => ?_⟩
        have e1 : l = (k : Int) := by
          rcases Int.lt_or_le l (k : Int) with w | w
          · exact absurd ⟨l, h1, w⟩ c
          · omega
        have e2 : j = (k : Int) := by
          rcases Int.lt_or_le j (k : Int) with w | w
          · exact absurd ⟨j, j1, w⟩ c
          · omega
        rw [e1, e2]; omega
  obtain ⟨l, hl⟩ := h
  have hn : 0 ≤ P.1 := by have := hl.1; have := hl.2.1; omega
  obtain ⟨l, a1, a2, a3⟩ := ind P.1.toNat ⟨l, hl, by have := hl.2.1; omega⟩
  have : isMn P s m (ptop P l m / (pY P l * s)) := ⟨⟨l, a1, rfl⟩, fun j hj => a3 j hj (by have := hj.2.1; omega)⟩
  rw [mfl_eq this]
  exact this
theorem col_nn {P : PV} (h1 : ∃ l, pln P 1 l) (h2 : ∃ l, pln P (-1) l) (m : Int) : 0 ≤ col P m := by
  by_cases h : ∀ i, 0 ≤ i → i < P.1 → conP P i m P.1
  · rw [col_t h]
    obtain ⟨⟨i, hi, ei⟩, -⟩ := mn_ex (m := m) h1
    obtain ⟨⟨j, hj, ej⟩, -⟩ := mn_ex (m := m) h2
    have hiy : 0 < pY P i := by have := hi.2.2; omega
    have hjy : pY P j < 0 := by have := hj.2.2; omega
    have c := (h i hi.1 hi.2.1).2 hiy j hj.1 hj.2.1 hjy
    rw [Int.mul_one] at ei
    rw [ei, ej, show pY P j * -1 = -pY P j by omega]
    unfold tms Jvm.Pilot.@@N@@.far at c
    have e : (pX P j * pY P i - pX P i * pY P j) * m + (pR P j * pY P i - pR P i * pY P j) = ptop P j m * pY P i + ptop P i m * (-pY P j) := by
      unfold ptop
      simp only [Int.sub_mul, Int.add_mul, Int.mul_neg]
      simp only [Int.mul_assoc, Int.mul_comm, Int.mul_left_comm]
      omega
    rw [e] at c
    have hz : 0 < -pY P j := by omega
    generalize ptop P j m = tj at *
    generalize ptop P i m = ti at *
    generalize -pY P j = y at *
    generalize pY P i = z at *
    have d1 := Int.lt_mul_ediv_self_add (x := ti) (k := z) hiy
    have d2 := Int.lt_mul_ediv_self_add (x := tj) (k := y) hz
    generalize ti / z = qi at *
    generalize tj / y = qj at *
    rcases Int.lt_or_le (qi + qj + 1) 0 with w | w
    · exfalso
      have b1 : tj * z ≤ (y * qj + y - 1) * z := Int.mul_le_mul_of_nonneg_right (by omega) (by omega)
      have b2 : ti * y ≤ (z * qi + z - 1) * y := Int.mul_le_mul_of_nonneg_right (by omega) (by omega)
      have b3 := Int.mul_nonneg (Int.mul_nonneg (show 0 ≤ y by omega) (show 0 ≤ z by omega)) (show 0 ≤ -(qi + qj + 2) by omega)
      have e1 : (y * qj + y - 1) * z + (z * qi + z - 1) * y = y * z * (qi + qj) + y * z + y * z - z - y := by
        simp only [Int.sub_mul, Int.add_mul, Int.mul_add, Int.one_mul]
        simp only [Int.mul_assoc, Int.mul_comm, Int.mul_left_comm]
        omega
      have e2 : y * z * (-(qi + qj + 2)) = -(y * z * (qi + qj)) - y * z - y * z := by
        generalize y * z = p
        generalize qi + qj = q
        rw [Int.mul_neg, Int.mul_add]
        omega
      omega
    · exact w
  · rw [col_f h]; decide
theorem cumN_mono {P : PV} (h : ∀ m, 0 ≤ col P m) {x y : Int} (hxy : x ≤ y) : cumN P x ≤ cumN P y := by
  rw [cumN_eq, cumN_eq]
  rw [show (y + 10000001).toNat = (x + 10000001).toNat + ((y + 10000001).toNat - (x + 10000001).toNat) by omega, sm_split]
  have := sm_le (h := fun _ => (0 : Int)) (g := fun j => col P (-10000000 + (((x + 10000001).toNat + j : Nat) : Int))) ((y + 10000001).toNat - (x + 10000001).toNat) (fun j _ => h _)
  rw [sm_const] at this
  omega
def isC (P : PV) (i x : Int) : Prop := cumN P (x - 1) ≤ i ∧ i < cumN P x
theorem isC_u {P : PV} (h : ∀ m, 0 ≤ col P m) {i x y : Int} (hx : isC P i x) (hy : isC P i y) : x = y := by
  rcases Int.lt_trichotomy x y with w | w | w
  · have := cumN_mono h (show x ≤ y - 1 by omega); have := hx.2; have := hy.1; omega
  · exact w
  · have := cumN_mono h (show y ≤ x - 1 by omega); have := hy.2; have := hx.1; omega
noncomputable def clm (P : PV) (i : Int) : Int := @dite _ (∃ x, isC P i x) (Classical.propDecidable _) (fun h => h.choose) (fun _ => 0)
theorem clm_eq {P : PV} (h : ∀ m, 0 ≤ col P m) {i x : Int} (hx : isC P i x) : clm P i = x := by
  have e : ∃ x, isC P i x := ⟨x, hx⟩
  unfold clm
  rw [dif_pos e]
  exact isC_u h e.choose_spec hx
noncomputable def qPo (V : FV) (d k z : Int) : Int × Int := if ¬ (0 ≤ d ∧ d < V.2.1) then (NTH, 1) else if ¬ (0 ≤ k ∧ k ≤ 4) then (NTH, 2) else (cumN (PVo V d k z) 10000000, 0)
theorem t_X5_points {mu : Mem} {f : Nat} {d k : Int} (h : cF mu f) (hd : R32 d) (hk : R32 k) : Tr 7 mX5_points [vr 0, vi d, vi k] mu (fun r m2 => r = some (vl (qPo (fv mu f) d k 0).1) ∧ cE mu m2 (qPo (fv mu f) d k 0).2) := by
  refine Tr.of (by decide +kernel) (Nat.le_of_ble_eq_true rfl) (fun K C E => ?_)
  have hf := h.1
  have hV := h.2.2.1
  have hn := hV.n
  have hl := hV.l
  have en0 : (fv mu f).1 = mu f 0 := rfl
  have el0 : (fv mu f).2.1 = mu f 1 := rfl
  unfold qPo at E
  have k2 := b01_01 (0 ≤ d ∧ d < mu f 1)
  have k2t : b01 (0 ≤ d ∧ d < mu f 1) = 1 → 0 ≤ d ∧ d < mu f 1 := b01_iff.mp
  have k2f : b01 (0 ≤ d ∧ d < mu f 1) = 0 → ¬ (0 ≤ d ∧ d < mu f 1) := b01_niff.mp
  have k4 := b01_01 (0 ≤ k ∧ k ≤ 4)
  have k4t : b01 (0 ≤ k ∧ k ≤ 4) = 1 → 0 ≤ k ∧ k ≤ 4 := b01_iff.mp
  have k4f : b01 (0 ≤ k ∧ k ≤ 4) = 0 → ¬ (0 ≤ k ∧ k ≤ 4) := b01_niff.mp
  have fin : ∀ (c : Int), (c = 0 ∧ (0 ≤ d ∧ d < mu f 1) ∧ 0 ≤ k ∧ k ≤ 4) ∨ (c = 1 ∧ ¬ (0 ≤ d ∧ d < mu f 1)) ∨ (c = 2 ∧ (0 ≤ d ∧ d < mu f 1) ∧ ¬ (0 ≤ k ∧ k ≤ 4)) → AW K mX5_points (NC, 0, 0) 25 [vr 0, vi d, vi k] [vi c, vr 0] mu := by
    rintro c (⟨rfl, q⟩ | ⟨rfl, q⟩ | ⟨rfl, q⟩)
    · rw [if_neg (show ¬ ¬ (0 ≤ d ∧ d < (fv mu f).2.1) from fun z => z q.1), if_neg (show ¬ ¬ (0 ≤ k ∧ k ≤ 4) from fun z => z q.2)] at E
      have cl := (h.2.2.cl (Or.inr (show 0 < (fv mu f).2.1 by omega))).1
      refine aw_putI C dX5_points_25 fX5_62 ⟨rfl, by decide⟩ rfl rfl rfl ?_
      have hc : cE mu (wr mu 0 11 0) 0 := cE_w
      generalize wr mu 0 11 0 = m1 at *
      obtain ⟨e5, ev, hV1, en, el, e11⟩ := hc.all h
      refine aw_aload_n C dX5_points_28 rfl ?_
      refine aw_getI C dX5_points_29 fX5_62 ⟨rfl, by decide⟩ rfl ?_
      rw [e11]
      refine aw_if_eq C dX5_points_32 (tgt := 41) (by decide) ⟨by omega, by omega⟩ (fun c1 => ?_) (fun c1 => ?_)
      · refine aw_aload_n C dX5_points_41 rfl ?_
        refine aw_getS C dX5_points_42 fX5_28 ⟨rfl, by decide⟩ rfl rfl (srf 0 2 9 (by decide)) ?_
        refine aw_aload_n C dX5_points_45 rfl ?_
        refine aw_getR C dX5_points_46 fX5_43 ⟨rfl, by decide⟩ rfl e5 ?_
        refine aw_iload_n C dX5_points_49 rfl ?_
        refine aw_iload_n C dX5_points_50 rfl ?_
        refine aw_iconst C dX5_points_51 ?_
        refine aw_call C dX5_points_52 lX5_218 vX2_countAll (t_X2_countAll (k := k) (z := 0) hf hV1 (by omega) (by omega) (by omega) (by omega) (by rw [ev]; exact (clo_ln cl d k 0).1) (by rw [ev]; exact (clo_ln cl d k 0).2)) rfl rfl rfl ⟨rfl, by decide⟩ rfl ⟨by decide, by decide⟩ (Nat.le_of_ble_eq_true rfl) (fun r2 mu2 hq2 => ?_)
        obtain ⟨z1, z2, rfl⟩ := hq2
        rw [ev] at z2
        rw [ev, cum_last z2]
        have hcp := hc.ply z1
        have cb := cumN_b (PVo_b hV (d := d) (k := k) (z := 0) (by omega) (by omega)) (x := 10000000) (by omega)
        show AW _ _ _ _ _ (vl (cumN (PVo (fv mu f) d k 0) 10000000) :: _) _
        exact aw_lret C E dX5_points_55 rfl ⟨rfl, hcp⟩
      · exfalso; omega
    · rw [if_pos (show ¬ (0 ≤ d ∧ d < (fv mu f).2.1) from q)] at E
      refine aw_putI C dX5_points_25 fX5_62 ⟨rfl, by decide⟩ rfl rfl rfl ?_
      have hc : cE mu (wr mu 0 11 1) 1 := cE_w
      generalize wr mu 0 11 1 = m1 at *
      obtain ⟨e5, ev, hV1, en, el, e11⟩ := hc.all h
      refine aw_aload_n C dX5_points_28 rfl ?_
      refine aw_getI C dX5_points_29 fX5_62 ⟨rfl, by decide⟩ rfl ?_
      rw [e11]
      refine aw_if_eq C dX5_points_32 (tgt := 41) (by decide) ⟨by omega, by omega⟩ (fun c1 => ?_) (fun c1 => ?_)
      · exfalso; omega
      · refine aw_ldc2 C dX5_points_35 kX5_130 (z := -9223372036854775808) (by decide +kernel) ?_
        refine aw_goto C dX5_points_38 (tgt := 55) (by decide) ?_
        exact aw_lret C E dX5_points_55 rfl ⟨rfl, hc⟩
    · rw [if_neg (show ¬ ¬ (0 ≤ d ∧ d < (fv mu f).2.1) from fun z => z q.1), if_pos q.2] at E
      refine aw_putI C dX5_points_25 fX5_62 ⟨rfl, by decide⟩ rfl rfl rfl ?_
      have hc : cE mu (wr mu 0 11 2) 2 := cE_w
      generalize wr mu 0 11 2 = m1 at *
      obtain ⟨e5, ev, hV1, en, el, e11⟩ := hc.all h
      refine aw_aload_n C dX5_points_28 rfl ?_
      refine aw_getI C dX5_points_29 fX5_62 ⟨rfl, by decide⟩ rfl ?_
      rw [e11]
      refine aw_if_eq C dX5_points_32 (tgt := 41) (by decide) ⟨by omega, by omega⟩ (fun c1 => ?_) (fun c1 => ?_)
      · exfalso; omega
      · refine aw_ldc2 C dX5_points_35 kX5_130 (z := -9223372036854775808) (by decide +kernel) ?_
        refine aw_goto C dX5_points_38 (tgt := 55) (by decide) ?_
        exact aw_lret C E dX5_points_55 rfl ⟨rfl, hc⟩
  refine aw_aload_n C dX5_points_0 rfl ?_
  refine aw_aload_n C dX5_points_1 rfl ?_
  refine aw_iload_n C dX5_points_2 rfl ?_
  refine aw_call1 C dX5_points_3 lX5_165 vX5_hasLoad (t_X5_hasLoad h hd) rfl rfl rfl ⟨rfl, by decide⟩ rfl ⟨by decide, by decide⟩ (Nat.le_of_ble_eq_true rfl) ?_
  refine aw_if_ne C dX5_points_6 (tgt := 13) (by decide) ⟨by omega, by omega⟩ (fun c1 => ?_) (fun c1 => ?_)
  · refine aw_iload_n C dX5_points_13 rfl ?_
    refine aw_callS1 C dX5_points_14 lX5_215 vX5_isMultiple (t_X5_isMultiple hk) rfl rfl rfl ⟨by decide, by decide⟩ (Nat.le_of_ble_eq_true rfl) ?_
    refine aw_if_eq C dX5_points_17 (tgt := 24) (by decide) ⟨by omega, by omega⟩ (fun c2 => ?_) (fun c2 => ?_)
    · refine aw_iconst C dX5_points_24 ?_
      first
      | exact fin 1 (Or.inr (Or.inl ⟨rfl, k2f (by omega)⟩))
      | exact fin 0 (Or.inl ⟨rfl, k2t (by omega), k4t (by omega)⟩)
      | exact fin 2 (Or.inr (Or.inr ⟨rfl, k2t (by omega), k4f (by omega)⟩))
    · refine aw_iconst C dX5_points_20 ?_
      refine aw_goto C dX5_points_21 (tgt := 25) (by decide) ?_
      first
      | exact fin 1 (Or.inr (Or.inl ⟨rfl, k2f (by omega)⟩))
      | exact fin 0 (Or.inl ⟨rfl, k2t (by omega), k4t (by omega)⟩)
      | exact fin 2 (Or.inr (Or.inr ⟨rfl, k2t (by omega), k4f (by omega)⟩))
  · refine aw_iconst C dX5_points_9 ?_
    refine aw_goto C dX5_points_10 (tgt := 25) (by decide) ?_
    first
    | exact fin 1 (Or.inr (Or.inl ⟨rfl, k2f (by omega)⟩))
    | exact fin 0 (Or.inl ⟨rfl, k2t (by omega), k4t (by omega)⟩)
    | exact fin 2 (Or.inr (Or.inr ⟨rfl, k2t (by omega), k4f (by omega)⟩))
theorem t_X5_inner {mu : Mem} {f : Nat} {d k : Int} (h : cF mu f) (hd : R32 d) (hk : R32 k) : Tr 7 mX5_inner [vr 0, vi d, vi k] mu (fun r m2 => r = some (vl (qPo (fv mu f) d k 1).1) ∧ cE mu m2 (qPo (fv mu f) d k 1).2) := by
  refine Tr.of (by decide +kernel) (Nat.le_of_ble_eq_true rfl) (fun K C E => ?_)
  have hf := h.1
  have hV := h.2.2.1
  have hn := hV.n
  have hl := hV.l
  have en0 : (fv mu f).1 = mu f 0 := rfl
  have el0 : (fv mu f).2.1 = mu f 1 := rfl
  unfold qPo at E
  have k2 := b01_01 (0 ≤ d ∧ d < mu f 1)
  have k2t : b01 (0 ≤ d ∧ d < mu f 1) = 1 → 0 ≤ d ∧ d < mu f 1 := b01_iff.mp
  have k2f : b01 (0 ≤ d ∧ d < mu f 1) = 0 → ¬ (0 ≤ d ∧ d < mu f 1) := b01_niff.mp
  have k4 := b01_01 (0 ≤ k ∧ k ≤ 4)
  have k4t : b01 (0 ≤ k ∧ k ≤ 4) = 1 → 0 ≤ k ∧ k ≤ 4 := b01_iff.mp
  have k4f : b01 (0 ≤ k ∧ k ≤ 4) = 0 → ¬ (0 ≤ k ∧ k ≤ 4) := b01_niff.mp
  have fin : ∀ (c : Int), (c = 0 ∧ (0 ≤ d ∧ d < mu f 1) ∧ 0 ≤ k ∧ k ≤ 4) ∨ (c = 1 ∧ ¬ (0 ≤ d ∧ d < mu f 1)) ∨ (c = 2 ∧ (0 ≤ d ∧ d < mu f 1) ∧ ¬ (0 ≤ k ∧ k ≤ 4)) → AW K mX5_inner (NC, 0, 0) 25 [vr 0, vi d, vi k] [vi c, vr 0] mu := by
    rintro c (⟨rfl, q⟩ | ⟨rfl, q⟩ | ⟨rfl, q⟩)
    · rw [if_neg (show ¬ ¬ (0 ≤ d ∧ d < (fv mu f).2.1) from fun z => z q.1), if_neg (show ¬ ¬ (0 ≤ k ∧ k ≤ 4) from fun z => z q.2)] at E
      have cl := (h.2.2.cl (Or.inr (show 0 < (fv mu f).2.1 by omega))).1
      refine aw_putI C dX5_inner_25 fX5_62 ⟨rfl, by decide⟩ rfl rfl rfl ?_
      have hc : cE mu (wr mu 0 11 0) 0 := cE_w
      generalize wr mu 0 11 0 = m1 at *
      obtain ⟨e5, ev, hV1, en, el, e11⟩ := hc.all h
      refine aw_aload_n C dX5_inner_28 rfl ?_
      refine aw_getI C dX5_inner_29 fX5_62 ⟨rfl, by decide⟩ rfl ?_
      rw [e11]
      refine aw_if_eq C dX5_inner_32 (tgt := 41) (by decide) ⟨by omega, by omega⟩ (fun c1 => ?_) (fun c1 => ?_)
      · refine aw_aload_n C dX5_inner_41 rfl ?_
        refine aw_getS C dX5_inner_42 fX5_28 ⟨rfl, by decide⟩ rfl rfl (srf 0 2 9 (by decide)) ?_
        refine aw_aload_n C dX5_inner_45 rfl ?_
        refine aw_getR C dX5_inner_46 fX5_43 ⟨rfl, by decide⟩ rfl e5 ?_
        refine aw_iload_n C dX5_inner_49 rfl ?_
        refine aw_iload_n C dX5_inner_50 rfl ?_
        refine aw_iconst C dX5_inner_51 ?_
        refine aw_call C dX5_inner_52 lX5_218 vX2_countAll (t_X2_countAll (k := k) (z := 1) hf hV1 (by omega) (by omega) (by omega) (by omega) (by rw [ev]; exact (clo_ln cl d k 1).1) (by rw [ev]; exact (clo_ln cl d k 1).2)) rfl rfl rfl ⟨rfl, by decide⟩ rfl ⟨by decide, by decide⟩ (Nat.le_of_ble_eq_true rfl) (fun r2 mu2 hq2 => ?_)
        obtain ⟨z1, z2, rfl⟩ := hq2
        rw [ev] at z2
        rw [ev, cum_last z2]
        have hcp := hc.ply z1
        have cb := cumN_b (PVo_b hV (d := d) (k := k) (z := 1) (by omega) (by omega)) (x := 10000000) (by omega)
        show AW _ _ _ _ _ (vl (cumN (PVo (fv mu f) d k 1) 10000000) :: _) _
        exact aw_lret C E dX5_inner_55 rfl ⟨rfl, hcp⟩
      · exfalso; omega
    · rw [if_pos (show ¬ (0 ≤ d ∧ d < (fv mu f).2.1) from q)] at E
      refine aw_putI C dX5_inner_25 fX5_62 ⟨rfl, by decide⟩ rfl rfl rfl ?_
      have hc : cE mu (wr mu 0 11 1) 1 := cE_w
      generalize wr mu 0 11 1 = m1 at *
      obtain ⟨e5, ev, hV1, en, el, e11⟩ := hc.all h
      refine aw_aload_n C dX5_inner_28 rfl ?_
      refine aw_getI C dX5_inner_29 fX5_62 ⟨rfl, by decide⟩ rfl ?_
      rw [e11]
      refine aw_if_eq C dX5_inner_32 (tgt := 41) (by decide) ⟨by omega, by omega⟩ (fun c1 => ?_) (fun c1 => ?_)
      · exfalso; omega
      · refine aw_ldc2 C dX5_inner_35 kX5_130 (z := -9223372036854775808) (by decide +kernel) ?_
        refine aw_goto C dX5_inner_38 (tgt := 55) (by decide) ?_
        exact aw_lret C E dX5_inner_55 rfl ⟨rfl, hc⟩
    · rw [if_neg (show ¬ ¬ (0 ≤ d ∧ d < (fv mu f).2.1) from fun z => z q.1), if_pos q.2] at E
      refine aw_putI C dX5_inner_25 fX5_62 ⟨rfl, by decide⟩ rfl rfl rfl ?_
      have hc : cE mu (wr mu 0 11 2) 2 := cE_w
      generalize wr mu 0 11 2 = m1 at *
      obtain ⟨e5, ev, hV1, en, el, e11⟩ := hc.all h
      refine aw_aload_n C dX5_inner_28 rfl ?_
      refine aw_getI C dX5_inner_29 fX5_62 ⟨rfl, by decide⟩ rfl ?_
      rw [e11]
      refine aw_if_eq C dX5_inner_32 (tgt := 41) (by decide) ⟨by omega, by omega⟩ (fun c1 => ?_) (fun c1 => ?_)
      · exfalso; omega
      · refine aw_ldc2 C dX5_inner_35 kX5_130 (z := -9223372036854775808) (by decide +kernel) ?_
        refine aw_goto C dX5_inner_38 (tgt := 55) (by decide) ?_
        exact aw_lret C E dX5_inner_55 rfl ⟨rfl, hc⟩
  refine aw_aload_n C dX5_inner_0 rfl ?_
  refine aw_aload_n C dX5_inner_1 rfl ?_
  refine aw_iload_n C dX5_inner_2 rfl ?_
  refine aw_call1 C dX5_inner_3 lX5_165 vX5_hasLoad (t_X5_hasLoad h hd) rfl rfl rfl ⟨rfl, by decide⟩ rfl ⟨by decide, by decide⟩ (Nat.le_of_ble_eq_true rfl) ?_
  refine aw_if_ne C dX5_inner_6 (tgt := 13) (by decide) ⟨by omega, by omega⟩ (fun c1 => ?_) (fun c1 => ?_)
  · refine aw_iload_n C dX5_inner_13 rfl ?_
    refine aw_callS1 C dX5_inner_14 lX5_215 vX5_isMultiple (t_X5_isMultiple hk) rfl rfl rfl ⟨by decide, by decide⟩ (Nat.le_of_ble_eq_true rfl) ?_
    refine aw_if_eq C dX5_inner_17 (tgt := 24) (by decide) ⟨by omega, by omega⟩ (fun c2 => ?_) (fun c2 => ?_)
    · refine aw_iconst C dX5_inner_24 ?_
      first
      | exact fin 1 (Or.inr (Or.inl ⟨rfl, k2f (by omega)⟩))
      | exact fin 0 (Or.inl ⟨rfl, k2t (by omega), k4t (by omega)⟩)
      | exact fin 2 (Or.inr (Or.inr ⟨rfl, k2t (by omega), k4f (by omega)⟩))
    · refine aw_iconst C dX5_inner_20 ?_
      refine aw_goto C dX5_inner_21 (tgt := 25) (by decide) ?_
      first
      | exact fin 1 (Or.inr (Or.inl ⟨rfl, k2f (by omega)⟩))
      | exact fin 0 (Or.inl ⟨rfl, k2t (by omega), k4t (by omega)⟩)
      | exact fin 2 (Or.inr (Or.inr ⟨rfl, k2t (by omega), k4f (by omega)⟩))
  · refine aw_iconst C dX5_inner_9 ?_
    refine aw_goto C dX5_inner_10 (tgt := 25) (by decide) ?_
    first
    | exact fin 1 (Or.inr (Or.inl ⟨rfl, k2f (by omega)⟩))
    | exact fin 0 (Or.inl ⟨rfl, k2t (by omega), k4t (by omega)⟩)
    | exact fin 2 (Or.inr (Or.inr ⟨rfl, k2t (by omega), k4f (by omega)⟩))
noncomputable def aPt (P : PV) (i w : Int) : Int := if w = 0 then clm P i else i - cumN P (clm P i - 1) - mfl P 1 (clm P i)
noncomputable def qPt (V : FV) (d k i w : Int) : Int × Int := if ¬ ((0 ≤ d ∧ d < V.2.1) ∧ 0 ≤ w ∧ w ≤ 1) then (NTH, 1) else if ¬ (0 ≤ k ∧ k ≤ 4) then (NTH, 2) else if i < 0 ∨ cumN (PVo V d k 0) 10000000 ≤ i then (NTH, 1) else (aPt (PVo V d k 0) i w, 0)
theorem t_X5_point {mu : Mem} {f : Nat} {d k i w : Int} (h : cF mu f) (hd : R32 d) (hk : R32 k) (hi : R64 i) (hw : R32 w) : Tr 7 mX5_point [vr 0, vi d, vi k, vl i, vi w] mu (fun r m2 => r = some (vl (qPt (fv mu f) d k i w).1) ∧ cE mu m2 (qPt (fv mu f) d k i w).2) := by
  refine Tr.of (by decide +kernel) (Nat.le_of_ble_eq_true rfl) (fun K C E => ?_)
  have hf := h.1
  have hV := h.2.2.1
  have hn := hV.n
  have hl := hV.l
  have en0 : (fv mu f).1 = mu f 0 := rfl
  have el0 : (fv mu f).2.1 = mu f 1 := rfl
  unfold qPt at E
  have k2 := b01_01 (0 ≤ d ∧ d < mu f 1)
  have k2t : b01 (0 ≤ d ∧ d < mu f 1) = 1 → 0 ≤ d ∧ d < mu f 1 := b01_iff.mp
  have k2f : b01 (0 ≤ d ∧ d < mu f 1) = 0 → ¬ (0 ≤ d ∧ d < mu f 1) := b01_niff.mp
  have k4 := b01_01 (0 ≤ k ∧ k ≤ 4)
  have k4t : b01 (0 ≤ k ∧ k ≤ 4) = 1 → 0 ≤ k ∧ k ≤ 4 := b01_iff.mp
  have k4f : b01 (0 ≤ k ∧ k ≤ 4) = 0 → ¬ (0 ≤ k ∧ k ≤ 4) := b01_niff.mp
  have fin : ∀ {v90 v91 : Vv} (c : Int), (c = 0 ∧ ((0 ≤ d ∧ d < mu f 1) ∧ 0 ≤ w ∧ w ≤ 1) ∧ 0 ≤ k ∧ k ≤ 4) ∨ (c = 1 ∧ ¬ ((0 ≤ d ∧ d < mu f 1) ∧ 0 ≤ w ∧ w ≤ 1)) ∨ (c = 2 ∧ ((0 ≤ d ∧ d < mu f 1) ∧ 0 ≤ w ∧ w ≤ 1) ∧ ¬ (0 ≤ k ∧ k ≤ 4)) → AW K mX5_point (NC, 0, 0) 36 [vr 0, vi d, vi k, vl i, vx, vi w, v90, v91] [vi c, vr 0] mu := by
    rintro v90 v91 c (⟨rfl, q⟩ | ⟨rfl, q⟩ | ⟨rfl, q⟩)
    · rw [if_neg (show ¬ ¬ ((0 ≤ d ∧ d < (fv mu f).2.1) ∧ 0 ≤ w ∧ w ≤ 1) from fun z => z q.1), if_neg (show ¬ ¬ (0 ≤ k ∧ k ≤ 4) from fun z => z q.2)] at E
      have cl := (h.2.2.cl (Or.inr (show 0 < (fv mu f).2.1 by omega))).1
      have hP := PVo_b hV (d := d) (k := k) (z := 0) (by omega) (by omega)
      obtain ⟨L1, L2⟩ := clo_ln cl d k 0
      refine aw_putI C dX5_point_36 fX5_62 ⟨rfl, by decide⟩ rfl rfl rfl ?_
      have hc : cE mu (wr mu 0 11 0) 0 := cE_w
      generalize wr mu 0 11 0 = m1 at *
      obtain ⟨e5, ev, hV1, en, el, e11⟩ := hc.all h
      refine aw_aload_n C dX5_point_39 rfl ?_
      refine aw_getI C dX5_point_40 fX5_62 ⟨rfl, by decide⟩ rfl ?_
      rw [e11]
      refine aw_if_eq C dX5_point_43 (tgt := 50) (by decide) ⟨by omega, by omega⟩ (fun c1 => ?_) (fun c1 => ?_)
      · refine aw_lload_n C dX5_point_50 rfl ?_
        refine aw_lconst C dX5_point_51 (v := 0) rfl ?_
        refine aw_lcmp_lt C dX5_point_52 dX5_point_53 (tgt := 75) (by decide) ⟨by omega, by omega⟩ ⟨by omega, by omega⟩ (fun ca => ?_) (fun ca => ?_)
        · rw [if_pos (Or.inl ca)] at E
          --go
          refine aw_aload_n C dX5_point_75 rfl ?_
          refine aw_iconst C dX5_point_76 ?_
          refine aw_putI C dX5_point_77 fX5_62 ⟨rfl, by decide⟩ rfl rfl rfl ?_
          refine aw_ldc2 C dX5_point_80 kX5_130 (z := -9223372036854775808) (by decide +kernel) ?_
          exact aw_lret C E dX5_point_83 rfl (by first | exact ⟨rfl, hcp.w⟩ | exact ⟨rfl, hc.w⟩)
        · refine aw_lload_n C dX5_point_56 rfl ?_
          refine aw_aload_n C dX5_point_57 rfl ?_
          refine aw_getS C dX5_point_58 fX5_28 ⟨rfl, by decide⟩ rfl rfl (srf 0 2 9 (by decide)) ?_
          refine aw_aload_n C dX5_point_61 rfl ?_
          refine aw_getR C dX5_point_62 fX5_43 ⟨rfl, by decide⟩ rfl e5 ?_
          refine aw_iload_n C dX5_point_65 rfl ?_
          refine aw_iload_n C dX5_point_66 rfl ?_
          refine aw_iconst C dX5_point_67 ?_
          refine aw_call C dX5_point_68 lX5_218 vX2_countAll (t_X2_countAll (k := k) (z := 0) hf hV1 (by omega) (by omega) (by omega) (by omega) (by rw [ev]; exact (clo_ln cl d k 0).1) (by rw [ev]; exact (clo_ln cl d k 0).2)) rfl rfl rfl ⟨rfl, by decide⟩ rfl ⟨by decide, by decide⟩ (Nat.le_of_ble_eq_true rfl) (fun r2 mu2 hq2 => ?_)
          obtain ⟨z1, z2, rfl⟩ := hq2
          rw [ev] at z2
          rw [ev, cum_last z2]
          have hcp := hc.ply z1
          have cb := cumN_b (PVo_b hV (d := d) (k := k) (z := 0) (by omega) (by omega)) (x := 10000000) (by omega)
          show AW _ _ _ _ _ (vl (cumN (PVo (fv mu f) d k 0) 10000000) :: _) _
          generalize mu2 = m4 at *
          refine aw_lcmp_lt C dX5_point_71 dX5_point_72 (tgt := 84) (by decide) ⟨by omega, by omega⟩ ⟨by omega, by omega⟩ (fun cb2 => ?_) (fun cb2 => ?_)
          · rw [if_neg (show ¬ (i < 0 ∨ cumN (PVo (fv mu f) d k 0) 10000000 ≤ i) by omega)] at E
            --go
            refine aw_aload_n C dX5_point_84 rfl ?_
            refine aw_getS C dX5_point_85 fX5_28 ⟨rfl, by decide⟩ rfl rfl (srf 0 2 9 (by decide)) ?_
            refine aw_lload_n C dX5_point_88 rfl ?_
            refine aw_call C dX5_point_89 lX5_221 vX2_columnOf (t_X2_columnOf z2 hP L1 L2 (by omega) hi (by rw [cum_last z2]; omega) (cum_r z2 hP)) rfl rfl rfl ⟨rfl, by decide⟩ rfl ⟨by decide, by decide⟩ (Nat.le_of_ble_eq_true rfl) (fun r3 mu3 hq3 => ?_)
            obtain ⟨rfl, x, rfl, x1, x2, x3, x4⟩ := hq3
            obtain ⟨⟨f1, f2⟩, ⟨f3, f4⟩⟩ := z2.2.1
            rw [cum_N z2 (by omega)] at x3 x4
            have xe : clm (PVo (fv mu f) d k 0) i = x := clm_eq (col_nn L1 L2) ⟨x3, x4⟩
            unfold aPt at E
            rw [xe] at E
            show AW _ _ _ _ _ [vl x] _
            refine aw_lstore C dX5_point_92 (by decide) ?_
            refine aw_iload C dX5_point_94 rfl ?_
            refine aw_if_ne C dX5_point_96 (tgt := 104) (by decide) ⟨by omega, by omega⟩ (fun cw => ?_) (fun cw => ?_)
            · rw [if_neg cw] at E
              --go
              refine aw_aload_n C dX5_point_104 rfl ?_
              refine aw_getS C dX5_point_105 fX5_28 ⟨rfl, by decide⟩ rfl rfl (srf 0 2 9 (by decide)) ?_
              refine aw_lload_n C dX5_point_108 rfl ?_
              refine aw_lload C dX5_point_109 rfl ?_
              refine aw_call1 C dX5_point_111 lX5_225 vX2_heightOf (t_X2_heightOf z2 hP L1 L2 ⟨by omega, by omega⟩) rfl rfl rfl ⟨rfl, by decide⟩ rfl ⟨by decide, by decide⟩ (Nat.le_of_ble_eq_true rfl) ?_
              try rw [cum_N z2 (by omega)]
              exact aw_lret C E dX5_point_114 rfl ⟨rfl, hcp⟩
            · rw [if_pos cw] at E
              --go
              refine aw_lload C dX5_point_99 rfl ?_
              refine aw_goto C dX5_point_101 (tgt := 114) (by decide) ?_
              try rw [cum_N z2 (by omega)]
              exact aw_lret C E dX5_point_114 rfl ⟨rfl, hcp⟩
          · rw [if_pos (Or.inr (by omega))] at E
            --go
            refine aw_aload_n C dX5_point_75 rfl ?_
            refine aw_iconst C dX5_point_76 ?_
            refine aw_putI C dX5_point_77 fX5_62 ⟨rfl, by decide⟩ rfl rfl rfl ?_
            refine aw_ldc2 C dX5_point_80 kX5_130 (z := -9223372036854775808) (by decide +kernel) ?_
            exact aw_lret C E dX5_point_83 rfl (by first | exact ⟨rfl, hcp.w⟩ | exact ⟨rfl, hc.w⟩)
      · exfalso; omega
    · rw [if_pos (show ¬ ((0 ≤ d ∧ d < (fv mu f).2.1) ∧ 0 ≤ w ∧ w ≤ 1) from q)] at E
      refine aw_putI C dX5_point_36 fX5_62 ⟨rfl, by decide⟩ rfl rfl rfl ?_
      have hc : cE mu (wr mu 0 11 1) 1 := cE_w
      generalize wr mu 0 11 1 = m1 at *
      obtain ⟨e5, ev, hV1, en, el, e11⟩ := hc.all h
      refine aw_aload_n C dX5_point_39 rfl ?_
      refine aw_getI C dX5_point_40 fX5_62 ⟨rfl, by decide⟩ rfl ?_
      rw [e11]
      refine aw_if_eq C dX5_point_43 (tgt := 50) (by decide) ⟨by omega, by omega⟩ (fun c1 => ?_) (fun c1 => ?_)
      · exfalso; omega
      · refine aw_ldc2 C dX5_point_46 kX5_130 (z := -9223372036854775808) (by decide +kernel) ?_
        exact aw_lret C E dX5_point_49 rfl ⟨rfl, hc⟩
    · rw [if_neg (show ¬ ¬ ((0 ≤ d ∧ d < (fv mu f).2.1) ∧ 0 ≤ w ∧ w ≤ 1) from fun z => z q.1), if_pos q.2] at E
      refine aw_putI C dX5_point_36 fX5_62 ⟨rfl, by decide⟩ rfl rfl rfl ?_
      have hc : cE mu (wr mu 0 11 2) 2 := cE_w
      generalize wr mu 0 11 2 = m1 at *
      obtain ⟨e5, ev, hV1, en, el, e11⟩ := hc.all h
      refine aw_aload_n C dX5_point_39 rfl ?_
      refine aw_getI C dX5_point_40 fX5_62 ⟨rfl, by decide⟩ rfl ?_
      rw [e11]
      refine aw_if_eq C dX5_point_43 (tgt := 50) (by decide) ⟨by omega, by omega⟩ (fun c1 => ?_) (fun c1 => ?_)
      · exfalso; omega
      · refine aw_ldc2 C dX5_point_46 kX5_130 (z := -9223372036854775808) (by decide +kernel) ?_
        exact aw_lret C E dX5_point_49 rfl ⟨rfl, hc⟩
  refine aw_aload_n C dX5_point_0 rfl ?_
  refine aw_aload_n C dX5_point_1 rfl ?_
  refine aw_iload_n C dX5_point_2 rfl ?_
  refine aw_call1 C dX5_point_3 lX5_165 vX5_hasLoad (t_X5_hasLoad h hd) rfl rfl rfl ⟨rfl, by decide⟩ rfl ⟨by decide, by decide⟩ (Nat.le_of_ble_eq_true rfl) ?_
  refine aw_if_eq C dX5_point_6 (tgt := 20) (by decide) ⟨by omega, by omega⟩ (fun c1 => ?_) (fun c1 => ?_)
  · refine aw_iconst C dX5_point_20 ?_
    refine aw_goto C dX5_point_21 (tgt := 36) (by decide) ?_
    first
    | exact fin 0 (Or.inl ⟨rfl, ⟨k2t (by omega), by omega, by omega⟩, k4t (by omega)⟩)
    | exact fin 2 (Or.inr (Or.inr ⟨rfl, ⟨k2t (by omega), by omega, by omega⟩, k4f (by omega)⟩))
    | exact fin 1 (Or.inr (Or.inl ⟨rfl, fun z => by omega⟩))
    | exact fin 1 (Or.inr (Or.inl ⟨rfl, fun z => k2f (by omega) z.1⟩))
  · refine aw_iload C dX5_point_9 rfl ?_
    refine aw_if_lt C dX5_point_11 (tgt := 20) (by decide) ⟨by omega, by omega⟩ (fun c2 => ?_) (fun c2 => ?_)
    · refine aw_iconst C dX5_point_20 ?_
      refine aw_goto C dX5_point_21 (tgt := 36) (by decide) ?_
      first
      | exact fin 0 (Or.inl ⟨rfl, ⟨k2t (by omega), by omega, by omega⟩, k4t (by omega)⟩)
      | exact fin 2 (Or.inr (Or.inr ⟨rfl, ⟨k2t (by omega), by omega, by omega⟩, k4f (by omega)⟩))
      | exact fin 1 (Or.inr (Or.inl ⟨rfl, fun z => by omega⟩))
      | exact fin 1 (Or.inr (Or.inl ⟨rfl, fun z => k2f (by omega) z.1⟩))
    · refine aw_iload C dX5_point_14 rfl ?_
      refine aw_iconst C dX5_point_16 ?_
      refine aw_icmp_le C dX5_point_17 (tgt := 24) (by decide) ⟨by omega, by omega⟩ ⟨by omega, by omega⟩ (fun c3 => ?_) (fun c3 => ?_)
      · refine aw_iload_n C dX5_point_24 rfl ?_
        refine aw_callS1 C dX5_point_25 lX5_215 vX5_isMultiple (t_X5_isMultiple hk) rfl rfl rfl ⟨by decide, by decide⟩ (Nat.le_of_ble_eq_true rfl) ?_
        refine aw_if_eq C dX5_point_28 (tgt := 35) (by decide) ⟨by omega, by omega⟩ (fun c4 => ?_) (fun c4 => ?_)
        · refine aw_iconst C dX5_point_35 ?_
          first
          | exact fin 0 (Or.inl ⟨rfl, ⟨k2t (by omega), by omega, by omega⟩, k4t (by omega)⟩)
          | exact fin 2 (Or.inr (Or.inr ⟨rfl, ⟨k2t (by omega), by omega, by omega⟩, k4f (by omega)⟩))
          | exact fin 1 (Or.inr (Or.inl ⟨rfl, fun z => by omega⟩))
          | exact fin 1 (Or.inr (Or.inl ⟨rfl, fun z => k2f (by omega) z.1⟩))
        · refine aw_iconst C dX5_point_31 ?_
          refine aw_goto C dX5_point_32 (tgt := 36) (by decide) ?_
          first
          | exact fin 0 (Or.inl ⟨rfl, ⟨k2t (by omega), by omega, by omega⟩, k4t (by omega)⟩)
          | exact fin 2 (Or.inr (Or.inr ⟨rfl, ⟨k2t (by omega), by omega, by omega⟩, k4f (by omega)⟩))
          | exact fin 1 (Or.inr (Or.inl ⟨rfl, fun z => by omega⟩))
          | exact fin 1 (Or.inr (Or.inl ⟨rfl, fun z => k2f (by omega) z.1⟩))
      · refine aw_iconst C dX5_point_20 ?_
        refine aw_goto C dX5_point_21 (tgt := 36) (by decide) ?_
        first
        | exact fin 0 (Or.inl ⟨rfl, ⟨k2t (by omega), by omega, by omega⟩, k4t (by omega)⟩)
        | exact fin 2 (Or.inr (Or.inr ⟨rfl, ⟨k2t (by omega), by omega, by omega⟩, k4f (by omega)⟩))
        | exact fin 1 (Or.inr (Or.inl ⟨rfl, fun z => by omega⟩))
        | exact fin 1 (Or.inr (Or.inl ⟨rfl, fun z => k2f (by omega) z.1⟩))
noncomputable def qNd (V : FV) (d n : Int) : Int × Int := if 0 ≤ d ∧ d < V.2.1 then (fst (fun k => n ≤ cumN (PVo V d k 0) 10000000) (-2) 4 1, 0) else (-1, 1)
theorem t_X5_needs {mu : Mem} {f : Nat} {d n : Int} (h : cF mu f) (hd : R32 d) (hN : R64 n) : Tr 7 mX5_needs [vr 0, vi d, vl n] mu (fun r m2 => r = some (vi (qNd (fv mu f) d n).1) ∧ cE mu m2 (qNd (fv mu f) d n).2) := by
  refine Tr.of (by decide +kernel) (Nat.le_of_ble_eq_true rfl) (fun K C E => ?_)
  have hf := h.1
  have hV := h.2.2.1
  have hn := hV.n
  have hl := hV.l
  have en0 : (fv mu f).1 = mu f 0 := rfl
  have el0 : (fv mu f).2.1 = mu f 1 := rfl
  unfold qNd at E
  have k2 := b01_01 (0 ≤ d ∧ d < mu f 1)
  have k2t : b01 (0 ≤ d ∧ d < mu f 1) = 1 → 0 ≤ d ∧ d < mu f 1 := b01_iff.mp
  have k2f : b01 (0 ≤ d ∧ d < mu f 1) = 0 → ¬ (0 ≤ d ∧ d < mu f 1) := b01_niff.mp
  have loop : clo (fv mu f) → (0 ≤ d ∧ d < mu f 1) → CR K (NC, 0, 0) mX5_needs (fun r m2 => r = some (vi (fst (fun k => n ≤ cumN (PVo (fv mu f) d k 0) 10000000) (-2) 4 1)) ∧ cE mu m2 0) → ∀ (t : Nat) (k : Int) (m1 : Mem), k + t = 5 → 1 ≤ k → cE mu m1 0 → fst (fun k => n ≤ cumN (PVo (fv mu f) d k 0) 10000000) (-2) 4 1 = fst (fun k => n ≤ cumN (PVo (fv mu f) d k 0) 10000000) (-2) t k → AW K mX5_needs (NC, 0, 0) 29 [vr 0, vi d, vl n, vx, vi k] [] m1 := by
    intro cl q0 E t
    induction t with
    | zero =>
      intro k m1 q1 q2 hc q4
      rw [q4] at E
      refine aw_iload C dX5_needs_29 rfl ?_
      refine aw_iconst C dX5_needs_31 ?_
      refine aw_icmp_gt C dX5_needs_32 (tgt := 64) (by decide) ⟨by omega, by omega⟩ ⟨by omega, by omega⟩ (fun c1 => ?_) (fun c1 => ?_)
      · refine aw_bipush C dX5_needs_64 rfl ?_
        exact aw_iret C E dX5_needs_66 rfl ⟨rfl, hc⟩
      · exfalso; omega
    | succ t ih =>
      intro k m1 q1 q2 hc q4
      obtain ⟨e5, ev, hV1, en, el, e11⟩ := hc.all h
      refine aw_iload C dX5_needs_29 rfl ?_
      refine aw_iconst C dX5_needs_31 ?_
      refine aw_icmp_gt C dX5_needs_32 (tgt := 64) (by decide) ⟨by omega, by omega⟩ ⟨by omega, by omega⟩ (fun c1 => ?_) (fun c1 => ?_)
      · exfalso; omega
      · refine aw_aload_n C dX5_needs_35 rfl ?_
        refine aw_getS C dX5_needs_36 fX5_28 ⟨rfl, by decide⟩ rfl rfl (srf 0 2 9 (by decide)) ?_
        refine aw_aload_n C dX5_needs_39 rfl ?_
        refine aw_getR C dX5_needs_40 fX5_43 ⟨rfl, by decide⟩ rfl e5 ?_
        refine aw_iload_n C dX5_needs_43 rfl ?_
        refine aw_iload C dX5_needs_44 rfl ?_
        refine aw_iconst C dX5_needs_46 ?_
        refine aw_call C dX5_needs_47 lX5_218 vX2_countAll (t_X2_countAll (k := k) (z := 0) hf hV1 (by omega) (by omega) (by omega) (by omega) (by rw [ev]; exact (clo_ln cl d k 0).1) (by rw [ev]; exact (clo_ln cl d k 0).2)) rfl rfl rfl ⟨rfl, by decide⟩ rfl ⟨by decide, by decide⟩ (Nat.le_of_ble_eq_true rfl) (fun r2 mu2 hq2 => ?_)
        obtain ⟨z1, z2, rfl⟩ := hq2
        rw [ev] at z2
        rw [ev, cum_last z2]
        have hcp := hc.ply z1
        have cb := cumN_b (PVo_b hV (d := d) (k := k) (z := 0) (by omega) (by omega)) (x := 10000000) (by omega)
        show AW _ _ _ _ _ (vl (cumN (PVo (fv mu f) d k 0) 10000000) :: _) _
        refine aw_lload_n C dX5_needs_50 rfl ?_
        refine aw_lcmp_lt C dX5_needs_51 dX5_needs_52 (tgt := 58) (by decide) ⟨by omega, by omega⟩ ⟨by omega, by omega⟩ (fun ca => ?_) (fun ca => ?_)
        · refine aw_iinc C dX5_needs_58 rfl ?_
          refine aw_goto C dX5_needs_61 (tgt := 29) (by decide) ?_
          exact ih (k + 1) _ (by omega) (by omega) hcp (by rw [q4, fst_f (P := fun k => n ≤ cumN (PVo (fv mu f) d k 0) 10000000) (show ¬ n ≤ cumN (PVo (fv mu f) d k 0) 10000000 by omega)])
        · refine aw_iload C dX5_needs_55 rfl ?_
          exact aw_iret C E dX5_needs_57 rfl ⟨by rw [q4, fst_t (P := fun k => n ≤ cumN (PVo (fv mu f) d k 0) 10000000) (show n ≤ cumN (PVo (fv mu f) d k 0) 10000000 by omega)], hcp⟩
  have fin : ∀ {v90 : Vv} (c : Int), (c = 0 ∧ 0 ≤ d ∧ d < mu f 1) ∨ (c = 1 ∧ ¬ (0 ≤ d ∧ d < mu f 1)) → AW K mX5_needs (NC, 0, 0) 14 [vr 0, vi d, vl n, vx, v90] [vi c, vr 0] mu := by
    rintro v90 c (⟨rfl, q⟩ | ⟨rfl, q⟩)
    · rw [if_pos (show 0 ≤ d ∧ d < (fv mu f).2.1 from q)] at E
      have cl := (h.2.2.cl (Or.inr (show 0 < (fv mu f).2.1 by omega))).1
      refine aw_putI C dX5_needs_14 fX5_62 ⟨rfl, by decide⟩ rfl rfl rfl ?_
      have hc : cE mu (wr mu 0 11 0) 0 := cE_w
      generalize wr mu 0 11 0 = m1 at *
      obtain ⟨e5, ev, hV1, en, el, e11⟩ := hc.all h
      refine aw_aload_n C dX5_needs_17 rfl ?_
      refine aw_getI C dX5_needs_18 fX5_62 ⟨rfl, by decide⟩ rfl ?_
      rw [e11]
      refine aw_if_eq C dX5_needs_21 (tgt := 26) (by decide) ⟨by omega, by omega⟩ (fun c1 => ?_) (fun c1 => ?_)
      · refine aw_iconst C dX5_needs_26 ?_
        refine aw_istore C dX5_needs_27 (by decide) ?_
        exact loop cl q E 4 1 m1 (by omega) (by omega) hc rfl
      · exfalso; omega
    · rw [if_neg (show ¬ (0 ≤ d ∧ d < (fv mu f).2.1) from q)] at E
      refine aw_putI C dX5_needs_14 fX5_62 ⟨rfl, by decide⟩ rfl rfl rfl ?_
      have hc : cE mu (wr mu 0 11 1) 1 := cE_w
      generalize wr mu 0 11 1 = m1 at *
      obtain ⟨e5, ev, hV1, en, el, e11⟩ := hc.all h
      refine aw_aload_n C dX5_needs_17 rfl ?_
      refine aw_getI C dX5_needs_18 fX5_62 ⟨rfl, by decide⟩ rfl ?_
      rw [e11]
      refine aw_if_eq C dX5_needs_21 (tgt := 26) (by decide) ⟨by omega, by omega⟩ (fun c1 => ?_) (fun c1 => ?_)
      · exfalso; omega
      · refine aw_iconst C dX5_needs_24 ?_
        exact aw_iret C E dX5_needs_25 rfl ⟨rfl, hc⟩
  refine aw_aload_n C dX5_needs_0 rfl ?_
  refine aw_aload_n C dX5_needs_1 rfl ?_
  refine aw_iload_n C dX5_needs_2 rfl ?_
  refine aw_call1 C dX5_needs_3 lX5_165 vX5_hasLoad (t_X5_hasLoad h hd) rfl rfl rfl ⟨rfl, by decide⟩ rfl ⟨by decide, by decide⟩ (Nat.le_of_ble_eq_true rfl) ?_
  refine aw_if_eq C dX5_needs_6 (tgt := 13) (by decide) ⟨by omega, by omega⟩ (fun c1 => ?_) (fun c1 => ?_)
  · refine aw_iconst C dX5_needs_13 ?_
    first
    | exact fin 0 (Or.inl ⟨rfl, k2t (by omega)⟩)
    | exact fin 1 (Or.inr ⟨rfl, k2f (by omega)⟩)
  · refine aw_iconst C dX5_needs_9 ?_
    refine aw_goto C dX5_needs_10 (tgt := 14) (by decide) ?_
    first
    | exact fin 0 (Or.inl ⟨rfl, k2t (by omega)⟩)
    | exact fin 1 (Or.inr ⟨rfl, k2f (by omega)⟩)

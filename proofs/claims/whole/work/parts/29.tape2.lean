theorem scn_all {A : Nat → Int} {P : Int → Bool} {n : Int} : ∀ (k : Nat) (q j : Int), q ≤ j → j < scn A P n k q → P (A j.toNat) = true
  | 0, q, j, h1, h2 => by have h2 : j < q := h2; omega
  | k + 1, q, j, h1, h2 => by
    have e : scn A P n (k + 1) q = if q < n ∧ P (A q.toNat) = true then scn A P n k (q + 1) else q := rfl
    rw [e] at h2
    split at h2
    · rename_i w
      rcases Int.lt_or_eq_of_le h1 with z | z
      · exact scn_all k (q + 1) j (by omega) h2
      · rw [← z]; exact w.2
    · omega
theorem wdv_b {A : Nat → Int} {q : Int} : ∀ (k : Nat) , (∀ j : Int, q ≤ j → j < q + k → lt (A j.toNat) = true) → 0 ≤ wdv A 32 96 q (q + k) ∧ wdv A 32 96 q (q + k) < 32 ^ k
  | 0, _ => by rw [show q + ((0 : Nat) : Int) = q by simp, wdv_0]; decide
  | k + 1, h => by
    have ih := wdv_b (A := A) (q := q) k (fun j h1 h2 => h j h1 (by omega))
    have h1 := lt_t.mp (h (q + k) (by omega) (by omega))
    rw [show q + ((k + 1 : Nat) : Int) = (q + k) + 1 by omega, wdv_s (by omega), Int.pow_succ]
    omega
theorem wdv_d {A : Nat → Int} {q : Int} : ∀ (k : Nat) , (∀ j : Int, q ≤ j → j < q + k → dg (A j.toNat) = true) → 0 ≤ wdv A 10 48 q (q + k) ∧ wdv A 10 48 q (q + k) < 10 ^ k
  | 0, _ => by rw [show q + ((0 : Nat) : Int) = q by simp, wdv_0]; decide
  | k + 1, h => by
    have ih := wdv_d (A := A) (q := q) k (fun j h1 h2 => h j h1 (by omega))
    have h1 := dg_t.mp (h (q + k) (by omega) (by omega))
    rw [show q + ((k + 1 : Nat) : Int) = (q + k) + 1 by omega, wdv_s (by omega), Int.pow_succ]
    omega
/-- a token's kind and value are small -/
def tB (t : TK) : Prop := (0 ≤ t.1 ∧ t.1 ≤ 59) ∧ (t.1 = 1 → 0 ≤ t.2.1 ∧ t.2.1 < 1073741824) ∧ (t.1 = 2 → 0 ≤ t.2.1 ∧ t.2.1 ≤ 99)
theorem tok_b {A : Nat → Int} {n p : Int} (h : p ≤ n) : tB (tok A n p) := by
  have h1 := sc_in (A := A) (P := bl) h
  have h2 := sc_in (A := A) (P := lt) h1.2
  have h3 := sc_in (A := A) (P := dg) h1.2
  generalize hq : sc A bl n p = q at *
  have hw : sc A lt n q - q ≤ 6 → 0 ≤ wdv A 32 96 q (sc A lt n q) ∧ wdv A 32 96 q (sc A lt n q) < 1073741824 := fun w => by
    have := wdv_b (A := A) (q := q) (sc A lt n q - q).toNat (fun j a b => scn_all _ _ j a (by show j < sc A lt n q; omega))
    rw [show q + (((sc A lt n q - q).toNat : Nat) : Int) = sc A lt n q by omega] at this
    have w1 := pow32 (a := (sc A lt n q - q).toNat) (b := 6) (by omega)
    have w2 : (32 : Int) ^ 6 = 1073741824 := by decide
    omega
  have hd : sc A dg n q - q ≤ 2 → 0 ≤ wdv A 10 48 q (sc A dg n q) ∧ wdv A 10 48 q (sc A dg n q) ≤ 99 := fun w => by
    have := wdv_d (A := A) (q := q) (sc A dg n q - q).toNat (fun j a b => scn_all _ _ j a (by show j < sc A dg n q; omega))
    rw [show q + (((sc A dg n q - q).toNat : Nat) : Int) = sc A dg n q by omega] at this
    have w3 : (sc A dg n q - q).toNat = 0 ∨ (sc A dg n q - q).toNat = 1 ∨ (sc A dg n q - q).toNat = 2 := by omega
    rcases w3 with w3 | w3 | w3 <;> rw [w3] at this <;> simp at this <;> omega
  unfold tok
  rw [hq]
  unfold tB
  split
  · simp
  · split
    · split
      · rename_i w; have := hw w; simp; omega
      · simp
    · split
      · split
        · rename_i w; have := hd w; simp; omega
        · simp
      · split
        · rename_i w; rcases w with w | w | w <;> rw [w] <;> simp
        · simp
def isNm (t : TK) : Prop := t.1 = 1 ∧ t.2.1 ≠ 18489 ∧ t.2.1 ≠ 52 ∧ t.2.1 ≠ 408612 ∧ t.2.1 ≠ 494
/-- what has been read: rays, loads, x, y, names, numbers -/
abbrev PD : Type := Int × Int × (Nat → Int) × (Nat → Int) × (Nat → Int) × (Nat → Int) × (Nat → Nat → Int)
def pdC (mu : Mem) : PD := (mu 1 6, mu 1 7, cut1 (mu 1 6) (mu 2), cut1 (mu 1 6) (mu 3), cut1 (mu 1 6) (mu 7), cut1 (mu 1 7) (mu 4), cut2 (mu 1 7) 12 (fun d r => mu 5 (12 * d + r)))
def bD (D : PD) : Prop := (0 ≤ D.1 ∧ D.1 ≤ 12) ∧ (0 ≤ D.2.1 ∧ D.2.1 ≤ 6) ∧ (∀ i, -9 ≤ D.2.2.1 i ∧ D.2.2.1 i ≤ 9) ∧ (∀ i, -9 ≤ D.2.2.2.1 i ∧ D.2.2.2.1 i ≤ 9) ∧ (∀ i, 0 ≤ D.2.2.2.2.1 i ∧ D.2.2.2.2.1 i < 1073741824) ∧ (∀ i, 0 ≤ D.2.2.2.2.2.1 i ∧ D.2.2.2.2.2.1 i < 1073741824) ∧ ∀ d r, -20 ≤ D.2.2.2.2.2.2 d r ∧ D.2.2.2.2.2.2 d r ≤ 20
noncomputable def rNm (D : PD) (w : Int) : Int := fst (fun i => D.2.2.2.2.1 i.toNat = w) (-1) D.1.toNat 0
def lNm (D : PD) (w : Int) : Prop := ∃ i : Int, 0 ≤ i ∧ i < D.2.1 ∧ D.2.2.2.2.2.1 i.toNat = w
def rAt (D : PD) (x y : Int) : Prop := ∃ i : Int, 0 ≤ i ∧ i < D.1 ∧ D.2.2.1 i.toNat = x ∧ D.2.2.2.1 i.toNat = y
theorem cut1_at {n i : Int} {A : Nat → Int} (h0 : 0 ≤ i) (h1 : i < n) : cut1 n A i.toNat = A i.toNat := by unfold cut1; rw [if_pos (by omega)]
theorem fst_in2 {P : Int → Prop} : ∀ (k : Nat) (i : Int), fst P (-1) k i = -1 ∨ (i ≤ fst P (-1) k i ∧ fst P (-1) k i < i + k ∧ P (fst P (-1) k i))
  | 0, i => Or.inl rfl
  | k + 1, i => by
    rcases Classical.em (P i) with q | q
    · rw [fst_t q]; exact Or.inr ⟨by omega, by omega, q⟩
    · rw [fst_f q]
      rcases fst_in2 (P := P) k (i + 1) with h | ⟨h1, h2, h3⟩
      · exact Or.inl h
      · exact Or.inr ⟨by omega, by omega, h3⟩
theorem t_X3_rayNamed {mu : Mem} {w : Int} (h : bD (pdC mu)) (hw : R32 w) : TrE 0 mX3_rayNamed [vr 1, vi w] mu (some (vi (rNm (pdC mu) w))) mu := by
  refine Tr.of (by decide +kernel) (Nat.le_of_ble_eq_true rfl) (fun K C E => ?_)
  have hn : 0 ≤ mu 1 6 ∧ mu 1 6 ≤ 12 := h.1
  have loop : ∀ (k : Nat) (i : Int), 0 ≤ i → i + k = mu 1 6 → rNm (pdC mu) w = fst (fun i => (pdC mu).2.2.2.2.1 i.toNat = w) (-1) k i → AW K mX3_rayNamed (NC, 0, 0) 2 [vr 1, vi w, vi i] [] mu := by
    intro k
    induction k with
    | zero =>
      intro i q0 q1 q2
      refine aw_iload_n C dX3_rayNamed_2 rfl ?_
      refine aw_aload_n C dX3_rayNamed_3 rfl ?_
      refine aw_getI C dX3_rayNamed_4 fX3_53 ⟨rfl, by decide⟩ rfl ?_
      refine aw_icmp_ge C dX3_rayNamed_7 (tgt := 34) (by decide) ⟨by omega, by omega⟩ ⟨by omega, by omega⟩ (fun c1 => ?_) (fun c1 => ?_)
      · refine aw_iconst C dX3_rayNamed_34 ?_
        exact aw_iret C E dX3_rayNamed_35 rfl ⟨by rw [q2]; rfl, rfl⟩
      · exfalso; omega
    | succ k ih =>
      intro i q0 q1 q2
      have e : (pdC mu).2.2.2.2.1 i.toNat = mu 7 i.toNat := cut1_at q0 (by omega)
      have b := h.2.2.2.2.1 i.toNat
      rw [e] at b
      refine aw_iload_n C dX3_rayNamed_2 rfl ?_
      refine aw_aload_n C dX3_rayNamed_3 rfl ?_
      refine aw_getI C dX3_rayNamed_4 fX3_53 ⟨rfl, by decide⟩ rfl ?_
      refine aw_icmp_ge C dX3_rayNamed_7 (tgt := 34) (by decide) ⟨by omega, by omega⟩ ⟨by omega, by omega⟩ (fun c1 => ?_) (fun c1 => ?_)
      · exfalso; omega
      · refine aw_iload_n C dX3_rayNamed_10 rfl ?_
        refine aw_bipush C dX3_rayNamed_11 rfl ?_
        refine aw_icmp_ge C dX3_rayNamed_13 (tgt := 34) (by decide) ⟨by omega, by omega⟩ ⟨by omega, by omega⟩ (fun c2 => ?_) (fun c2 => ?_)
        · exfalso; omega
        · refine aw_aload_n C dX3_rayNamed_16 rfl ?_
          refine aw_getS C dX3_rayNamed_17 fX3_30 ⟨rfl, by decide⟩ rfl rfl (srf 1 9 7 (by decide)) ?_
          refine aw_iload_n C dX3_rayNamed_20 rfl ?_
          refine aw_iald C dX3_rayNamed_21 ⟨rfl, by decide⟩ (by decide) (by omega) (by omega) ?_
          refine aw_iload_n C dX3_rayNamed_22 rfl ?_
          refine aw_icmp_ne C dX3_rayNamed_23 (tgt := 28) (by decide) ⟨by omega, by omega⟩ ⟨by omega, by omega⟩ (fun c3 => ?_) (fun c3 => ?_)
          · refine aw_iinc C dX3_rayNamed_28 rfl ?_
            refine aw_goto C dX3_rayNamed_31 (tgt := 2) (by decide) ?_
            exact ih (i + 1) (by omega) (by omega) (by rw [q2, fst_f (fun z => c3 (by rw [← e]; exact z))])
          · refine aw_iload_n C dX3_rayNamed_26 rfl ?_
            exact aw_iret C E dX3_rayNamed_27 rfl ⟨by rw [q2, fst_t (P := fun i => (pdC mu).2.2.2.2.1 i.toNat = w) (show (pdC mu).2.2.2.2.1 i.toNat = w by rw [e]; exact c3)], rfl⟩
  refine aw_iconst C dX3_rayNamed_0 ?_
  refine aw_istore_n C dX3_rayNamed_1 (by decide) ?_
  exact loop (mu 1 6).toNat 0 (by omega) (by omega) rfl
theorem t_X3_isLoadNamed {mu : Mem} {w : Int} (h : bD (pdC mu)) (hw : R32 w) : TrE 0 mX3_isLoadNamed [vr 1, vi w] mu (some (vi (b01 (lNm (pdC mu) w)))) mu := by
  refine Tr.of (by decide +kernel) (Nat.le_of_ble_eq_true rfl) (fun K C E => ?_)
  have hn : 0 ≤ mu 1 7 ∧ mu 1 7 ≤ 6 := h.2.1
  have loop : ∀ (k : Nat) (i : Int), 0 ≤ i → i + k = mu 1 7 → (∀ j : Int, 0 ≤ j → j < i → (pdC mu).2.2.2.2.2.1 j.toNat ≠ w) → AW K mX3_isLoadNamed (NC, 0, 0) 2 [vr 1, vi w, vi i] [] mu := by
    intro k
    induction k with
    | zero =>
      intro i q0 q1 q2
      rw [b01_f (fun z => by obtain ⟨j, z1, z2, z3⟩ := z; have z2 : j < mu 1 7 := z2; exact q2 j z1 (by omega) z3)] at E
      refine aw_iload_n C dX3_isLoadNamed_2 rfl ?_
      refine aw_aload_n C dX3_isLoadNamed_3 rfl ?_
      refine aw_getI C dX3_isLoadNamed_4 fX3_56 ⟨rfl, by decide⟩ rfl ?_
      refine aw_icmp_ge C dX3_isLoadNamed_7 (tgt := 34) (by decide) ⟨by omega, by omega⟩ ⟨by omega, by omega⟩ (fun c1 => ?_) (fun c1 => ?_)
      · refine aw_iconst C dX3_isLoadNamed_34 ?_
        exact aw_zret C E dX3_isLoadNamed_35 rfl (by omega) ⟨rfl, rfl⟩
      · exfalso; omega
    | succ k ih =>
      intro i q0 q1 q2
      have e : (pdC mu).2.2.2.2.2.1 i.toNat = mu 4 i.toNat := cut1_at q0 (by omega)
      have b := h.2.2.2.2.2.1 i.toNat
      rw [e] at b
      refine aw_iload_n C dX3_isLoadNamed_2 rfl ?_
      refine aw_aload_n C dX3_isLoadNamed_3 rfl ?_
      refine aw_getI C dX3_isLoadNamed_4 fX3_56 ⟨rfl, by decide⟩ rfl ?_
      refine aw_icmp_ge C dX3_isLoadNamed_7 (tgt := 34) (by decide) ⟨by omega, by omega⟩ ⟨by omega, by omega⟩ (fun c1 => ?_) (fun c1 => ?_)
      · exfalso; omega
      · refine aw_iload_n C dX3_isLoadNamed_10 rfl ?_
        refine aw_bipush C dX3_isLoadNamed_11 rfl ?_
        refine aw_icmp_ge C dX3_isLoadNamed_13 (tgt := 34) (by decide) ⟨by omega, by omega⟩ ⟨by omega, by omega⟩ (fun c2 => ?_) (fun c2 => ?_)
        · exfalso; omega
        · refine aw_aload_n C dX3_isLoadNamed_16 rfl ?_
          refine aw_getS C dX3_isLoadNamed_17 fX3_20 ⟨rfl, by decide⟩ rfl rfl (srf 1 2 4 (by decide)) ?_
          refine aw_iload_n C dX3_isLoadNamed_20 rfl ?_
          refine aw_iald C dX3_isLoadNamed_21 ⟨rfl, by decide⟩ (by decide) (by omega) (by omega) ?_
          refine aw_iload_n C dX3_isLoadNamed_22 rfl ?_
          refine aw_icmp_ne C dX3_isLoadNamed_23 (tgt := 28) (by decide) ⟨by omega, by omega⟩ ⟨by omega, by omega⟩ (fun c3 => ?_) (fun c3 => ?_)
          · refine aw_iinc C dX3_isLoadNamed_28 rfl ?_
            refine aw_goto C dX3_isLoadNamed_31 (tgt := 2) (by decide) ?_
            refine ih (i + 1) (by omega) (by omega) (fun j z1 z2 => ?_)
            rcases Int.lt_or_eq_of_le (show j ≤ i by omega) with z | z
            · exact q2 j z1 z
            · rw [z, e]; exact c3
          · refine aw_iconst C dX3_isLoadNamed_26 ?_
            exact aw_zret C E dX3_isLoadNamed_27 rfl (by omega) ⟨by rw [b01_t ⟨i, q0, show i < mu 1 7 by omega, by rw [e]; exact c3⟩], rfl⟩
  refine aw_iconst C dX3_isLoadNamed_0 ?_
  refine aw_istore_n C dX3_isLoadNamed_1 (by decide) ?_
  exact loop (mu 1 7).toNat 0 (by omega) (by omega) (fun j z1 z2 => by omega)
theorem t_X3_isRayAt {mu : Mem} {x y : Int} (h : bD (pdC mu)) (hx : R32 x) (hy : R32 y) : TrE 0 mX3_isRayAt [vr 1, vi x, vi y] mu (some (vi (b01 (rAt (pdC mu) x y)))) mu := by
  refine Tr.of (by decide +kernel) (Nat.le_of_ble_eq_true rfl) (fun K C E => ?_)
  have hn : 0 ≤ mu 1 6 ∧ mu 1 6 ≤ 12 := h.1
  have loop : ∀ (k : Nat) (i : Int), 0 ≤ i → i + k = mu 1 6 → (∀ j : Int, 0 ≤ j → j < i → ¬ ((pdC mu).2.2.1 j.toNat = x ∧ (pdC mu).2.2.2.1 j.toNat = y)) → AW K mX3_isRayAt (NC, 0, 0) 2 [vr 1, vi x, vi y, vi i] [] mu := by
    intro k
    induction k with
    | zero =>
      intro i q0 q1 q2
      rw [b01_f (fun z => by obtain ⟨j, z1, z2, z3⟩ := z; have z2 : j < mu 1 6 := z2; exact q2 j z1 (by omega) z3)] at E
      refine aw_iload_n C dX3_isRayAt_2 rfl ?_
      refine aw_aload_n C dX3_isRayAt_3 rfl ?_
      refine aw_getI C dX3_isRayAt_4 fX3_53 ⟨rfl, by decide⟩ rfl ?_
      refine aw_icmp_ge C dX3_isRayAt_7 (tgt := 44) (by decide) ⟨by omega, by omega⟩ ⟨by omega, by omega⟩ (fun c1 => ?_) (fun c1 => ?_)
      · refine aw_iconst C dX3_isRayAt_44 ?_
        exact aw_zret C E dX3_isRayAt_45 rfl (by omega) ⟨rfl, rfl⟩
      · exfalso; omega
    | succ k ih =>
      intro i q0 q1 q2
      have e1 : (pdC mu).2.2.1 i.toNat = mu 2 i.toNat := cut1_at q0 (by omega)
      have e2 : (pdC mu).2.2.2.1 i.toNat = mu 3 i.toNat := cut1_at q0 (by omega)
      have b1 := h.2.2.1 i.toNat
      have b2 := h.2.2.2.1 i.toNat
      rw [e1] at b1
      rw [e2] at b2
      have nx : ¬ (mu 2 i.toNat = x ∧ mu 3 i.toNat = y) → AW K mX3_isRayAt (NC, 0, 0) 2 [vr 1, vi x, vi y, vi (i + 1)] [] mu := fun w => by
        refine ih (i + 1) (by omega) (by omega) (fun j z1 z2 => ?_)
        rcases Int.lt_or_eq_of_le (show j ≤ i by omega) with z | z
        · exact q2 j z1 z
        · rw [z, e1, e2]; exact w
      refine aw_iload_n C dX3_isRayAt_2 rfl ?_
      refine aw_aload_n C dX3_isRayAt_3 rfl ?_
      refine aw_getI C dX3_isRayAt_4 fX3_53 ⟨rfl, by decide⟩ rfl ?_
      refine aw_icmp_ge C dX3_isRayAt_7 (tgt := 44) (by decide) ⟨by omega, by omega⟩ ⟨by omega, by omega⟩ (fun c1 => ?_) (fun c1 => ?_)
      · exfalso; omega
      · refine aw_iload_n C dX3_isRayAt_10 rfl ?_
        refine aw_bipush C dX3_isRayAt_11 rfl ?_
        refine aw_icmp_ge C dX3_isRayAt_13 (tgt := 44) (by decide) ⟨by omega, by omega⟩ ⟨by omega, by omega⟩ (fun c2 => ?_) (fun c2 => ?_)
        · exfalso; omega
        · refine aw_aload_n C dX3_isRayAt_16 rfl ?_
          refine aw_getS C dX3_isRayAt_17 fX3_11 ⟨rfl, by decide⟩ rfl rfl (srf 1 0 2 (by decide)) ?_
          refine aw_iload_n C dX3_isRayAt_20 rfl ?_
          refine aw_iald C dX3_isRayAt_21 ⟨rfl, by decide⟩ (by decide) (by omega) (by omega) ?_
          refine aw_iload_n C dX3_isRayAt_22 rfl ?_
          refine aw_icmp_ne C dX3_isRayAt_23 (tgt := 38) (by decide) ⟨by omega, by omega⟩ ⟨by omega, by omega⟩ (fun c3 => ?_) (fun c3 => ?_)
          · refine aw_iinc C dX3_isRayAt_38 rfl ?_
            refine aw_goto C dX3_isRayAt_41 (tgt := 2) (by decide) ?_
            first | exact nx (fun w => c3 w.1) | exact nx (fun w => c4 w.2)
          · refine aw_aload_n C dX3_isRayAt_26 rfl ?_
            refine aw_getS C dX3_isRayAt_27 fX3_15 ⟨rfl, by decide⟩ rfl rfl (srf 1 1 3 (by decide)) ?_
            refine aw_iload_n C dX3_isRayAt_30 rfl ?_
            refine aw_iald C dX3_isRayAt_31 ⟨rfl, by decide⟩ (by decide) (by omega) (by omega) ?_
            refine aw_iload_n C dX3_isRayAt_32 rfl ?_
            refine aw_icmp_ne C dX3_isRayAt_33 (tgt := 38) (by decide) ⟨by omega, by omega⟩ ⟨by omega, by omega⟩ (fun c4 => ?_) (fun c4 => ?_)
            · refine aw_iinc C dX3_isRayAt_38 rfl ?_
              refine aw_goto C dX3_isRayAt_41 (tgt := 2) (by decide) ?_
              first | exact nx (fun w => c3 w.1) | exact nx (fun w => c4 w.2)
            · refine aw_iconst C dX3_isRayAt_36 ?_
              exact aw_zret C E dX3_isRayAt_37 rfl (by omega) ⟨by rw [b01_t ⟨i, q0, show i < mu 1 6 by omega, by rw [e1]; exact c3, by rw [e2]; exact c4⟩], rfl⟩
  refine aw_iconst C dX3_isRayAt_0 ?_
  refine aw_istore_n C dX3_isRayAt_1 (by decide) ?_
  exact loop (mu 1 6).toNat 0 (by omega) (by omega) (fun j z1 z2 => by omega)
theorem t_X3_isName {mu : Mem} {t : TK} (ht : TSt mu t) (hb : tB t) : TrE 0 mX3_isName [vr 1] mu (some (vi (b01 (isNm t)))) mu := by
  refine Tr.of (by decide +kernel) (Nat.le_of_ble_eq_true rfl) (fun K C E => ?_)
  obtain ⟨a1, a2, a3, a4⟩ := ht
  obtain ⟨b1, b2, b3⟩ := hb
  by_cases h1 : t.1 = 1
  · have e := a2 (Or.inl h1)
    have b := b2 h1
    by_cases h2 : t.2.1 = 18489 ∨ t.2.1 = 52 ∨ t.2.1 = 408612 ∨ t.2.1 = 494
    · rw [b01_f (fun z => by obtain ⟨z1, z2, z3, z4, z5⟩ := z; omega)] at E
      refine aw_aload_n C dX3_isName_0 rfl ?_
      refine aw_getI C dX3_isName_1 fX3_62 ⟨rfl, by decide⟩ rfl ?_
      rw [a1]
      refine aw_iconst C dX3_isName_4 ?_
      refine aw_icmp_ne C dX3_isName_5 (tgt := 50) (by decide) ⟨by omega, by omega⟩ ⟨by omega, by omega⟩ (fun c1 => ?_) (fun c1 => ?_)
      · exfalso; omega
      · refine aw_aload_n C dX3_isName_8 rfl ?_
        refine aw_getI C dX3_isName_9 fX3_65 ⟨rfl, by decide⟩ rfl ?_
        rw [e]
        refine aw_sipush C dX3_isName_12 rfl ?_
        refine aw_icmp_eq C dX3_isName_15 (tgt := 50) (by decide) ⟨by omega, by omega⟩ ⟨by omega, by omega⟩ (fun c2 => ?_) (fun c2 => ?_)
        · refine aw_iconst C dX3_isName_50 ?_
          exact aw_zret C E dX3_isName_51 rfl (by omega) ⟨rfl, rfl⟩
        · refine aw_aload_n C dX3_isName_18 rfl ?_
          refine aw_getI C dX3_isName_19 fX3_65 ⟨rfl, by decide⟩ rfl ?_
          rw [e]
          refine aw_bipush C dX3_isName_22 rfl ?_
          refine aw_icmp_eq C dX3_isName_24 (tgt := 50) (by decide) ⟨by omega, by omega⟩ ⟨by omega, by omega⟩ (fun c3 => ?_) (fun c3 => ?_)
          · refine aw_iconst C dX3_isName_50 ?_
            exact aw_zret C E dX3_isName_51 rfl (by omega) ⟨rfl, rfl⟩
          · refine aw_aload_n C dX3_isName_27 rfl ?_
            refine aw_getI C dX3_isName_28 fX3_65 ⟨rfl, by decide⟩ rfl ?_
            rw [e]
            refine aw_ldc C dX3_isName_31 kX3_72 (z := 408612) (by decide +kernel) ?_
            refine aw_icmp_eq C dX3_isName_33 (tgt := 50) (by decide) ⟨by omega, by omega⟩ ⟨by omega, by omega⟩ (fun c4 => ?_) (fun c4 => ?_)
            · refine aw_iconst C dX3_isName_50 ?_
              exact aw_zret C E dX3_isName_51 rfl (by omega) ⟨rfl, rfl⟩
            · refine aw_aload_n C dX3_isName_36 rfl ?_
              refine aw_getI C dX3_isName_37 fX3_65 ⟨rfl, by decide⟩ rfl ?_
              rw [e]
              refine aw_sipush C dX3_isName_40 rfl ?_
              refine aw_icmp_eq C dX3_isName_43 (tgt := 50) (by decide) ⟨by omega, by omega⟩ ⟨by omega, by omega⟩ (fun c5 => ?_) (fun c5 => ?_)
              · refine aw_iconst C dX3_isName_50 ?_
                exact aw_zret C E dX3_isName_51 rfl (by omega) ⟨rfl, rfl⟩
              · exfalso; omega
    · rw [b01_t (show isNm t from ⟨h1, by omega, by omega, by omega, by omega⟩)] at E
      refine aw_aload_n C dX3_isName_0 rfl ?_
      refine aw_getI C dX3_isName_1 fX3_62 ⟨rfl, by decide⟩ rfl ?_
      rw [a1]
      refine aw_iconst C dX3_isName_4 ?_
      refine aw_icmp_ne C dX3_isName_5 (tgt := 50) (by decide) ⟨by omega, by omega⟩ ⟨by omega, by omega⟩ (fun c1 => ?_) (fun c1 => ?_)
      · exfalso; omega
      · refine aw_aload_n C dX3_isName_8 rfl ?_
        refine aw_getI C dX3_isName_9 fX3_65 ⟨rfl, by decide⟩ rfl ?_
        rw [e]
        refine aw_sipush C dX3_isName_12 rfl ?_
        refine aw_icmp_eq C dX3_isName_15 (tgt := 50) (by decide) ⟨by omega, by omega⟩ ⟨by omega, by omega⟩ (fun c2 => ?_) (fun c2 => ?_)
        · exfalso; omega
        · refine aw_aload_n C dX3_isName_18 rfl ?_
          refine aw_getI C dX3_isName_19 fX3_65 ⟨rfl, by decide⟩ rfl ?_
          rw [e]
          refine aw_bipush C dX3_isName_22 rfl ?_
          refine aw_icmp_eq C dX3_isName_24 (tgt := 50) (by decide) ⟨by omega, by omega⟩ ⟨by omega, by omega⟩ (fun c3 => ?_) (fun c3 => ?_)
          · exfalso; omega
          · refine aw_aload_n C dX3_isName_27 rfl ?_
            refine aw_getI C dX3_isName_28 fX3_65 ⟨rfl, by decide⟩ rfl ?_
            rw [e]
            refine aw_ldc C dX3_isName_31 kX3_72 (z := 408612) (by decide +kernel) ?_
            refine aw_icmp_eq C dX3_isName_33 (tgt := 50) (by decide) ⟨by omega, by omega⟩ ⟨by omega, by omega⟩ (fun c4 => ?_) (fun c4 => ?_)
            · exfalso; omega
            · refine aw_aload_n C dX3_isName_36 rfl ?_
              refine aw_getI C dX3_isName_37 fX3_65 ⟨rfl, by decide⟩ rfl ?_
              rw [e]
              refine aw_sipush C dX3_isName_40 rfl ?_
              refine aw_icmp_eq C dX3_isName_43 (tgt := 50) (by decide) ⟨by omega, by omega⟩ ⟨by omega, by omega⟩ (fun c5 => ?_) (fun c5 => ?_)
              · exfalso; omega
              · refine aw_iconst C dX3_isName_46 ?_
                refine aw_goto C dX3_isName_47 (tgt := 51) (by decide) ?_
                exact aw_zret C E dX3_isName_51 rfl (by omega) ⟨rfl, rfl⟩
  · rw [b01_f (fun z => h1 z.1)] at E
    refine aw_aload_n C dX3_isName_0 rfl ?_
    refine aw_getI C dX3_isName_1 fX3_62 ⟨rfl, by decide⟩ rfl ?_
    rw [a1]
    refine aw_iconst C dX3_isName_4 ?_
    refine aw_icmp_ne C dX3_isName_5 (tgt := 50) (by decide) ⟨by omega, by omega⟩ ⟨by omega, by omega⟩ (fun c1 => ?_) (fun c1 => ?_)
    · refine aw_iconst C dX3_isName_50 ?_
      exact aw_zret C E dX3_isName_51 rfl (by omega) ⟨rfl, rfl⟩
    · exfalso; omega
noncomputable def fNew (D : PD) (t : TK) : Int := if b01 (isNm t) = 0 then 1 else if b01 (rNm D t.2.1 ≠ -1 ∨ lNm D t.2.1) = 1 then 3 else 0
theorem t_X3_faultOfNewName {mu : Mem} {t : TK} (h : bD (pdC mu)) (ht : TSt mu t) (hb : tB t) : TrE 1 mX3_faultOfNewName [vr 1] mu (some (vi (fNew (pdC mu) t))) mu := by
  refine Tr.of (by decide +kernel) (Nat.le_of_ble_eq_true rfl) (fun K C E => ?_)
  have hn := b01_01 (isNm t)
  have hl := b01_01 (lNm (pdC mu) t.2.1)
  have hr := fst_in2 (P := fun i => (pdC mu).2.2.2.2.1 i.toNat = t.2.1) (pdC mu).1.toNat 0
  have hr2 : rNm (pdC mu) t.2.1 = fst (fun i => (pdC mu).2.2.2.2.1 i.toNat = t.2.1) (-1) (pdC mu).1.toNat 0 := rfl
  have hn6 : (pdC mu).1 = mu 1 6 := rfl
  have hn12 : 0 ≤ mu 1 6 ∧ mu 1 6 ≤ 12 := h.1
  have hrr : -1 ≤ rNm (pdC mu) t.2.1 ∧ rNm (pdC mu) t.2.1 < 12 := by rw [hr2]; rcases hr with w | w <;> omega
  unfold fNew at E
  have vv : isNm t → mu 1 13 = t.2.1 ∧ (0 ≤ t.2.1 ∧ t.2.1 < 1073741824) := fun w => ⟨ht.2.1 (Or.inl w.1), hb.2.1 w.1⟩
  refine aw_aload_n C dX3_faultOfNewName_0 rfl ?_
  refine aw_call1 C dX3_faultOfNewName_1 lX3_104 vX3_isName (t_X3_isName ht hb) rfl rfl rfl ⟨rfl, by decide⟩ rfl ⟨by decide, by decide⟩ (Nat.le_of_ble_eq_true rfl) ?_
  refine aw_if_ne C dX3_faultOfNewName_4 (tgt := 9) (by decide) ⟨by omega, by omega⟩ (fun c1 => ?_) (fun c1 => ?_)
  · have w := vv (b01_iff.mp (by omega))
    rw [if_neg (by omega)] at E
    --go
    refine aw_aload_n C dX3_faultOfNewName_9 rfl ?_
    refine aw_aload_n C dX3_faultOfNewName_10 rfl ?_
    refine aw_getI C dX3_faultOfNewName_11 fX3_65 ⟨rfl, by decide⟩ rfl ?_
    rw [w.1]
    refine aw_call1 C dX3_faultOfNewName_14 lX3_101 vX3_rayNamed (t_X3_rayNamed h ⟨by omega, by omega⟩) rfl rfl rfl ⟨rfl, by decide⟩ rfl ⟨by decide, by decide⟩ (Nat.le_of_ble_eq_true rfl) ?_
    refine aw_iconst C dX3_faultOfNewName_17 ?_
    refine aw_icmp_ne C dX3_faultOfNewName_18 (tgt := 32) (by decide) ⟨by omega, by omega⟩ ⟨by omega, by omega⟩ (fun c2 => ?_) (fun c2 => ?_)
    · rw [if_pos (b01_t (Or.inl c2))] at E
      --go
      refine aw_iconst C dX3_faultOfNewName_32 ?_
      refine aw_goto C dX3_faultOfNewName_33 (tgt := 37) (by decide) ?_
      exact aw_iret C E dX3_faultOfNewName_37 rfl ⟨rfl, rfl⟩
    · refine aw_aload_n C dX3_faultOfNewName_21 rfl ?_
      refine aw_aload_n C dX3_faultOfNewName_22 rfl ?_
      refine aw_getI C dX3_faultOfNewName_23 fX3_65 ⟨rfl, by decide⟩ rfl ?_
      rw [w.1]
      refine aw_call1 C dX3_faultOfNewName_26 lX3_108 vX3_isLoadNamed (t_X3_isLoadNamed h ⟨by omega, by omega⟩) rfl rfl rfl ⟨rfl, by decide⟩ rfl ⟨by decide, by decide⟩ (Nat.le_of_ble_eq_true rfl) ?_
      refine aw_if_eq C dX3_faultOfNewName_29 (tgt := 36) (by decide) ⟨by omega, by omega⟩ (fun c3 => ?_) (fun c3 => ?_)
      · have wl := b01_niff.mp c3
        rw [if_neg (fun z => by rcases b01_iff.mp z with z | z; omega; exact wl z)] at E
        --go
        refine aw_iconst C dX3_faultOfNewName_36 ?_
        exact aw_iret C E dX3_faultOfNewName_37 rfl ⟨rfl, rfl⟩
      · rw [if_pos (b01_t (Or.inr (b01_iff.mp (by omega))))] at E
        --go
        refine aw_iconst C dX3_faultOfNewName_32 ?_
        refine aw_goto C dX3_faultOfNewName_33 (tgt := 37) (by decide) ?_
        exact aw_iret C E dX3_faultOfNewName_37 rfl ⟨rfl, rfl⟩
  · rw [if_pos (by omega)] at E
    --go
    refine aw_iconst C dX3_faultOfNewName_7 ?_
    exact aw_iret C E dX3_faultOfNewName_8 rfl ⟨rfl, rfl⟩
def fWd (t : TK) (w : Int) : Int := if t.1 = 1 ∧ t.2.1 = w then 0 else 1
theorem t_X3_faultOfWord {mu : Mem} {t : TK} {w : Int} (ht : TSt mu t) (hb : tB t) (hw : R32 w) : TrE 0 mX3_faultOfWord [vr 1, vi w] mu (some (vi (fWd t w))) mu := by
  refine Tr.of (by decide +kernel) (Nat.le_of_ble_eq_true rfl) (fun K C E => ?_)
  obtain ⟨a1, a2, a3, a4⟩ := ht
  obtain ⟨b1, b2, b3⟩ := hb
  unfold fWd at E
  by_cases h1 : t.1 = 1
  · have e := a2 (Or.inl h1)
    have b := b2 h1
    refine aw_aload_n C dX3_faultOfWord_0 rfl ?_
    refine aw_getI C dX3_faultOfWord_1 fX3_62 ⟨rfl, by decide⟩ rfl ?_
    rw [a1]
    refine aw_iconst C dX3_faultOfWord_4 ?_
    refine aw_icmp_ne C dX3_faultOfWord_5 (tgt := 20) (by decide) ⟨by omega, by omega⟩ ⟨by omega, by omega⟩ (fun c1 => ?_) (fun c1 => ?_)
    · exfalso; omega
    · refine aw_aload_n C dX3_faultOfWord_8 rfl ?_
      refine aw_getI C dX3_faultOfWord_9 fX3_65 ⟨rfl, by decide⟩ rfl ?_
      rw [e]
      refine aw_iload_n C dX3_faultOfWord_12 rfl ?_
      refine aw_icmp_ne C dX3_faultOfWord_13 (tgt := 20) (by decide) ⟨by omega, by omega⟩ ⟨by omega, by omega⟩ (fun c2 => ?_) (fun c2 => ?_)
      · rw [if_neg (fun z => c2 z.2)] at E
        --go
        refine aw_iconst C dX3_faultOfWord_20 ?_
        exact aw_iret C E dX3_faultOfWord_21 rfl ⟨rfl, rfl⟩
      · rw [if_pos ⟨h1, c2⟩] at E
        --go
        refine aw_iconst C dX3_faultOfWord_16 ?_
        refine aw_goto C dX3_faultOfWord_17 (tgt := 21) (by decide) ?_
        exact aw_iret C E dX3_faultOfWord_21 rfl ⟨rfl, rfl⟩
  · rw [if_neg (fun z => h1 z.1)] at E
    refine aw_aload_n C dX3_faultOfWord_0 rfl ?_
    refine aw_getI C dX3_faultOfWord_1 fX3_62 ⟨rfl, by decide⟩ rfl ?_
    rw [a1]
    refine aw_iconst C dX3_faultOfWord_4 ?_
    refine aw_icmp_ne C dX3_faultOfWord_5 (tgt := 20) (by decide) ⟨by omega, by omega⟩ ⟨by omega, by omega⟩ (fun c1 => ?_) (fun c1 => ?_)
    · refine aw_iconst C dX3_faultOfWord_20 ?_
      exact aw_iret C E dX3_faultOfWord_21 rfl ⟨rfl, rfl⟩
    · exfalso; omega

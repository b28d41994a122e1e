/-! a direction lies in a cone -/
theorem cyc_all {V : FV} {P : Int → Prop} (h : ∀ i, 0 ≤ i → i < V.1 → P i → P (nxt V i)) {l : Int} (h0 : 0 ≤ l) (h1 : l < V.1) (hl : P l) : ∀ j, 0 ≤ j → j < V.1 → P j := by
  have up : ∀ (a : Int), 0 ≤ a → a < V.1 → P a → ∀ k : Nat, a + k < V.1 → P (a + k) := by
    intro a q0 q1 q2 k
    induction k with
    | zero => intro _; rw [show a + ((0 : Nat) : Int) = a by omega]; exact q2
    | succ k ih =>
      intro hk
      have := h (a + k) (by omega) (by omega) (ih (by omega))
      unfold nxt at this
      rw [if_neg (by omega)] at this
      rw [show a + ((k + 1 : Nat) : Int) = a + k + 1 by omega]
      exact this
  have z : P 0 := by
    have e := up l h0 h1 hl (V.1 - 1 - l).toNat (by omega)
    rw [show l + ((V.1 - 1 - l).toNat : Int) = V.1 - 1 by omega] at e
    have := h _ (by omega) (by omega) e
    unfold nxt at this
    rw [if_pos (by omega)] at this
    exact this
  intro j j0 j1
  have e := up 0 (by omega) (by omega) z j.toNat (by omega)
  rw [show (0 : Int) + (j.toNat : Int) = j by omega] at e
  exact e
/-- a fan seen from a direction -/
def turV (V : FV) (x y : Int) : FV := (V.1, V.2.1, fun j => V.2.2.1 j * x + V.2.2.2.1 j * y, fun j => V.2.2.2.1 j * x - V.2.2.1 j * y, V.2.2.2.2)
theorem tur_id (a b c d x y : Int) : (a * x + b * y) * (d * x - c * y) - (b * x - a * y) * (c * x + d * y) = (x * x + y * y) * (a * d - b * c) := by
  simp only [Int.sub_mul, Int.mul_sub, Int.add_mul, Int.mul_add]
  simp only [Int.mul_assoc, Int.mul_comm, Int.mul_left_comm]
  omega
theorem sq_pos {x y : Int} (h : ¬ (x = 0 ∧ y = 0)) : 0 < x * x + y * y := by
  have p : ∀ z : Int, 0 ≤ z * z ∧ (z ≠ 0 → 0 < z * z) := fun z => by
    rcases Int.lt_or_le z 0 with w | w
    · have := Int.mul_pos (show 0 < -z by omega) (show 0 < -z by omega)
      rw [Int.neg_mul_neg] at this
      exact ⟨by omega, fun _ => this⟩
    · exact ⟨Int.mul_nonneg w w, fun q => Int.mul_pos (by omega) (by omega)⟩
  have p1 := p x
  have p2 := p y
  by_cases q : x = 0
  · have := p2.2 (fun w => h ⟨q, w⟩); omega
  · have := p1.2 q; omega
theorem clo_tur {V : FV} (hc : clo V) {x y : Int} (h : ¬ (x = 0 ∧ y = 0)) : clo (turV V x y) := by
  refine ⟨hc.1, fun i h0 h1 => ?_⟩
  have e := tur_id (gx V i) (gy V i) (gx V (nxt V i)) (gy V (nxt V i)) x y
  have t := hc.2 i h0 h1
  have : trn (turV V x y) i = (x * x + y * y) * trn V i := e
  rw [this]
  exact Int.mul_pos (sq_pos h) t
theorem cof_ex {V : FV} (hc : clo V) {x y : Int} (h : ¬ (x = 0 ∧ y = 0)) : ∃ i, 0 ≤ i ∧ i < V.1 ∧ cin V x y i := by
  obtain ⟨a, a0, a1, a2⟩ := clo_y (clo_tur hc h) (s := -1) (Or.inr rfl)
  obtain ⟨b, b0, b1, b2⟩ := clo_y (clo_tur hc h) (s := 1) (Or.inl rfl)
  have ea : gy (turV V x y) a = gy V a * x - gx V a * y := rfl
  have eb : gy (turV V x y) b = gy V b * x - gx V b * y := rfl
  have a1 : a < V.1 := a1
  have b1 : b < V.1 := b1
  rw [ea] at a2
  rw [eb] at b2
  refine Classical.byContradiction fun hn => ?_
  have al := cyc_all (V := V) (P := fun i => 0 ≤ gx V i * y - gy V i * x) (fun i h0 h1 hp => by
    rcases Int.lt_or_le (gx V (nxt V i) * y - gy V (nxt V i) * x) 0 with w | w
    · refine absurd ⟨i, h0, h1, hp, ?_⟩ hn
      rw [Int.mul_comm x, Int.mul_comm y]
      omega
    · exact w) a0 a1 (by show 0 ≤ _; omega)
  have := al b b0 b1
  have : 0 ≤ gx V b * y - gy V b * x := this
  omega
theorem cof_spec {V : FV} (hc : clo V) {x y : Int} (h : ¬ (x = 0 ∧ y = 0)) : (0 ≤ cof V x y ∧ cof V x y < V.1) ∧ cin V x y (cof V x y) ∧ ∀ j, 0 ≤ j → j < cof V x y → ¬ cin V x y j := by
  have key : ∀ (k : Nat) (i : Int), (∃ j, i ≤ j ∧ j < i + k ∧ cin V x y j) → (i ≤ fst (cin V x y) 0 k i ∧ fst (cin V x y) 0 k i < i + k) ∧ cin V x y (fst (cin V x y) 0 k i) ∧ ∀ j, i ≤ j → j < fst (cin V x y) 0 k i → ¬ cin V x y j := by
    intro k
    induction k with
    | zero => rintro i ⟨j, h1, h2, -⟩; omega
    | succ k ih =>
      rintro i ⟨j, h1, h2, h3⟩
      by_cases q : cin V x y i
      · rw [fst_t q]
        exact ⟨⟨by omega, by omega⟩, q, fun j q1 q2 => by omega⟩
      · rw [fst_f q]
        have hj : i ≠ j := fun w => q (by rw [w]; exact h3)
        obtain ⟨r1, r2, r3⟩ := ih (i + 1) ⟨j, by omega, by omega, h3⟩
        refine ⟨⟨by omega, by omega⟩, r2, fun z z1 z2 => ?_⟩
        by_cases e : z = i
        · rw [e]; exact q
        · exact r3 z (by omega) z2
  obtain ⟨i, i0, i1, i2⟩ := cof_ex hc h
  obtain ⟨r1, r2, r3⟩ := key V.1.toNat 0 ⟨i, i0, by omega, i2⟩
  exact ⟨⟨r1.1, by have := r1.2; show fst (cin V x y) 0 V.1.toNat 0 < V.1; omega⟩, r2, r3⟩
theorem t_X6_coneOf {mu : Mem} {V : FV} {x y : Int} (eV : mv mu = V) (hV : bV V) (hc : clo V) (hx : -60 ≤ x ∧ x ≤ 60) (hy : -60 ≤ y ∧ y ≤ 60) (hz : ¬ (x = 0 ∧ y = 0)) : TrE 1 mX6_coneOf [vr 55, vi x, vi y] mu (some (vi (cof V x y))) mu := by
  refine Tr.of (by decide +kernel) (Nat.le_of_ble_eq_true rfl) (fun K C E => ?_)
  have hn := hV.1
  obtain ⟨q1, q2, q3⟩ := cof_spec hc hz
  generalize cof V x y = co at *
  have loop : ∀ (k : Nat) (i : Int), 0 ≤ i → i + k = co → AW K mX6_coneOf (NC, 0, 0) 2 [vr 55, vi x, vi y, vi i] [] mu := by
    intro k
    induction k with
    | zero =>
      intro i h0 h1
      have e : i = co := by omega
      subst e
      obtain ⟨a1, a2⟩ := nxt_in h0 (show i < V.1 by omega)
      have m1 := mulb (hV.x i) hy
      have m2 := mulb (hV.y i) hx
      have m3 := mulb hx (hV.y (nxt V i))
      have m4 := mulb hy (hV.x (nxt V i))
      have z1 := q2.1
      have z2 := q2.2
      rw [← mxV eV h0 (by omega)] at z1 m1
      rw [← myV eV h0 (by omega)] at z1 m2
      rw [← mxV eV a1 a2, ← myV eV a1 a2] at z2
      rw [← myV eV a1 a2] at m3
      rw [← mxV eV a1 a2] at m4
      refine aw_aload_n C dX6_coneOf_2 rfl ?_
      refine aw_getS C dX6_coneOf_3 fX6_41 ⟨rfl, by decide⟩ rfl rfl (srf 55 23 64 (by decide)) ?_
      refine aw_iload_n C dX6_coneOf_6 rfl ?_
      refine aw_iald C dX6_coneOf_7 ⟨rfl, by decide⟩ (by decide) (by omega) (by omega) ?_
      refine aw_aload_n C dX6_coneOf_8 rfl ?_
      refine aw_getS C dX6_coneOf_9 fX6_44 ⟨rfl, by decide⟩ rfl rfl (srf 55 24 65 (by decide)) ?_
      refine aw_iload_n C dX6_coneOf_12 rfl ?_
      refine aw_iald C dX6_coneOf_13 ⟨rfl, by decide⟩ (by decide) (by omega) (by omega) ?_
      refine aw_iload_n C dX6_coneOf_14 rfl ?_
      refine aw_iload_n C dX6_coneOf_15 rfl ?_
      refine aw_callS1 C dX6_coneOf_16 lX6_227 vX6_cross (t_X6_cross) rfl rfl rfl ⟨by decide, by decide⟩ (Nat.le_of_ble_eq_true rfl) ?_
      refine aw_if_lt C dX6_coneOf_19 (tgt := 50) (by decide) ⟨by omega, by omega⟩ (fun c1 => ?_) (fun c1 => ?_)
      · exfalso; omega
      · refine aw_iload_n C dX6_coneOf_22 rfl ?_
        refine aw_iload_n C dX6_coneOf_23 rfl ?_
        refine aw_aload_n C dX6_coneOf_24 rfl ?_
        refine aw_getS C dX6_coneOf_25 fX6_41 ⟨rfl, by decide⟩ rfl rfl (srf 55 23 64 (by decide)) ?_
        refine aw_aload_n C dX6_coneOf_28 rfl ?_
        refine aw_iload_n C dX6_coneOf_29 rfl ?_
        refine aw_call1 C dX6_coneOf_30 lX6_282 vX6_next (t_X6_next eV hV (by omega) (by omega)) rfl rfl rfl ⟨rfl, by decide⟩ rfl ⟨by decide, by decide⟩ (Nat.le_of_ble_eq_true rfl) ?_
        refine aw_iald C dX6_coneOf_33 ⟨rfl, by decide⟩ (by decide) (by omega) (by omega) ?_
        refine aw_aload_n C dX6_coneOf_34 rfl ?_
        refine aw_getS C dX6_coneOf_35 fX6_44 ⟨rfl, by decide⟩ rfl rfl (srf 55 24 65 (by decide)) ?_
        refine aw_aload_n C dX6_coneOf_38 rfl ?_
        refine aw_iload_n C dX6_coneOf_39 rfl ?_
        refine aw_call1 C dX6_coneOf_40 lX6_282 vX6_next (t_X6_next eV hV (by omega) (by omega)) rfl rfl rfl ⟨rfl, by decide⟩ rfl ⟨by decide, by decide⟩ (Nat.le_of_ble_eq_true rfl) ?_
        refine aw_iald C dX6_coneOf_43 ⟨rfl, by decide⟩ (by decide) (by omega) (by omega) ?_
        refine aw_callS1 C dX6_coneOf_44 lX6_227 vX6_cross (t_X6_cross) rfl rfl rfl ⟨by decide, by decide⟩ (Nat.le_of_ble_eq_true rfl) ?_
        refine aw_if_gt C dX6_coneOf_47 (tgt := 56) (by decide) ⟨by omega, by omega⟩ (fun c2 => ?_) (fun c2 => ?_)
        · refine aw_iload_n C dX6_coneOf_56 rfl ?_
          exact aw_iret C E dX6_coneOf_57 rfl ⟨rfl, rfl⟩
        · exfalso; omega
    | succ k ih =>
      intro i h0 h1
      obtain ⟨a1, a2⟩ := nxt_in h0 (show i < V.1 by omega)
      have m1 := mulb (hV.x i) hy
      have m2 := mulb (hV.y i) hx
      have m3 := mulb hx (hV.y (nxt V i))
      have m4 := mulb hy (hV.x (nxt V i))
      have z := q3 i h0 (by omega)
      unfold cin at z
      rw [← mxV eV h0 (by omega)] at z m1
      rw [← myV eV h0 (by omega)] at z m2
      rw [← mxV eV a1 a2, ← myV eV a1 a2] at z
      rw [← myV eV a1 a2] at m3
      rw [← mxV eV a1 a2] at m4
      refine aw_aload_n C dX6_coneOf_2 rfl ?_
      refine aw_getS C dX6_coneOf_3 fX6_41 ⟨rfl, by decide⟩ rfl rfl (srf 55 23 64 (by decide)) ?_
      refine aw_iload_n C dX6_coneOf_6 rfl ?_
      refine aw_iald C dX6_coneOf_7 ⟨rfl, by decide⟩ (by decide) (by omega) (by omega) ?_
      refine aw_aload_n C dX6_coneOf_8 rfl ?_
      refine aw_getS C dX6_coneOf_9 fX6_44 ⟨rfl, by decide⟩ rfl rfl (srf 55 24 65 (by decide)) ?_
      refine aw_iload_n C dX6_coneOf_12 rfl ?_
      refine aw_iald C dX6_coneOf_13 ⟨rfl, by decide⟩ (by decide) (by omega) (by omega) ?_
      refine aw_iload_n C dX6_coneOf_14 rfl ?_
      refine aw_iload_n C dX6_coneOf_15 rfl ?_
      refine aw_callS1 C dX6_coneOf_16 lX6_227 vX6_cross (t_X6_cross) rfl rfl rfl ⟨by decide, by decide⟩ (Nat.le_of_ble_eq_true rfl) ?_
      refine aw_if_lt C dX6_coneOf_19 (tgt := 50) (by decide) ⟨by omega, by omega⟩ (fun c1 => ?_) (fun c1 => ?_)
      · refine aw_iinc C dX6_coneOf_50 rfl ?_
        refine aw_goto C dX6_coneOf_53 (tgt := 2) (by decide) ?_
        exact ih (i + 1) (by omega) (by omega)
      · refine aw_iload_n C dX6_coneOf_22 rfl ?_
        refine aw_iload_n C dX6_coneOf_23 rfl ?_
        refine aw_aload_n C dX6_coneOf_24 rfl ?_
        refine aw_getS C dX6_coneOf_25 fX6_41 ⟨rfl, by decide⟩ rfl rfl (srf 55 23 64 (by decide)) ?_
        refine aw_aload_n C dX6_coneOf_28 rfl ?_
        refine aw_iload_n C dX6_coneOf_29 rfl ?_
        refine aw_call1 C dX6_coneOf_30 lX6_282 vX6_next (t_X6_next eV hV (by omega) (by omega)) rfl rfl rfl ⟨rfl, by decide⟩ rfl ⟨by decide, by decide⟩ (Nat.le_of_ble_eq_true rfl) ?_
        refine aw_iald C dX6_coneOf_33 ⟨rfl, by decide⟩ (by decide) (by omega) (by omega) ?_
        refine aw_aload_n C dX6_coneOf_34 rfl ?_
        refine aw_getS C dX6_coneOf_35 fX6_44 ⟨rfl, by decide⟩ rfl rfl (srf 55 24 65 (by decide)) ?_
        refine aw_aload_n C dX6_coneOf_38 rfl ?_
        refine aw_iload_n C dX6_coneOf_39 rfl ?_
        refine aw_call1 C dX6_coneOf_40 lX6_282 vX6_next (t_X6_next eV hV (by omega) (by omega)) rfl rfl rfl ⟨rfl, by decide⟩ rfl ⟨by decide, by decide⟩ (Nat.le_of_ble_eq_true rfl) ?_
        refine aw_iald C dX6_coneOf_43 ⟨rfl, by decide⟩ (by decide) (by omega) (by omega) ?_
        refine aw_callS1 C dX6_coneOf_44 lX6_227 vX6_cross (t_X6_cross) rfl rfl rfl ⟨by decide, by decide⟩ (Nat.le_of_ble_eq_true rfl) ?_
        refine aw_if_gt C dX6_coneOf_47 (tgt := 56) (by decide) ⟨by omega, by omega⟩ (fun c2 => ?_) (fun c2 => ?_)
        · exfalso; omega
        · refine aw_iinc C dX6_coneOf_50 rfl ?_
          refine aw_goto C dX6_coneOf_53 (tgt := 2) (by decide) ?_
          exact ih (i + 1) (by omega) (by omega)
  refine aw_iconst C dX6_coneOf_0 ?_
  refine aw_istore_n C dX6_coneOf_1 (by decide) ?_
  exact loop co.toNat 0 (by omega) (by omega)
theorem t_X6_kind {mu : Mem} {V : FV} {i : Int} (eV : mv mu = V) (hV : bV V) (hc : clo V) (hp : prm V) (h0 : 0 ≤ i) (h1 : i < V.1) : TrE 3 mX6_kind [vr 55, vi i] mu (some (vi (kq V i))) mu := by
  refine Tr.of (by decide +kernel) (Nat.le_of_ble_eq_true rfl) (fun K C E => ?_)
  have hn := hV.1
  have ht := hV.trn i
  have ht2 := hc.2 i h0 h1
  obtain ⟨a1, a2⟩ := nxt_in h0 h1
  have k1 := kq_ok (hp i h0 h1) ht2
  have k2 : ∀ q, 0 ≤ q → q < kq V i → trn V i ∣ q * gx V i + gx V (nxt V i) → ¬ trn V i ∣ q * gy V i + gy V (nxt V i) := fun q q0 q1 q2 q3 => by
    have := isK_uniq (hp i h0 h1) k1 (r := q) ⟨q0, Int.lt_trans q1 k1.2.1, q2, q3⟩
    omega
  obtain ⟨k3, k4, k5, k6⟩ := k1
  have k4 : kq V i < trn V i := k4
  have k5 : trn V i ∣ kq V i * gx V i + gx V (nxt V i) := k5
  have k6 : trn V i ∣ kq V i * gy V i + gy V (nxt V i) := k6
  have x1 := hV.x i
  have x2 := hV.x (nxt V i)
  have y1 := hV.y i
  have y2 := hV.y (nxt V i)
  have f1 := mxV eV h0 h1
  have f2 := mxV eV a1 a2
  have g1 := myV eV h0 h1
  have g2 := myV eV a1 a2
  generalize hkq : kq V i = kk at *
  have loop : ∀ (k : Nat) (q : Int), 0 ≤ q → q + k = kk → AW K mX6_kind (NC, 0, 0) 15 [vr 55, vi i, vi (trn V i), vi (nxt V i), vi q] [] mu := by
    intro k
    induction k with
    | zero =>
      intro q b0 b1
      have e : q = kk := by omega
      subst e
      have m1 := mulb (a := q) (A := 7200) ⟨by omega, by omega⟩ x1
      have m2 := mulb (a := q) (A := 7200) ⟨by omega, by omega⟩ y1
      have z1 := Int.tmod_eq_zero_of_dvd k5
      have z2 := Int.tmod_eq_zero_of_dvd k6
      rw [← f1, ← f2] at z1
      rw [← g1, ← g2] at z2
      rw [← f1] at m1
      rw [← g1] at m2
      refine aw_iload C dX6_kind_15 rfl ?_
      refine aw_aload_n C dX6_kind_17 rfl ?_
      refine aw_getS C dX6_kind_18 fX6_41 ⟨rfl, by decide⟩ rfl rfl (srf 55 23 64 (by decide)) ?_
      refine aw_iload_n C dX6_kind_21 rfl ?_
      refine aw_iald C dX6_kind_22 ⟨rfl, by decide⟩ (by decide) (by omega) (by omega) ?_
      refine aw_imul C dX6_kind_23 ?_
      refine aw_aload_n C dX6_kind_24 rfl ?_
      refine aw_getS C dX6_kind_25 fX6_41 ⟨rfl, by decide⟩ rfl rfl (srf 55 23 64 (by decide)) ?_
      refine aw_iload_n C dX6_kind_28 rfl ?_
      refine aw_iald C dX6_kind_29 ⟨rfl, by decide⟩ (by decide) (by omega) (by omega) ?_
      refine aw_iadd C dX6_kind_30 ?_
      refine aw_iload_n C dX6_kind_31 rfl ?_
      refine aw_irem C dX6_kind_32 ⟨by omega, by omega⟩ ⟨by omega, by omega⟩ (by omega) ?_
      refine aw_if_ne C dX6_kind_33 (tgt := 57) (by decide) ⟨by omega, by omega⟩ (fun c1 => ?_) (fun c1 => ?_)
      · exfalso; omega
      · refine aw_iload C dX6_kind_36 rfl ?_
        refine aw_aload_n C dX6_kind_38 rfl ?_
        refine aw_getS C dX6_kind_39 fX6_44 ⟨rfl, by decide⟩ rfl rfl (srf 55 24 65 (by decide)) ?_
        refine aw_iload_n C dX6_kind_42 rfl ?_
        refine aw_iald C dX6_kind_43 ⟨rfl, by decide⟩ (by decide) (by omega) (by omega) ?_
        refine aw_imul C dX6_kind_44 ?_
        refine aw_aload_n C dX6_kind_45 rfl ?_
        refine aw_getS C dX6_kind_46 fX6_44 ⟨rfl, by decide⟩ rfl rfl (srf 55 24 65 (by decide)) ?_
        refine aw_iload_n C dX6_kind_49 rfl ?_
        refine aw_iald C dX6_kind_50 ⟨rfl, by decide⟩ (by decide) (by omega) (by omega) ?_
        refine aw_iadd C dX6_kind_51 ?_
        refine aw_iload_n C dX6_kind_52 rfl ?_
        refine aw_irem C dX6_kind_53 ⟨by omega, by omega⟩ ⟨by omega, by omega⟩ (by omega) ?_
        refine aw_if_eq C dX6_kind_54 (tgt := 63) (by decide) ⟨by omega, by omega⟩ (fun c2 => ?_) (fun c2 => ?_)
        · refine aw_iload C dX6_kind_63 rfl ?_
          exact aw_iret C E dX6_kind_65 rfl ⟨rfl, rfl⟩
        · exfalso; omega
    | succ k ih =>
      intro q b0 b1
      have m1 := mulb (a := q) (A := 7200) ⟨by omega, by omega⟩ x1
      have m2 := mulb (a := q) (A := 7200) ⟨by omega, by omega⟩ y1
      have z := k2 q b0 (by omega)
      have z1 : (q * gx V i + gx V (nxt V i)).tmod (trn V i) = 0 → (q * gy V i + gy V (nxt V i)).tmod (trn V i) ≠ 0 := fun w1 w2 => z (Int.dvd_of_tmod_eq_zero w1) (Int.dvd_of_tmod_eq_zero w2)
      have t1 := tmod_b (q * gx V i + gx V (nxt V i)) (trn V i)
      have t2 := tmod_b (q * gy V i + gy V (nxt V i)) (trn V i)
      rw [← f1, ← f2, ← g1, ← g2] at z1
      rw [← f1, ← f2] at t1
      rw [← g1, ← g2] at t2
      rw [← f1] at m1
      rw [← g1] at m2
      refine aw_iload C dX6_kind_15 rfl ?_
      refine aw_aload_n C dX6_kind_17 rfl ?_
      refine aw_getS C dX6_kind_18 fX6_41 ⟨rfl, by decide⟩ rfl rfl (srf 55 23 64 (by decide)) ?_
      refine aw_iload_n C dX6_kind_21 rfl ?_
      refine aw_iald C dX6_kind_22 ⟨rfl, by decide⟩ (by decide) (by omega) (by omega) ?_
      refine aw_imul C dX6_kind_23 ?_
      refine aw_aload_n C dX6_kind_24 rfl ?_
      refine aw_getS C dX6_kind_25 fX6_41 ⟨rfl, by decide⟩ rfl rfl (srf 55 23 64 (by decide)) ?_
      refine aw_iload_n C dX6_kind_28 rfl ?_
      refine aw_iald C dX6_kind_29 ⟨rfl, by decide⟩ (by decide) (by omega) (by omega) ?_
      refine aw_iadd C dX6_kind_30 ?_
      refine aw_iload_n C dX6_kind_31 rfl ?_
      refine aw_irem C dX6_kind_32 ⟨by omega, by omega⟩ ⟨by omega, by omega⟩ (by omega) ?_
      refine aw_if_ne C dX6_kind_33 (tgt := 57) (by decide) ⟨by omega, by omega⟩ (fun c1 => ?_) (fun c1 => ?_)
      · refine aw_iinc C dX6_kind_57 rfl ?_
        refine aw_goto C dX6_kind_60 (tgt := 15) (by decide) ?_
        exact ih (q + 1) (by omega) (by omega)
      · refine aw_iload C dX6_kind_36 rfl ?_
        refine aw_aload_n C dX6_kind_38 rfl ?_
        refine aw_getS C dX6_kind_39 fX6_44 ⟨rfl, by decide⟩ rfl rfl (srf 55 24 65 (by decide)) ?_
        refine aw_iload_n C dX6_kind_42 rfl ?_
        refine aw_iald C dX6_kind_43 ⟨rfl, by decide⟩ (by decide) (by omega) (by omega) ?_
        refine aw_imul C dX6_kind_44 ?_
        refine aw_aload_n C dX6_kind_45 rfl ?_
        refine aw_getS C dX6_kind_46 fX6_44 ⟨rfl, by decide⟩ rfl rfl (srf 55 24 65 (by decide)) ?_
        refine aw_iload_n C dX6_kind_49 rfl ?_
        refine aw_iald C dX6_kind_50 ⟨rfl, by decide⟩ (by decide) (by omega) (by omega) ?_
        refine aw_iadd C dX6_kind_51 ?_
        refine aw_iload_n C dX6_kind_52 rfl ?_
        refine aw_irem C dX6_kind_53 ⟨by omega, by omega⟩ ⟨by omega, by omega⟩ (by omega) ?_
        refine aw_if_eq C dX6_kind_54 (tgt := 63) (by decide) ⟨by omega, by omega⟩ (fun c2 => ?_) (fun c2 => ?_)
        · exact absurd c2 (z1 c1)
        · refine aw_iinc C dX6_kind_57 rfl ?_
          refine aw_goto C dX6_kind_60 (tgt := 15) (by decide) ?_
          exact ih (q + 1) (by omega) (by omega)
  refine aw_aload_n C dX6_kind_0 rfl ?_
  refine aw_iload_n C dX6_kind_1 rfl ?_
  refine aw_call1 C dX6_kind_2 lX6_288 vX6_turn (t_X6_turn eV hV (by omega) (by omega)) rfl rfl rfl ⟨rfl, by decide⟩ rfl ⟨by decide, by decide⟩ (Nat.le_of_ble_eq_true rfl) ?_
  refine aw_istore_n C dX6_kind_5 (by decide) ?_
  refine aw_aload_n C dX6_kind_6 rfl ?_
  refine aw_iload_n C dX6_kind_7 rfl ?_
  refine aw_call1 C dX6_kind_8 lX6_282 vX6_next (t_X6_next eV hV (by omega) (by omega)) rfl rfl rfl ⟨rfl, by decide⟩ rfl ⟨by decide, by decide⟩ (Nat.le_of_ble_eq_true rfl) ?_
  refine aw_istore_n C dX6_kind_11 (by decide) ?_
  refine aw_iconst C dX6_kind_12 ?_
  refine aw_istore C dX6_kind_13 (by decide) ?_
  exact loop kk.toNat 0 (by omega) (by omega)
theorem cln_0 {a b : Int} (h : b ≤ 0) : ∀ k, cln k a b = 0
  | 0 => rfl
  | k + 1 => by show (if b ≤ 0 then 0 else _) = _; rw [if_pos h]
theorem t_X6_chainOfN {mu : Mem} {V : FV} {i : Int} (eV : mv mu = V) (hV : bV V) (hcl : clo V) (hpr : prm V) (h0 : 0 ≤ i) (h1 : i < V.1) : TrE 4 mX6_chainOf [vr 55, vi i, vi (-1)] mu (some (vi (cls (trn V i) (kq V i)))) mu := by
  refine Tr.of (by decide +kernel) (Nat.le_of_ble_eq_true rfl) (fun K C E => ?_)
  have ht := hV.trn i
  have kb := kq_b ⟨hcl, hpr⟩ h0 h1
  have loop : ∀ (k : Nat) (a b n : Int) (v6 v7 : Vv), 0 ≤ b → b < a → a ≤ 7200 → b ≤ k → 0 ≤ n → n + b ≤ 7200 → n + cln k a b = cls (trn V i) (kq V i) → AW K mX6_chainOf (NC, 0, 0) 16 [vr 55, vi i, vi (-1), vi a, vi b, vi n, v6, v7] [] mu := by
    intro k
    induction k with
    | zero =>
      intro a b n v6 v7 q1 q2 q3 q4 q5 q6 q7
      rw [cln_0 (by omega)] at q7
      rw [← q7] at E
      refine aw_iload_n C dX6_chainOf_16 rfl ?_
      refine aw_iconst C dX6_chainOf_17 ?_
      refine aw_icmp_le C dX6_chainOf_18 (tgt := 76) (by decide) ⟨by omega, by omega⟩ ⟨by omega, by omega⟩ (fun c1 => ?_) (fun c1 => ?_)
      · refine aw_iload_n C dX6_chainOf_76 rfl ?_
        refine aw_iconst C dX6_chainOf_77 ?_
        refine aw_icmp_ne C dX6_chainOf_78 (tgt := 86) (by decide) ⟨by omega, by omega⟩ ⟨by omega, by omega⟩ (fun c2 => ?_) (fun c2 => ?_)
        · exfalso; omega
        · refine aw_iload C dX6_chainOf_81 rfl ?_
          refine aw_goto C dX6_chainOf_83 (tgt := 88) (by decide) ?_
          exact aw_iret C E dX6_chainOf_88 rfl ⟨by rw [Int.add_zero], rfl⟩
      · refine aw_iload C dX6_chainOf_21 rfl ?_
        refine aw_if_le C dX6_chainOf_23 (tgt := 76) (by decide) ⟨by omega, by omega⟩ (fun c3 => ?_) (fun c3 => ?_)
        · refine aw_iload_n C dX6_chainOf_76 rfl ?_
          refine aw_iconst C dX6_chainOf_77 ?_
          refine aw_icmp_ne C dX6_chainOf_78 (tgt := 86) (by decide) ⟨by omega, by omega⟩ ⟨by omega, by omega⟩ (fun c4 => ?_) (fun c4 => ?_)
          · exfalso; omega
          · refine aw_iload C dX6_chainOf_81 rfl ?_
            refine aw_goto C dX6_chainOf_83 (tgt := 88) (by decide) ?_
            exact aw_iret C E dX6_chainOf_88 rfl ⟨by rw [Int.add_zero], rfl⟩
        · exfalso; omega
    | succ k ih =>
      intro a b n v6 v7 q1 q2 q3 q4 q5 q6 q7
      by_cases hb : b ≤ 0
      · rw [cln_0 hb] at q7
        rw [← q7] at E
        refine aw_iload_n C dX6_chainOf_16 rfl ?_
        refine aw_iconst C dX6_chainOf_17 ?_
        refine aw_icmp_le C dX6_chainOf_18 (tgt := 76) (by decide) ⟨by omega, by omega⟩ ⟨by omega, by omega⟩ (fun c1 => ?_) (fun c1 => ?_)
        · refine aw_iload_n C dX6_chainOf_76 rfl ?_
          refine aw_iconst C dX6_chainOf_77 ?_
          refine aw_icmp_ne C dX6_chainOf_78 (tgt := 86) (by decide) ⟨by omega, by omega⟩ ⟨by omega, by omega⟩ (fun c2 => ?_) (fun c2 => ?_)
          · exfalso; omega
          · refine aw_iload C dX6_chainOf_81 rfl ?_
            refine aw_goto C dX6_chainOf_83 (tgt := 88) (by decide) ?_
            exact aw_iret C E dX6_chainOf_88 rfl ⟨by rw [Int.add_zero], rfl⟩
        · refine aw_iload C dX6_chainOf_21 rfl ?_
          refine aw_if_le C dX6_chainOf_23 (tgt := 76) (by decide) ⟨by omega, by omega⟩ (fun c3 => ?_) (fun c3 => ?_)
          · refine aw_iload_n C dX6_chainOf_76 rfl ?_
            refine aw_iconst C dX6_chainOf_77 ?_
            refine aw_icmp_ne C dX6_chainOf_78 (tgt := 86) (by decide) ⟨by omega, by omega⟩ ⟨by omega, by omega⟩ (fun c4 => ?_) (fun c4 => ?_)
            · exfalso; omega
            · refine aw_iload C dX6_chainOf_81 rfl ?_
              refine aw_goto C dX6_chainOf_83 (tgt := 88) (by decide) ?_
              exact aw_iret C E dX6_chainOf_88 rfl ⟨by rw [Int.add_zero], rfl⟩
          · exfalso; omega
      · have e : cln (k + 1) a b = 1 + cln k b (cN a b) := by show (if b ≤ 0 then 0 else _) = _; rw [if_neg hb]
        rw [e] at q7
        have cb := cB_b (show 0 < b by omega) (show b ≤ a by omega) q3
        have cn := cN_in (a := a) (show 0 < b by omega)
        have d1 : (a + b - 1).tdiv b = cB a b := Int.tdiv_eq_ediv_of_nonneg (by omega)
        have d2 : cB a b * b - a = cN a b := rfl
        refine aw_iload_n C dX6_chainOf_16 rfl ?_
        refine aw_iconst C dX6_chainOf_17 ?_
        refine aw_icmp_le C dX6_chainOf_18 (tgt := 76) (by decide) ⟨by omega, by omega⟩ ⟨by omega, by omega⟩ (fun c1 => ?_) (fun c1 => ?_)
        · exfalso; omega
        · refine aw_iload C dX6_chainOf_21 rfl ?_
          refine aw_if_le C dX6_chainOf_23 (tgt := 76) (by decide) ⟨by omega, by omega⟩ (fun c2 => ?_) (fun c2 => ?_)
          · exfalso; omega
          · refine aw_iload_n C dX6_chainOf_26 rfl ?_
            refine aw_iload C dX6_chainOf_27 rfl ?_
            refine aw_iadd C dX6_chainOf_29 ?_
            refine aw_iconst C dX6_chainOf_30 ?_
            refine aw_isub C dX6_chainOf_31 ?_
            refine aw_iload C dX6_chainOf_32 rfl ?_
            refine aw_idiv C dX6_chainOf_34 ⟨by omega, by omega⟩ ⟨by omega, by omega⟩ (by omega) ?_
            rw [d1]
            refine aw_istore C dX6_chainOf_35 (by decide) ?_
            refine aw_iload C dX6_chainOf_37 rfl ?_
            refine aw_iload_n C dX6_chainOf_39 rfl ?_
            refine aw_icmp_ne C dX6_chainOf_40 (tgt := 46) (by decide) ⟨by omega, by omega⟩ ⟨by omega, by omega⟩ (fun c3 => ?_) (fun c3 => ?_)
            · refine aw_iload C dX6_chainOf_46 rfl ?_
              refine aw_iload C dX6_chainOf_48 rfl ?_
              refine aw_imul C dX6_chainOf_50 ?_
              refine aw_iload_n C dX6_chainOf_51 rfl ?_
              refine aw_isub C dX6_chainOf_52 ?_
              rw [d2]
              refine aw_istore C dX6_chainOf_53 (by decide) ?_
              refine aw_iload C dX6_chainOf_55 rfl ?_
              refine aw_istore_n C dX6_chainOf_57 (by decide) ?_
              refine aw_iload C dX6_chainOf_58 rfl ?_
              refine aw_istore C dX6_chainOf_60 (by decide) ?_
              refine aw_iinc C dX6_chainOf_62 rfl ?_
              refine aw_iload C dX6_chainOf_65 rfl ?_
              refine aw_if_ne C dX6_chainOf_67 (tgt := 73) (by decide) ⟨by omega, by omega⟩ (fun c4 => ?_) (fun c4 => ?_)
              · refine aw_goto C dX6_chainOf_73 (tgt := 16) (by decide) ?_
                exact ih b (cN a b) (n + 1) _ _ cn.1 cn.2 (by omega) (by omega) (by omega) (by omega) (by omega)
              · rw [cln_0 (by omega)] at q7
                rw [← q7] at E
                --go
                refine aw_goto C dX6_chainOf_70 (tgt := 76) (by decide) ?_
                refine aw_iload_n C dX6_chainOf_76 rfl ?_
                refine aw_iconst C dX6_chainOf_77 ?_
                refine aw_icmp_ne C dX6_chainOf_78 (tgt := 86) (by decide) ⟨by omega, by omega⟩ ⟨by omega, by omega⟩ (fun c5 => ?_) (fun c5 => ?_)
                · exfalso; omega
                · refine aw_iload C dX6_chainOf_81 rfl ?_
                  refine aw_goto C dX6_chainOf_83 (tgt := 88) (by decide) ?_
                  exact aw_iret C E dX6_chainOf_88 rfl ⟨by first | (congr 2; done) | (congr 2; omega), rfl⟩
            · exfalso; omega
  refine aw_aload_n C dX6_chainOf_0 rfl ?_
  refine aw_iload_n C dX6_chainOf_1 rfl ?_
  refine aw_call1 C dX6_chainOf_2 lX6_288 vX6_turn (t_X6_turn eV hV (by omega) (by omega)) rfl rfl rfl ⟨rfl, by decide⟩ rfl ⟨by decide, by decide⟩ (Nat.le_of_ble_eq_true rfl) ?_
  refine aw_istore_n C dX6_chainOf_5 (by decide) ?_
  refine aw_aload_n C dX6_chainOf_6 rfl ?_
  refine aw_iload_n C dX6_chainOf_7 rfl ?_
  refine aw_call1 C dX6_chainOf_8 lX6_305 vX6_kind (t_X6_kind eV hV hcl hpr (by omega) (by omega)) rfl rfl rfl ⟨rfl, by decide⟩ rfl ⟨by decide, by decide⟩ (Nat.le_of_ble_eq_true rfl) ?_
  refine aw_istore C dX6_chainOf_11 (by decide) ?_
  refine aw_iconst C dX6_chainOf_13 ?_
  refine aw_istore C dX6_chainOf_14 (by decide) ?_
  exact loop (kq V i).toNat _ _ 0 _ _ kb.1 kb.2 (by omega) (by omega) (by omega) (by omega) (by rw [Int.zero_add]; rfl)
theorem t_X6_chainOfK {mu : Mem} {V : FV} {i k : Int} (eV : mv mu = V) (hV : bV V) (hcl : clo V) (hpr : prm V) (h0 : 0 ≤ i) (h1 : i < V.1) (hk : 0 ≤ k) (hk2 : R32 k) : TrE 4 mX6_chainOf [vr 55, vi i, vi k] mu (some (vi (aCh V i k))) mu := by
  refine Tr.of (by decide +kernel) (Nat.le_of_ble_eq_true rfl) (fun K C E => ?_)
  have ht := hV.trn i
  have kb := kq_b ⟨hcl, hpr⟩ h0 h1
  have stp : ∀ (r : Nat) (a b : Int), b ≤ 0 → (if b01 (0 < (cit r a b).2) = 1 then cB (cit r a b).1 (cit r a b).2 else -2) = -2 := fun r a b hb => by
    rw [cit_stop hb]
    rw [if_neg (fun w => by have := b01_iff.mp w; have : 0 < b := this; omega)]
  have loop : ∀ (r : Nat) (a b n : Int) (v6 v7 : Vv), 0 ≤ b → b < a → a ≤ 7200 → 0 ≤ n → n + r = k → aCh V i k = (if b01 (0 < (cit r a b).2) = 1 then cB (cit r a b).1 (cit r a b).2 else -2) → AW K mX6_chainOf (NC, 0, 0) 16 [vr 55, vi i, vi k, vi a, vi b, vi n, v6, v7] [] mu := by
    intro r
    induction r with
    | zero =>
      intro a b n v6 v7 q1 q2 q3 q5 q6 q7
      by_cases hb : b ≤ 0
      · rw [stp _ _ _ hb] at q7
        rw [q7] at E
        refine aw_iload_n C dX6_chainOf_16 rfl ?_
        refine aw_iconst C dX6_chainOf_17 ?_
        refine aw_icmp_le C dX6_chainOf_18 (tgt := 76) (by decide) ⟨by omega, by omega⟩ ⟨by omega, by omega⟩ (fun c1 => ?_) (fun c1 => ?_)
        · refine aw_iload_n C dX6_chainOf_76 rfl ?_
          refine aw_iconst C dX6_chainOf_77 ?_
          refine aw_icmp_ne C dX6_chainOf_78 (tgt := 86) (by decide) ⟨by omega, by omega⟩ ⟨by omega, by omega⟩ (fun c2 => ?_) (fun c2 => ?_)
          · refine aw_bipush C dX6_chainOf_86 rfl ?_
            exact aw_iret C E dX6_chainOf_88 rfl ⟨rfl, rfl⟩
          · exfalso; omega
        · refine aw_iload C dX6_chainOf_21 rfl ?_
          refine aw_if_le C dX6_chainOf_23 (tgt := 76) (by decide) ⟨by omega, by omega⟩ (fun c3 => ?_) (fun c3 => ?_)
          · refine aw_iload_n C dX6_chainOf_76 rfl ?_
            refine aw_iconst C dX6_chainOf_77 ?_
            refine aw_icmp_ne C dX6_chainOf_78 (tgt := 86) (by decide) ⟨by omega, by omega⟩ ⟨by omega, by omega⟩ (fun c4 => ?_) (fun c4 => ?_)
            · refine aw_bipush C dX6_chainOf_86 rfl ?_
              exact aw_iret C E dX6_chainOf_88 rfl ⟨rfl, rfl⟩
            · exfalso; omega
          · exfalso; omega
      · have q7 : aCh V i k = if b01 (0 < b) = 1 then cB a b else -2 := q7
        rw [if_pos (b01_t (by omega))] at q7
        rw [q7] at E
        have d1 : (a + b - 1).tdiv b = cB a b := Int.tdiv_eq_ediv_of_nonneg (by omega)
        refine aw_iload_n C dX6_chainOf_16 rfl ?_
        refine aw_iconst C dX6_chainOf_17 ?_
        refine aw_icmp_le C dX6_chainOf_18 (tgt := 76) (by decide) ⟨by omega, by omega⟩ ⟨by omega, by omega⟩ (fun c1 => ?_) (fun c1 => ?_)
        · exfalso; omega
        · refine aw_iload C dX6_chainOf_21 rfl ?_
          refine aw_if_le C dX6_chainOf_23 (tgt := 76) (by decide) ⟨by omega, by omega⟩ (fun c2 => ?_) (fun c2 => ?_)
          · exfalso; omega
          · refine aw_iload_n C dX6_chainOf_26 rfl ?_
            refine aw_iload C dX6_chainOf_27 rfl ?_
            refine aw_iadd C dX6_chainOf_29 ?_
            refine aw_iconst C dX6_chainOf_30 ?_
            refine aw_isub C dX6_chainOf_31 ?_
            refine aw_iload C dX6_chainOf_32 rfl ?_
            refine aw_idiv C dX6_chainOf_34 ⟨by omega, by omega⟩ ⟨by omega, by omega⟩ (by omega) ?_
            rw [d1]
            refine aw_istore C dX6_chainOf_35 (by decide) ?_
            refine aw_iload C dX6_chainOf_37 rfl ?_
            refine aw_iload_n C dX6_chainOf_39 rfl ?_
            refine aw_icmp_ne C dX6_chainOf_40 (tgt := 46) (by decide) ⟨by omega, by omega⟩ ⟨by omega, by omega⟩ (fun c3 => ?_) (fun c3 => ?_)
            · exfalso; omega
            · refine aw_iload C dX6_chainOf_43 rfl ?_
              exact aw_iret C E dX6_chainOf_45 rfl ⟨rfl, rfl⟩
    | succ r ih =>
      intro a b n v6 v7 q1 q2 q3 q5 q6 q7
      by_cases hb : b ≤ 0
      · rw [stp _ _ _ hb] at q7
        rw [q7] at E
        refine aw_iload_n C dX6_chainOf_16 rfl ?_
        refine aw_iconst C dX6_chainOf_17 ?_
        refine aw_icmp_le C dX6_chainOf_18 (tgt := 76) (by decide) ⟨by omega, by omega⟩ ⟨by omega, by omega⟩ (fun c1 => ?_) (fun c1 => ?_)
        · refine aw_iload_n C dX6_chainOf_76 rfl ?_
          refine aw_iconst C dX6_chainOf_77 ?_
          refine aw_icmp_ne C dX6_chainOf_78 (tgt := 86) (by decide) ⟨by omega, by omega⟩ ⟨by omega, by omega⟩ (fun c2 => ?_) (fun c2 => ?_)
          · refine aw_bipush C dX6_chainOf_86 rfl ?_
            exact aw_iret C E dX6_chainOf_88 rfl ⟨rfl, rfl⟩
          · exfalso; omega
        · refine aw_iload C dX6_chainOf_21 rfl ?_
          refine aw_if_le C dX6_chainOf_23 (tgt := 76) (by decide) ⟨by omega, by omega⟩ (fun c3 => ?_) (fun c3 => ?_)
          · refine aw_iload_n C dX6_chainOf_76 rfl ?_
            refine aw_iconst C dX6_chainOf_77 ?_
            refine aw_icmp_ne C dX6_chainOf_78 (tgt := 86) (by decide) ⟨by omega, by omega⟩ ⟨by omega, by omega⟩ (fun c4 => ?_) (fun c4 => ?_)
            · refine aw_bipush C dX6_chainOf_86 rfl ?_
              exact aw_iret C E dX6_chainOf_88 rfl ⟨rfl, rfl⟩
            · exfalso; omega
          · exfalso; omega
      · have e : cit (r + 1) a b = cit r b (cN a b) := by show (if b ≤ 0 then (a, b) else _) = _; rw [if_neg hb]
        rw [e] at q7
        have cb := cB_b (show 0 < b by omega) (show b ≤ a by omega) q3
        have cn := cN_in (a := a) (show 0 < b by omega)
        have d1 : (a + b - 1).tdiv b = cB a b := Int.tdiv_eq_ediv_of_nonneg (by omega)
        have d2 : cB a b * b - a = cN a b := rfl
        refine aw_iload_n C dX6_chainOf_16 rfl ?_
        refine aw_iconst C dX6_chainOf_17 ?_
        refine aw_icmp_le C dX6_chainOf_18 (tgt := 76) (by decide) ⟨by omega, by omega⟩ ⟨by omega, by omega⟩ (fun c1 => ?_) (fun c1 => ?_)
        · exfalso; omega
        · refine aw_iload C dX6_chainOf_21 rfl ?_
          refine aw_if_le C dX6_chainOf_23 (tgt := 76) (by decide) ⟨by omega, by omega⟩ (fun c2 => ?_) (fun c2 => ?_)
          · exfalso; omega
          · refine aw_iload_n C dX6_chainOf_26 rfl ?_
            refine aw_iload C dX6_chainOf_27 rfl ?_
            refine aw_iadd C dX6_chainOf_29 ?_
            refine aw_iconst C dX6_chainOf_30 ?_
            refine aw_isub C dX6_chainOf_31 ?_
            refine aw_iload C dX6_chainOf_32 rfl ?_
            refine aw_idiv C dX6_chainOf_34 ⟨by omega, by omega⟩ ⟨by omega, by omega⟩ (by omega) ?_
            rw [d1]
            refine aw_istore C dX6_chainOf_35 (by decide) ?_
            refine aw_iload C dX6_chainOf_37 rfl ?_
            refine aw_iload_n C dX6_chainOf_39 rfl ?_
            refine aw_icmp_ne C dX6_chainOf_40 (tgt := 46) (by decide) ⟨by omega, by omega⟩ ⟨by omega, by omega⟩ (fun c3 => ?_) (fun c3 => ?_)
            · refine aw_iload C dX6_chainOf_46 rfl ?_
              refine aw_iload C dX6_chainOf_48 rfl ?_
              refine aw_imul C dX6_chainOf_50 ?_
              refine aw_iload_n C dX6_chainOf_51 rfl ?_
              refine aw_isub C dX6_chainOf_52 ?_
              rw [d2]
              refine aw_istore C dX6_chainOf_53 (by decide) ?_
              refine aw_iload C dX6_chainOf_55 rfl ?_
              refine aw_istore_n C dX6_chainOf_57 (by decide) ?_
              refine aw_iload C dX6_chainOf_58 rfl ?_
              refine aw_istore C dX6_chainOf_60 (by decide) ?_
              refine aw_iinc C dX6_chainOf_62 rfl ?_
              refine aw_iload C dX6_chainOf_65 rfl ?_
              refine aw_if_ne C dX6_chainOf_67 (tgt := 73) (by decide) ⟨by omega, by omega⟩ (fun c4 => ?_) (fun c4 => ?_)
              · refine aw_goto C dX6_chainOf_73 (tgt := 16) (by decide) ?_
                exact ih b (cN a b) (n + 1) _ _ cn.1 cn.2 (by omega) (by omega) (by omega) q7
              · rw [stp _ _ _ (by omega)] at q7
                rw [q7] at E
                --go
                refine aw_goto C dX6_chainOf_70 (tgt := 76) (by decide) ?_
                refine aw_iload_n C dX6_chainOf_76 rfl ?_
                refine aw_iconst C dX6_chainOf_77 ?_
                refine aw_icmp_ne C dX6_chainOf_78 (tgt := 86) (by decide) ⟨by omega, by omega⟩ ⟨by omega, by omega⟩ (fun c5 => ?_) (fun c5 => ?_)
                · refine aw_bipush C dX6_chainOf_86 rfl ?_
                  exact aw_iret C E dX6_chainOf_88 rfl ⟨rfl, rfl⟩
                · exfalso; omega
            · exfalso; omega
  refine aw_aload_n C dX6_chainOf_0 rfl ?_
  refine aw_iload_n C dX6_chainOf_1 rfl ?_
  refine aw_call1 C dX6_chainOf_2 lX6_288 vX6_turn (t_X6_turn eV hV (by omega) (by omega)) rfl rfl rfl ⟨rfl, by decide⟩ rfl ⟨by decide, by decide⟩ (Nat.le_of_ble_eq_true rfl) ?_
  refine aw_istore_n C dX6_chainOf_5 (by decide) ?_
  refine aw_aload_n C dX6_chainOf_6 rfl ?_
  refine aw_iload_n C dX6_chainOf_7 rfl ?_
  refine aw_call1 C dX6_chainOf_8 lX6_305 vX6_kind (t_X6_kind eV hV hcl hpr (by omega) (by omega)) rfl rfl rfl ⟨rfl, by decide⟩ rfl ⟨by decide, by decide⟩ (Nat.le_of_ble_eq_true rfl) ?_
  refine aw_istore C dX6_chainOf_11 (by decide) ?_
  refine aw_iconst C dX6_chainOf_13 ?_
  refine aw_istore C dX6_chainOf_14 (by decide) ?_
  exact loop k.toNat _ _ 0 _ _ kb.1 kb.2 (by omega) (by omega) (by omega) rfl

/-! a closed fan has rays above and below -/
theorem plu (a b c d e f : Int) : (a * f - b * e) * d = (a * d - b * c) * f + (c * f - d * e) * b := by
  simp only [Int.sub_mul]
  simp only [Int.mul_assoc, Int.mul_comm, Int.mul_left_comm]
  omega
theorem neg_of_mul {a b : Int} (h : a * b < 0) (hb : b < 0) : 0 < a := by
  rcases Int.lt_or_le 0 a with w | w
  · exact w
  · have := Int.mul_nonneg (show 0 ≤ -a by omega) (show 0 ≤ -b by omega)
    rw [Int.neg_mul_neg] at this
    omega
theorem nxt_prv {V : FV} {i : Int} (h0 : 0 ≤ i) (h1 : i < V.1) : nxt V (prv V i) = i := by
  unfold nxt prv
  split <;> split <;> omega
theorem clo_y {V : FV} (hc : clo V) {s : Int} (hs : sOk s) : ∃ l, 0 ≤ l ∧ l < V.1 ∧ 0 < gy V l * s := by
  refine Classical.byContradiction fun hn => ?_
  have h3 := hc.1
  have a0 : ∀ i, 0 ≤ i → i < V.1 → gy V i * s ≤ 0 := fun i h0 h1 => by
    rcases Int.lt_or_le 0 (gy V i * s) with w | w
    · exact absurd ⟨i, h0, h1, w⟩ hn
    · exact w
  have a1 : ∀ i, 0 ≤ i → i < V.1 → gy V i * s < 0 := fun i h0 h1 => by
    have q := a0 i h0 h1
    rcases Int.lt_or_le (gy V i * s) 0 with w | w
    · exact w
    · exfalso
      have z : gy V i = 0 := by rcases hs with rfl | rfl <;> omega
      have n1 := nxt_in h0 h1
      have n2 := prv_in h0 h1
      have t1 := hc.2 i h0 h1
      have t2 := hc.2 (prv V i) n2.1 n2.2
      unfold trn at t1 t2
      rw [nxt_prv h0 h1] at t2
      unfold crs at t1 t2
      rw [z] at t1 t2
      have b1 := a0 _ n1.1 n1.2
      have b2 := a0 _ n2.1 n2.2
      rw [Int.zero_mul] at t1
      rw [Int.mul_zero] at t2
      generalize gx V i = x at *
      generalize gy V (nxt V i) = y at *
      generalize gy V (prv V i) = p at *
      rcases hs with rfl | rfl
      · have x1 : x < 0 := by
          rcases Int.lt_or_le x 0 with w | w
          · exact w
          · have := Int.mul_nonneg w (show 0 ≤ -y by omega)
            rw [Int.mul_neg] at this; omega
        have := Int.mul_nonneg (show 0 ≤ -p by omega) (show 0 ≤ -x by omega)
        rw [Int.neg_mul_neg] at this; omega
      · have x1 : 0 < x := by
          rcases Int.lt_or_le 0 x with w | w
          · exact w
          · have := Int.mul_nonneg (show 0 ≤ -x by omega) (show 0 ≤ y by omega)
            rw [Int.neg_mul] at this; omega
        have := Int.mul_nonneg (show 0 ≤ p by omega) (show 0 ≤ x by omega)
        omega
  have nx : ∀ j, 0 ≤ j → j + 1 < V.1 → nxt V j = j + 1 := fun j h0 h1 => by unfold nxt; rw [if_neg (by omega)]
  have b : ∀ k : Nat, (k : Int) + 1 < V.1 → 0 < crs V 0 ((k : Int) + 1) := by
    intro k
    induction k with
    | zero =>
      intro hk
      have t := hc.2 0 (by omega) (by omega)
      unfold trn at t
      rw [nx 0 (by omega) (by omega)] at t
      exact t
    | succ k ih =>
      intro hk
      have t := hc.2 ((k : Int) + 1) (by omega) (by omega)
      unfold trn at t
      rw [nx _ (by omega) (by omega)] at t
      have p := ih (by omega)
      have e := plu (gx V 0) (gy V 0) (gx V ((k : Int) + 1)) (gy V ((k : Int) + 1)) (gx V ((k : Int) + 1 + 1)) (gy V ((k : Int) + 1 + 1))
      have e2 : crs V 0 ((k : Int) + 1 + 1) * gy V ((k : Int) + 1) = crs V 0 ((k : Int) + 1) * gy V ((k : Int) + 1 + 1) + crs V ((k : Int) + 1) ((k : Int) + 1 + 1) * gy V 0 := e
      have e3 := congrArg (fun z => z * s) e2
      simp only [Int.add_mul, Int.mul_assoc] at e3
      have y0 := a1 0 (by omega) (by omega)
      have y1 := a1 ((k : Int) + 1) (by omega) (by omega)
      have y2 := a1 ((k : Int) + 1 + 1) (by omega) (by omega)
      have r1 := Int.mul_neg_of_pos_of_neg p y2
      have r2 := Int.mul_neg_of_pos_of_neg t y0
      rw [show (((k + 1 : Nat) : Int) + 1) = (k : Int) + 1 + 1 by omega]
      exact neg_of_mul (show crs V 0 ((k : Int) + 1 + 1) * (gy V ((k : Int) + 1) * s) < 0 by omega) y1
  have l := b (V.1 - 2).toNat (by omega)
  rw [show (((V.1 - 2).toNat : Nat) : Int) + 1 = V.1 - 1 by omega] at l
  have t := hc.2 (V.1 - 1) (by omega) (by omega)
  unfold trn at t
  rw [show nxt V (V.1 - 1) = 0 by unfold nxt; rw [if_pos (by omega)]] at t
  unfold crs at l t
  rw [Int.mul_comm (gx V (V.1 - 1)), Int.mul_comm (gy V (V.1 - 1))] at t
  omega
theorem clo_ln {V : FV} (hc : clo V) (d k z : Int) : (∃ l, pln (PVo V d k z) 1 l) ∧ ∃ l, pln (PVo V d k z) (-1) l := ⟨clo_y hc (Or.inl rfl), clo_y hc (Or.inr rfl)⟩
/-! counts that do not know where the columns begin -/
noncomputable def col (P : PV) (m : Int) : Int := @ite _ (∀ i, 0 ≤ i → i < P.1 → conP P i m P.1) (Classical.propDecidable _) (mfl P 1 m + mfl P (-1) m + 1) 0
noncomputable def cumN (P : PV) (m : Int) : Int := @ite _ True (Classical.propDecidable _) (sm (fun j => col P (-10000000 + (j : Int))) (m + 10000001).toNat) 0
theorem cumN_eq (P : PV) (m : Int) : cumN P m = sm (fun j => col P (-10000000 + (j : Int))) (m + 10000001).toNat := if_pos trivial
theorem sm_zero {h : Nat → Int} (k : Nat) (h0 : ∀ j, j < k → h j = 0) : sm h k = 0 := by
  rw [sm_congr (g := fun _ => 0) k h0, sm_const]; omega
theorem col_f {P : PV} {m : Int} (h : ¬ ∀ i, 0 ≤ i → i < P.1 → conP P i m P.1) : col P m = 0 := by unfold col; rw [if_neg h]
theorem col_t {P : PV} {m : Int} (h : ∀ i, 0 ≤ i → i < P.1 → conP P i m P.1) : col P m = mfl P 1 m + mfl P (-1) m + 1 := by unfold col; rw [if_pos h]
theorem cum_N {m : Mem} {P : PV} (h : isPo m P) {x : Int} (hx : x ≤ 10000000) : cum P (m 9 4) (m 9 5) x = cumN P x := by
  obtain ⟨-, ⟨⟨a1, a2⟩, ⟨b1, b2⟩⟩, hc⟩ := h
  generalize m 9 4 = a at *
  generalize m 9 5 = b at *
  unfold cum
  rw [cumN_eq]
  have out : ∀ y : Int, -10000000 ≤ y → y ≤ 10000000 → ¬ (a ≤ y ∧ y ≤ b) → col P y = 0 := fun y h1 h2 h3 => col_f (fun w => h3 ((hc y h1 h2).mpr w))
  have inn : ∀ y : Int, a ≤ y → y ≤ b → col P y = mfl P 1 y + mfl P (-1) y + 1 := fun y h1 h2 => col_t ((hc y (by omega) (by omega)).mp ⟨h1, h2⟩)
  by_cases c1 : x < a ∨ b < a
  · rw [show (min x b - a + 1).toNat = 0 by omega]
    rw [sm_zero (x + 10000001).toNat (fun j hj => out _ (by omega) (by omega) (by omega))]
    rfl
  · have e : (x + 10000001).toNat = (a + 10000000).toNat + ((min x b - a + 1).toNat + (x - min x b).toNat) := by omega
    rw [e, sm_split, sm_zero (a + 10000000).toNat (fun j hj => out _ (by omega) (by omega) (by omega)), sm_split]
    rw [sm_zero (x - min x b).toNat (fun j hj => out _ (by omega) (by omega) (by omega))]
    rw [Int.zero_add, Int.add_zero]
    refine sm_congr _ (fun j hj => ?_)
    rw [show (-10000000 + (((a + 10000000).toNat + j : Nat) : Int)) = a + j by omega, inn _ (by omega) (by omega)]
theorem mfl_b {P : PV} (hP : bP P) {s m : Int} (hs : sOk s) (hm : -10000000 ≤ m ∧ m ≤ 10000000) : -700000000 ≤ mfl P s m ∧ mfl P s m ≤ 700000000 := by
  by_cases h : ∃ v, isMn P s m v
  · obtain ⟨v, hv⟩ := h
    rw [mfl_eq hv]
    obtain ⟨⟨i, hi, rfl⟩, -⟩ := hv
    obtain ⟨p1, p2, p3⟩ := hP.2 i hi.1 hi.2.1
    have h1 := mulb (a := m) (b := pX P i) (A := 10000000) (B := 60) ⟨by omega, by omega⟩ ⟨by omega, by omega⟩
    have h2 := hi.2.2
    have h3 : pY P i * s ≤ 60 := by rcases hs with rfl | rfl <;> omega
    unfold ptop
    have ht : -700000000 ≤ pR P i + m * pX P i ∧ pR P i + m * pX P i ≤ 700000000 := by omega
    generalize pR P i + m * pX P i = t at *
    generalize pY P i * s = y at *
    refine ⟨?_, ?_⟩
    · refine (Int.le_ediv_iff_mul_le h2).mpr ?_
      have := Int.mul_le_mul_of_nonneg_left (show (1 : Int) ≤ y by omega) (show (0 : Int) ≤ 700000000 by decide)
      omega
    · refine Int.le_of_lt_add_one ((Int.ediv_lt_iff_lt_mul h2).mpr ?_)
      have := Int.mul_le_mul_of_nonneg_left (show (1 : Int) ≤ y by omega) (show (0 : Int) ≤ 700000000 + 1 by decide)
      omega
  · unfold mfl
    rw [dif_neg h]
    decide
theorem sm_b {h : Nat → Int} {B : Int} : ∀ k : Nat, (∀ j, j < k → -B ≤ h j ∧ h j ≤ B) → -(k * B) ≤ sm h k ∧ sm h k ≤ k * B
  | 0, _ => by show -(((0 : Nat) : Int) * B) ≤ 0 ∧ (0 : Int) ≤ ((0 : Nat) : Int) * B; rw [show ((0 : Nat) : Int) = 0 from rfl, Int.zero_mul]; decide
  | k + 1, h1 => by
    have ih := sm_b (h := h) (B := B) k (fun j hj => h1 j (by omega))
    have q := h1 k (by omega)
    have e : sm h (k + 1) = sm h k + h k := rfl
    rw [e, show ((k + 1 : Nat) : Int) = (k : Int) + 1 by omega, Int.add_mul, Int.one_mul]
    omega
theorem col_b {P : PV} (hP : bP P) {m : Int} (hm : -10000000 ≤ m ∧ m ≤ 10000000) : -1500000000 ≤ col P m ∧ col P m ≤ 1500000000 := by
  have h1 := mfl_b hP (Or.inl rfl) hm
  have h2 := mfl_b hP (Or.inr rfl) hm
  unfold col
  split <;> omega
theorem cumN_b {P : PV} (hP : bP P) {x : Int} (hx : x ≤ 10000000) : -31000000000000000 ≤ cumN P x ∧ cumN P x ≤ 31000000000000000 := by
  rw [cumN_eq]
  have h := sm_b (h := fun j => col P (-10000000 + (j : Int))) (B := 1500000000) (x + 10000001).toNat (fun j hj => col_b hP ⟨by omega, by omega⟩)
  omega
theorem cum_r {m : Mem} {P : PV} (h : isPo m P) (hP : bP P) (x : Int) : R64 (cum P (m 9 4) (m 9 5) x) := by
  have e : cum P (m 9 4) (m 9 5) x = cum P (m 9 4) (m 9 5) (min x 10000000) := by
    obtain ⟨-, ⟨-, ⟨b1, b2⟩⟩, -⟩ := h
    unfold cum
    rw [show min (min x 10000000) (m 9 5) = min x (m 9 5) by omega]
  rw [e, cum_N h (by omega)]
  have := cumN_b hP (x := min x 10000000) (by omega)
  unfold R64
  omega

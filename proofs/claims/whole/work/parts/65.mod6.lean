noncomputable def lM (V : FV) (d k : Int) : Int := -((k * ftt V d (cof V 1 0) 1 0) / trn V (cof V 1 0))
noncomputable def mM (V : FV) (d k : Int) : Int := (k * ftt V d (cof V (-1) 0) (-1) 0) / trn V (cof V (-1) 0)
theorem ft_s {V : FV} (h : bV V) (d i : Int) {x : Int} (hx : -1 ≤ x ∧ x ≤ 1) : -240000 ≤ ftt V d i x 0 ∧ ftt V d i x 0 ≤ 240000 := by
  have a1 := mulb (A := 1) hx (h.y (nxt V i))
  have a4 := mulb (B := 1) (h.y i) hx
  unfold ftt
  rw [Int.zero_mul, Int.mul_zero]
  have h1 := mulb (a := x * gy V (nxt V i) - 0) (A := 60) ⟨by omega, by omega⟩ (h.g d i)
  have h2 := mulb (a := 0 - gy V i * x) (A := 60) ⟨by omega, by omega⟩ (h.g d (nxt V i))
  omega
theorem lm_id (s t a b c e r u m n : Int) : s * (r + m * a + b * n) + t * (u + m * c + e * n) = (s * r + t * u) + m * (s * a + t * c) + n * (s * b + t * e) := by
  simp only [Int.add_mul, Int.mul_add]
  simp only [Int.mul_assoc, Int.mul_comm, Int.mul_left_comm]
  omega
/-- a column that is left holds a point -/
theorem lvs_pt {P : PV} (h1 : ∃ l, pln P 1 l) (h2 : ∃ l, pln P (-1) l) {m : Int} (h : lvs P m) : ∃ n, ∀ i, 0 ≤ i → i < P.1 → 0 ≤ ptop P i m + pY P i * n := by
  have b1 := mn_ex (m := m) h1
  have b2 := mn_ex (m := m) h2
  refine ⟨mfl P (-1) m, fun i q0 q1 => ?_⟩
  have hl := h.2
  have hy0 := h.1 i q0 q1
  generalize mfl P 1 m = p at *
  generalize mfl P (-1) m = q at *
  rcases Int.lt_trichotomy (pY P i) 0 with w | w | w
  · have c2 := b2.2 i ⟨q0, q1, by omega⟩
    have d2 : q * (pY P i * -1) ≤ ptop P i m := Int.mul_le_of_le_ediv (by omega) c2
    rw [show pY P i * -1 = -pY P i by omega, Int.mul_neg, Int.mul_comm] at d2
    omega
  · have := hy0 w
    rw [w, Int.zero_mul]
    omega
  · have c1 := b1.2 i ⟨q0, q1, by omega⟩
    have d1 : p * (pY P i * 1) ≤ ptop P i m := Int.mul_le_of_le_ediv (by omega) c1
    rw [Int.mul_one] at d1
    have := Int.mul_nonneg hl (show 0 ≤ pY P i by omega)
    rw [Int.add_mul, Int.mul_comm q] at this
    omega
theorem sum_le {s t r u a b k z : Int} (hs : 0 ≤ s) (ht : 0 ≤ t) (hz : 0 ≤ z) (hr : r = k * a - z) (hu : u = k * b - z) : s * r + t * u ≤ k * (s * a + t * b) := by
  rw [hr, hu]
  have h1 := Int.mul_nonneg hs hz
  have h2 := Int.mul_nonneg ht hz
  have e : s * (k * a - z) + t * (k * b - z) = k * (s * a + t * b) - s * z - t * z := by
    simp only [Int.mul_sub, Int.mul_add]
    simp only [Int.mul_left_comm k]
    omega
  omega
theorem lvs_rg {V : FV} (hV : bV V) (hc : clo V) {d k z m : Int} (hz : 0 ≤ z) (h : lvs (PVo V d k z) m) : lM V d k ≤ m ∧ m ≤ mM V d k := by
  have hL := clo_ln hc d k z
  obtain ⟨n, hn⟩ := lvs_pt hL.1 hL.2 h
  have hn : ∀ i, 0 ≤ i → i < V.1 → 0 ≤ k * gn V d i - z + m * gx V i + gy V i * n := hn
  constructor
  · obtain ⟨c1, c2, -⟩ := cof_spec hc (x := 1) (y := 0) (by decide)
    unfold lM
    generalize cof V 1 0 = c at *
    have nx := nxt_in c1.1 c1.2
    have p1 := hn c c1.1 c1.2
    have p2 := hn _ nx.1 nx.2
    have t0 := hc.2 c c1.1 c1.2
    unfold cin at c2
    rw [Int.zero_mul, Int.mul_zero, Int.one_mul, Int.mul_one] at c2
    have s0 : 0 ≤ gy V (nxt V c) := by omega
    have u0 : 0 ≤ -gy V c := by omega
    have e := lm_id (gy V (nxt V c)) (-gy V c) (gx V c) (gy V c) (gx V (nxt V c)) (gy V (nxt V c)) (k * gn V d c - z) (k * gn V d (nxt V c) - z) m n
    have f1 := Int.mul_nonneg s0 p1
    have f2 := Int.mul_nonneg u0 p2
    have f3 := sum_le s0 u0 hz (r := k * gn V d c - z) (u := k * gn V d (nxt V c) - z) (a := gn V d c) (b := gn V d (nxt V c)) (k := k) rfl rfl
    have g1 : gy V (nxt V c) * gx V c + -gy V c * gx V (nxt V c) = trn V c := by
      unfold trn crs
      rw [Int.mul_comm (gy V (nxt V c)), Int.neg_mul]
      omega
    have g2 : gy V (nxt V c) * gy V c + -gy V c * gy V (nxt V c) = 0 := by rw [Int.neg_mul, Int.mul_comm]; omega
    have g3 : ftt V d c 1 0 = gy V (nxt V c) * gn V d c + -gy V c * gn V d (nxt V c) := by
      unfold ftt
      rw [Int.zero_mul, Int.mul_zero, Int.one_mul, Int.mul_one, Int.sub_zero, Int.zero_sub]
    rw [g1, g2, Int.mul_zero] at e
    rw [← g3] at f3
    have : -m ≤ k * ftt V d c 1 0 / trn V c := by
      refine Int.le_ediv_of_mul_le t0 ?_
      rw [Int.neg_mul]
      omega
    omega
  · obtain ⟨c1, c2, -⟩ := cof_spec hc (x := -1) (y := 0) (by decide)
    unfold mM
    generalize cof V (-1) 0 = c at *
    have nx := nxt_in c1.1 c1.2
    have p1 := hn c c1.1 c1.2
    have p2 := hn _ nx.1 nx.2
    have t0 := hc.2 c c1.1 c1.2
    unfold cin at c2
    rw [Int.zero_mul, Int.mul_zero] at c2
    have s0 : 0 ≤ -gy V (nxt V c) := by omega
    have u0 : 0 ≤ gy V c := by omega
    have e := lm_id (-gy V (nxt V c)) (gy V c) (gx V c) (gy V c) (gx V (nxt V c)) (gy V (nxt V c)) (k * gn V d c - z) (k * gn V d (nxt V c) - z) m n
    have f1 := Int.mul_nonneg s0 p1
    have f2 := Int.mul_nonneg u0 p2
    have f3 := sum_le s0 u0 hz (r := k * gn V d c - z) (u := k * gn V d (nxt V c) - z) (a := gn V d c) (b := gn V d (nxt V c)) (k := k) rfl rfl
    have g1 : -gy V (nxt V c) * gx V c + gy V c * gx V (nxt V c) = -trn V c := by
      unfold trn crs
      rw [Int.neg_mul, Int.mul_comm (gy V (nxt V c))]
      omega
    have g2 : -gy V (nxt V c) * gy V c + gy V c * gy V (nxt V c) = 0 := by rw [Int.neg_mul, Int.mul_comm]; omega
    have g3 : ftt V d c (-1) 0 = -gy V (nxt V c) * gn V d c + gy V c * gn V d (nxt V c) := by
      unfold ftt
      rw [Int.zero_mul, Int.mul_zero, Int.sub_zero, Int.zero_sub, show gy V c * -1 = -gy V c by omega, show -1 * gy V (nxt V c) = -gy V (nxt V c) by omega, Int.neg_neg]
    rw [g1, g2, Int.mul_zero, Int.mul_neg] at e
    rw [← g3] at f3
    exact Int.le_ediv_of_mul_le t0 (by omega)
theorem lM_b {V : FV} (hV : bV V) (hc : clo V) {d k : Int} (hk : 0 ≤ k ∧ k ≤ 4) : -960000 ≤ lM V d k ∧ lM V d k ≤ 960000 := by
  obtain ⟨c1, -, -⟩ := cof_spec hc (x := 1) (y := 0) (by decide)
  have a := mulb (a := k) (A := 4) ⟨by omega, by omega⟩ (ft_s hV d (cof V 1 0) (x := 1) (by decide))
  have := ediv_b (hc.2 _ c1.1 c1.2) (T := k * ftt V d (cof V 1 0) 1 0) (B := 960000) ⟨by omega, by omega⟩ (by decide)
  unfold lM
  omega
theorem mM_b {V : FV} (hV : bV V) (hc : clo V) {d k : Int} (hk : 0 ≤ k ∧ k ≤ 4) : -960000 ≤ mM V d k ∧ mM V d k ≤ 960000 := by
  obtain ⟨c1, -, -⟩ := cof_spec hc (x := -1) (y := 0) (by decide)
  have a := mulb (a := k) (A := 4) ⟨by omega, by omega⟩ (ft_s hV d (cof V (-1) 0) (x := -1) (by decide))
  have := ediv_b (hc.2 _ c1.1 c1.2) (T := k * ftt V d (cof V (-1) 0) (-1) 0) (B := 960000) ⟨by omega, by omega⟩ (by decide)
  unfold mM
  omega
theorem t_X6_leastM {mu : Mem} {V : FV} {d k : Int} (eV : mv mu = V) (hV : bV V) (hcl : clo V) (h2 : 0 ≤ d) (h3 : d < V.2.1) (hk : 0 ≤ k ∧ k ≤ 4) : TrE 3 mX6_leastM [vr 55, vi d, vi k] mu (some (vl (lM V d k))) mu := by
  refine Tr.of (by decide +kernel) (Nat.le_of_ble_eq_true rfl) (fun K C E => ?_)
  obtain ⟨c1, -, -⟩ := cof_spec hcl (x := 1) (y := 0) (by decide)
  have a := mulb (a := k) (A := 4) ⟨by omega, by omega⟩ (ft_s hV d (cof V 1 0) (x := 1) (by decide))
  have t0 := hcl.2 _ c1.1 c1.2
  have t1 := hV.trn (cof V 1 0)
  unfold lM at E
  have e : -k * ftt V d (cof V 1 0) 1 0 = -(k * ftt V d (cof V 1 0) 1 0) := Int.neg_mul _ _
  refine aw_aload_n C dX6_leastM_0 rfl ?_
  refine aw_iconst C dX6_leastM_1 ?_
  refine aw_iconst C dX6_leastM_2 ?_
  refine aw_call1 C dX6_leastM_3 lX6_325 vX6_coneOf (t_X6_coneOf eV hV hcl (by decide) (by decide) (by decide)) rfl rfl rfl ⟨rfl, by decide⟩ rfl ⟨by decide, by decide⟩ (Nat.le_of_ble_eq_true rfl) ?_
  refine aw_istore_n C dX6_leastM_6 (by decide) ?_
  refine aw_iload_n C dX6_leastM_7 rfl ?_
  refine aw_ineg C dX6_leastM_8 ?_
  refine aw_i2l C dX6_leastM_9 ⟨by omega, by omega⟩ ?_
  refine aw_aload_n C dX6_leastM_10 rfl ?_
  refine aw_iload_n C dX6_leastM_11 rfl ?_
  refine aw_iload_n C dX6_leastM_12 rfl ?_
  refine aw_iconst C dX6_leastM_13 ?_
  refine aw_iconst C dX6_leastM_14 ?_
  refine aw_call1 C dX6_leastM_15 lX6_335 vX6_above (t_X6_above eV hV c1.1 c1.2 h2 h3 (by decide) (by decide)) rfl rfl rfl ⟨rfl, by decide⟩ rfl ⟨by decide, by decide⟩ (Nat.le_of_ble_eq_true rfl) ?_
  refine aw_lmul C dX6_leastM_18 ?_
  rw [e]
  refine aw_aload_n C dX6_leastM_19 rfl ?_
  refine aw_iload_n C dX6_leastM_20 rfl ?_
  refine aw_call1 C dX6_leastM_21 lX6_288 vX6_turn (t_X6_turn eV hV c1.1 c1.2) rfl rfl rfl ⟨rfl, by decide⟩ rfl ⟨by decide, by decide⟩ (Nat.le_of_ble_eq_true rfl) ?_
  refine aw_i2l C dX6_leastM_24 ⟨by omega, by omega⟩ ?_
  refine aw_callS1 C dX6_leastM_25 lX6_372 vX6_up (t_X6_up ⟨by omega, by omega⟩ ⟨by omega, by omega⟩ t0) rfl rfl rfl ⟨by decide, by decide⟩ (Nat.le_of_ble_eq_true rfl) ?_
  rw [Int.neg_neg]
  exact aw_lret C E dX6_leastM_28 rfl ⟨rfl, rfl⟩
theorem t_X6_mostM {mu : Mem} {V : FV} {d k : Int} (eV : mv mu = V) (hV : bV V) (hcl : clo V) (h2 : 0 ≤ d) (h3 : d < V.2.1) (hk : 0 ≤ k ∧ k ≤ 4) : TrE 3 mX6_mostM [vr 55, vi d, vi k] mu (some (vl (mM V d k))) mu := by
  refine Tr.of (by decide +kernel) (Nat.le_of_ble_eq_true rfl) (fun K C E => ?_)
  obtain ⟨c1, -, -⟩ := cof_spec hcl (x := -1) (y := 0) (by decide)
  have a := mulb (a := k) (A := 4) ⟨by omega, by omega⟩ (ft_s hV d (cof V (-1) 0) (x := -1) (by decide))
  have t0 := hcl.2 _ c1.1 c1.2
  have t1 := hV.trn (cof V (-1) 0)
  unfold mM at E
  refine aw_aload_n C dX6_mostM_0 rfl ?_
  refine aw_iconst C dX6_mostM_1 ?_
  refine aw_iconst C dX6_mostM_2 ?_
  refine aw_call1 C dX6_mostM_3 lX6_325 vX6_coneOf (t_X6_coneOf eV hV hcl (by decide) (by decide) (by decide)) rfl rfl rfl ⟨rfl, by decide⟩ rfl ⟨by decide, by decide⟩ (Nat.le_of_ble_eq_true rfl) ?_
  refine aw_istore_n C dX6_mostM_6 (by decide) ?_
  refine aw_iload_n C dX6_mostM_7 rfl ?_
  refine aw_i2l C dX6_mostM_8 ⟨by omega, by omega⟩ ?_
  refine aw_aload_n C dX6_mostM_9 rfl ?_
  refine aw_iload_n C dX6_mostM_10 rfl ?_
  refine aw_iload_n C dX6_mostM_11 rfl ?_
  refine aw_iconst C dX6_mostM_12 ?_
  refine aw_iconst C dX6_mostM_13 ?_
  refine aw_call1 C dX6_mostM_14 lX6_335 vX6_above (t_X6_above eV hV c1.1 c1.2 h2 h3 (by decide) (by decide)) rfl rfl rfl ⟨rfl, by decide⟩ rfl ⟨by decide, by decide⟩ (Nat.le_of_ble_eq_true rfl) ?_
  refine aw_lmul C dX6_mostM_17 ?_
  refine aw_aload_n C dX6_mostM_18 rfl ?_
  refine aw_iload_n C dX6_mostM_19 rfl ?_
  refine aw_call1 C dX6_mostM_20 lX6_288 vX6_turn (t_X6_turn eV hV c1.1 c1.2) rfl rfl rfl ⟨rfl, by decide⟩ rfl ⟨by decide, by decide⟩ (Nat.le_of_ble_eq_true rfl) ?_
  refine aw_i2l C dX6_mostM_23 ⟨by omega, by omega⟩ ?_
  refine aw_callS1 C dX6_mostM_24 lX6_85 vX6_down (t_X6_down ⟨by omega, by omega⟩ ⟨by omega, by omega⟩ t0) rfl rfl rfl ⟨by decide, by decide⟩ (Nat.le_of_ble_eq_true rfl) ?_
  exact aw_lret C E dX6_mostM_27 rfl ⟨rfl, rfl⟩
theorem cumN_s {P : PV} {m : Int} (h : -10000000 ≤ m) : cumN P m = cumN P (m - 1) + col P m := by
  rw [cumN_eq, cumN_eq, show (m + 10000001).toNat = (m - 1 + 10000001).toNat + 1 by omega]
  show sm _ _ + col P (-10000000 + ((m - 1 + 10000001).toNat : Int)) = _
  rw [show -10000000 + ((m - 1 + 10000001).toNat : Int) = m by omega]
theorem cumN_up {P : PV} {x : Int} (h : -10000001 ≤ x) : ∀ k : Nat, (∀ j, x < j → j ≤ x + k → col P j = 0) → cumN P (x + k) = cumN P x
  | 0, _ => by rw [show x + ((0 : Nat) : Int) = x by omega]
  | k + 1, hz => by
    rw [cumN_s (by omega), hz _ (by omega) (by omega), Int.add_zero, show x + ((k + 1 : Nat) : Int) - 1 = x + k by omega]
    exact cumN_up h k (fun j j0 j1 => hz j j0 (by omega))
theorem cumN_z (P : PV) : cumN P (-10000001) = 0 := by rw [cumN_eq]; rfl
theorem cum_lo {V : FV} (hV : bV V) (hc : clo V) {d k z : Int} (hk : 0 ≤ k ∧ k ≤ 4) (hz : 0 ≤ z) : cumN (PVo V d k z) (lM V d k - 1) = 0 := by
  have b := lM_b hV hc (d := d) hk
  have hL := clo_ln hc d k z
  have e := cumN_up (P := PVo V d k z) (x := -10000001) (by omega) (lM V d k - 1 + 10000001).toNat (fun j j0 j1 => (col_lvs hL.1 hL.2 j).2 (fun w => by have := lvs_rg hV hc hz w; omega))
  rw [show -10000001 + ((lM V d k - 1 + 10000001).toNat : Int) = lM V d k - 1 by omega, cumN_z] at e
  exact e
theorem cum_hi {V : FV} (hV : bV V) (hc : clo V) {d k z m : Int} (hk : 0 ≤ k ∧ k ≤ 4) (hz : 0 ≤ z) (h1 : mM V d k ≤ m) (h0 : -10000001 ≤ m) (h2 : m ≤ 10000000) : cumN (PVo V d k z) 10000000 = cumN (PVo V d k z) m := by
  have hL := clo_ln hc d k z
  have e := cumN_up (P := PVo V d k z) (x := m) h0 (10000000 - m).toNat (fun j j0 j1 => (col_lvs hL.1 hL.2 j).2 (fun w => by have := lvs_rg hV hc hz w; omega))
  rw [show m + ((10000000 - m).toNat : Int) = 10000000 by omega] at e
  exact e
theorem mF.l {mu m : Mem} {V : FV} (h : mF mu V) (hf : frc lnS mu m) : mF m V := ⟨(lnS.mv hf).trans h.1, h.2.1, by rw [hf 55 32 (by unfold lnS; omega)]; exact h.2.2⟩
theorem t_X6_count {mu : Mem} {V : FV} {d k z : Int} (eV : mv mu = V) (hV : bV V) (hcl : clo V) (h2 : 0 ≤ d) (h3 : d < V.2.1) (hk : 0 ≤ k ∧ k ≤ 4) (hz : 0 ≤ z ∧ z ≤ 1) : Tr 4 mX6_count [vr 55, vi d, vi k, vi z] mu (fun r m2 => r = some (vl (cumN (PVo V d k z) 10000000)) ∧ frc lnS mu m2) := by
  refine Tr.of (by decide +kernel) (Nat.le_of_ble_eq_true rfl) (fun K C E => ?_)
  have b1 := lM_b hV hcl (d := d) hk
  have b2 := mM_b hV hcl (d := d) hk
  have hL := clo_ln hcl d k z
  have lo := cum_lo hV hcl (d := d) hk hz.1
  have hi := fun m => cum_hi hV hcl (d := d) (k := k) (z := z) (m := m) hk hz.1
  have cl := fun m => col_lvs hL.1 hL.2 m
  obtain ⟨P, eP⟩ : ∃ P, PVo V d k z = P := ⟨_, rfl⟩
  rw [eP] at E lo
  simp only [eP] at hi cl
  have loop : ∀ (q : Nat) (m a : Int) (m2 : Mem), frc lnS mu m2 → m + q = 960002 → -960000 ≤ m → m ≤ 960001 → a = cumN P (m - 1) → AW K mX6_count (NC, 0, 0) 19 [vr 55, vi d, vi k, vi z, vl a, vx, vl (mM V d k), vx, vl m, vx] [] m2 := by
    intro q
    induction q with
    | zero => intro m a m2 _ h; omega
    | succ q ih =>
      intro m a m2 hf q1 q2 q3 q4
      have eV2 := (lnS.mv hf).trans eV
      have k1 := b01_01 (lvs P m)
      refine aw_lload C dX6_count_19 rfl ?_
      refine aw_lload C dX6_count_21 rfl ?_
      refine aw_lcmp_gt C dX6_count_23 dX6_count_24 (tgt := 64) (by decide) ⟨by omega, by omega⟩ ⟨by omega, by omega⟩ (fun c1 => ?_) (fun c1 => ?_)
      · rw [hi (m - 1) (by omega) (by omega) (by omega), ← q4] at E
        --go
        refine aw_lload C dX6_count_64 rfl ?_
        exact aw_lret C E dX6_count_66 rfl ⟨rfl, hf⟩
      · refine aw_aload_n C dX6_count_27 rfl ?_
        refine aw_iload_n C dX6_count_28 rfl ?_
        refine aw_iload_n C dX6_count_29 rfl ?_
        refine aw_iload_n C dX6_count_30 rfl ?_
        refine aw_lload C dX6_count_31 rfl ?_
        refine aw_call C dX6_count_33 lX6_381 vX6_leaves (eP ▸ t_X6_leaves eV2 hV hcl h2 h3 hk hz ⟨by omega, by omega⟩) rfl rfl rfl ⟨rfl, by decide⟩ rfl ⟨by decide, by decide⟩ (Nat.le_of_ble_eq_true rfl) (fun r2 mu2 hq2 => ?_)
        obtain ⟨rfl, f1, f2⟩ := hq2
        have hf3 := hf.tr f1
        generalize mu2 = m3 at *
        show AW _ _ _ _ _ [vi (b01 (lvs P m))] _
        refine aw_if_eq C dX6_count_36 (tgt := 55) (by decide) ⟨by omega, by omega⟩ (fun c3 => ?_) (fun c3 => ?_)
        · --go
          refine aw_lload C dX6_count_55 rfl ?_
          refine aw_lconst C dX6_count_57 (v := 1) rfl ?_
          refine aw_ladd C dX6_count_58 ?_
          refine aw_lstore C dX6_count_59 (by decide) ?_
          refine aw_goto C dX6_count_61 (tgt := 19) (by decide) ?_
          exact ih (m + 1) a _ hf3 (by omega) (by omega) (by omega) (by rw [show m + 1 - 1 = m by omega, cumN_s (by omega), (cl m).2 (b01_niff.mp (by omega)), q4, Int.add_zero])
        · obtain ⟨g1, g2⟩ := f2 (b01_iff.mp (by omega))
          --go
          refine aw_lload C dX6_count_39 rfl ?_
          refine aw_aload_n C dX6_count_41 rfl ?_
          refine aw_getL C dX6_count_42 fX6_369 ⟨rfl, by decide⟩ rfl ?_
          refine aw_aload_n C dX6_count_45 rfl ?_
          refine aw_getL C dX6_count_46 fX6_364 ⟨rfl, by decide⟩ rfl ?_
          refine aw_lsub C dX6_count_49 ?_
          refine aw_lconst C dX6_count_50 (v := 1) rfl ?_
          refine aw_ladd C dX6_count_51 ?_
          refine aw_ladd C dX6_count_52 ?_
          refine aw_lstore C dX6_count_53 (by decide) ?_
          refine aw_lload C dX6_count_55 rfl ?_
          refine aw_lconst C dX6_count_57 (v := 1) rfl ?_
          refine aw_ladd C dX6_count_58 ?_
          refine aw_lstore C dX6_count_59 (by decide) ?_
          refine aw_goto C dX6_count_61 (tgt := 19) (by decide) ?_
          exact ih (m + 1) _ _ hf3 (by omega) (by omega) (by omega) (by rw [show m + 1 - 1 = m by omega, cumN_s (by omega), (cl m).1 (b01_iff.mp (by omega)), ← q4, g1, g2]; omega)
  refine aw_lconst C dX6_count_0 (v := 0) rfl ?_
  refine aw_lstore C dX6_count_1 (by decide) ?_
  refine aw_aload_n C dX6_count_3 rfl ?_
  refine aw_iload_n C dX6_count_4 rfl ?_
  refine aw_iload_n C dX6_count_5 rfl ?_
  refine aw_call1 C dX6_count_6 lX6_375 vX6_mostM (t_X6_mostM eV hV hcl h2 h3 hk) rfl rfl rfl ⟨rfl, by decide⟩ rfl ⟨by decide, by decide⟩ (Nat.le_of_ble_eq_true rfl) ?_
  refine aw_lstore C dX6_count_9 (by decide) ?_
  refine aw_aload_n C dX6_count_11 rfl ?_
  refine aw_iload_n C dX6_count_12 rfl ?_
  refine aw_iload_n C dX6_count_13 rfl ?_
  refine aw_call1 C dX6_count_14 lX6_378 vX6_leastM (t_X6_leastM eV hV hcl h2 h3 hk) rfl rfl rfl ⟨rfl, by decide⟩ rfl ⟨by decide, by decide⟩ (Nat.le_of_ble_eq_true rfl) ?_
  refine aw_lstore C dX6_count_17 (by decide) ?_
  exact loop (960002 - lM V d k).toNat _ 0 _ frc.rf (by omega) (by omega) (by omega) lo.symm
/-- what an answer of the reference leaves -/
def mS : Nat → Nat → Prop := fun a b => a = 55 ∧ (b = 0 ∨ b = 1 ∨ b = 2 ∨ b = 40 ∨ b = 41)
def mE (mu m2 : Mem) (c : Int) : Prop := frc mS mu m2 ∧ m2 55 0 = 0 ∧ m2 55 1 = c ∧ m2 55 2 = -1
theorem mE_gd {mu m2 : Mem} {c : Int} (h : frc lnS (wr mu 55 0 0) m2) : mE mu (gd m2 c) c := by
  refine ⟨fun a b hab => ?_, ?_, ?_, ?_⟩
  · unfold mS at hab
    unfold gd
    rw [wr_at, if_neg (by omega), wr_at, if_neg (by omega), h a b (by unfold lnS; omega), wr_at, if_neg (by omega)]
  · unfold gd
    rw [wr_at, if_neg (by decide), wr_at, if_neg (by decide), h 55 0 (by unfold lnS; omega), wr_at, if_pos ⟨rfl, rfl⟩]
  · unfold gd
    rw [wr_at, if_neg (by decide), wr_at, if_pos ⟨rfl, rfl⟩]
  · unfold gd
    rw [wr_at, if_pos ⟨rfl, rfl⟩]
theorem t_X6_points {mu : Mem} {V : FV} {d k : Int} (h : mF mu V) (hd : R32 d) (hk : R32 k) : Tr 5 mX6_points [vr 55, vi d, vi k] mu (fun r m2 => r = some (vl (qPo V d k 0).1) ∧ mE mu m2 (qPo V d k 0).2) := by
  refine Tr.of (by decide +kernel) (Nat.le_of_ble_eq_true rfl) (fun K C E => ?_)
  have k1 := b01_01 (0 ≤ d ∧ d < V.2.1)
  have k1i : b01 (0 ≤ d ∧ d < V.2.1) = 1 ↔ (0 ≤ d ∧ d < V.2.1) := b01_iff
  have k2 := b01_01 (0 ≤ k ∧ k ≤ 4)
  have k2i : b01 (0 ≤ k ∧ k ≤ 4) = 1 ↔ (0 ≤ k ∧ k ≤ 4) := b01_iff
  refine aw_aload_n C dX6_points_0 rfl ?_
  refine aw_iconst C dX6_points_1 ?_
  refine aw_putI C dX6_points_2 fX6_77 ⟨rfl, by decide⟩ rfl rfl rfl ?_
  have hm := h.t
  have mE0 : ∀ m2 c, frc lnS (wr mu 55 0 0) m2 → mE mu (gd m2 c) c := fun m2 c w => mE_gd w
  generalize wr mu 55 0 0 = m1 at *
  have eV := hm.1
  have hV := hm.2.1.1
  have hn := hV.1
  have hl := hV.2.1
  have e1 := mv1 eV
  have e2 := mv2 eV
  have h3 := hm.2.2
  refine aw_aload_n C dX6_points_5 rfl ?_
  refine aw_iload_n C dX6_points_6 rfl ?_
  refine aw_call1 C dX6_points_7 lX6_328 vX6_isLoad (t_X6_isLoad hm (by assumption)) rfl rfl rfl ⟨rfl, by decide⟩ rfl ⟨by decide, by decide⟩ (Nat.le_of_ble_eq_true rfl) ?_
  refine aw_if_ne C dX6_points_10 (tgt := 19) (by decide) ⟨by omega, by omega⟩ (fun c1 => ?_) (fun c1 => ?_)
  · refine aw_iload_n C dX6_points_19 rfl ?_
    refine aw_i2l C dX6_points_20 ⟨by omega, by omega⟩ ?_
    refine aw_lconst C dX6_points_21 (v := 0) rfl ?_
    refine aw_ldc2 C dX6_points_22 kX6_385 (z := 4) (by decide +kernel) ?_
    refine aw_callS1 C dX6_points_25 lX6_108 vX6_in (t_X6_in ⟨by omega, by omega⟩ ⟨by omega, by omega⟩ ⟨by omega, by omega⟩) rfl rfl rfl ⟨by decide, by decide⟩ (Nat.le_of_ble_eq_true rfl) ?_
    refine aw_if_eq C dX6_points_28 (tgt := 45) (by decide) ⟨by omega, by omega⟩ (fun c2 => ?_) (fun c2 => ?_)
    · have qe : qPo V d k 0 = (NTH, 2) := (if_neg (by omega) : qPo V d k 0 = _).trans (if_pos (by omega))
      --go
      refine aw_aload_n C dX6_points_45 rfl ?_
      refine aw_iconst C dX6_points_46 ?_
      refine aw_call1 C dX6_points_47 lX6_311 vX6_lost (t_X6_lost) rfl rfl rfl ⟨rfl, by decide⟩ rfl ⟨by decide, by decide⟩ (Nat.le_of_ble_eq_true rfl) ?_
      exact aw_lret C E dX6_points_50 rfl (by rw [qe]; first | exact ⟨rfl, mE0 _ _ frc.rf⟩ | exact ⟨rfl, mE0 _ _ f1⟩)
    · have cl := hm.2.1.cl (by omega)
      have hcl := cl.1
      have qe : qPo V d k 0 = (cumN (PVo V d k 0) 10000000, 0) := (if_neg (by omega) : qPo V d k 0 = _).trans (if_neg (by omega))
      --go
      refine aw_aload_n C dX6_points_31 rfl ?_
      refine aw_aload_n C dX6_points_32 rfl ?_
      refine aw_iload_n C dX6_points_33 rfl ?_
      refine aw_iload_n C dX6_points_34 rfl ?_
      refine aw_iconst C dX6_points_35 ?_
      refine aw_call C dX6_points_36 lX6_387 vX6_count (t_X6_count (z := 0) eV hV hcl (by omega) (by omega) (by omega) (by decide)) rfl rfl rfl ⟨rfl, by decide⟩ rfl ⟨by decide, by decide⟩ (Nat.le_of_ble_eq_true rfl) (fun r3 mu3 hq3 => ?_)
      obtain ⟨rfl, f1⟩ := hq3
      generalize mu3 = m3 at *
      show AW _ _ _ _ _ [vl (cumN (PVo V d k 0) 10000000), vr 55] _
      refine aw_call1 C dX6_points_39 lX6_315 vX6_told (t_X6_told) rfl rfl rfl ⟨rfl, by decide⟩ rfl ⟨by decide, by decide⟩ (Nat.le_of_ble_eq_true rfl) ?_
      refine aw_goto C dX6_points_42 (tgt := 50) (by decide) ?_
      exact aw_lret C E dX6_points_50 rfl (by rw [qe]; first | exact ⟨rfl, mE0 _ _ frc.rf⟩ | exact ⟨rfl, mE0 _ _ f1⟩)
  · have qe : qPo V d k 0 = (NTH, 1) := if_pos (by omega)
    --go
    refine aw_aload_n C dX6_points_13 rfl ?_
    refine aw_iconst C dX6_points_14 ?_
    refine aw_call1 C dX6_points_15 lX6_311 vX6_lost (t_X6_lost) rfl rfl rfl ⟨rfl, by decide⟩ rfl ⟨by decide, by decide⟩ (Nat.le_of_ble_eq_true rfl) ?_
    exact aw_lret C E dX6_points_18 rfl (by rw [qe]; first | exact ⟨rfl, mE0 _ _ frc.rf⟩ | exact ⟨rfl, mE0 _ _ f1⟩)
theorem t_X6_inner {mu : Mem} {V : FV} {d k : Int} (h : mF mu V) (hd : R32 d) (hk : R32 k) : Tr 5 mX6_inner [vr 55, vi d, vi k] mu (fun r m2 => r = some (vl (qPo V d k 1).1) ∧ mE mu m2 (qPo V d k 1).2) := by
  refine Tr.of (by decide +kernel) (Nat.le_of_ble_eq_true rfl) (fun K C E => ?_)
  have k1 := b01_01 (0 ≤ d ∧ d < V.2.1)
  have k1i : b01 (0 ≤ d ∧ d < V.2.1) = 1 ↔ (0 ≤ d ∧ d < V.2.1) := b01_iff
  have k2 := b01_01 (0 ≤ k ∧ k ≤ 4)
  have k2i : b01 (0 ≤ k ∧ k ≤ 4) = 1 ↔ (0 ≤ k ∧ k ≤ 4) := b01_iff
  refine aw_aload_n C dX6_inner_0 rfl ?_
  refine aw_iconst C dX6_inner_1 ?_
  refine aw_putI C dX6_inner_2 fX6_77 ⟨rfl, by decide⟩ rfl rfl rfl ?_
  have hm := h.t
  have mE0 : ∀ m2 c, frc lnS (wr mu 55 0 0) m2 → mE mu (gd m2 c) c := fun m2 c w => mE_gd w
  generalize wr mu 55 0 0 = m1 at *
  have eV := hm.1
  have hV := hm.2.1.1
  have hn := hV.1
  have hl := hV.2.1
  have e1 := mv1 eV
  have e2 := mv2 eV
  have h3 := hm.2.2
  refine aw_aload_n C dX6_inner_5 rfl ?_
  refine aw_iload_n C dX6_inner_6 rfl ?_
  refine aw_call1 C dX6_inner_7 lX6_328 vX6_isLoad (t_X6_isLoad hm (by assumption)) rfl rfl rfl ⟨rfl, by decide⟩ rfl ⟨by decide, by decide⟩ (Nat.le_of_ble_eq_true rfl) ?_
  refine aw_if_ne C dX6_inner_10 (tgt := 19) (by decide) ⟨by omega, by omega⟩ (fun c1 => ?_) (fun c1 => ?_)
  · refine aw_iload_n C dX6_inner_19 rfl ?_
    refine aw_i2l C dX6_inner_20 ⟨by omega, by omega⟩ ?_
    refine aw_lconst C dX6_inner_21 (v := 0) rfl ?_
    refine aw_ldc2 C dX6_inner_22 kX6_385 (z := 4) (by decide +kernel) ?_
    refine aw_callS1 C dX6_inner_25 lX6_108 vX6_in (t_X6_in ⟨by omega, by omega⟩ ⟨by omega, by omega⟩ ⟨by omega, by omega⟩) rfl rfl rfl ⟨by decide, by decide⟩ (Nat.le_of_ble_eq_true rfl) ?_
    refine aw_if_eq C dX6_inner_28 (tgt := 45) (by decide) ⟨by omega, by omega⟩ (fun c2 => ?_) (fun c2 => ?_)
    · have qe : qPo V d k 1 = (NTH, 2) := (if_neg (by omega) : qPo V d k 1 = _).trans (if_pos (by omega))
      --go
      refine aw_aload_n C dX6_inner_45 rfl ?_
      refine aw_iconst C dX6_inner_46 ?_
      refine aw_call1 C dX6_inner_47 lX6_311 vX6_lost (t_X6_lost) rfl rfl rfl ⟨rfl, by decide⟩ rfl ⟨by decide, by decide⟩ (Nat.le_of_ble_eq_true rfl) ?_
      exact aw_lret C E dX6_inner_50 rfl (by rw [qe]; first | exact ⟨rfl, mE0 _ _ frc.rf⟩ | exact ⟨rfl, mE0 _ _ f1⟩)
    · have cl := hm.2.1.cl (by omega)
      have hcl := cl.1
      have qe : qPo V d k 1 = (cumN (PVo V d k 1) 10000000, 0) := (if_neg (by omega) : qPo V d k 1 = _).trans (if_neg (by omega))
      --go
      refine aw_aload_n C dX6_inner_31 rfl ?_
      refine aw_aload_n C dX6_inner_32 rfl ?_
      refine aw_iload_n C dX6_inner_33 rfl ?_
      refine aw_iload_n C dX6_inner_34 rfl ?_
      refine aw_iconst C dX6_inner_35 ?_
      refine aw_call C dX6_inner_36 lX6_387 vX6_count (t_X6_count (z := 1) eV hV hcl (by omega) (by omega) (by omega) (by decide)) rfl rfl rfl ⟨rfl, by decide⟩ rfl ⟨by decide, by decide⟩ (Nat.le_of_ble_eq_true rfl) (fun r3 mu3 hq3 => ?_)
      obtain ⟨rfl, f1⟩ := hq3
      generalize mu3 = m3 at *
      show AW _ _ _ _ _ [vl (cumN (PVo V d k 1) 10000000), vr 55] _
      refine aw_call1 C dX6_inner_39 lX6_315 vX6_told (t_X6_told) rfl rfl rfl ⟨rfl, by decide⟩ rfl ⟨by decide, by decide⟩ (Nat.le_of_ble_eq_true rfl) ?_
      refine aw_goto C dX6_inner_42 (tgt := 50) (by decide) ?_
      exact aw_lret C E dX6_inner_50 rfl (by rw [qe]; first | exact ⟨rfl, mE0 _ _ frc.rf⟩ | exact ⟨rfl, mE0 _ _ f1⟩)
  · have qe : qPo V d k 1 = (NTH, 1) := if_pos (by omega)
    --go
    refine aw_aload_n C dX6_inner_13 rfl ?_
    refine aw_iconst C dX6_inner_14 ?_
    refine aw_call1 C dX6_inner_15 lX6_311 vX6_lost (t_X6_lost) rfl rfl rfl ⟨rfl, by decide⟩ rfl ⟨by decide, by decide⟩ (Nat.le_of_ble_eq_true rfl) ?_
    exact aw_lret C E dX6_inner_18 rfl (by rw [qe]; first | exact ⟨rfl, mE0 _ _ frc.rf⟩ | exact ⟨rfl, mE0 _ _ f1⟩)
theorem t_X6_needs_ {mu : Mem} {V : FV} {d n : Int} (h : mF mu V) (hd : R32 d) (hN : R64 n) : Tr 5 mX6_needs_ [vr 55, vi d, vl n] mu (fun r m2 => r = some (vi (qNd V d n).1) ∧ mE mu m2 (qNd V d n).2) := by
  refine Tr.of (by decide +kernel) (Nat.le_of_ble_eq_true rfl) (fun K C E => ?_)
  have k1 := b01_01 (0 ≤ d ∧ d < V.2.1)
  have k1i : b01 (0 ≤ d ∧ d < V.2.1) = 1 ↔ (0 ≤ d ∧ d < V.2.1) := b01_iff
  have loop : 0 ≤ d → d < V.2.1 → gV V → ∀ (m1 : Mem), mv m1 = V → (∀ m2 c, frc lnS m1 m2 → mE mu (gd m2 c) c) → ∀ (q : Nat) (k : Int) (m2 : Mem), frc lnS m1 m2 → 1 ≤ k → k + q = 5 → qNd V d n = (fst (fun k => n ≤ cumN (PVo V d k 0) 10000000) (-2) q k, 0) → AW K mX6_needs_ (NC, 0, 0) 22 [vr 55, vi d, vl n, vx, vi k] [] m2 := by
    intro d0 d1 gg m1 eV1 mE0 q
    have hV := gg.1
    have hl := hV.2.1
    have cl := gg.cl (by omega)
    have hcl := cl.1
    induction q with
    | zero =>
      intro k m2 hf q1 q2 qe
      have qe : qNd V d n = (-2, 0) := qe
      refine aw_iload C dX6_needs__22 rfl ?_
      refine aw_iconst C dX6_needs__24 ?_
      refine aw_icmp_gt C dX6_needs__25 (tgt := 54) (by decide) ⟨by omega, by omega⟩ ⟨by omega, by omega⟩ (fun c1 => ?_) (fun c1 => ?_)
      · refine aw_aload_n C dX6_needs__54 rfl ?_
        refine aw_bipush C dX6_needs__55 rfl ?_
        refine aw_call1 C dX6_needs__57 lX6_270 vX6_good (t_X6_good) rfl rfl rfl ⟨rfl, by decide⟩ rfl ⟨by decide, by decide⟩ (Nat.le_of_ble_eq_true rfl) ?_
        exact aw_iret C E dX6_needs__60 rfl (by rw [qe]; exact ⟨rfl, mE0 _ _ hf⟩)
      · exfalso; omega
    | succ q ih =>
      intro k m2 hf q1 q2 qe
      have eV2 := (lnS.mv hf).trans eV1
      have cb := cumN_b (PVo_b hV (d := d) (k := k) (z := 0) (by omega) (by decide)) (x := 10000000) (by omega)
      refine aw_iload C dX6_needs__22 rfl ?_
      refine aw_iconst C dX6_needs__24 ?_
      refine aw_icmp_gt C dX6_needs__25 (tgt := 54) (by decide) ⟨by omega, by omega⟩ ⟨by omega, by omega⟩ (fun c1 => ?_) (fun c1 => ?_)
      · exfalso; omega
      · refine aw_aload_n C dX6_needs__28 rfl ?_
        refine aw_iload_n C dX6_needs__29 rfl ?_
        refine aw_iload C dX6_needs__30 rfl ?_
        refine aw_iconst C dX6_needs__32 ?_
        refine aw_call C dX6_needs__33 lX6_387 vX6_count (t_X6_count (z := 0) eV2 hV hcl d0 d1 (by omega) (by decide)) rfl rfl rfl ⟨rfl, by decide⟩ rfl ⟨by decide, by decide⟩ (Nat.le_of_ble_eq_true rfl) (fun r2 mu2 hq2 => ?_)
        obtain ⟨rfl, f1⟩ := hq2
        have hf3 := hf.tr f1
        generalize mu2 = m3 at *
        show AW _ _ _ _ _ [vl (cumN (PVo V d k 0) 10000000)] _
        refine aw_lload_n C dX6_needs__36 rfl ?_
        refine aw_lcmp_lt C dX6_needs__37 dX6_needs__38 (tgt := 48) (by decide) ⟨by omega, by omega⟩ ⟨by omega, by omega⟩ (fun c3 => ?_) (fun c3 => ?_)
        · refine aw_iinc C dX6_needs__48 rfl ?_
          refine aw_goto C dX6_needs__51 (tgt := 22) (by decide) ?_
          exact ih (k + 1) _ hf3 (by omega) (by omega) (by rw [qe, fst_f (P := fun k => n ≤ cumN (PVo V d k 0) 10000000) (i := k) (show ¬ n ≤ cumN (PVo V d k 0) 10000000 by omega)])
        · refine aw_aload_n C dX6_needs__41 rfl ?_
          refine aw_iload C dX6_needs__42 rfl ?_
          refine aw_call1 C dX6_needs__44 lX6_270 vX6_good (t_X6_good) rfl rfl rfl ⟨rfl, by decide⟩ rfl ⟨by decide, by decide⟩ (Nat.le_of_ble_eq_true rfl) ?_
          exact aw_iret C E dX6_needs__47 rfl (by rw [qe, fst_t (P := fun k => n ≤ cumN (PVo V d k 0) 10000000) (i := k) (show n ≤ cumN (PVo V d k 0) 10000000 by omega)]; exact ⟨rfl, mE0 _ _ hf3⟩)
  refine aw_aload_n C dX6_needs__0 rfl ?_
  refine aw_iconst C dX6_needs__1 ?_
  refine aw_putI C dX6_needs__2 fX6_77 ⟨rfl, by decide⟩ rfl rfl rfl ?_
  have hm := h.t
  have mE0 : ∀ m2 c, frc lnS (wr mu 55 0 0) m2 → mE mu (gd m2 c) c := fun m2 c w => mE_gd w
  generalize wr mu 55 0 0 = m1 at *
  have eV := hm.1
  have hV := hm.2.1.1
  have hn := hV.1
  have hl := hV.2.1
  have e1 := mv1 eV
  have e2 := mv2 eV
  have h3 := hm.2.2
  refine aw_aload_n C dX6_needs__5 rfl ?_
  refine aw_iload_n C dX6_needs__6 rfl ?_
  refine aw_call1 C dX6_needs__7 lX6_328 vX6_isLoad (t_X6_isLoad hm (by assumption)) rfl rfl rfl ⟨rfl, by decide⟩ rfl ⟨by decide, by decide⟩ (Nat.le_of_ble_eq_true rfl) ?_
  refine aw_if_ne C dX6_needs__10 (tgt := 19) (by decide) ⟨by omega, by omega⟩ (fun c1 => ?_) (fun c1 => ?_)
  · refine aw_iconst C dX6_needs__19 ?_
    refine aw_istore C dX6_needs__20 (by decide) ?_
    exact loop (by omega) (by omega) hm.2.1 m1 eV mE0 4 1 _ frc.rf (by omega) (by omega) (if_pos (by omega))
  · have qe : qNd V d n = (-1, 1) := if_neg (by omega)
    --go
    refine aw_aload_n C dX6_needs__13 rfl ?_
    refine aw_iconst C dX6_needs__14 ?_
    refine aw_call1 C dX6_needs__15 lX6_267 vX6_refused (t_X6_refused) rfl rfl rfl ⟨rfl, by decide⟩ rfl ⟨by decide, by decide⟩ (Nat.le_of_ble_eq_true rfl) ?_
    exact aw_iret C E dX6_needs__18 rfl (by rw [qe]; exact ⟨rfl, mE0 _ _ frc.rf⟩)
theorem t_X6_point {mu : Mem} {V : FV} {d k i w : Int} (h : mF mu V) (hd : R32 d) (hk : R32 k) (hi : R64 i) (hw : R32 w) : Tr 5 mX6_point [vr 55, vi d, vi k, vl i, vi w] mu (fun r m2 => r = some (vl (qPt V d k i w).1) ∧ mE mu m2 (qPt V d k i w).2) := by
  refine Tr.of (by decide +kernel) (Nat.le_of_ble_eq_true rfl) (fun K C E => ?_)
  have k1 := b01_01 (0 ≤ d ∧ d < V.2.1)
  have k1i : b01 (0 ≤ d ∧ d < V.2.1) = 1 ↔ (0 ≤ d ∧ d < V.2.1) := b01_iff
  have k2 := b01_01 (0 ≤ k ∧ k ≤ 4)
  have k2i : b01 (0 ≤ k ∧ k ≤ 4) = 1 ↔ (0 ≤ k ∧ k ≤ 4) := b01_iff
  have k3 := b01_01 (0 ≤ w ∧ w ≤ 1)
  have k3i : b01 (0 ≤ w ∧ w ≤ 1) = 1 ↔ (0 ≤ w ∧ w ≤ 1) := b01_iff
  have loop : 0 ≤ d → d < V.2.1 → (hk4 : 0 ≤ k ∧ k ≤ 4) → 0 ≤ w ∧ w ≤ 1 → gV V → ∀ (m1 : Mem), mv m1 = V → (∀ m2 c, frc lnS m1 m2 → mE mu (gd m2 c) c) → ∀ (q : Nat) (m : Int) (m2 : Mem) (v12 : Vv), frc lnS m1 m2 → m + q = 960002 → -960000 ≤ m → m ≤ 960001 → lM V d k ≤ m → (0 ≤ i → 0 ≤ i - cumN (PVo V d k 0) (m - 1)) → (i < 0 → m = lM V d k) → AW K mX6_point (NC, 0, 0) 67 [vr 55, vi d, vi k, vl i, vx, vi w, vl (i - cumN (PVo V d k 0) (m - 1)), vx, vl (mM V d k), vx, vl m, vx, v12, vx] [] m2 := by
    intro d0 d1 hk4 w01 gg m1 eV1 mE0
    have hV := gg.1
    have hl := hV.2.1
    have cl := gg.cl (by omega)
    have hcl := cl.1
    have b1 := lM_b hV hcl (d := d) hk4
    have b2 := mM_b hV hcl (d := d) hk4
    have hL := clo_ln hcl d k 0
    have lo := cum_lo hV hcl (d := d) (z := 0) hk4 (by decide)
    have hi2 := fun m => cum_hi hV hcl (d := d) (k := k) (z := 0) (m := m) hk4 (by decide)
    have cl := fun m => col_lvs hL.1 hL.2 m
    have cnn := col_nn hL.1 hL.2
    have hP := PVo_b hV (d := d) (k := k) (z := 0) hk4 (by decide)
    have qb : qPt V d k i w = if i < 0 ∨ cumN (PVo V d k 0) 10000000 ≤ i then (NTH, 1) else (aPt (PVo V d k 0) i w, 0) := (if_neg (by omega) : qPt V d k i w = _).trans (if_neg (by omega))
    obtain ⟨P, eP⟩ : ∃ P, PVo V d k 0 = P := ⟨_, rfl⟩
    rw [eP] at qb lo hP cnn
    simp only [eP] at hi2 cl ⊢
    intro q
    induction q with
    | zero => intro m m2 v12 _ h; omega
    | succ q ih =>
      intro m m2 v12 hf q1 q2 q3 q4 q5 q6
      have eV2 := (lnS.mv hf).trans eV1
      have k1 := b01_01 (lvs P m)
      have cb := cumN_b hP (x := m - 1) (by omega)
      have cs := cumN_s (P := P) (m := m) (by omega)
      have m1b := mfl_b hP (s := 1) (m := m) (Or.inl rfl) (by omega)
      have m2b := mfl_b hP (s := -1) (m := m) (Or.inr rfl) (by omega)
      have qn : (mM V d k < m ∨ i < 0) → qPt V d k i w = (NTH, 1) := fun hh => by
        rw [qb, if_pos]
        rcases Int.lt_or_le i 0 with z | z
        · exact Or.inl z
        · rcases hh with hh | hh
          · have := hi2 (m - 1) (by omega) (by omega) (by omega)
            have := q5 z
            omega
          · omega
      have qc : 0 ≤ i → i < cumN P m → qPt V d k i w = ((if w = 0 then m else i - cumN P (m - 1) - mfl P 1 m), 0) := fun z1 z2 => by
        have mo := cumN_mono cnn (x := m) (y := 10000000) (by omega)
        have := clm_eq cnn (i := i) (x := m) ⟨by have := q5 z1; omega, z2⟩
        rw [qb, if_neg (by omega)]
        unfold aPt
        rw [this]
      have z0 : i < 0 → i - cumN P (m - 1) < 0 := fun z => by rw [q6 z, lo]; omega
      have nn0 := cumN_mono cnn (x := -10000001) (y := m - 1) (by omega)
      rw [cumN_z] at nn0
      have lr : -9223372036854775808 ≤ i - cumN P (m - 1) ∧ i - cumN P (m - 1) ≤ 9223372036854775807 := by
        rcases Int.lt_or_le i 0 with z | z
        · rw [q6 z, lo]; omega
        · have := q5 z; omega
      generalize hL0 : i - cumN P (m - 1) = left at *
      refine aw_lload C dX6_point_67 rfl ?_
      refine aw_lload C dX6_point_69 rfl ?_
      refine aw_lcmp_gt C dX6_point_71 dX6_point_72 (tgt := 156) (by decide) ⟨by omega, by omega⟩ ⟨by omega, by omega⟩ (fun c1 => ?_) (fun c1 => ?_)
      · have qe := qn (by omega)
        --go
        refine aw_aload_n C dX6_point_156 rfl ?_
        refine aw_iconst C dX6_point_157 ?_
        refine aw_call1 C dX6_point_158 lX6_311 vX6_lost (t_X6_lost) rfl rfl rfl ⟨rfl, by decide⟩ rfl ⟨by decide, by decide⟩ (Nat.le_of_ble_eq_true rfl) ?_
        exact aw_lret C E dX6_point_161 rfl (by rw [qe]; first | exact ⟨rfl, mE0 _ _ hf⟩ | exact ⟨rfl, mE0 _ _ hf3⟩)
      · refine aw_lload C dX6_point_75 rfl ?_
        refine aw_lconst C dX6_point_77 (v := 0) rfl ?_
        refine aw_lcmp_lt C dX6_point_78 dX6_point_79 (tgt := 156) (by decide) ⟨by omega, by omega⟩ ⟨by omega, by omega⟩ (fun c2 => ?_) (fun c2 => ?_)
        · have qe := qn (Or.inr (by rcases Int.lt_or_le i 0 with z | z; exact z; have := q5 z; omega))
          --go
          refine aw_aload_n C dX6_point_156 rfl ?_
          refine aw_iconst C dX6_point_157 ?_
          refine aw_call1 C dX6_point_158 lX6_311 vX6_lost (t_X6_lost) rfl rfl rfl ⟨rfl, by decide⟩ rfl ⟨by decide, by decide⟩ (Nat.le_of_ble_eq_true rfl) ?_
          exact aw_lret C E dX6_point_161 rfl (by rw [qe]; first | exact ⟨rfl, mE0 _ _ hf⟩ | exact ⟨rfl, mE0 _ _ hf3⟩)
        · refine aw_aload_n C dX6_point_82 rfl ?_
          refine aw_iload_n C dX6_point_83 rfl ?_
          refine aw_iload_n C dX6_point_84 rfl ?_
          refine aw_iconst C dX6_point_85 ?_
          refine aw_lload C dX6_point_86 rfl ?_
          refine aw_call C dX6_point_88 lX6_381 vX6_leaves (eP ▸ t_X6_leaves (z := 0) eV2 hV hcl d0 d1 hk4 (by decide) ⟨by omega, by omega⟩) rfl rfl rfl ⟨rfl, by decide⟩ rfl ⟨by decide, by decide⟩ (Nat.le_of_ble_eq_true rfl) (fun r3 mu3 hq3 => ?_)
          obtain ⟨rfl, f1, f2⟩ := hq3
          have hf3 := hf.tr f1
          generalize mu3 = m3 at *
          show AW _ _ _ _ _ [vi (b01 (lvs P m))] _
          refine aw_if_ne C dX6_point_91 (tgt := 97) (by decide) ⟨by omega, by omega⟩ (fun c4 => ?_) (fun c4 => ?_)
          · obtain ⟨g1, g2⟩ := f2 (b01_iff.mp (by omega))
            have ct := (cl m).1 (b01_iff.mp (by omega))
            have i0 : 0 ≤ i := by rcases Int.lt_or_le i 0 with z | z; have := z0 z; omega; exact z
            --go
            refine aw_aload_n C dX6_point_97 rfl ?_
            refine aw_getL C dX6_point_98 fX6_369 ⟨rfl, by decide⟩ rfl ?_
            refine aw_aload_n C dX6_point_101 rfl ?_
            refine aw_getL C dX6_point_102 fX6_364 ⟨rfl, by decide⟩ rfl ?_
            refine aw_lsub C dX6_point_105 ?_
            refine aw_lconst C dX6_point_106 (v := 1) rfl ?_
            refine aw_ladd C dX6_point_107 ?_
            refine aw_lstore C dX6_point_108 (by decide) ?_
            refine aw_lload C dX6_point_110 rfl ?_
            refine aw_lload C dX6_point_112 rfl ?_
            refine aw_lcmp_ge C dX6_point_114 dX6_point_115 (tgt := 140) (by decide) ⟨by omega, by omega⟩ ⟨by omega, by omega⟩ (fun c5 => ?_) (fun c5 => ?_)
            · refine aw_lload C dX6_point_140 rfl ?_
              refine aw_lload C dX6_point_142 rfl ?_
              refine aw_lsub C dX6_point_144 ?_
              rw [show left - (m3 55 41 - m3 55 40 + 1) = i - cumN P (m + 1 - 1) by rw [show m + 1 - 1 = m by omega]; omega]
              refine aw_lstore C dX6_point_145 (by decide) ?_
              refine aw_lload C dX6_point_147 rfl ?_
              refine aw_lconst C dX6_point_149 (v := 1) rfl ?_
              refine aw_ladd C dX6_point_150 ?_
              refine aw_lstore C dX6_point_151 (by decide) ?_
              refine aw_goto C dX6_point_153 (tgt := 67) (by decide) ?_
              exact ih (m + 1) _ _ hf3 (by omega) (by omega) (by omega) (by omega) (fun z => by rw [show m + 1 - 1 = m by omega]; omega) (fun z => by omega)
            · have qe := qc i0 (by omega)
              --go
              refine aw_aload_n C dX6_point_118 rfl ?_
              refine aw_iload C dX6_point_119 rfl ?_
              refine aw_if_ne C dX6_point_121 (tgt := 129) (by decide) ⟨by omega, by omega⟩ (fun cw => ?_) (fun cw => ?_)
              · rw [if_neg cw] at qe
                --go
                refine aw_aload_n C dX6_point_129 rfl ?_
                refine aw_getL C dX6_point_130 fX6_364 ⟨rfl, by decide⟩ rfl ?_
                refine aw_lload C dX6_point_133 rfl ?_
                refine aw_ladd C dX6_point_135 ?_
                refine aw_call1 C dX6_point_136 lX6_315 vX6_told (t_X6_told) rfl rfl rfl ⟨rfl, by decide⟩ rfl ⟨by decide, by decide⟩ (Nat.le_of_ble_eq_true rfl) ?_
                exact aw_lret C E dX6_point_139 rfl (by rw [qe]; first | exact ⟨rfl, mE0 _ _ hf3⟩ | exact ⟨by rw [g1]; congr 2; omega, mE0 _ _ hf3⟩)
              · rw [if_pos cw] at qe
                --go
                refine aw_lload C dX6_point_124 rfl ?_
                refine aw_goto C dX6_point_126 (tgt := 136) (by decide) ?_
                refine aw_call1 C dX6_point_136 lX6_315 vX6_told (t_X6_told) rfl rfl rfl ⟨rfl, by decide⟩ rfl ⟨by decide, by decide⟩ (Nat.le_of_ble_eq_true rfl) ?_
                exact aw_lret C E dX6_point_139 rfl (by rw [qe]; first | exact ⟨rfl, mE0 _ _ hf3⟩ | exact ⟨by rw [g1]; congr 2; omega, mE0 _ _ hf3⟩)
          · have cz := (cl m).2 (b01_niff.mp (by omega))
            rw [cz, Int.add_zero] at cs
            rw [show left = i - cumN P (m + 1 - 1) by rw [show m + 1 - 1 = m by omega, cs]; exact hL0.symm]
            --go
            refine aw_goto C dX6_point_94 (tgt := 147) (by decide) ?_
            refine aw_lload C dX6_point_147 rfl ?_
            refine aw_lconst C dX6_point_149 (v := 1) rfl ?_
            refine aw_ladd C dX6_point_150 ?_
            refine aw_lstore C dX6_point_151 (by decide) ?_
            refine aw_goto C dX6_point_153 (tgt := 67) (by decide) ?_
            exact ih (m + 1) _ _ hf3 (by omega) (by omega) (by omega) (by omega) (fun z => by rw [show m + 1 - 1 = m by omega, cs, hL0]; exact q5 z) (fun z => absurd (z0 z) (by omega))
  refine aw_aload_n C dX6_point_0 rfl ?_
  refine aw_iconst C dX6_point_1 ?_
  refine aw_putI C dX6_point_2 fX6_77 ⟨rfl, by decide⟩ rfl rfl rfl ?_
  have hm := h.t
  have mE0 : ∀ m2 c, frc lnS (wr mu 55 0 0) m2 → mE mu (gd m2 c) c := fun m2 c w => mE_gd w
  generalize wr mu 55 0 0 = m1 at *
  have eV := hm.1
  have hV := hm.2.1.1
  have hn := hV.1
  have hl := hV.2.1
  have e1 := mv1 eV
  have e2 := mv2 eV
  have h3 := hm.2.2
  refine aw_aload_n C dX6_point_5 rfl ?_
  refine aw_iload_n C dX6_point_6 rfl ?_
  refine aw_call1 C dX6_point_7 lX6_328 vX6_isLoad (t_X6_isLoad hm (by assumption)) rfl rfl rfl ⟨rfl, by decide⟩ rfl ⟨by decide, by decide⟩ (Nat.le_of_ble_eq_true rfl) ?_
  refine aw_if_eq C dX6_point_10 (tgt := 24) (by decide) ⟨by omega, by omega⟩ (fun c1 => ?_) (fun c1 => ?_)
  · have qe : qPt V d k i w = (NTH, 1) := if_pos (by omega)
    --go
    refine aw_aload_n C dX6_point_24 rfl ?_
    refine aw_iconst C dX6_point_25 ?_
    refine aw_call1 C dX6_point_26 lX6_311 vX6_lost (t_X6_lost) rfl rfl rfl ⟨rfl, by decide⟩ rfl ⟨by decide, by decide⟩ (Nat.le_of_ble_eq_true rfl) ?_
    exact aw_lret C E dX6_point_29 rfl (by rw [qe]; exact ⟨rfl, mE0 _ _ frc.rf⟩)
  · refine aw_iload C dX6_point_13 rfl ?_
    refine aw_i2l C dX6_point_15 ⟨by omega, by omega⟩ ?_
    refine aw_lconst C dX6_point_16 (v := 0) rfl ?_
    refine aw_lconst C dX6_point_17 (v := 1) rfl ?_
    refine aw_callS1 C dX6_point_18 lX6_108 vX6_in (t_X6_in ⟨by omega, by omega⟩ ⟨by omega, by omega⟩ ⟨by omega, by omega⟩) rfl rfl rfl ⟨by decide, by decide⟩ (Nat.le_of_ble_eq_true rfl) ?_
    refine aw_if_ne C dX6_point_21 (tgt := 30) (by decide) ⟨by omega, by omega⟩ (fun c2 => ?_) (fun c2 => ?_)
    · refine aw_iload_n C dX6_point_30 rfl ?_
      refine aw_i2l C dX6_point_31 ⟨by omega, by omega⟩ ?_
      refine aw_lconst C dX6_point_32 (v := 0) rfl ?_
      refine aw_ldc2 C dX6_point_33 kX6_385 (z := 4) (by decide +kernel) ?_
      refine aw_callS1 C dX6_point_36 lX6_108 vX6_in (t_X6_in ⟨by omega, by omega⟩ ⟨by omega, by omega⟩ ⟨by omega, by omega⟩) rfl rfl rfl ⟨by decide, by decide⟩ (Nat.le_of_ble_eq_true rfl) ?_
      refine aw_if_ne C dX6_point_39 (tgt := 48) (by decide) ⟨by omega, by omega⟩ (fun c3 => ?_) (fun c3 => ?_)
      · have cl := hm.2.1.cl (by omega)
        have hcl := cl.1
        have hk4 : 0 ≤ k ∧ k ≤ 4 := by omega
        have b1 := lM_b hV hcl (d := d) hk4
        have lo := cum_lo hV hcl (d := d) (z := 0) hk4 (by decide)
        --go
        refine aw_lload_n C dX6_point_48 rfl ?_
        refine aw_lstore C dX6_point_49 (by decide) ?_
        refine aw_aload_n C dX6_point_51 rfl ?_
        refine aw_iload_n C dX6_point_52 rfl ?_
        refine aw_iload_n C dX6_point_53 rfl ?_
        refine aw_call1 C dX6_point_54 lX6_375 vX6_mostM (t_X6_mostM eV hV hcl (by omega) (by omega) (by omega)) rfl rfl rfl ⟨rfl, by decide⟩ rfl ⟨by decide, by decide⟩ (Nat.le_of_ble_eq_true rfl) ?_
        refine aw_lstore C dX6_point_57 (by decide) ?_
        refine aw_aload_n C dX6_point_59 rfl ?_
        refine aw_iload_n C dX6_point_60 rfl ?_
        refine aw_iload_n C dX6_point_61 rfl ?_
        refine aw_call1 C dX6_point_62 lX6_378 vX6_leastM (t_X6_leastM eV hV hcl (by omega) (by omega) (by omega)) rfl rfl rfl ⟨rfl, by decide⟩ rfl ⟨by decide, by decide⟩ (Nat.le_of_ble_eq_true rfl) ?_
        refine aw_lstore C dX6_point_65 (by decide) ?_
        rw [show i = i - cumN (PVo V d k 0) (lM V d k - 1) by omega]
        have lp := loop (by omega) (by omega) hk4 (by omega) hm.2.1 m1 eV mE0 (960002 - lM V d k).toNat (lM V d k) m1 vx frc.rf (by omega) (by omega) (by omega) (by omega) (fun z => by omega) (fun _ => rfl)
        rw [lo, Int.sub_zero] at lp ⊢
        exact lp
      · have qe : qPt V d k i w = (NTH, 2) := (if_neg (by omega) : qPt V d k i w = _).trans (if_pos (by omega))
        --go
        refine aw_aload_n C dX6_point_42 rfl ?_
        refine aw_iconst C dX6_point_43 ?_
        refine aw_call1 C dX6_point_44 lX6_311 vX6_lost (t_X6_lost) rfl rfl rfl ⟨rfl, by decide⟩ rfl ⟨by decide, by decide⟩ (Nat.le_of_ble_eq_true rfl) ?_
        exact aw_lret C E dX6_point_47 rfl (by rw [qe]; exact ⟨rfl, mE0 _ _ frc.rf⟩)
    · have qe : qPt V d k i w = (NTH, 1) := if_pos (by omega)
      --go
      refine aw_aload_n C dX6_point_24 rfl ?_
      refine aw_iconst C dX6_point_25 ?_
      refine aw_call1 C dX6_point_26 lX6_311 vX6_lost (t_X6_lost) rfl rfl rfl ⟨rfl, by decide⟩ rfl ⟨by decide, by decide⟩ (Nat.le_of_ble_eq_true rfl) ?_
      exact aw_lret C E dX6_point_29 rfl (by rw [qe]; exact ⟨rfl, mE0 _ _ frc.rf⟩)

/-! cuts -/
noncomputable def cutP (V : FV) (i : Int) : Nat → FV → Int → Int → Int → Int → Int → Int → Int → FV × Int
  | 0, D, _, _, _, _, _, _, w => (D, w)
  | k + 1, D, a, b, x, y, u, v, w => if b ≤ 0 then (D, w) else if b01 (okI D V i u v) = 1 then cutP V i k (insV D (pos D u v).toNat u v (fun d => ftt V d i u v / trn V i)) b (cN a b) u v (cB a b * u - x) (cB a b * v - y) (w + 1) else (D, -1)
noncomputable def cutV (V : FV) (i : Int) (D : FV) : FV × Int := cutP V i 24 D (trn V i) (kq V i) (gx V i) (gy V i) ((kq V i * gx V i + gx V (nxt V i)).tdiv (trn V i)) ((kq V i * gy V i + gy V (nxt V i)).tdiv (trn V i)) 0
/-- where a cut stands -/
def CI (V : FV) (i : Int) (D : FV) (a b x y u v : Int) : Prop := oV D ∧ D.2.1 = V.2.1 ∧ (0 ≤ b ∧ b < a ∧ a ≤ 7200) ∧ x * v - y * u = 1 ∧ (a * u - b * x = gx V (nxt V i) ∧ a * v - b * y = gy V (nxt V i)) ∧ adj D x y (gx V (nxt V i)) (gy V (nxt V i)) ∧ (-500000 ≤ u ∧ u ≤ 500000) ∧ (-500000 ≤ v ∧ v ≤ 500000)
theorem CI.xy {V : FV} {i : Int} {D : FV} {a b x y u v : Int} (h : CI V i D a b x y u v) : (-60 ≤ x ∧ x ≤ 60) ∧ (-60 ≤ y ∧ y ≤ 60) := by
  obtain ⟨q, -, -, ⟨rfl, rfl⟩, -⟩ := h.2.2.2.2.2.1
  exact ⟨h.1.1.x q, h.1.1.y q⟩
theorem gcd_1 {x y u v : Int} (h : x * v - y * u = 1) : Int.gcd u v = 1 := by
  have d1 : (Int.gcd u v : Int) ∣ x * v := Int.dvd_trans (Int.gcd_dvd_right u v) (Int.dvd_mul_left x v)
  have d2 : (Int.gcd u v : Int) ∣ y * u := Int.dvd_trans (Int.gcd_dvd_left u v) (Int.dvd_mul_left y u)
  have d3 := Int.dvd_sub d1 d2
  rw [h] at d3
  have := Int.eq_one_of_dvd_one (by omega) d3
  omega
theorem cut_c1 {a b c d x y u v : Int} (h : x * v - y * u = 1) (h1 : a * u - b * x = c) (h2 : a * v - b * y = d) : u * d - v * c = b := by
  rw [← h1, ← h2]
  have e : u * (a * v - b * y) - v * (a * u - b * x) = b * (x * v - y * u) := by
    simp only [Int.mul_sub]
    simp only [Int.mul_comm, Int.mul_left_comm]
    omega
  rw [e, h, Int.mul_one]
theorem cut_c2 {B x y u v : Int} (h : x * v - y * u = 1) : u * (B * v - y) - v * (B * u - x) = 1 := by
  have e : u * (B * v - y) - v * (B * u - x) = x * v - y * u := by
    simp only [Int.mul_sub]
    simp only [Int.mul_comm, Int.mul_left_comm]
    omega
  rw [e, h]
theorem cut_c3 {a b B x u c : Int} (h : a * u - b * x = c) : b * (B * u - x) - (B * b - a) * u = c := by
  rw [← h]
  simp only [Int.mul_sub, Int.sub_mul]
  simp only [Int.mul_comm, Int.mul_left_comm]
  omega
theorem CI.step {V : FV} {i : Int} {D : FV} {a b x y u v : Int} (h : CI V i D a b x y u v) (hb : 0 < b) (hk : okI D V i u v) : splt D u v (pos D u v) ∧ CI V i (insV D (pos D u v).toNat u v (fun d => ftt V d i u v / trn V i)) b (cN a b) u v (cB a b * u - x) (cB a b * v - y) ∧ ∀ a2 b2 c2 d2, ¬ (c2 = gx V (nxt V i) ∧ d2 = gy V (nxt V i)) → adj D a2 b2 c2 d2 → adj (insV D (pos D u v).toNat u v (fun d => ftt V d i u v / trn V i)) a2 b2 c2 d2 := by
  obtain ⟨h1, h2, h3, h4, h5, h6, h7, h8⟩ := id h
  have xy := h.xy
  have w := cut_c1 h4 h5.1 h5.2
  have g := ins_good h1 h6 (x := u) (y := v) (by omega) (by omega) (gcd_1 h4) hk.1 hk.2.1 hk.2.2.1 (g := fun d => ftt V d i u v / trn V i) (fun d hd => hk.2.2.2 d (by omega) hd)
  obtain ⟨g1, g2, g3, g4, g5⟩ := g
  have cb := cB_b hb (show b ≤ a by omega) h3.2.2
  have cn := cN_in (a := a) hb
  have m1 := mulb (a := cB a b) (A := 7200) ⟨by omega, by omega⟩ hk.2.1
  have m2 := mulb (a := cB a b) (A := 7200) ⟨by omega, by omega⟩ hk.2.2.1
  refine ⟨g1, ⟨g2, h2, ⟨cn.1, cn.2, by omega⟩, cut_c2 h4, ⟨cut_c3 h5.1, cut_c3 h5.2⟩, g4, by omega, by omega⟩, fun a2 b2 c2 d2 hne hA => g5 a2 b2 c2 d2 (fun e => hne ?_) hA⟩
  obtain ⟨q1, p0, p1, ⟨p2, p3⟩, p4, p5⟩ := h6
  obtain ⟨q2, r0, r1, ⟨r2, r3⟩, r4, r5⟩ := hA
  have := srt_uq h1.2.2.2 p0 p1 r0 r1 (by rw [p2, r2, e.1]) (by rw [p3, r3, e.2])
  rw [← p4, ← p5, ← r4, ← r5, this]
  exact ⟨rfl, rfl⟩
theorem CI.start {V : FV} {i : Int} {D : FV} (hV : bV V) (hc : clo V) (hp : prm V) (hD : oV D) (hl : D.2.1 = V.2.1) (h0 : 0 ≤ i) (h1 : i < V.1) (hA : adj D (gx V i) (gy V i) (gx V (nxt V i)) (gy V (nxt V i))) : CI V i D (trn V i) (kq V i) (gx V i) (gy V i) ((kq V i * gx V i + gx V (nxt V i)).tdiv (trn V i)) ((kq V i * gy V i + gy V (nxt V i)).tdiv (trn V i)) := by
  have t := hc.2 i h0 h1
  have tb := hV.trn i
  obtain ⟨k1, k2, k3, k4⟩ := kq_ok (hp i h0 h1) t
  have e1 := Int.mul_tdiv_cancel_of_dvd k3
  have e2 := Int.mul_tdiv_cancel_of_dvd k4
  have e1 : trn V i * (kq V i * gx V i + gx V (nxt V i)).tdiv (trn V i) = kq V i * gx V i + gx V (nxt V i) := e1
  have e2 : trn V i * (kq V i * gy V i + gy V (nxt V i)).tdiv (trn V i) = kq V i * gy V i + gy V (nxt V i) := e2
  have k2 : kq V i < trn V i := k2
  have b1 := mulb (a := kq V i) (A := 7200) ⟨by omega, by omega⟩ (hV.x i)
  have b2 := mulb (a := kq V i) (A := 7200) ⟨by omega, by omega⟩ (hV.y i)
  have b3 := hV.x (nxt V i)
  have b4 := hV.y (nxt V i)
  have n1 := Int.natAbs_tdiv_le_natAbs (kq V i * gx V i + gx V (nxt V i)) (trn V i)
  have n2 := Int.natAbs_tdiv_le_natAbs (kq V i * gy V i + gy V (nxt V i)) (trn V i)
  generalize (kq V i * gx V i + gx V (nxt V i)).tdiv (trn V i) = u at *
  generalize (kq V i * gy V i + gy V (nxt V i)).tdiv (trn V i) = v at *
  refine ⟨hD, hl, ⟨k1, k2, by omega⟩, ?_, ⟨by omega, by omega⟩, hA, by omega, by omega⟩
  have e : trn V i * (gx V i * v - gy V i * u) = trn V i * 1 := by
    rw [Int.mul_sub, Int.mul_left_comm, Int.mul_left_comm _ (gy V i), e1, e2, Int.mul_one]
    unfold trn crs
    rw [Int.mul_add, Int.mul_add, Int.mul_left_comm (gy V i), Int.mul_left_comm (gx V i), Int.mul_comm (gy V i) (gx V i)]
    omega
  exact Int.eq_of_mul_eq_mul_left (by omega) e
theorem cutP_r {V : FV} {i : Int} : ∀ (k : Nat) (D : FV) (a b x y u v w : Int), CI V i D a b x y u v → 0 ≤ w → oV (cutP V i k D a b x y u v w).1 ∧ (cutP V i k D a b x y u v w).1.2.1 = V.2.1 ∧ ((cutP V i k D a b x y u v w).2 = -1 ∨ 0 ≤ (cutP V i k D a b x y u v w).2) ∧ ∀ a2 b2 c2 d2, ¬ (c2 = gx V (nxt V i) ∧ d2 = gy V (nxt V i)) → adj D a2 b2 c2 d2 → adj (cutP V i k D a b x y u v w).1 a2 b2 c2 d2
  | 0, D, a, b, x, y, u, v, w, h, hw => ⟨h.1, h.2.1, Or.inr hw, fun _ _ _ _ _ hA => hA⟩
  | k + 1, D, a, b, x, y, u, v, w, h, hw => by
    have e : cutP V i (k + 1) D a b x y u v w = if b ≤ 0 then (D, w) else if b01 (okI D V i u v) = 1 then cutP V i k (insV D (pos D u v).toNat u v (fun d => ftt V d i u v / trn V i)) b (cN a b) u v (cB a b * u - x) (cB a b * v - y) (w + 1) else (D, -1) := rfl
    rw [e]
    by_cases hb : b ≤ 0
    · rw [if_pos hb]
      exact ⟨h.1, h.2.1, Or.inr hw, fun _ _ _ _ _ hA => hA⟩
    · rw [if_neg hb]
      by_cases hk : b01 (okI D V i u v) = 1
      · rw [if_pos hk]
        have s := h.step (by omega) (b01_iff.mp hk)
        have r := cutP_r k _ _ _ _ _ _ _ (w + 1) s.2.1 (by omega)
        exact ⟨r.1, r.2.1, r.2.2.1, fun a2 b2 c2 d2 hne hA => r.2.2.2 a2 b2 c2 d2 hne (s.2.2 a2 b2 c2 d2 hne hA)⟩
      · rw [if_neg hk]
        exact ⟨h.1, h.2.1, Or.inl rfl, fun _ _ _ _ _ hA => hA⟩
theorem cutV_r {V : FV} {i : Int} {D : FV} (hV : bV V) (hc : clo V) (hp : prm V) (hD : oV D) (hl : D.2.1 = V.2.1) (h0 : 0 ≤ i) (h1 : i < V.1) (hA : adj D (gx V i) (gy V i) (gx V (nxt V i)) (gy V (nxt V i))) : oV (cutV V i D).1 ∧ (cutV V i D).1.2.1 = V.2.1 ∧ ((cutV V i D).2 = -1 ∨ 0 ≤ (cutV V i D).2) ∧ ∀ a2 b2 c2 d2, ¬ (c2 = gx V (nxt V i) ∧ d2 = gy V (nxt V i)) → adj D a2 b2 c2 d2 → adj (cutV V i D).1 a2 b2 c2 d2 := cutP_r 24 D _ _ _ _ _ _ 0 (CI.start hV hc hp hD hl h0 h1 hA) (by omega)
noncomputable def caP (V : FV) : Nat → Int → FV → FV × Int
  | 0, _, D => (D, 0)
  | k + 1, i, D => if (cutV V i D).2 = -1 then (D, -1) else caP V k (i + 1) (cutV V i D).1
/-- what is not cut yet still stands -/
def CA (V : FV) (i : Int) (D : FV) : Prop := oV D ∧ D.2.1 = V.2.1 ∧ ∀ j, i ≤ j → j < V.1 → adj D (gx V j) (gy V j) (gx V (nxt V j)) (gy V (nxt V j))
theorem CA.step {V : FV} (hV : oV V) {i : Int} {D : FV} (h : CA V i D) (h0 : 0 ≤ i) (h1 : i < V.1) : CA V (i + 1) (cutV V i D).1 := by
  have r := cutV_r hV.1 hV.2.1 hV.2.2.1 h.1 h.2.1 h0 h1 (h.2.2 i (by omega) h1)
  refine ⟨r.1, r.2.1, fun j j0 j1 => r.2.2.2 _ _ _ _ (fun e => ?_) (h.2.2 j (by omega) j1)⟩
  have nj := nxt_in (V := V) (i := j) (by omega) j1
  have ni := nxt_in h0 h1
  have := srt_uq hV.2.2.2 nj.1 nj.2 ni.1 ni.2 e.1 e.2
  unfold nxt at this
  split at this <;> split at this <;> omega
theorem CA.start {V : FV} (hV : oV V) : CA V 0 V := ⟨hV, rfl, fun j j0 j1 => adj_n j0 j1⟩
theorem caP_r {V : FV} (hV : oV V) : ∀ (k : Nat) (i : Int) (D : FV), 0 ≤ i → i + k = V.1 → CA V i D → oV (caP V k i D).1 ∧ ((caP V k i D).2 = -1 ∨ (caP V k i D).2 = 0)
  | 0, i, D, _, _, h => ⟨h.1, Or.inr rfl⟩
  | k + 1, i, D, h0, h1, h => by
    have e : caP V (k + 1) i D = if (cutV V i D).2 = -1 then (D, -1) else caP V k (i + 1) (cutV V i D).1 := rfl
    rw [e]
    split
    · exact ⟨h.1, Or.inl rfl⟩
    · exact caP_r hV k (i + 1) _ (by omega) (by omega) (h.step hV h0 (by omega))
noncomputable def qCu (V : FV) (i : Int) : Int × Int := if ¬ (0 ≤ i ∧ i < V.1) then (-1, 1) else if (cutV V i V).2 = -1 then (-1, 3) else ((cutV V i V).2, 0)
noncomputable def wCu (V : FV) (i : Int) : FV := (cutV V i V).1
noncomputable def qCa (V : FV) : Int × Int := if ¬ 0 < V.1 then (-1, 1) else if (caP V V.1.toNat 0 V).2 = -1 then (-1, 3) else ((caP V V.1.toNat 0 V).1.1 - V.1, 0)
noncomputable def wCa (V : FV) : FV := (caP V V.1.toNat 0 V).1

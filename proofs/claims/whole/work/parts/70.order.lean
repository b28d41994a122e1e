/-! the rays' order around -/
theorem up_tr {a b c d e f : Int} (h1 : hlf a b) (h2 : hlf c d) (h3 : hlf e f) (p : 0 < a * d - b * c) (q : 0 < c * f - d * e) : 0 < a * f - b * e := by
  have id := plu a b c d e f
  unfold hlf at h1 h2 h3
  rcases h2 with w | ⟨w, w2⟩
  · have r1 : 0 ≤ (a * d - b * c) * f := Int.mul_nonneg (by omega) (by omega)
    have r2 : 0 ≤ (c * f - d * e) * b := Int.mul_nonneg (by omega) (by omega)
    rcases Int.lt_or_le 0 (a * f - b * e) with z | z
    · exact z
    · exfalso
      have r3 : (a * f - b * e) * d ≤ 0 := Int.mul_nonpos_of_nonpos_of_nonneg z (by omega)
      have r4 : (a * d - b * c) * f = 0 := by omega
      have r5 : (c * f - d * e) * b = 0 := by omega
      have f0 : f = 0 := by
        rcases Int.mul_eq_zero.mp r4 with y | y
        · omega
        · exact y
      rw [f0] at q h3
      have := Int.mul_pos w (show 0 < e by omega)
      rw [Int.mul_zero] at q
      omega
  · rw [w] at p
    rw [Int.mul_zero] at p
    have := Int.mul_nonneg (show 0 ≤ b by omega) (show 0 ≤ c by omega)
    omega
theorem hlf_neg {a b : Int} (h : ¬ hlf a b) (hz : ¬ (a = 0 ∧ b = 0)) : hlf (-a) (-b) := by
  unfold hlf at *
  omega
theorem crs_nz {a b c d : Int} (p : 0 < a * d - b * c) : ¬ (a = 0 ∧ b = 0) ∧ ¬ (c = 0 ∧ d = 0) := by
  constructor
  · rintro ⟨rfl, rfl⟩
    rw [Int.zero_mul, Int.zero_mul] at p
    omega
  · rintro ⟨rfl, rfl⟩
    rw [Int.mul_zero, Int.mul_zero] at p
    omega
theorem dn_tr {a b c d e f : Int} (h1 : ¬ hlf a b) (h2 : ¬ hlf c d) (h3 : ¬ hlf e f) (p : 0 < a * d - b * c) (q : 0 < c * f - d * e) : 0 < a * f - b * e := by
  have n1 := crs_nz p
  have n2 := crs_nz q
  have := up_tr (hlf_neg h1 n1.1) (hlf_neg h2 n1.2) (hlf_neg h3 n2.2) (by rw [Int.neg_mul_neg, Int.neg_mul_neg]; exact p) (by rw [Int.neg_mul_neg, Int.neg_mul_neg]; exact q)
  rw [Int.neg_mul_neg, Int.neg_mul_neg] at this
  exact this
theorem cbf_as {a b c d : Int} (h : cbf a b c d) : ¬ cbf c d a b := by
  unfold cbf at *
  rintro (⟨w1, w2⟩ | ⟨w1, w2⟩)
  · rcases h with h | h
    · exact w2 h.1
    · exact w2 (h.1.mpr w1)
  · rcases h with h | h
    · exact h.2 (w1.mpr h.1)
    · have := h.2
      rw [Int.mul_comm c b, Int.mul_comm d a] at w2
      omega
theorem cbf_tr {a b c d e f : Int} (h1 : cbf a b c d) (h2 : cbf c d e f) : cbf a b e f := by
  unfold cbf at *
  rcases h1 with ⟨u1, u2⟩ | ⟨u1, u2⟩
  · rcases h2 with ⟨v1, v2⟩ | ⟨v1, v2⟩
    · exact absurd v1 u2
    · exact Or.inl ⟨u1, fun w => u2 (v1.mpr w)⟩
  · rcases h2 with ⟨v1, v2⟩ | ⟨v1, v2⟩
    · exact Or.inl ⟨u1.mpr v1, v2⟩
    · refine Or.inr ⟨u1.trans v1, ?_⟩
      by_cases w : hlf a b
      · exact up_tr w (u1.mp w) (v1.mp (u1.mp w)) u2 v2
      · exact dn_tr w (fun z => w (u1.mpr z)) (fun z => w (u1.mpr (v1.mpr z))) u2 v2
/-- a ray in a cone: T w = p u + q v -/
theorem mid_id (a b c d x y : Int) : (a * d - b * c) * y = (x * d - y * c) * b + (a * y - b * x) * d := by
  simp only [Int.sub_mul]
  simp only [Int.mul_assoc, Int.mul_comm, Int.mul_left_comm]
  omega
theorem mid_up {a b c d x y : Int} (h1 : hlf a b) (h2 : hlf c d) (t : 0 < a * d - b * c) (p : 0 < x * d - y * c) (q : 0 < a * y - b * x) : hlf x y := by
  have id := mid_id a b c d x y
  unfold hlf at h1 h2
  have r1 : 0 ≤ (x * d - y * c) * b := Int.mul_nonneg (by omega) (by omega)
  have r2 : 0 ≤ (a * y - b * x) * d := Int.mul_nonneg (by omega) (by omega)
  rcases Int.lt_or_le 0 y with z | z
  · exact Or.inl z
  · exfalso
    have r3 : (a * d - b * c) * y ≤ 0 := Int.mul_nonpos_of_nonneg_of_nonpos (by omega) z
    have r4 : (x * d - y * c) * b = 0 := by omega
    have r5 : (a * y - b * x) * d = 0 := by omega
    have b0 : b = 0 := by
      rcases Int.mul_eq_zero.mp r4 with w | w
      · omega
      · exact w
    have d0 : d = 0 := by
      rcases Int.mul_eq_zero.mp r5 with w | w
      · omega
      · exact w
    rw [b0, d0, Int.mul_zero, Int.zero_mul] at t
    omega
theorem mid_dn {a b c d x y : Int} (h1 : ¬ hlf a b) (h2 : ¬ hlf c d) (t : 0 < a * d - b * c) (p : 0 < x * d - y * c) (q : 0 < a * y - b * x) : ¬ hlf x y := by
  have n := crs_nz t
  have := mid_up (x := -x) (y := -y) (hlf_neg h1 n.1) (hlf_neg h2 n.2) (by rw [Int.neg_mul_neg, Int.neg_mul_neg]; exact t) (by rw [Int.neg_mul_neg, Int.neg_mul_neg]; exact p) (by rw [Int.neg_mul_neg, Int.neg_mul_neg]; exact q)
  unfold hlf at *
  omega
theorem mid_cbf {a b c d x y : Int} (h : cbf a b c d) (t : 0 < a * d - b * c) (p : 0 < x * d - y * c) (q : 0 < a * y - b * x) : cbf a b x y ∧ cbf x y c d := by
  unfold cbf at *
  rcases h with ⟨u1, u2⟩ | ⟨u1, u2⟩
  · by_cases w : hlf x y
    · exact ⟨Or.inr ⟨⟨fun _ => w, fun _ => u1⟩, q⟩, Or.inl ⟨w, u2⟩⟩
    · exact ⟨Or.inl ⟨u1, w⟩, Or.inr ⟨⟨fun z => absurd z w, fun z => absurd z u2⟩, p⟩⟩
  · by_cases w : hlf a b
    · have m := mid_up w (u1.mp w) t p q
      exact ⟨Or.inr ⟨⟨fun _ => m, fun _ => w⟩, q⟩, Or.inr ⟨⟨fun _ => u1.mp w, fun _ => m⟩, p⟩⟩
    · have w2 : ¬ hlf c d := fun z => w (u1.mpr z)
      have m := mid_dn w w2 t p q
      exact ⟨Or.inr ⟨⟨fun z => absurd z w, fun z => absurd z m⟩, q⟩, Or.inr ⟨⟨fun z => absurd z m, fun z => absurd z w2⟩, p⟩⟩
/-- around the end -/
theorem wrap_cbf {a b c d x y : Int} (h : cbf c d a b) (t : 0 < a * d - b * c) (p : 0 < x * d - y * c) (q : 0 < a * y - b * x) : cbf a b x y ∨ cbf x y c d := by
  have ts : ¬ c * b - d * a > 0 := by rw [Int.mul_comm c b, Int.mul_comm d a]; omega
  unfold cbf at *
  rcases h with ⟨u1, u2⟩ | ⟨u1, u2⟩
  · by_cases w : hlf x y
    · exact Or.inr (Or.inr ⟨⟨fun _ => u1, fun _ => w⟩, p⟩)
    · exact Or.inl (Or.inr ⟨⟨fun z => absurd z u2, fun z => absurd z w⟩, q⟩)
  · exact absurd u2 ts
def srt (V : FV) : Prop := ∀ i j : Int, 0 ≤ i → i < j → j < V.1 → cbf (gx V i) (gy V i) (gx V j) (gy V j)
/-- a place among the rays -/
def splt (V : FV) (x y p : Int) : Prop := (0 ≤ p ∧ p ≤ V.1) ∧ (∀ j, 0 ≤ j → j < p → cbf (gx V j) (gy V j) x y) ∧ ∀ j, p ≤ j → j < V.1 → cbf x y (gx V j) (gy V j)
theorem splt_pos {V : FV} {x y p : Int} (h : splt V x y p) : pos V x y = p := by
  unfold pos
  obtain ⟨h1, h2, h3⟩ := h
  rcases Int.lt_or_le p V.1 with w | w
  · exact fst_some _ _ p (by omega) (by omega) (fun z => cbf_as (h3 p (by omega) w) z) (fun q q0 q1 z => z (h2 q q0 q1))
  · rw [show p = V.1 by omega]
    exact fst_none _ _ (fun j j0 j1 z => z (h2 j j0 (by omega)))
/-- the place looked for from behind -/
noncomputable def bp (V : FV) (x y : Int) : Nat → Int
  | 0 => 0
  | k + 1 => if b01 (cbf x y (gx V k) (gy V k)) = 1 then bp V x y k else (k : Int) + 1
theorem splt_bp {V : FV} {x y p : Int} (h : splt V x y p) : ∀ k : Nat, p ≤ k → (k : Int) ≤ V.1 → bp V x y k = p
  | 0, h1, _ => by have := h.1.1; show (0 : Int) = p; omega
  | k + 1, h1, h2 => by
    show (if b01 (cbf x y (gx V k) (gy V k)) = 1 then bp V x y k else (k : Int) + 1) = p
    by_cases e : p = (k : Int) + 1
    · rw [if_neg (fun w => cbf_as (h.2.1 k (by omega) (by omega)) (b01_iff.mp w)), e]
    · rw [if_pos (b01_t (h.2.2 k (by omega) (by omega)))]
      exact splt_bp h k (by omega) (by omega)
theorem splt_bpos {V : FV} {x y p : Int} (h : splt V x y p) : bp V x y V.1.toNat = p := splt_bp h _ (by have := h.1; omega) (by have := h.1; omega)
theorem splt_cone {V : FV} (hs : srt V) (hc : clo V) {q x y : Int} (q0 : 0 ≤ q) (q1 : q < V.1) (u : 0 < gx V q * y - gy V q * x) (v : 0 < x * gy V (nxt V q) - y * gx V (nxt V q)) : ∃ p, splt V x y p ∧ (p = q + 1 ∨ (q = V.1 - 1 ∧ p = 0)) := by
  have h3 := hc.1
  have t := hc.2 q q0 q1
  have nx := nxt_in q0 q1
  unfold trn crs at t
  by_cases e : q + 1 < V.1
  · have en : nxt V q = q + 1 := by unfold nxt; rw [if_neg (by omega)]
    rw [en] at t v
    have m := mid_cbf (hs q (q + 1) q0 (by omega) e) t v u
    refine ⟨q + 1, ⟨⟨by omega, by omega⟩, fun j j0 j1 => ?_, fun j j0 j1 => ?_⟩, Or.inl rfl⟩
    · by_cases w : j = q
      · rw [w]; exact m.1
      · exact cbf_tr (hs j q j0 (by omega) q1) m.1
    · by_cases w : j = q + 1
      · rw [w]; exact m.2
      · exact cbf_tr m.2 (hs (q + 1) j (by omega) (by omega) j1)
  · have en : nxt V q = 0 := by unfold nxt; rw [if_pos (by omega)]
    rw [en] at t v
    have eq : q = V.1 - 1 := by omega
    rcases wrap_cbf (hs 0 q (by omega) (by omega) q1) t v u with m | m
    · refine ⟨q + 1, ⟨⟨by omega, by omega⟩, fun j j0 j1 => ?_, fun j j0 j1 => by omega⟩, Or.inl rfl⟩
      by_cases w : j = q
      · rw [w]; exact m
      · exact cbf_tr (hs j q j0 (by omega) q1) m
    · refine ⟨0, ⟨⟨by omega, by omega⟩, fun j j0 j1 => by omega, fun j j0 j1 => ?_⟩, Or.inr ⟨eq, rfl⟩⟩
      by_cases w : j = 0
      · rw [w]; exact m
      · exact cbf_tr m (hs 0 j (by omega) (by omega) j1)
/-! a ray put in -/
def sgi (p j : Int) : Int := if j < p then j else j + 1
theorem ins_s {A : Nat → Int} {p j v : Int} (hp : 0 ≤ p) (hj : 0 ≤ j) : ins A p.toNat v (sgi p j).toNat = A j.toNat := by
  unfold ins sgi
  by_cases w : j < p
  · rw [if_pos w, if_pos (by omega)]
  · rw [if_neg w, if_neg (by omega), if_neg (by omega)]
    congr 1
    omega
theorem ins_p {A : Nat → Int} {p v : Int} (hp : 0 ≤ p) : ins A p.toNat v p.toNat = v := by
  unfold ins
  rw [if_neg (by omega), if_pos rfl]
theorem gx_ins {V : FV} {p j x y : Int} {c : Nat → Int} (hp : 0 ≤ p) (hj : 0 ≤ j) : gx (insV V p.toNat x y c) (sgi p j) = gx V j := ins_s hp hj
theorem gy_ins {V : FV} {p j x y : Int} {c : Nat → Int} (hp : 0 ≤ p) (hj : 0 ≤ j) : gy (insV V p.toNat x y c) (sgi p j) = gy V j := ins_s hp hj
theorem gx_inp {V : FV} {p x y : Int} {c : Nat → Int} (hp : 0 ≤ p) : gx (insV V p.toNat x y c) p = x := ins_p hp
theorem gy_inp {V : FV} {p x y : Int} {c : Nat → Int} (hp : 0 ≤ p) : gy (insV V p.toNat x y c) p = y := ins_p hp
theorem sgi_ex {p n k : Int} (hp : 0 ≤ p ∧ p ≤ n) (h0 : 0 ≤ k) (h1 : k < n + 1) : k = p ∨ ∃ j, 0 ≤ j ∧ j < n ∧ k = sgi p j := by
  by_cases e : k = p
  · exact Or.inl e
  · right
    by_cases w : k < p
    · exact ⟨k, h0, by omega, by unfold sgi; rw [if_pos w]⟩
    · exact ⟨k - 1, by omega, by omega, by unfold sgi; rw [if_neg (by omega)]; omega⟩
theorem srt_ins {V : FV} (hs : srt V) {x y p : Int} {c : Nat → Int} (h : splt V x y p) : srt (insV V p.toNat x y c) := by
  intro i j i0 ij j1
  have j1 : j < V.1 + 1 := j1
  have hp := h.1
  rcases sgi_ex hp i0 (by omega) with rfl | ⟨a, a0, a1, rfl⟩
  · rcases sgi_ex hp (by omega) j1 with rfl | ⟨b, b0, b1, rfl⟩
    · omega
    · rw [gx_inp hp.1, gy_inp hp.1, gx_ins hp.1 b0, gy_ins hp.1 b0]
      refine h.2.2 b ?_ b1
      unfold sgi at ij
      split at ij <;> omega
  · rcases sgi_ex hp (by omega) j1 with rfl | ⟨b, b0, b1, rfl⟩
    · rw [gx_inp hp.1, gy_inp hp.1, gx_ins hp.1 a0, gy_ins hp.1 a0]
      refine h.2.1 a a0 ?_
      unfold sgi at ij
      split at ij <;> omega
    · rw [gx_ins hp.1 a0, gy_ins hp.1 a0, gx_ins hp.1 b0, gy_ins hp.1 b0]
      refine hs a b a0 ?_ b1
      unfold sgi at ij
      split at ij <;> split at ij <;> omega
theorem nxt_i {V : FV} {p q x y : Int} {c : Nat → Int} (q0 : 0 ≤ q) (q1 : q < V.1) (hp : p = q + 1 ∨ (q = V.1 - 1 ∧ p = 0)) : nxt (insV V p.toNat x y c) (sgi p q) = p ∧ nxt (insV V p.toNat x y c) p = sgi p (nxt V q) ∧ ∀ j, 0 ≤ j → j < V.1 → j ≠ q → nxt (insV V p.toNat x y c) (sgi p j) = sgi p (nxt V j) := by
  have e : ∀ z, nxt (insV V p.toNat x y c) z = if z + 1 ≥ V.1 + 1 then 0 else z + 1 := fun z => rfl
  have f : ∀ z, nxt V z = if z + 1 ≥ V.1 then 0 else z + 1 := fun z => rfl
  refine ⟨?_, ?_, fun j j0 j1 jq => ?_⟩
  · rw [e]
    unfold sgi
    split <;> split <;> omega
  · rw [e, f]
    unfold sgi
    split <;> split <;> split <;> omega
  · rw [e, f]
    unfold sgi
    split <;> split <;> split <;> split <;> omega
theorem clo_ins {V : FV} (hc : clo V) {p q x y : Int} {c : Nat → Int} (q0 : 0 ≤ q) (q1 : q < V.1) (hp : p = q + 1 ∨ (q = V.1 - 1 ∧ p = 0)) (u : 0 < gx V q * y - gy V q * x) (v : 0 < x * gy V (nxt V q) - y * gx V (nxt V q)) : clo (insV V p.toNat x y c) := by
  obtain ⟨n1, n2, n3⟩ := nxt_i (x := x) (y := y) (c := c) q0 q1 hp
  have p0 : 0 ≤ p := by omega
  have h3 := hc.1
  have nx := nxt_in q0 q1
  refine ⟨show 3 ≤ V.1 + 1 by omega, fun k k0 k1 => ?_⟩
  have k1 : k < V.1 + 1 := k1
  unfold trn crs
  rcases sgi_ex (p := p) (n := V.1) (by omega) k0 k1 with rfl | ⟨j, j0, j1, rfl⟩
  · rw [n2, gx_inp p0, gy_inp p0, gx_ins p0 nx.1, gy_ins p0 nx.1]
    exact v
  · by_cases e : j = q
    · rw [e, n1, gx_inp p0, gy_inp p0, gx_ins p0 q0, gy_ins p0 q0]
      exact u
    · have nj := nxt_in j0 j1
      rw [n3 j j0 j1 e, gx_ins p0 j0, gy_ins p0 j0, gx_ins p0 nj.1, gy_ins p0 nj.1]
      exact hc.2 j j0 j1
theorem prm_ins {V : FV} (hp : prm V) {p x y : Int} {c : Nat → Int} (h : 0 ≤ p ∧ p ≤ V.1) (hg : Int.gcd x y = 1) : prm (insV V p.toNat x y c) := fun k k0 k1 => by
  have k1 : k < V.1 + 1 := k1
  rcases sgi_ex h k0 k1 with rfl | ⟨j, j0, j1, rfl⟩
  · rw [gx_inp h.1, gy_inp h.1]; exact hg
  · rw [gx_ins h.1 j0, gy_ins h.1 j0]; exact hp j j0 j1
/-- neighbours -/
def adj (V : FV) (a b c d : Int) : Prop := ∃ q, 0 ≤ q ∧ q < V.1 ∧ (gx V q = a ∧ gy V q = b) ∧ gx V (nxt V q) = c ∧ gy V (nxt V q) = d
/-- good and in order -/
def oV (V : FV) : Prop := bV V ∧ clo V ∧ prm V ∧ srt V
theorem srt_uq {V : FV} (hs : srt V) {i j : Int} (i0 : 0 ≤ i) (i1 : i < V.1) (j0 : 0 ≤ j) (j1 : j < V.1) (hx : gx V i = gx V j) (hy : gy V i = gy V j) : i = j := by
  rcases Int.lt_trichotomy i j with w | w | w
  · have := hs i j i0 w j1
    rw [hx, hy] at this
    exact absurd this (cbf_as this)
  · exact w
  · have := hs j i j0 w i1
    rw [hx, hy] at this
    exact absurd this (cbf_as this)
theorem ins_good {V : FV} (h : oV V) {a b c d x y : Int} {g : Nat → Int} (hA : adj V a b c d) (u : 0 < a * y - b * x) (v : 0 < x * d - y * c) (hg : Int.gcd x y = 1) (hn : V.1 < 24) (hx : -60 ≤ x ∧ x ≤ 60) (hy : -60 ≤ y ∧ y ≤ 60) (hb : ∀ d : Nat, (d : Int) < V.2.1 → -2000 ≤ g d ∧ g d ≤ 2000) : splt V x y (pos V x y) ∧ oV (insV V (pos V x y).toNat x y g) ∧ adj (insV V (pos V x y).toNat x y g) a b x y ∧ adj (insV V (pos V x y).toNat x y g) x y c d ∧ ∀ a2 b2 c2 d2, ¬ (a2 = a ∧ b2 = b) → adj V a2 b2 c2 d2 → adj (insV V (pos V x y).toNat x y g) a2 b2 c2 d2 := by
  obtain ⟨q, q0, q1, ⟨rfl, rfl⟩, rfl, rfl⟩ := hA
  obtain ⟨hB, hc, hp, hs⟩ := h
  obtain ⟨p, sp, pq⟩ := splt_cone hs hc q0 q1 u v
  rw [splt_pos sp]
  have p0 := sp.1.1
  obtain ⟨n1, n2, n3⟩ := nxt_i (x := x) (y := y) (c := g) q0 q1 pq
  have nx := nxt_in q0 q1
  have sr : ∀ j, 0 ≤ j → j < V.1 → 0 ≤ sgi p j ∧ sgi p j < V.1 + 1 := fun j j0 j1 => by unfold sgi; split <;> omega
  refine ⟨sp, ⟨bV_ins hB hn hx hy hb, clo_ins hc q0 q1 pq u v, prm_ins hp sp.1 hg, srt_ins hs sp⟩, ⟨sgi p q, (sr q q0 q1).1, (sr q q0 q1).2, ⟨gx_ins p0 q0, gy_ins p0 q0⟩, ?_, ?_⟩, ⟨p, p0, show p < V.1 + 1 by have := sp.1.2; omega, ⟨gx_inp p0, gy_inp p0⟩, ?_, ?_⟩, ?_⟩
  · rw [n1, gx_inp p0]
  · rw [n1, gy_inp p0]
  · rw [n2, gx_ins p0 nx.1]
  · rw [n2, gy_ins p0 nx.1]
  · rintro a2 b2 c2 d2 hne ⟨j, j0, j1, ⟨rfl, rfl⟩, rfl, rfl⟩
    have jq : j ≠ q := fun w => hne (by rw [w]; exact ⟨rfl, rfl⟩)
    have nj := nxt_in j0 j1
    refine ⟨sgi p j, (sr j j0 j1).1, (sr j j0 j1).2, ⟨gx_ins p0 j0, gy_ins p0 j0⟩, ?_, ?_⟩
    · rw [n3 j j0 j1 jq, gx_ins p0 nj.1]
    · rw [n3 j j0 j1 jq, gy_ins p0 nj.1]
/-- a ray goes: what stays is in order -/
theorem srt_rem {V : FV} (hs : srt V) {p : Int} (hp : 0 ≤ p) (hp2 : p < V.1) : srt (remV V p.toNat) := by
  intro i j i0 ij j1
  have j1 : j < V.1 - 1 := j1
  rw [gx_rem hp i0, gy_rem hp i0, gx_rem hp (by omega), gy_rem hp (by omega)]
  unfold sg
  refine hs _ _ ?_ ?_ ?_ <;> split <;> (try split) <;> omega

/-! A fan as it is seen: how many rays, how many loads, x, y, numbers; nothing beyond them. -/
abbrev FV : Type := Int × Int × (Nat → Int) × (Nat → Int) × (Nat → Nat → Int)
def cut1 (n : Int) (A : Nat → Int) : Nat → Int := fun j => if (j : Int) < n then A j else 0
def cut2 (l n : Int) (A : Nat → Nat → Int) : Nat → Nat → Int := fun d j => if (d : Int) < l ∧ (j : Int) < n then A d j else 0
def fv (mu : Mem) (f : Nat) : FV := (mu f 0, mu f 1, cut1 (mu f 0) (mu (f + 1)), cut1 (mu f 0) (mu (f + 2)), cut2 (mu f 1) (mu f 0) (fun d j => mu (f + 3) (24 * d + j)))
def mv (mu : Mem) : FV := (mu 55 29, mu 55 30, cut1 (mu 55 29) (mu 64), cut1 (mu 55 29) (mu 65), cut2 (mu 55 30) (mu 55 29) (fun d j => mu 66 (25 * d + j)))
def gx (V : FV) (i : Int) : Int := V.2.2.1 i.toNat
def gy (V : FV) (i : Int) : Int := V.2.2.2.1 i.toNat
def gn (V : FV) (d i : Int) : Int := V.2.2.2.2 d.toNat i.toNat
def nxt (V : FV) (i : Int) : Int := if i + 1 ≥ V.1 then 0 else i + 1
def prv (V : FV) (i : Int) : Int := if i ≤ 0 then V.1 - 1 else i - 1
def crs (V : FV) (i j : Int) : Int := gx V i * gy V j - gy V i * gx V j
def trn (V : FV) (i : Int) : Int := crs V i (nxt V i)
def arn (V : FV) (i : Int) : Int := crs V (prv V i) (nxt V i)
/-- bounds -/
def bV (V : FV) : Prop := (0 ≤ V.1 ∧ V.1 ≤ 24) ∧ (0 ≤ V.2.1 ∧ V.2.1 ≤ 6) ∧ (∀ i, -60 ≤ V.2.2.1 i ∧ V.2.2.1 i ≤ 60) ∧ (∀ i, -60 ≤ V.2.2.2.1 i ∧ V.2.2.2.1 i ≤ 60) ∧ ∀ d i, -2000 ≤ V.2.2.2.2 d i ∧ V.2.2.2.2 d i ≤ 2000
theorem bV.n {mu : Mem} {f : Nat} (h : bV (fv mu f)) : 0 ≤ mu f 0 ∧ mu f 0 ≤ 24 := h.1
theorem bV.l {mu : Mem} {f : Nat} (h : bV (fv mu f)) : 0 ≤ mu f 1 ∧ mu f 1 ≤ 6 := h.2.1
theorem bV.mn {mu : Mem} (h : bV (mv mu)) : 0 ≤ mu 55 29 ∧ mu 55 29 ≤ 24 := h.1
theorem bV.ml {mu : Mem} (h : bV (mv mu)) : 0 ≤ mu 55 30 ∧ mu 55 30 ≤ 6 := h.2.1
theorem bV.x {V : FV} (h : bV V) (i : Int) : -60 ≤ gx V i ∧ gx V i ≤ 60 := h.2.2.1 _
theorem bV.y {V : FV} (h : bV V) (i : Int) : -60 ≤ gy V i ∧ gy V i ≤ 60 := h.2.2.2.1 _
theorem bV.g {V : FV} (h : bV V) (d i : Int) : -2000 ≤ gn V d i ∧ gn V d i ≤ 2000 := h.2.2.2.2 _ _
/-- a product's bounds -/
theorem mulb {a b A B : Int} (ha : -A ≤ a ∧ a ≤ A) (hb : -B ≤ b ∧ b ≤ B) : -(A * B) ≤ a * b ∧ a * b ≤ A * B := by
  have hA : 0 ≤ A := by omega
  have hB : 0 ≤ B := by omega
  have h1 : a * b ≤ A * B := by
    rcases Int.le_total 0 a with p | p
    · exact Int.le_trans (Int.mul_le_mul_of_nonneg_left hb.2 p) (Int.mul_le_mul_of_nonneg_right ha.2 hB)
    · have q1 : a * b ≤ (-a) * B := by
        have := Int.mul_le_mul_of_nonneg_left (show -b ≤ B by omega) (show 0 ≤ -a by omega)
        rw [Int.neg_mul_neg] at this; exact this
      exact Int.le_trans q1 (Int.mul_le_mul_of_nonneg_right (show -a ≤ A by omega) hB)
  have h2 : (-a) * b ≤ A * B := by
    rcases Int.le_total 0 a with p | p
    · have q1 : (-a) * b ≤ a * B := by
        have := Int.mul_le_mul_of_nonneg_left (show -b ≤ B by omega) p
        rw [Int.mul_neg, ← Int.neg_mul] at this; exact this
      exact Int.le_trans q1 (Int.mul_le_mul_of_nonneg_right ha.2 hB)
    · exact Int.le_trans (Int.mul_le_mul_of_nonneg_left hb.2 (show 0 ≤ -a by omega)) (Int.mul_le_mul_of_nonneg_right (show -a ≤ A by omega) hB)
  rw [Int.neg_mul] at h2
  omega
theorem bV.crs {V : FV} (h : bV V) (i j : Int) : -7200 ≤ crs V i j ∧ crs V i j ≤ 7200 := by
  have h1 := mulb (h.x i) (h.y j)
  have h2 := mulb (h.y i) (h.x j)
  unfold Jvm.Pilot.@@N@@.crs
  omega
theorem bV.trn {V : FV} (h : bV V) (i : Int) : -7200 ≤ trn V i ∧ trn V i ≤ 7200 := h.crs _ _
theorem bV.arn {V : FV} (h : bV V) (i : Int) : -7200 ≤ arn V i ∧ arn V i ≤ 7200 := h.crs _ _
theorem nxt_in {V : FV} {i : Int} (h0 : 0 ≤ i) (h1 : i < V.1) : 0 ≤ nxt V i ∧ nxt V i < V.1 := by unfold nxt; split <;> omega
theorem prv_in {V : FV} {i : Int} (h0 : 0 ≤ i) (h1 : i < V.1) : 0 ≤ prv V i ∧ prv V i < V.1 := by unfold prv; split <;> omega
theorem fx_at {mu : Mem} {f : Nat} {i : Int} (h0 : 0 ≤ i) (h1 : i < mu f 0) : gx (fv mu f) i = mu (f + 1) i.toNat := by
  show cut1 (mu f 0) (mu (f + 1)) i.toNat = _
  unfold cut1
  rw [if_pos (by omega)]
theorem fy_at {mu : Mem} {f : Nat} {i : Int} (h0 : 0 ≤ i) (h1 : i < mu f 0) : gy (fv mu f) i = mu (f + 2) i.toNat := by
  show cut1 (mu f 0) (mu (f + 2)) i.toNat = _
  unfold cut1
  rw [if_pos (by omega)]
theorem fn_at {mu : Mem} {f : Nat} {d i : Int} (h0 : 0 ≤ i) (h1 : i < mu f 0) (h2 : 0 ≤ d) (h3 : d < mu f 1) : gn (fv mu f) d i = mu (f + 3) (d * 24 + i).toNat := by
  show cut2 (mu f 1) (mu f 0) (fun d j => mu (f + 3) (24 * d + j)) d.toNat i.toNat = _
  unfold cut2
  rw [if_pos (by omega)]
  show mu (f + 3) (24 * d.toNat + i.toNat) = _
  congr 1
  omega
theorem mx_at {mu : Mem} {i : Int} (h0 : 0 ≤ i) (h1 : i < mu 55 29) : gx (mv mu) i = mu 64 i.toNat := by
  show cut1 (mu 55 29) (mu 64) i.toNat = _
  unfold cut1
  rw [if_pos (by omega)]
theorem my_at {mu : Mem} {i : Int} (h0 : 0 ≤ i) (h1 : i < mu 55 29) : gy (mv mu) i = mu 65 i.toNat := by
  show cut1 (mu 55 29) (mu 65) i.toNat = _
  unfold cut1
  rw [if_pos (by omega)]
theorem mn_at {mu : Mem} {d i : Int} (h0 : 0 ≤ i) (h1 : i < mu 55 29) (h2 : 0 ≤ d) (h3 : d < mu 55 30) : gn (mv mu) d i = mu 66 (25 * d + i).toNat := by
  show cut2 (mu 55 30) (mu 55 29) (fun d j => mu 66 (25 * d + j)) d.toNat i.toNat = _
  unfold cut2
  rw [if_pos (by omega)]
  show mu 66 (25 * d.toNat + i.toNat) = _
  congr 1
  omega
/-- a loop that gathers -/
def fld (g : Int → Int → Int) (z : Int) : Nat → Int
  | 0 => z
  | k + 1 => g (fld g z k) (k : Int)
theorem fld_s {g : Int → Int → Int} {z i : Int} (h : 0 ≤ i) : fld g z (i + 1).toNat = g (fld g z i.toNat) i := by
  have e : (i + 1).toNat = i.toNat + 1 := by omega
  rw [e]
  show g (fld g z i.toNat) (i.toNat : Int) = _
  rw [Int.toNat_of_nonneg h]
theorem fld_0 {g : Int → Int → Int} {z : Int} : fld g z (0 : Int).toNat = z := rfl

/-! a ray goes: what stays is closed -/
def sg (p j : Int) : Int := if j < p then j else j + 1
theorem gx_rem {V : FV} {p j : Int} (hp : 0 ≤ p) (hj : 0 ≤ j) : gx (remV V p.toNat) j = gx V (sg p j) := by
  show del V.2.2.1 p.toNat j.toNat = V.2.2.1 (sg p j).toNat
  unfold del sg
  by_cases h : j < p
  · rw [if_pos (by omega), if_pos h]
  · rw [if_neg (by omega), if_neg h, show (j + 1).toNat = j.toNat + 1 by omega]
theorem gy_rem {V : FV} {p j : Int} (hp : 0 ≤ p) (hj : 0 ≤ j) : gy (remV V p.toNat) j = gy V (sg p j) := by
  show del V.2.2.2.1 p.toNat j.toNat = V.2.2.2.1 (sg p j).toNat
  unfold del sg
  by_cases h : j < p
  · rw [if_pos (by omega), if_pos h]
  · rw [if_neg (by omega), if_neg h, show (j + 1).toNat = j.toNat + 1 by omega]
theorem crs_rem {V : FV} {p i j : Int} (hp : 0 ≤ p) (hi : 0 ≤ i) (hj : 0 ≤ j) : crs (remV V p.toNat) i j = crs V (sg p i) (sg p j) := by
  unfold crs
  rw [gx_rem hp hi, gx_rem hp hj, gy_rem hp hi, gy_rem hp hj]
theorem clo_rem {V : FV} (hc : clo V) {p : Int} (hp : 0 ≤ p) (hp2 : p < V.1) (h4 : 4 ≤ V.1) (ha : 0 < arn V p) : clo (remV V p.toNat) := by
  have e1 : (remV V p.toNat).1 = V.1 - 1 := rfl
  refine ⟨by omega, fun i h0 h1 => ?_⟩
  have nn := nxt_in (V := remV V p.toNat) h0 h1
  unfold trn
  rw [crs_rem hp h0 nn.1]
  have en : nxt (remV V p.toNat) i = if i + 1 ≥ V.1 - 1 then 0 else i + 1 := rfl
  by_cases w : sg p (nxt (remV V p.toNat) i) = nxt V (sg p i)
  · rw [w]
    exact hc.2 _ (by unfold sg; split <;> omega) (by unfold sg; split <;> omega)
  · have w1 : sg p i = prv V p := by
      rw [en] at w
      unfold sg nxt prv at *
      split at w <;> split at w <;> split at w <;> (try split at w) <;> (try split) <;> (try split) <;> omega
    have w2 : sg p (nxt (remV V p.toNat) i) = nxt V p := by
      rw [en] at w ⊢
      unfold sg nxt at *
      split at w <;> split at w <;> split at w <;> (try split at w) <;> (try split) <;> (try split) <;> (try split) <;> omega
    rw [w1, w2]
    exact ha
theorem prm_rem {V : FV} (h : prm V) {p : Int} (hp : 0 ≤ p) : prm (remV V p.toNat) := fun i h0 h1 => by
  have e1 : (remV V p.toNat).1 = V.1 - 1 := rfl
  rw [gx_rem hp h0, gy_rem hp h0]
  exact h _ (by unfold sg; split <;> omega) (by unfold sg; split <;> omega)
theorem bV_rem {V : FV} (h : bV V) {p : Nat} (h1 : 1 ≤ V.1) : bV (remV V p) := by
  obtain ⟨a, b, c, d, e⟩ := h
  have e1 : (remV V p).1 = V.1 - 1 := rfl
  refine ⟨by omega, b, fun i => ?_, fun i => ?_, fun k i => ?_⟩
  · show -60 ≤ del V.2.2.1 p i ∧ del V.2.2.1 p i ≤ 60
    unfold del; split; exact c _; exact c _
  · show -60 ≤ del V.2.2.2.1 p i ∧ del V.2.2.2.1 p i ≤ 60
    unfold del; split; exact d _; exact d _
  · show -2000 ≤ del (V.2.2.2.2 k) p i ∧ del (V.2.2.2.2 k) p i ≤ 2000
    unfold del; split; exact e k _; exact e k _

/-! the law's script -/
def KX (K : KT) (b Ln : Nat) (xs : Nat → Int32) : Prop := va_X b Ln xs K.2.2.2.2.1 K.2.2.2.2.1.heap ∧ b < K.2.2.2.2.1.heap.size ∧ b < gb K.2.2.2.2.2.2.2.2.2.2.1
section Script
variable {K : KT} {M : MI} {w : Nat × Nat × Nat} {pc dd : Nat} {L S : List Vv} {mu : Mem}
theorem aw_scrld (C : CX K w M dd) {b Ln : Nat} {xs : Nat → Int32} (hX : KX K b Ln xs) {x : Int} (hd : decode M.2.1 pc = .ok (.iaload, 1)) (h0 : 0 ≤ x) (h1 : x < Ln) (hL : Ln ≤ 3072) (kk : AW K M w (pc + 1) L (vi (xs x.toNat).toInt :: S) mu) : AW K M w pc L (vi x :: vq b :: S) mu := by
  obtain ⟨p, l, e, R, s, m, args, below, meth, c, G, Q⟩ := K
  obtain ⟨hx, hb, hml, hown, hts, hK, hlk, hgb, hRm, hw⟩ := C
  obtain ⟨hX, hbl, hbA⟩ := hX
  intro ls H locs hLL hW hS
  refine va_sld (A := AG G) (b := b) hx hb hX hbl (fun h => Nat.lt_irrefl _ (Nat.lt_of_lt_of_le hbA h)) hS (i_in (n := Ln) h0 (by omega) (by omega)) hd ?_
  have k2 := kk ls H locs hLL hW hS
  rw [i_cl (by unfold R32; omega) h0]
  have e : cv (gb G) (vi (xs x.toNat).toInt) = .int (xs x.toNat) := by
    show Value.int (Int32.ofInt (xs x.toNat).toInt) = _
    rw [Int32.ofInt_toInt]
  rw [List.map_cons, e] at k2
  exact k2
theorem aw_scrlen (C : CX K w M dd) {b Ln : Nat} {xs : Nat → Int32} (hX : KX K b Ln xs) (hd : decode M.2.1 pc = .ok (.arraylength, 1)) (kk : AW K M w (pc + 1) L (vi (Ln : Int) :: S) mu) : AW K M w pc L (vq b :: S) mu := by
  obtain ⟨p, l, e, R, s, m, args, below, meth, c, G, Q⟩ := K
  obtain ⟨hx, hb, hml, hown, hts, hK, hlk, hgb, hRm, hw⟩ := C
  obtain ⟨hX, hbl, hbA⟩ := hX
  intro ls H locs hLL hW hS
  refine va_slen (A := AG G) (b := b) hx hb hX hbl (fun h => Nat.lt_irrefl _ (Nat.lt_of_lt_of_le hbA h)) hS hd ?_
  have k2 := kk ls H locs hLL hW hS
  have e : cv (gb G) (vi (Ln : Int)) = .int (Int32.ofNat Ln) := by
    show Value.int (Int32.ofInt (Ln : Int)) = _
    rw [Int32.ofInt_eq_ofNat]
  rw [List.map_cons, e] at k2
  exact k2
end Script

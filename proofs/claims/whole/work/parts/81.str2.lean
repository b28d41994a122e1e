/-! the JDK's own methods over these texts -/
theorem dJ3_checkIndex_8e157_0 : decode cJ3_checkIndex_8e157 0 = .ok (.iload_n 0, 1) := by decide +kernel
theorem dJ3_checkIndex_8e157_1 : decode cJ3_checkIndex_8e157 1 = .ok (.ifCond .lt 8, 3) := by decide +kernel
theorem dJ3_checkIndex_8e157_4 : decode cJ3_checkIndex_8e157 4 = .ok (.iload_n 0, 1) := by decide +kernel
theorem dJ3_checkIndex_8e157_5 : decode cJ3_checkIndex_8e157 5 = .ok (.iload_n 1, 1) := by decide +kernel
theorem dJ3_checkIndex_8e157_6 : decode cJ3_checkIndex_8e157 6 = .ok (.if_icmp .lt 10, 3) := by decide +kernel
theorem dJ3_checkIndex_8e157_16 : decode cJ3_checkIndex_8e157 16 = .ok (.iload_n 0, 1) := by decide +kernel
theorem dJ3_checkIndex_8e157_17 : decode cJ3_checkIndex_8e157 17 = .ok (.ireturn, 1) := by decide +kernel
theorem t_J3_checkIndex {i n : Int} {v : Vv} {mu : Mem} (hv : isL v = false) (h0 : 0 ≤ i) (h1 : i < n) (hn : R32 n) : TrE 0 mJ3_checkIndex_8e157 [vi i, vi n, v] mu (some (vi i)) mu := by
  have el : entL [vi i, vi n, v] = [vi i, vi n, v] := by
    show vi i :: vi n :: (if isL v then v :: vx :: entL [] else v :: entL []) = _
    rw [hv]; rfl
  refine Tr.of (by decide +kernel) (by rw [el]; exact Nat.le_of_ble_eq_true rfl) (fun K C E => ?_)
  rw [el]
  refine aw_iload_n C dJ3_checkIndex_8e157_0 rfl ?_
  refine aw_if_lt C dJ3_checkIndex_8e157_1 (tgt := 9) (by decide) ⟨by omega, by omega⟩ (fun c1 => ?_) (fun c1 => ?_)
  · exfalso; omega
  refine aw_iload_n C dJ3_checkIndex_8e157_4 rfl ?_
  refine aw_iload_n C dJ3_checkIndex_8e157_5 rfl ?_
  refine aw_icmp_lt C dJ3_checkIndex_8e157_6 (tgt := 16) (by decide) ⟨by omega, by omega⟩ ⟨by omega, by omega⟩ (fun c2 => ?_) (fun c2 => ?_)
  · refine aw_iload_n C dJ3_checkIndex_8e157_16 rfl ?_
    exact aw_iret C E dJ3_checkIndex_8e157_17 rfl ⟨rfl, rfl⟩
  · exfalso; omega
theorem t_J0_checkIndex {i n : Int} {mu : Mem} (h0 : 0 ≤ i) (h1 : i < n) (hn : R32 n) : TrS 1 mJ0_checkIndex_df160 (fun _ => [vi i, vi n]) mu (fun r m2 => r = none ∧ mu = m2) := by
  refine TrS.of (by decide +kernel) (fun _ => Nat.le_of_ble_eq_true rfl) (fun K C E hX => ?_)
  refine aw_iload_n C dJ0_checkIndex_df160_0 rfl ?_
  refine aw_iload_n C dJ0_checkIndex_df160_1 rfl ?_
  refine aw_gets1053 C hX rfl dJ0_checkIndex_df160_2 (fun v hv => ?_)
  have hl : isL v = false := by
    rcases hv with rfl | ⟨t, rfl⟩
    · rfl
    · rfl
  refine aw_callS1 C dJ0_checkIndex_df160_5 lJ0_1059 vJ3_checkIndex_8e157 (t_J3_checkIndex hl h0 h1 hn) rfl rfl rfl ⟨by decide, by decide⟩ (Nat.le_of_ble_eq_true rfl) ?_
  refine aw_pop_i C dJ0_checkIndex_df160_8 ?_
  exact aw_vret C E dJ0_checkIndex_df160_9 rfl ⟨rfl, rfl⟩
def chS_ (j : Nat) (k : Nat) : Int := ((bytS.getD j []).getD k 0).toInt
theorem ch_b {j k : Nat} (hj : j < 4) : 0 ≤ chS_ j k ∧ chS_ j k ≤ 127 := by
  unfold chS_
  have : ∀ l ∈ bytS, ∀ b ∈ l, 0 ≤ b.toInt ∧ b.toInt ≤ 127 := by decide
  have h2 : ∀ (l : List Int32), (∀ b ∈ l, 0 ≤ b.toInt ∧ b.toInt ≤ 127) → 0 ≤ (l.getD k 0).toInt ∧ (l.getD k 0).toInt ≤ 127 := fun l hl => by
    rw [List.getD_eq_getElem?_getD]
    cases h : l[k]? with
    | none => decide
    | some b => exact hl b (List.mem_of_getElem? h)
  refine h2 _ (fun b hb => ?_)
  rw [List.getD_eq_getElem?_getD] at hb
  cases h : bytS[j]? with
  | none => rw [h] at hb; exact absurd hb List.not_mem_nil
  | some l => rw [h] at hb; exact this l (List.mem_of_getElem? h) b hb
theorem nar7 {x : Int} (h : 0 ≤ x ∧ x ≤ 127) : (Int32.ofInt x &&& Int32.ofInt 255).toInt = x ∧ ((Int32.ofInt x).toUInt32 % 65536).toInt32 = Int32.ofInt x ∧ narrow .char (.int (Int32.ofInt x)) = .int (Int32.ofInt x) := by
  have key : ∀ n : Nat, n < 128 → (Int32.ofInt (n : Int) &&& Int32.ofInt 255).toInt = (n : Int) ∧ ((Int32.ofInt (n : Int)).toUInt32 % 65536).toInt32 = Int32.ofInt (n : Int) ∧ narrow .char (.int (Int32.ofInt (n : Int))) = .int (Int32.ofInt (n : Int)) := by decide +kernel
  have := key x.toNat (by omega)
  rw [show ((x.toNat : Nat) : Int) = x by omega] at this
  exact this
theorem aw_i2c {K : KT} {M : MI} {w : Nat × Nat × Nat} {pc dd : Nat} {L S : List Vv} {mu : Mem} (C : CX K w M dd) {x : Int} (hx7 : 0 ≤ x ∧ x ≤ 127) (hd : decode M.2.1 pc = .ok (.i2c, 1)) (k : AW K M w (pc + 1) L (vi x :: S) mu) : AW K M w pc L (vi x :: S) mu := by
  obtain ⟨p, l, e, R, s, m, args, below, meth, c, G, Q⟩ := K
  obtain ⟨hx, hb, hml, hown, hts, hK, hlk, hgb, hRm, hw⟩ := C
  intro ls H locs hl hW hS
  exact lv_i2c hx hb hd (nar7 hx7).2.1 (k ls H locs hl hW hS)
theorem t_J1_charAt {j : Nat} {k : Int} {mu : Mem} (hj : j < 4) (h0 : 0 ≤ k) (h1 : k < (lenS.getD j 0 : Nat)) : TrS 2 mJ1_charAt_3b067 (fun G => [vq (av_ G j), vi k]) mu (fun r m2 => r = some (vi (chS_ j k.toNat)) ∧ mu = m2) := by
  refine TrS.of (by decide +kernel) (fun _ => Nat.le_of_ble_eq_true rfl) (fun K C E hX => ?_)
  have l4 : lenS.getD j 0 ≤ 4 := by
    match j, hj with
    | 0, _ => decide
    | 1, _ => decide
    | 2, _ => decide
    | 3, _ => decide
  have cb := ch_b (k := k.toNat) hj
  refine aw_iload_n C dJ1_charAt_3b067_0 rfl ?_
  refine aw_qload_n C dJ1_charAt_3b067_1 rfl ?_
  refine aw_slen C hX hj dJ1_charAt_3b067_2 ?_
  refine aw_callSX C hX dJ1_charAt_3b067_3 lJ1_9 vJ0_checkIndex_df160 (t_J0_checkIndex h0 h1 ⟨by omega, by omega⟩) rfl rfl rfl rfl ⟨by decide, by decide⟩ (Nat.le_of_ble_eq_true rfl) (fun r m2 hq => ?_)
  obtain ⟨rfl, rfl⟩ := hq
  refine aw_qload_n C dJ1_charAt_3b067_6 rfl ?_
  refine aw_iload_n C dJ1_charAt_3b067_7 rfl ?_
  refine aw_sbald C hX hj h0 h1 dJ1_charAt_3b067_8 ?_
  refine aw_sipush C dJ1_charAt_3b067_9 rfl ?_
  refine aw_iand C dJ1_charAt_3b067_12 ?_
  have e : (Int32.ofInt (chS_ j k.toNat) &&& Int32.ofInt 255).toInt = chS_ j k.toNat := (nar7 cb).1
  show AW _ _ _ _ _ [vi (Int32.ofInt (chS_ j k.toNat) &&& Int32.ofInt 255).toInt] _
  rw [e]
  refine aw_i2c C cb dJ1_charAt_3b067_13 ?_
  exact aw_cret C E dJ1_charAt_3b067_14 rfl (nar7 cb).2.2 ⟨rfl, rfl⟩
theorem t_J0_coder {j : Nat} {mu : Mem} (hj : j < 4) : TrS 0 mJ0_coder_7d493 (fun G => [vq (ak G j)]) mu (fun r m2 => r = some (vi 0) ∧ mu = m2) := by
  refine TrS.of (by decide +kernel) (fun _ => Nat.le_of_ble_eq_true rfl) (fun K C E hX => ?_)
  refine aw_gets38 C hX rfl dJ0_coder_7d493_0 ?_
  refine aw_if_eq C dJ0_coder_7d493_3 (tgt := 13) (by decide) ⟨by omega, by omega⟩ (fun c1 => ?_) (fun c1 => ?_)
  · exfalso; omega
  refine aw_qload_n C dJ0_coder_7d493_6 rfl ?_
  refine aw_get15 C hX hj rfl dJ0_coder_7d493_7 ?_
  refine aw_goto C dJ0_coder_7d493_10 (tgt := 14) (by decide) ?_
  exact aw_cret C E dJ0_coder_7d493_14 rfl rfl ⟨rfl, rfl⟩
theorem t_J0_isLatin1 {j : Nat} {mu : Mem} (hj : j < 4) : TrS 0 mJ0_isLatin1_aae02 (fun G => [vq (ak G j)]) mu (fun r m2 => r = some (vi 1) ∧ mu = m2) := by
  refine TrS.of (by decide +kernel) (fun _ => Nat.le_of_ble_eq_true rfl) (fun K C E hX => ?_)
  refine aw_gets38 C hX rfl dJ0_isLatin1_aae02_0 ?_
  refine aw_if_eq C dJ0_isLatin1_aae02_3 (tgt := 17) (by decide) ⟨by omega, by omega⟩ (fun c1 => ?_) (fun c1 => ?_)
  · exfalso; omega
  refine aw_qload_n C dJ0_isLatin1_aae02_6 rfl ?_
  refine aw_get15 C hX hj rfl dJ0_isLatin1_aae02_7 ?_
  refine aw_if_ne C dJ0_isLatin1_aae02_10 (tgt := 17) (by decide) ⟨by omega, by omega⟩ (fun c2 => ?_) (fun c2 => ?_)
  · exfalso; omega
  refine aw_iconst C dJ0_isLatin1_aae02_13 ?_
  refine aw_goto C dJ0_isLatin1_aae02_14 (tgt := 18) (by decide) ?_
  exact aw_zret C E dJ0_isLatin1_aae02_18 rfl (by omega) ⟨rfl, rfl⟩
theorem t_J0_length {j : Nat} {mu : Mem} (hj : j < 4) : TrS 1 mJ0_length_8abf5 (fun G => [vq (ak G j)]) mu (fun r m2 => r = some (vi (lenS.getD j 0 : Nat)) ∧ mu = m2) := by
  refine TrS.of (by decide +kernel) (fun _ => Nat.le_of_ble_eq_true rfl) (fun K C E hX => ?_)
  refine aw_qload_n C dJ0_length_8abf5_0 rfl ?_
  refine aw_getV9 C hX hj rfl dJ0_length_8abf5_1 ?_
  refine aw_slen C hX hj dJ0_length_8abf5_4 ?_
  refine aw_qload_n C dJ0_length_8abf5_5 rfl ?_
  refine aw_callQ C hX dJ0_length_8abf5_6 lJ0_335 vJ0_coder_7d493 (t_J0_coder hj) hj rfl rfl rfl rfl rfl ⟨by decide, by decide⟩ (Nat.le_of_ble_eq_true rfl) (fun r m2 hq => ?_)
  obtain ⟨rfl, rfl⟩ := hq
  refine aw_ishr C dJ0_length_8abf5_9 ?_
  have e : (Int32.ofInt (lenS.getD j 0 : Nat) >>> (Int32.ofInt 0 &&& 31)).toInt = (lenS.getD j 0 : Nat) := by
    match j, hj with
    | 0, _ => decide
    | 1, _ => decide
    | 2, _ => decide
    | 3, _ => decide
  rw [e]
  exact aw_iret C E dJ0_length_8abf5_10 rfl ⟨rfl, rfl⟩
theorem t_J0_charAt {j : Nat} {k : Int} {mu : Mem} (hj : j < 4) (h0 : 0 ≤ k) (h1 : k < (lenS.getD j 0 : Nat)) : TrS 3 mJ0_charAt_5068e (fun G => [vq (ak G j), vi k]) mu (fun r m2 => r = some (vi (chS_ j k.toNat)) ∧ mu = m2) := by
  refine TrS.of (by decide +kernel) (fun _ => Nat.le_of_ble_eq_true rfl) (fun K C E hX => ?_)
  have cb := ch_b (k := k.toNat) hj
  refine aw_qload_n C dJ0_charAt_5068e_0 rfl ?_
  refine aw_callQ C hX dJ0_charAt_5068e_1 lJ0_492 vJ0_isLatin1_aae02 (t_J0_isLatin1 hj) hj rfl rfl rfl rfl rfl ⟨by decide, by decide⟩ (Nat.le_of_ble_eq_true rfl) (fun r m2 hq => ?_)
  obtain ⟨rfl, rfl⟩ := hq
  refine aw_if_eq C dJ0_charAt_5068e_4 (tgt := 16) (by decide) ⟨by omega, by omega⟩ (fun c1 => ?_) (fun c1 => ?_)
  · exfalso; omega
  refine aw_qload_n C dJ0_charAt_5068e_7 rfl ?_
  refine aw_getV9 C hX hj rfl dJ0_charAt_5068e_8 ?_
  refine aw_iload_n C dJ0_charAt_5068e_11 rfl ?_
  refine aw_callSX C hX dJ0_charAt_5068e_12 lJ0_495 vJ1_charAt_3b067 (t_J1_charAt hj h0 h1) rfl rfl rfl rfl ⟨by decide, by decide⟩ (Nat.le_of_ble_eq_true rfl) (fun r m2 hq => ?_)
  obtain ⟨rfl, rfl⟩ := hq
  exact aw_cret C E dJ0_charAt_5068e_15 rfl (nar7 cb).2.2 ⟨rfl, rfl⟩
/-! a text's number -/
def wvS (j : Nat) : Nat → Int
  | 0 => 0
  | k + 1 => wvS j k * 32 + chS_ j k - 97 + 1
def nmS (j : Nat) : Int := wvS j (lenS.getD j 0)
theorem nmS_0 : nmS 0 = 18489 := by decide
theorem nmS_1 : nmS 1 = 52 := by decide
theorem nmS_2 : nmS 2 = 408612 := by decide
theorem nmS_3 : nmS 3 = 494 := by decide
theorem t_X6_wordOf {j : Nat} {mu : Mem} (hj : j < 4) : TrS 4 mX6_wordOf (fun G => [vq (ak G j)]) mu (fun r m2 => r = some (vl (nmS j)) ∧ mu = m2) := by
  refine TrS.of (by decide +kernel) (fun _ => Nat.le_of_ble_eq_true rfl) (fun K C E hX => ?_)
  have l4 : lenS.getD j 0 ≤ 4 := by
    match j, hj with
    | 0, _ => decide
    | 1, _ => decide
    | 2, _ => decide
    | 3, _ => decide
  have loop : ∀ (q : Nat) (k : Int), 0 ≤ k → k + q = (lenS.getD j 0 : Nat) → AW K mX6_wordOf (NC, 0, 0) 4 [vq (ak (gK K) j), vl (wvS j k.toNat), vx, vi k] [] mu := by
    intro q
    induction q with
    | zero =>
      intro k h0 h1
      have e : k.toNat = lenS.getD j 0 := by omega
      refine aw_iload_n C dX6_wordOf_4 rfl ?_
      refine aw_qload_n C dX6_wordOf_5 rfl ?_
      refine aw_callQ C hX dX6_wordOf_6 lX6_141 vJ0_length_8abf5 (t_J0_length hj) hj rfl rfl rfl rfl rfl ⟨by decide, by decide⟩ (Nat.le_of_ble_eq_true rfl) (fun r m2 hq => ?_)
      obtain ⟨rfl, rfl⟩ := hq
      refine aw_icmp_ge C dX6_wordOf_9 (tgt := 37) (by decide) ⟨by omega, by omega⟩ ⟨by omega, by omega⟩ (fun c1 => ?_) (fun c1 => ?_)
      · refine aw_lload_n C dX6_wordOf_37 rfl ?_
        exact aw_lret C E dX6_wordOf_38 rfl ⟨by rw [e]; rfl, rfl⟩
      · exfalso; omega
    | succ q ih =>
      intro k h0 h1
      refine aw_iload_n C dX6_wordOf_4 rfl ?_
      refine aw_qload_n C dX6_wordOf_5 rfl ?_
      refine aw_callQ C hX dX6_wordOf_6 lX6_141 vJ0_length_8abf5 (t_J0_length hj) hj rfl rfl rfl rfl rfl ⟨by decide, by decide⟩ (Nat.le_of_ble_eq_true rfl) (fun r m2 hq => ?_)
      obtain ⟨rfl, rfl⟩ := hq
      refine aw_icmp_ge C dX6_wordOf_9 (tgt := 37) (by decide) ⟨by omega, by omega⟩ ⟨by omega, by omega⟩ (fun c1 => ?_) (fun c1 => ?_)
      · exfalso; omega
      · refine aw_lload_n C dX6_wordOf_12 rfl ?_
        refine aw_ldc2 C dX6_wordOf_13 kX6_130 (z := 32) (by decide +kernel) ?_
        refine aw_lmul C dX6_wordOf_16 ?_
        refine aw_qload_n C dX6_wordOf_17 rfl ?_
        refine aw_iload_n C dX6_wordOf_18 rfl ?_
        refine aw_callQ C hX dX6_wordOf_19 lX6_147 vJ0_charAt_5068e (t_J0_charAt hj h0 (by omega)) hj rfl rfl rfl rfl rfl ⟨by decide, by decide⟩ (Nat.le_of_ble_eq_true rfl) (fun r m2 hq => ?_)
        obtain ⟨rfl, rfl⟩ := hq
        have cb := ch_b (k := k.toNat) hj
        refine aw_i2l C dX6_wordOf_22 ⟨by omega, by omega⟩ ?_
        refine aw_ladd C dX6_wordOf_23 ?_
        refine aw_ldc2 C dX6_wordOf_24 kX6_104 (z := 97) (by decide +kernel) ?_
        refine aw_lsub C dX6_wordOf_27 ?_
        refine aw_lconst C dX6_wordOf_28 (v := 1) rfl ?_
        refine aw_ladd C dX6_wordOf_29 ?_
        refine aw_lstore_n C dX6_wordOf_30 (by decide) ?_
        refine aw_iinc C dX6_wordOf_31 rfl ?_
        refine aw_goto C dX6_wordOf_34 (tgt := 4) (by decide) ?_
        have := ih (k + 1) (by omega) (by omega)
        rw [show (k + 1).toNat = k.toNat + 1 by omega] at this
        exact this
  refine aw_lconst C dX6_wordOf_0 (v := 0) rfl ?_
  refine aw_lstore_n C dX6_wordOf_1 (by decide) ?_
  refine aw_iconst C dX6_wordOf_2 ?_
  refine aw_istore_n C dX6_wordOf_3 (by decide) ?_
  exact loop (lenS.getD j 0) 0 (by omega) (by omega)

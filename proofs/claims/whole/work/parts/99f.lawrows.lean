/-! the law's rows -/
abbrev mL_law : MI := (yL_law, cL_law, 7, some .boolean)
theorem r32i (x : Int32) : R32 x.toInt := by
  have h1 := Int32.le_toInt x
  have h2 := Int32.toInt_lt x
  unfold R32
  omega
theorem r64i (x : Int64) : R64 x.toInt := by
  have h1 := Int64.le_toInt x
  have h2 := Int64.toInt_lt x
  unfold R64
  omega
def TQ (K : KT) : Prop := match K with
  | (_, l, _, _, s, _, _, _, _, _, G, _) => l.stackTraces = false ∧ TX G s s.heap
section LawRows
variable {K : KT} {M : MI} {w : Nat × Nat × Nat} {pc dd : Nat} {L S : List Vv} {mu : Mem} {Qf : Option Vv → Mem → Prop}
theorem aw_icmp_self (C : CX K w M dd) {x off : Int} {tgt : Nat} (hd : decode M.2.1 pc = .ok (.if_icmp .eq off, 3)) (ht : (pc : Int) + off = (tgt : Int)) (k : AW K M w tgt L S mu) : AW K M w pc L (vi x :: vi x :: S) mu := by
  obtain ⟨p, l, e, R, s, m, args, below, meth, c, G, Q⟩ := K
  obtain ⟨hx, hb, hml, hown, hts, hK, hlk, hgb, hRm, hw⟩ := C
  intro ls H locs hl hW hS
  exact lv_icmp_eq hx hb hd ht (fun _ => k ls H locs hl hW hS) (fun h => absurd rfl h)
theorem lg_self (x : Int) : lg_cmp (Int64.ofInt x) (Int64.ofInt x) = 0 := by
  have h := (lcmp_eq (x := (Int64.ofInt x).toInt) (y := (Int64.ofInt x).toInt) (r64i _) (r64i _)).mpr rfl
  rw [Int64.ofInt_toInt] at h
  exact h
theorem aw_lcmp_self (C : CX K w M dd) {x off : Int} {tgt : Nat} (hd : decode M.2.1 pc = .ok (.lcmp, 1)) (hd2 : decode M.2.1 (pc + 1) = .ok (.ifCond .eq off, 3)) (ht : ((pc + 1 : Nat) : Int) + off = (tgt : Int)) (k : AW K M w tgt L S mu) : AW K M w pc L (vl x :: vl x :: S) mu := by
  obtain ⟨p, l, e, R, s, m, args, below, meth, c, G, Q⟩ := K
  obtain ⟨hx, hb, hml, hown, hts, hK, hlk, hgb, hRm, hw⟩ := C
  intro ls H locs hl hW hS
  refine W.lcmp hx hb hd ?_
  exact lv_if_eq hx hb hd2 ht (fun _ => k ls H locs hl hW hS) (fun h => absurd (lg_self x) h)
/-- one int of the script -/
theorem aw_arg (C : CX K w M dd) {b Ln : Nat} {xs : Nat → Int32} (hX : KX K b Ln xs) (hL : Ln ≤ 3072) {i k : Int} (h0 : lget L 0 = vq b) (h4 : lget L 4 = vi i) (hi : 0 ≤ i) (hi2 : i + 5 < (Ln : Int)) (hk : 0 ≤ k) (hk2 : k ≤ 5)
    (d0 : decode M.2.1 pc = .ok (.aload_n 0, 1)) (d1 : decode M.2.1 (pc + 1) = .ok (.iload 4, 2)) (d3 : decode M.2.1 (pc + 3) = .ok (.iconst k, 1)) (d4 : decode M.2.1 (pc + 4) = .ok (.iadd, 1)) (d5 : decode M.2.1 (pc + 5) = .ok (.iaload, 1))
    (kk : AW K M w (pc + 6) L (vi (xs (i + k).toNat).toInt :: S) mu) : AW K M w pc L S mu := by
  refine aw_qload_n C d0 h0 ?_
  refine aw_iload C d1 h4 ?_
  refine aw_iconst C d3 ?_
  refine aw_iadd C d4 ?_
  exact aw_scrld C hX d5 (by omega) (by omega) hL kk
theorem good_wL : GoodIn TB (wL :: TB) := by
  intro w hw
  have h2 : w ∈ TB := by
    rcases List.mem_cons.mp hw with rfl | q
    · exact wL_tb
    · exact q
  exact ⟨h2, good_of_word (tb_good h2)⟩
theorem wL_n : (parseMethodDescriptor yL_letter.desc).map (fun d => d.parameters.length) = some 4 := by decide +kernel
theorem aw_callL {w2 w3 : Nat} (C : CX K (NC, w2, w3) M dd) (hT : TQ K) {d : Nat} {As St : List Vv} (hM : M.1.cls = RL) (hd : decode M.2.1 pc = .ok (.invokestatic 159, 3)) (ht : TrL d As mu Qf) (hst : St = As.reverse ++ S) (hn : As.length = 4)
    (hr : d + 1 ≤ dd ∧ 24 + 38 * d ≤ 38 * dd) (hrest : wsum S ≤ 8) (hrm : w2 + 1 ≤ (KR K).cells ∧ w3 + 6 ≤ (KR K).slots) (kk : ∀ r mu2, Qf r mu2 → AW K M (NC, w2 + 1, w3 + 6) (pc + 3) L (r.toList ++ S) mu2) : AW K M (NC, w2, w3) pc L St mu := by
  obtain ⟨p, l, e, R, s, m, args, below, meth, c, G, Q⟩ := K
  obtain ⟨hx, hb, hml, hown, hts, hK, hlk, hgb, hRm, hw⟩ := C
  obtain ⟨hst0, hT⟩ := hT
  rw [hM] at hown
  intro ls H locs hLL hW hS
  have cw : vx_CSW R s args RL 159 yL_letter cL_letter 5 (some .int) hhL (wL :: TB) (rmD d 1 6) 1 6 4 :=
    ⟨⟨rfl, rfl, Nat.le_trans hr.1 hRm.1, Nat.le_trans (by show 8 + (5 + 11) + 38 * d ≤ 38 * dd; omega) hRm.2, pay_in hts good_wL, List.mem_cons_self⟩, hts _ wL_tb, hts _ iL, ⟨by decide, by decide⟩, fun sig h => by
      have h2 := wL_n
      rw [h] at h2
      exact (Option.some.inj h2).symm, hts _ lL_159, hts _ sL_letter⟩
  exact call_on (w := (NC, w2, w3)) (vx_runSW (As := As.map (cv (gb G))) ⟨hx, hb, hml, hown, hts⟩ (ht l G hst0) cw ⟨PTX.blind G NC mu _, fun U hU hWm => ⟨rfl, ⟨by rw [hU]; exact hW, va_K.moved hWm.alike hK, by rw [hU]; exact Nat.le_trans hgb hS.1, fun h => absurd h (Nat.lt_irrefl _)⟩, by rw [hU]; exact hT.to hWm hS.2.1⟩⟩ rfl (by rw [List.length_map]; exact hn) hLL.1 (by rw [hst]; simp [F0]) (lv_room (by rw [wsum_ok]; exact hrest)) hd hrm) hLL hS kk
end LawRows
theorem cLlong : Cond.constantLong RL 105 4294967295 ∈ TB := tb_t 1450 (by decide +kernel) (by decide +kernel)

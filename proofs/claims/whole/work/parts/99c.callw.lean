theorem PNW.blind (G : Gv) (n : Nat) (mu : Mem) (av : List Value) : FrameBlind (va_Pc av (fun U => PW G n mu U ∧ NW U)) := by
  intro a U g mk q
  obtain ⟨q0, ⟨q1, q2, q3, q4⟩, q5⟩ := q
  exact ⟨q0, ⟨q1, va_K.moved (u := U) (U := U.calling g mk a) (Vm.Alike.refl U.vm) q2, q3, q4⟩, NW.same (u := U) rfl q5⟩
section Makers3
variable {K : KT} {M : MI} {w : Nat × Nat × Nat} {pc dd : Nat} {L S : List Vv} {mu : Mem} {Qf : Option Vv → Mem → Prop}
/-- the component's constructor is called -/
theorem aw_callIW (C : CX K w M dd) (hz : KZ K w) (hNW : NW K.2.2.2.2.1) {i k d n2 mc ms : Nat} {M2 : MI} (hd : decode M.2.1 pc = .ok (.invokespecial i, 3)) (hl : ML M.1.cls i M2) (hin : Cond.instanceMethod M2.1 ∈ TB) (hini : Cond.initialized M2.1.cls ∈ TB) (hv : wc M2 ∈ TB ∧ okn M2 0) (hnm : M2.1.name = "<init>") (hret : M2.2.2.2 = none) (ht : TrW d M2 [vr k] w.1 n2 mc ms mu Qf) (hr : d + 1 ≤ dd ∧ 19 + M2.2.2.1 + 38 * d ≤ 38 * dd) (hrest : wsum S ≤ 8) (hrm : w.2.1 + mc ≤ (KR K).cells ∧ w.2.2 + ms ≤ (KR K).slots)
    (kk : ∀ r mu2, Qf r mu2 → AW K M (n2, w.2.1 + mc, w.2.2 + ms) (pc + 3) L (r.toList ++ S) mu2) : AW K M w pc L (vr k :: S) mu := by
  obtain ⟨p, l, e, R, s, m, args, below, meth, c, G, Q⟩ := K
  obtain ⟨hx, hb, hml, hown, hts, hK, hlk, hgb, hRm, hw⟩ := C
  intro ls H locs hLL hW hS
  have hz : s.heap.size + w.2.1 = gb G + w.1 := hz
  obtain ⟨v4, v5⟩ := hv
  refine w_sz (fun hsz => ?_)
  have hcb := callB_of (R := R) (s := s) (args := args) (own := M.1.cls) (index := i) (rm := rmD d mc ms) (mc := mc) (ms := ms) 0 hts (good_tb v4) rfl rfl rfl (hts _ hini) (hts _ hl) v5 ⟨Nat.le_trans hr.1 hRm.1, Nat.le_trans (by show 8 + (M2.2.2.1 + 11) + 38 * d ≤ 38 * dd; omega) hRm.2⟩
  rw [hret] at hcb
  have hsz2 : w.1 < NC → H.size = gb G + w.1 := fun h => by
    rcases Nat.eq_zero_or_pos w.1 with h0 | h0
    · have := hS.1
      omega
    · have h1 := (hW.1 (w.1 - 1) _ (wl_at (G := G) (mu := mu) (show w.1 - 1 < w.1 by omega))).lt
      have h2 : gb G + (w.1 - 1) < H.size := h1
      omega
  exact call_on (va_runI (As := []) (b := gb G + k) ⟨hx, hb, hml, hown, hts⟩ (ht l G) ⟨hcb, hnm, hts _ hin⟩ ⟨PNW.blind G w.1 mu _, fun U hU hWm => ⟨rfl, ⟨by rw [hU]; exact hW, va_K.moved hWm.alike hK, by rw [hU]; exact Nat.le_trans hgb hS.1, fun h => by rw [hU]; exact hsz2 h⟩, hNW.warm hWm⟩⟩ rfl rfl hLL.1 (by simp [F0, cv, vr]) (lv_room (by rw [wsum_ok]; exact hrest)) hd hrm) hLL hS kk
end Makers3

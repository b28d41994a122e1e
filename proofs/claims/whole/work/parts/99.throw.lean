/-! a method that may throw -/
def TX (G : Gv) (U : State) (H : Heap) : Prop := vx_Zq Bundle.tN "UNASSIGNED_STACK" Bundle.steD (AG G) U H ∧ vx_Zq Bundle.tN "SUPPRESSED_SENTINEL" Bundle.listD (AG G) U H ∧ BX U
def XCX (G : Gv) (mu : Mem) (Px : Prop) : String → State → State → Prop := fun E st t => E = nse ∧ Px ∧ WD G NC mu t.heap ∧ va_F (AG G) st t
def TrX (d : Nat) (M : MI) (av : List Vv) (mu : Mem) (Qf : Option Vv → Mem → Prop) (Px : Prop) : Prop :=
  ∀ (l : Launch) (G : Gv), l.stackTraces = false → vx_Met l M.1 (wc M :: TB) (rmD d 1 6) (va_Pc (av.map (cv (gb G))) (fun U => PW G NC mu U ∧ TX G U U.heap)) (QC G NC Qf) (XCX G mu Px) 1 6 (AG G)
theorem aw_widen {K : KT} {M : MI} {n c1 s1 c2 s2 pc : Nat} {L S : List Vv} {mu : Mem} (h1 : c1 ≤ c2) (h2 : s1 ≤ s2) (kk : AW K M (n, c2, s2) pc L S mu) : AW K M (n, c1, s1) pc L S mu := by
  obtain ⟨p, l, e, R, s, m, args, below, meth, c, G, Q⟩ := K
  intro ls H locs hl hW hS
  exact W.widen (k := c2) (n := s2) h1 h2 (kk ls H locs hl hW hS)
/-- the end of a body that may throw, where it does not -/
theorem aw_vxret {p : Program} {l : Launch} {e : Env} {R : Room} {s : State} {m : MethodId} {args : Array Value} {below : List Frame} {meth : Method} {c : Code} {G : Gv} {M : MI} {w : Nat × Nat × Nat} {pc mc ms : Nat} {L S : List Vv} {mu : Mem} {Qc : Array Value → State → Outcome → State → Prop} {XC : String → State → State → Prop} (kk : AW (p, l, e, R, s, m, args, below, meth, c, G, MQ below Qc args s mc ms (AG G)) M w pc L S mu) : AW (p, l, e, R, s, m, args, below, meth, c, G, vx_MQ below Qc XC args s mc ms (AG G)) M w pc L S mu := by
  intro ls H locs hl hW hS
  exact vx_ret (kk ls H locs hl hW hS)
theorem aw_throw {p : Program} {l : Launch} {e : Env} {R : Room} {s : State} {m : MethodId} {args : Array Value} {below : List Frame} {meth : Method} {c : Code} {G : Gv} {M : MI} {dd pc : Nat} {L S : List Vv} {mu : Mem} {Qc : Array Value → State → Outcome → State → Prop} {Px : Prop} {Q0 : State → Prop} (C : CX (p, l, e, R, s, m, args, below, meth, c, G, Q0) (NC, 0, 0) M dd) (hM : M.1.cls = RX5) (hl : l.stackTraces = false) (hT : TX G s s.heap) (hex : ∀ x ∈ c.exceptionTable.toList, False)
    (d0 : decode M.2.1 pc = .ok (.new 289, 3)) (d3 : decode M.2.1 (pc + 3) = .ok (.dup, 1)) (d4 : decode M.2.1 (pc + 4) = .ok (.invokespecial 291, 3)) (d7 : decode M.2.1 (pc + 7) = .ok (.athrow, 1)) (hdd : 6 ≤ dd) (hrest : wsum S ≤ 8) (hr : 1 ≤ R.cells ∧ 6 ≤ R.slots) (hPx : Px) : AW (p, l, e, R, s, m, args, below, meth, c, G, vx_MQ below Qc (XCX G mu Px) args s 1 6 (AG G)) M (NC, 0, 0) pc L S mu := by
  obtain ⟨hx, hb, hml, hown, hts, hK, hlk, hgb, hRm, hw⟩ := C
  rw [hM] at hown
  intro ls H locs hLL hW hS
  refine vx_throw0 (A := AG G) (names := nmX) (cls := nse) (ik := 289) (ic := 291) hx hb hl hown (by decide +kernel) (fun n hn => ?_) (hts _ clX) (hts _ izX) (atX_all hts hT.2.2) (fun w hw => List.all_eq_true.mp atX_ot w hw) hT.1 hT.2.1 hS (by rw [hml]; exact hLL.1) d0 d3 d4 d7 (fun x hx => (hex x hx).elim) (Nat.lt_of_lt_of_le (show (2 : Nat) + 3 < 6 by decide) (Nat.le_trans hdd hRm.1)) ?_ hr.1 hr.2 hlk (fun t hvm hsz hq => ⟨rfl, hPx, ⟨?_, hW.2⟩, Nat.le_trans hS.1 hsz, fun q h1 h2 => (hq q (Nat.lt_of_lt_of_le h1 hS.1)).trans (hS.2.1 q h1 h2)⟩) (fun z hz => hS.2.2 z hz) (Nat.le_refl _) (Nat.le_refl _)
  · rcases List.mem_cons.mp hn with rfl | hn
    · decide +kernel
    · rcases List.mem_cons.mp hn with rfl | hn
      · decide +kernel
      · cases hn
  · have h1 : ((S.map (cv (gb G))).map fun v => v.category).sum ≤ 8 := by rw [wsum_ok]; exact hrest
    have h2 := hRm.2
    show ((S.map (cv (gb G))).map fun v => v.category).sum + (13 * (2 + 1) + 42) ≤ R.locals
    omega
  · exact hW.1.kept (fun k x hx => hq x.1 (hW.1 k x hx).lt)

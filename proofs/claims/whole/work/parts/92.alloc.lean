/-! makers: new cells come one behind the other -/
theorem w_sz {p : Program} {l : Launch} {e : Env} {R : Room} {s : State} {m : MethodId} {args : Array Value} {below : List Frame} {meth : Method} {c : Code} {H : Heap} {locs : List Loc} {cells slots : Nat} {Q : State → Prop} {g : JFrame} (h : H.size ≤ s.heap.size + cells → W p l e R s m args below meth c H locs cells slots Q g) : W p l e R s m args below meth c H locs cells slots Q g :=
  fun T hT X => h (by rw [← hT]; exact X.heapSize) T hT X
theorem wl_s (G : Gv) (n : Nat) (mu : Mem) : wl G (n + 1) mu = wl G n mu ++ [(gb G + n, ent G (shp n) (mu n))] := by
  unfold wl
  rw [List.range_succ, List.map_append]
  rfl
theorem qfr {G : Gv} {n q : Nat} {mu : Mem} {x : va_E} {H1 : Heap} (hP : va_P (G.1, G.2.1) vwCl (wl G n mu ++ [(q, x)]) H1) (hD : va_D (AG G) (wl G n mu ++ [(q, x)])) (hsz : H1.size ≤ gb G + n + 1) : q = gb G + n := by
  have e : (wl G n mu ++ [(q, x)])[n]? = some (q, x) := by
    rw [List.getElem?_append_right (by rw [wl_len]; exact Nat.le_refl _), wl_len, Nat.sub_self]
    rfl
  have h1 : q < H1.size := (hP n _ e).lt
  have h2 : gb G ≤ q := hD.2 n _ e
  by_cases h : q < gb G + n
  · have e2 : (wl G n mu ++ [(q, x)])[q - gb G]? = some (gb G + (q - gb G), ent G (shp (q - gb G)) (mu (q - gb G))) := by
      rw [List.getElem?_append_left (by rw [wl_len]; omega)]
      exact wl_at (by omega)
    have := hD.1 _ _ _ _ e2 e (show gb G + (q - gb G) = q by omega)
    omega
  · omega
/-- the heap is just as large as the cells that stand -/
def KZ (K : KT) (w : Nat × Nat × Nat) : Prop := K.2.2.2.2.1.heap.size + w.2.1 = gb K.2.2.2.2.2.2.2.2.2.2.1 + w.1
def KR (K : KT) : Room := K.2.2.2.1
section Makers
variable {K : KT} {M : MI} {w : Nat × Nat × Nat} {pc dd : Nat} {L S : List Vv} {mu : Mem} {Qf : Option Vv → Mem → Prop}
theorem CX.up (C : CX K w M dd) {w2 : Nat × Nat × Nat} (h : w2.2.1 ≤ (KR K).cells ∧ w2.2.2 ≤ (KR K).slots) : CX K w2 M dd := by
  obtain ⟨p, l, e, R, s, m, args, below, meth, c, G, Q⟩ := K
  obtain ⟨hx, hb, hml, hown, hts, hK, hlk, hgb, hRm, hw⟩ := C
  exact ⟨hx, hb, hml, hown, hts, hK, hlk, hgb, hRm, h⟩
theorem aw_new (C : CX K w M dd) (hz : KZ K w) {i ci N : Nat} {Cn : String} {T : u_T} {ty : Nat → FieldType} (hd : decode M.2.1 pc = .ok (.new i, 3)) (hc : CLS ci Cn T N ty) (hl : Cond.classLink M.1.cls i Cn ∈ TB) (hi : Cond.instantiable Cn N ∈ TB) (hini : Cond.initialized Cn ∈ TB) (hsh : shp w.1 = (ci, 0)) (hdf : ∀ b j, j < N → defaultValue (ty j) = fcv b (ftag ci j) (mu w.1 j)) (hr : w.2.1 + 1 ≤ (KR K).cells ∧ w.2.2 + N ≤ (KR K).slots) (hG : w.1 + 1 = NC → GI mu)
    (kk : AW K M (w.1 + 1, w.2.1 + 1, w.2.2 + N) (pc + 3) L (vr w.1 :: S) mu) : AW K M w pc L S mu := by
  obtain ⟨p, l, e, R, s, m, args, below, meth, c, G, Q⟩ := K
  obtain ⟨hx, hb, hml, hown, hts, hK, hlk, hgb, hRm, hw⟩ := C
  intro ls H locs hl2 hW hS
  obtain ⟨hc, hin, hty, hnm⟩ := hc
  obtain ⟨hci, hN⟩ := cls_n hc
  have hz : s.heap.size + w.2.1 = gb G + w.1 := hz
  refine va_new (D := (G.1, G.2.1)) (A := AG G) (fs := (List.range N).map (fun j => fcv (gb G) (ftag ci j) (mu w.1 j))) hx hb hts hin ty hty hown (hts _ hl) (hts _ hi) (hts _ hini) hK hW.1 (wl_D G _ _) hS (fun q h => Nat.le_trans hgb h) hc (fun j hj => ?_) hr.1 hr.2 hd (fun q H1 hP1 hD1 hS1 => ?_)
  · rw [hdf (gb G) j hj]
    unfold vp_V
    rw [List.getD_eq_getElem?_getD, List.getElem?_map, List.getElem?_range hj]
    rfl
  · refine w_sz (fun hsz => ?_)
    have hq := qfr hP1 hD1 (by omega)
    subst hq
    have e : wl G w.1 mu ++ [(gb G + w.1, .inr (ci, (List.range N).map (fun j => fcv (gb G) (ftag ci j) (mu w.1 j))))] = wl G (w.1 + 1) mu := by
      rw [wl_s, hsh, ent_o G (by omega), hN]
    rw [e] at hP1
    exact kk ls H1 locs hl2 ⟨hP1, hG⟩ hS1
theorem aw_newI (C : CX K w M dd) (hz : KZ K w) {N : Nat} (hd : decode M.2.1 pc = .ok (.newarray .int, 2)) (ha : Cond.arrayClass .int ∈ TB) (hsh : shp w.1 = (10, N)) (hN : N ≤ 100000) (hmu : ∀ j, mu w.1 j = 0) (hr : w.2.1 + 1 ≤ (KR K).cells ∧ w.2.2 + N ≤ (KR K).slots) (hG : w.1 + 1 = NC → GI mu)
    (kk : AW K M (w.1 + 1, w.2.1 + 1, w.2.2 + N) (pc + 2) L (vr w.1 :: S) mu) : AW K M w pc L (vi (N : Int) :: S) mu := by
  obtain ⟨p, l, e, R, s, m, args, below, meth, c, G, Q⟩ := K
  obtain ⟨hx, hb, hml, hown, hts, hK, hlk, hgb, hRm, hw⟩ := C
  intro ls H locs hl2 hW hS
  have hz : s.heap.size + w.2.1 = gb G + w.1 := hz
  have eN : (Int32.ofInt (N : Int)).toInt = N := by
    rw [Int32.toInt_ofInt, Int.bmod_def, show ((Int32.size : Nat) : Int) = 4294967296 from rfl]
    split <;> omega
  refine va_newa (D := (G.1, G.2.1)) (A := AG G) (atype := .int) (ty := .int) (N' := N) (a0 := (N, .inl (fun j => Int32.ofInt (mu w.1 j)))) hx hb (hts _ ha) rfl hK hW.1 (wl_D G _ _) hS (fun q h => Nat.le_trans hgb h) (fun cA => ?_) (fun h => ?_) (by show (Int32.ofInt (N : Int)).toInt.toNat = N; rw [eN]; rfl) (by show N * 4 ≤ 536870912; omega) hr.1 hr.2 hd (fun q cA H1 hK1 hP1 hD1 hS1 => ?_)
  · rw [vp_cell_i]
    congr 1
    funext j
    rw [hmu j]
    rfl
  · have h2 := Int32.lt_iff_toInt_lt.mp h
    rw [eN] at h2
    have : (0 : Int32).toInt = 0 := rfl
    omega
  · refine w_sz (fun hsz => ?_)
    have hq := qfr hP1 hD1 (by omega)
    subst hq
    have k1 : s.vm.findClass ("[" ++ (FieldType.int).toString) = some cA := (hK1.2 4 (cA, .int) rfl).2
    have k2 : s.vm.findClass ("[" ++ (FieldType.int).toString) = some (G.2.2.1 0) := (hK.2 0 (G.2.2.1 0, .int) rfl).2
    have k3 : cA = G.2.2.1 0 := Option.some.inj (k1.symm.trans k2)
    subst k3
    have e : wl G w.1 mu ++ [(gb G + w.1, .inl (G.2.2.1 0, N, .inl (fun j => Int32.ofInt (mu w.1 j))))] = wl G (w.1 + 1) mu := by
      rw [wl_s, hsh, ent_i]
    rw [e] at hP1
    exact kk ls H1 locs hl2 ⟨hP1, hG⟩ hS1
end Makers

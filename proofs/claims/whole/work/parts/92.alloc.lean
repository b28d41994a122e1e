/-! makers: new cells come one behind the other -/
theorem w_sz {p : Program} {l : Launch} {e : Env} {R : Room} {s : State} {m : MethodId} {args : Array Value} {below : List Frame} {meth : Method} {c : Code} {H : Heap} {locs : List Loc} {cells slots : Nat} {Q : State → Prop} {g : JFrame} (h : H.size ≤ s.heap.size + cells → W p l e R s m args below meth c H locs cells slots Q g) : W p l e R s m args below meth c H locs cells slots Q g :=
  fun T hT X => h (by rw [← hT]; exact X.heapSize) T hT X
theorem wl_s (G : Gv) (n : Nat) (mu : Mem) : wl G (n + 1) mu = wl G n mu ++ [(gb G + n, ent G (shp n) (mu n))] := by
  unfold wl
  rw [List.range_succ, List.map_append]
  rfl
theorem qfr {G : Gv} {n q : Nat} {mu : Mem} {x : va_E} {H1 : Heap} (hP : va_P (G.1, G.2.1) vwCl (wl G n mu ++ [(q, x)]) H1) (hD : va_D (AG G) (wl G n mu ++ [(q, x)])) (hsz : H1.size ≤ gb G + n + 1) : q = gb G + n := by
  have e : (wl G n mu ++ [(q, x)])[n]? = some (q, x) := by
    rw [List.getElem?_append_right (by rw [wl_len]; exact Nat.le_refl _), wl_len, Nat.sub_self]
    rfl
  have h1 : q < H1.size := (hP n _ e).lt
  have h2 : gb G ≤ q := hD.2 n _ e
  by_cases h : q < gb G + n
  · have e2 : (wl G n mu ++ [(q, x)])[q - gb G]? = some (gb G + (q - gb G), ent G (shp (q - gb G)) (mu (q - gb G))) := by
      rw [List.getElem?_append_left (by rw [wl_len]; omega)]
      exact wl_at (by omega)
    have := hD.1 _ _ _ _ e2 e (show gb G + (q - gb G) = q by omega)
    omega
  · omega
/-- the heap is just as large as the cells that stand -/
def KZ (K : KT) (w : Nat × Nat × Nat) : Prop := K.2.2.2.2.1.heap.size + w.2.1 = gb K.2.2.2.2.2.2.2.2.2.2.1 + w.1
def KR (K : KT) : Room := K.2.2.2.1
section Makers
variable {K : KT} {M : MI} {w : Nat × Nat × Nat} {pc dd : Nat} {L S : List Vv} {mu : Mem} {Qf : Option Vv → Mem → Prop}
theorem CX.up (C : CX K w M dd) {w2 : Nat × Nat × Nat} (h : w2.2.1 ≤ (KR K).cells ∧ w2.2.2 ≤ (KR K).slots) : CX K w2 M dd := by
  obtain ⟨p, l, e, R, s, m, args, below, meth, c, G, Q⟩ := K
  obtain ⟨hx, hb, hml, hown, hts, hK, hlk, hgb, hRm, hw⟩ := C
  exact ⟨hx, hb, hml, hown, hts, hK, hlk, hgb, hRm, h⟩
theorem aw_new (C : CX K w M dd) (hz : KZ K w) {i ci N : Nat} {Cn : String} {T : u_T} {ty : Nat → FieldType} (hd : decode M.2.1 pc = .ok (.new i, 3)) (hc : CLS ci Cn T N ty) (hl : Cond.classLink M.1.cls i Cn ∈ TB) (hi : Cond.instantiable Cn N ∈ TB) (hini : Cond.initialized Cn ∈ TB) (hsh : shp w.1 = (ci, 0)) (hdf : ∀ b j, j < N → defaultValue (ty j) = fcv b (ftag ci j) (mu w.1 j)) (hr : w.2.1 + 1 ≤ (KR K).cells ∧ w.2.2 + N ≤ (KR K).slots) (hG : w.1 + 1 = NC → GI mu)
    (kk : AW K M (w.1 + 1, w.2.1 + 1, w.2.2 + N) (pc + 3) L (vr w.1 :: S) mu) : AW K M w pc L S mu := by
  obtain ⟨p, l, e, R, s, m, args, below, meth, c, G, Q⟩ := K
  obtain ⟨hx, hb, hml, hown, hts, hK, hlk, hgb, hRm, hw⟩ := C
  intro ls H locs hl2 hW hS
  obtain ⟨hc, hin, hty, hnm⟩ := hc
  obtain ⟨hci, hN⟩ := cls_n hc
  have hz : s.heap.size + w.2.1 = gb G + w.1 := hz
  refine va_new (D := (G.1, G.2.1)) (A := AG G) (fs := (List.range N).map (fun j => fcv (gb G) (ftag ci j) (mu w.1 j))) hx hb hts hin ty hty hown (hts _ hl) (hts _ hi) (hts _ hini) hK hW.1 (wl_D G _ _) hS (fun q h => Nat.le_trans hgb h) hc (fun j hj => ?_) hr.1 hr.2 hd (fun q H1 hP1 hD1 hS1 => ?_)
  · rw [hdf (gb G) j hj]
    unfold vp_V
    rw [List.getD_eq_getElem?_getD, List.getElem?_map, List.getElem?_range hj]
    rfl
  · refine w_sz (fun hsz => ?_)
    have hq := qfr hP1 hD1 (by omega)
    subst hq
    have e : wl G w.1 mu ++ [(gb G + w.1, .inr (ci, (List.range N).map (fun j => fcv (gb G) (ftag ci j) (mu w.1 j))))] = wl G (w.1 + 1) mu := by
      rw [wl_s, hsh, ent_o G (by omega), hN]
    rw [e] at hP1
    exact kk ls H1 locs hl2 ⟨hP1, hG⟩ hS1
theorem aw_newI (C : CX K w M dd) (hz : KZ K w) {N : Nat} (hd : decode M.2.1 pc = .ok (.newarray .int, 2)) (ha : Cond.arrayClass .int ∈ TB) (hsh : shp w.1 = (10, N)) (hN : N ≤ 100000) (hmu : ∀ j, mu w.1 j = 0) (hr : w.2.1 + 1 ≤ (KR K).cells ∧ w.2.2 + N ≤ (KR K).slots) (hG : w.1 + 1 = NC → GI mu)
    (kk : AW K M (w.1 + 1, w.2.1 + 1, w.2.2 + N) (pc + 2) L (vr w.1 :: S) mu) : AW K M w pc L (vi (N : Int) :: S) mu := by
  obtain ⟨p, l, e, R, s, m, args, below, meth, c, G, Q⟩ := K
  obtain ⟨hx, hb, hml, hown, hts, hK, hlk, hgb, hRm, hw⟩ := C
  intro ls H locs hl2 hW hS
  have hz : s.heap.size + w.2.1 = gb G + w.1 := hz
  have eN : (Int32.ofInt (N : Int)).toInt = N := by
    rw [Int32.toInt_ofInt, Int.bmod_def, show ((Int32.size : Nat) : Int) = 4294967296 from rfl]
    split <;> omega
  refine va_newa (D := (G.1, G.2.1)) (A := AG G) (atype := .int) (ty := .int) (N' := N) (a0 := (N, .inl (fun j => Int32.ofInt (mu w.1 j)))) hx hb (hts _ ha) rfl hK hW.1 (wl_D G _ _) hS (fun q h => Nat.le_trans hgb h) (fun cA => ?_) (fun h => ?_) (by show (Int32.ofInt (N : Int)).toInt.toNat = N; rw [eN]; rfl) (by show N * 4 ≤ 536870912; omega) hr.1 hr.2 hd (fun q cA H1 hK1 hP1 hD1 hS1 => ?_)
  · rw [vp_cell_i]
    congr 1
    funext j
    rw [hmu j]
    rfl
  · have h2 := Int32.lt_iff_toInt_lt.mp h
    rw [eN] at h2
    have : (0 : Int32).toInt = 0 := rfl
    omega
  · refine w_sz (fun hsz => ?_)
    have hq := qfr hP1 hD1 (by omega)
    subst hq
    have k1 : s.vm.findClass ("[" ++ (FieldType.int).toString) = some cA := (hK1.2 4 (cA, .int) rfl).2
    have k2 : s.vm.findClass ("[" ++ (FieldType.int).toString) = some (G.2.2.1 0) := (hK.2 0 (G.2.2.1 0, .int) rfl).2
    have k3 : cA = G.2.2.1 0 := Option.some.inj (k1.symm.trans k2)
    subst k3
    have e : wl G w.1 mu ++ [(gb G + w.1, .inl (G.2.2.1 0, N, .inl (fun j => Int32.ofInt (mu w.1 j))))] = wl G (w.1 + 1) mu := by
      rw [wl_s, hsh, ent_i]
    rw [e] at hP1
    exact kk ls H1 locs hl2 ⟨hP1, hG⟩ hS1
theorem aw_newL (C : CX K w M dd) (hz : KZ K w) {N : Nat} (hd : decode M.2.1 pc = .ok (.newarray .long, 2)) (ha : Cond.arrayClass .long ∈ TB) (hsh : shp w.1 = (11, N)) (hN : N ≤ 100000) (hmu : ∀ j, mu w.1 j = 0) (hr : w.2.1 + 1 ≤ (KR K).cells ∧ w.2.2 + N ≤ (KR K).slots) (hG : w.1 + 1 = NC → GI mu)
    (kk : AW K M (w.1 + 1, w.2.1 + 1, w.2.2 + N) (pc + 2) L (vr w.1 :: S) mu) : AW K M w pc L (vi (N : Int) :: S) mu := by
  obtain ⟨p, l, e, R, s, m, args, below, meth, c, G, Q⟩ := K
  obtain ⟨hx, hb, hml, hown, hts, hK, hlk, hgb, hRm, hw⟩ := C
  intro ls H locs hl2 hW hS
  have hz : s.heap.size + w.2.1 = gb G + w.1 := hz
  have eN : (Int32.ofInt (N : Int)).toInt = N := by
    rw [Int32.toInt_ofInt, Int.bmod_def, show ((Int32.size : Nat) : Int) = 4294967296 from rfl]
    split <;> omega
  refine va_newa (D := (G.1, G.2.1)) (A := AG G) (atype := .long) (ty := .long) (N' := N) (a0 := (N, .inr (.inl (fun j => Int64.ofInt (mu w.1 j))))) hx hb (hts _ ha) rfl hK hW.1 (wl_D G _ _) hS (fun q h => Nat.le_trans hgb h) (fun cA => ?_) (fun h => ?_) (by show (Int32.ofInt (N : Int)).toInt.toNat = N; rw [eN]; rfl) (by show N * 8 ≤ 536870912; omega) hr.1 hr.2 hd (fun q cA H1 hK1 hP1 hD1 hS1 => ?_)
  · rw [vp_cell_l]
    congr 1
    funext j
    rw [hmu j]
    rfl
  · have h2 := Int32.lt_iff_toInt_lt.mp h
    rw [eN] at h2
    have : (0 : Int32).toInt = 0 := rfl
    omega
  · refine w_sz (fun hsz => ?_)
    have hq := qfr hP1 hD1 (by omega)
    subst hq
    have k1 : s.vm.findClass ("[" ++ (FieldType.long).toString) = some cA := (hK1.2 4 (cA, .long) rfl).2
    have k2 : s.vm.findClass ("[" ++ (FieldType.long).toString) = some (G.2.2.1 1) := (hK.2 1 (G.2.2.1 1, .long) rfl).2
    have k3 : cA = G.2.2.1 1 := Option.some.inj (k1.symm.trans k2)
    subst k3
    have e : wl G w.1 mu ++ [(gb G + w.1, .inl (G.2.2.1 1, N, .inr (.inl (fun j => Int64.ofInt (mu w.1 j)))))] = wl G (w.1 + 1) mu := by
      rw [wl_s, hsh, ent_l]
    rw [e] at hP1
    exact kk ls H1 locs hl2 ⟨hP1, hG⟩ hS1
theorem aw_newB (C : CX K w M dd) (hz : KZ K w) {N : Nat} (hd : decode M.2.1 pc = .ok (.newarray .byte, 2)) (ha : Cond.arrayClass .byte ∈ TB) (hsh : shp w.1 = (12, N)) (hN : N ≤ 100000) (hmu : ∀ j, mu w.1 j = 0) (hr : w.2.1 + 1 ≤ (KR K).cells ∧ w.2.2 + N ≤ (KR K).slots) (hG : w.1 + 1 = NC → GI mu)
    (kk : AW K M (w.1 + 1, w.2.1 + 1, w.2.2 + N) (pc + 2) L (vr w.1 :: S) mu) : AW K M w pc L (vi (N : Int) :: S) mu := by
  obtain ⟨p, l, e, R, s, m, args, below, meth, c, G, Q⟩ := K
  obtain ⟨hx, hb, hml, hown, hts, hK, hlk, hgb, hRm, hw⟩ := C
  intro ls H locs hl2 hW hS
  have hz : s.heap.size + w.2.1 = gb G + w.1 := hz
  have eN : (Int32.ofInt (N : Int)).toInt = N := by
    rw [Int32.toInt_ofInt, Int.bmod_def, show ((Int32.size : Nat) : Int) = 4294967296 from rfl]
    split <;> omega
  refine va_newa (D := (G.1, G.2.1)) (A := AG G) (atype := .byte) (ty := .byte) (N' := N) (a0 := (N, .inl (fun j => Int32.ofInt (mu w.1 j)))) hx hb (hts _ ha) rfl hK hW.1 (wl_D G _ _) hS (fun q h => Nat.le_trans hgb h) (fun cA => ?_) (fun h => ?_) (by show (Int32.ofInt (N : Int)).toInt.toNat = N; rw [eN]; rfl) (by show N * 1 ≤ 536870912; omega) hr.1 hr.2 hd (fun q cA H1 hK1 hP1 hD1 hS1 => ?_)
  · rw [vp_cell_i]
    congr 1
    funext j
    rw [hmu j]
    rfl
  · have h2 := Int32.lt_iff_toInt_lt.mp h
    rw [eN] at h2
    have : (0 : Int32).toInt = 0 := rfl
    omega
  · refine w_sz (fun hsz => ?_)
    have hq := qfr hP1 hD1 (by omega)
    subst hq
    have k1 : s.vm.findClass ("[" ++ (FieldType.byte).toString) = some cA := (hK1.2 4 (cA, .byte) rfl).2
    have k2 : s.vm.findClass ("[" ++ (FieldType.byte).toString) = some (G.2.2.1 2) := (hK.2 2 (G.2.2.1 2, .byte) rfl).2
    have k3 : cA = G.2.2.1 2 := Option.some.inj (k1.symm.trans k2)
    subst k3
    have e : wl G w.1 mu ++ [(gb G + w.1, .inl (G.2.2.1 2, N, .inl (fun j => Int32.ofInt (mu w.1 j))))] = wl G (w.1 + 1) mu := by
      rw [wl_s, hsh, ent_b]
    rw [e] at hP1
    exact kk ls H1 locs hl2 ⟨hP1, hG⟩ hS1
theorem aw_newQ (C : CX K w M dd) (hz : KZ K w) {i : Nat} (hd : decode M.2.1 pc = .ok (.anewarray i, 3)) (hl : Cond.classLink M.1.cls i "FanCones$Fan" ∈ TB) (ho : va_AO "FanCones$Fan" K.2.2.2.2.1) (hsh : shp w.1 = (13, 8)) (hmu : ∀ j, mu w.1 j = -1) (hr : w.2.1 + 1 ≤ (KR K).cells ∧ w.2.2 + 8 ≤ (KR K).slots) (hG : w.1 + 1 = NC → GI mu)
    (kk : AW K M (w.1 + 1, w.2.1 + 1, w.2.2 + 8) (pc + 3) L (vr w.1 :: S) mu) : AW K M w pc L (vi 8 :: S) mu := by
  obtain ⟨p, l, e, R, s, m, args, below, meth, c, G, Q⟩ := K
  obtain ⟨hx, hb, hml, hown, hts, hK, hlk, hgb, hRm, hw⟩ := C
  intro ls H locs hl2 hW hS
  have hz : s.heap.size + w.2.1 = gb G + w.1 := hz
  refine va_newq (D := (G.1, G.2.1)) (A := AG G) (N' := 8) hx hb hown (hts _ hl) ho hK hW.1 (wl_D G _ _) hS (fun q h => Nat.le_trans hgb h) (by decide) (by decide) (by decide) hr.1 hr.2 hd (fun q cA H1 hK1 hP1 hD1 hS1 => ?_)
  refine w_sz (fun hsz => ?_)
  have hq := qfr hP1 hD1 (by omega)
  subst hq
  obtain ⟨-, -, -, -, -, k1⟩ := (hK1.2 4 (cA, .object "FanCones$Fan") rfl).2
  obtain ⟨-, -, -, -, -, k2⟩ := (hK.2 3 (G.2.2.1 3, .object "FanCones$Fan") rfl).2
  have k3 : cA = G.2.2.1 3 := Option.some.inj (k1.symm.trans k2)
  subst k3
  have e : wl G w.1 mu ++ [(gb G + w.1, .inl (G.2.2.1 3, 8, .inr (.inr (.inr (.inr (fun _ => none))))))] = wl G (w.1 + 1) mu := by
    rw [wl_s, hsh, ent_q]
    congr 10
    funext j
    rw [hmu j]
    rfl
  rw [e] at hP1
  exact kk ls H1 locs hl2 ⟨hP1, hG⟩ hS1
/-- a reference put into a field that a constructor fills -/
theorem aw_putR (C : CX K w M dd) {i ci j N k r : Nat} {Cn : String} {T : u_T} {ty : Nat → FieldType} (hd : decode M.2.1 pc = .ok (.putfield i, 3)) (hf : FL M.1.cls i ci Cn T N ty j) (hs : Sh w.1 k ci 0) (ht : ftag ci j = 2) (hfin : (T j).2.2.2 = false) (hn : ∀ b, narrow (ty j) (cv b (vr r)) = cv b (vr r)) (hfit : ∀ b, fits (ty j) (cv b (vr r)) = true) (hG : w.1 < NC) (kk : AW K M w (pc + 3) L S (wr mu k j (r : Int))) : AW K M w pc L (vr r :: vr k :: S) mu :=
  aw_putV C hd hf hs hfin (v := vr r) (z := (r : Int)) (fun b => by rw [ht]; exact cvr_nat b r) hn hfit (fun h => absurd h (Nat.ne_of_lt hG)) kk
def KN (K : KT) : Prop := K.2.2.2.2.2.2.2.2.1.name = "<init>"
theorem aw_putF (C : CX K w M dd) (hKN : KN K) {i ci j N k r : Nat} {Cn : String} {T : u_T} {ty : Nat → FieldType} (hd : decode M.2.1 pc = .ok (.putfield i, 3)) (hf : FL M.1.cls i ci Cn T N ty j) (hs : Sh w.1 k ci 0) (ht : ftag ci j = 2) (hfin : (T j).2.2.2 = true) (hdecl : (T j).1 = M.1.cls) (hn : ∀ b, narrow (ty j) (cv b (vr r)) = cv b (vr r)) (hfit : ∀ b, fits (ty j) (cv b (vr r)) = true) (hG : w.1 < NC) (kk : AW K M w (pc + 3) L S (wr mu k j (r : Int))) : AW K M w pc L (vr r :: vr k :: S) mu := by
  obtain ⟨p, l, e, R, s, m, args, below, meth, c, G, Q⟩ := K
  obtain ⟨hx, hb, hml, hown, hts, hK, hlk, hgb, hRm, hw⟩ := C
  intro ls H locs hl hW hS
  obtain ⟨⟨hc, hin, hty, hnm⟩, hj, hlk⟩ := hf
  obtain ⟨hci, hN⟩ := cls_n hc
  have he := wl_at (G := G) (mu := mu) hs.2
  rw [hs.1, ent_o G (by omega)] at he
  refine va_putF (D := (G.1, G.2.1)) (A := AG G) hx hb hts hin ty hty hnm hown hK hW.1 (wl_D G _ _) hS k he hc j hj (hts _ hlk) (fun _ h => h) hfin hKN hdecl (hty j hj) (hn _) (hfit _) (by rw [List.length_map, List.length_range, ← hN]; exact hj) hd (fun H1 locs1 hP1 _ hS1 => ?_)
  rw [wl_set (mu2 := wr mu k j (r : Int)) (fun a ha => wr_ne ha) (by
    rw [hs.1, ent_o G (by omega), wr_self]
    congr 2
    refine (rm_set (fun a ha => ?_) ?_).symm
    · dsimp only; rw [if_neg ha]
    · dsimp only; rw [if_pos rfl, ht]; exact cvr_nat _ r)] at hP1
  exact kk ls H1 locs1 hl ⟨hP1, fun q => absurd q (Nat.ne_of_lt hG)⟩ hS1
theorem aw_objInit (C : CX K w M dd) {i k : Nat} (hd : decode M.2.1 pc = .ok (.invokespecial i, 3)) (hl : Cond.methodLink M.1.cls i Lib.objectInit ∈ TB) (hin : Cond.instanceMethod Lib.objectInit ∈ TB) (hcd : Cond.code Lib.objectInit ⟨#[0xb1]⟩ 1 none ∈ TB) (hdd : 1 ≤ dd) (hrest : wsum S ≤ 8) (kk : AW K M w (pc + 3) L S mu) : AW K M w pc L (vr k :: S) mu := by
  obtain ⟨p, l, e, R, s, m, args, below, meth, c, G, Q⟩ := K
  obtain ⟨hx, hb, hml, hown, hts, hK, hlk, hgb, hRm, hw⟩ := C
  intro ls H locs hLL hW hS
  refine W.objInit hx hb hown (hts _ hl) (hts _ hin) (hts _ hcd) rfl (by rw [hml]; exact hLL.1) (a := gb G + k) (rest := S.map (cv (gb G))) rfl hd (Nat.le_trans hdd hRm.1) ?_ (kk ls H locs hLL hW hS)
  have h1 : 2 * (F0 m pc ls ((vr k :: S).map (cv (gb G)))).monitorRoom + ((S.map (cv (gb G))).map fun v => v.category).sum ≤ 8 := lv_room (by rw [wsum_ok]; exact hrest)
  have h2 := hRm.2
  show 2 * (F0 m pc ls ((vr k :: S).map (cv (gb G)))).monitorRoom + ((S.map (cv (gb G))).map fun v => v.category).sum + 12 ≤ R.locals
  omega
/-- a maker is called -/
theorem aw_callI (C : CX K w M dd) (hz : KZ K w) {i k d n2 mc ms : Nat} {M2 : MI} (hd : decode M.2.1 pc = .ok (.invokespecial i, 3)) (hl : ML M.1.cls i M2) (hin : Cond.instanceMethod M2.1 ∈ TB) (hini : Cond.initialized M2.1.cls ∈ TB) (hv : wc M2 ∈ TB ∧ okn M2 0) (hnm : M2.1.name = "<init>") (hret : M2.2.2.2 = none) (ht : TrN d M2 [vr k] w.1 n2 mc ms mu Qf) (hr : d + 1 ≤ dd ∧ 19 + M2.2.2.1 + 38 * d ≤ 38 * dd) (hrest : wsum S ≤ 8) (hrm : w.2.1 + mc ≤ (KR K).cells ∧ w.2.2 + ms ≤ (KR K).slots)
    (kk : ∀ r mu2, Qf r mu2 → AW K M (n2, w.2.1 + mc, w.2.2 + ms) (pc + 3) L (r.toList ++ S) mu2) : AW K M w pc L (vr k :: S) mu := by
  obtain ⟨p, l, e, R, s, m, args, below, meth, c, G, Q⟩ := K
  obtain ⟨hx, hb, hml, hown, hts, hK, hlk, hgb, hRm, hw⟩ := C
  intro ls H locs hLL hW hS
  have hz : s.heap.size + w.2.1 = gb G + w.1 := hz
  obtain ⟨v4, v5⟩ := hv
  refine w_sz (fun hsz => ?_)
  have hcb := callB_of (R := R) (s := s) (args := args) (own := M.1.cls) (index := i) (rm := rmD d mc ms) (mc := mc) (ms := ms) 0 hts (good_tb v4) rfl rfl rfl (hts _ hini) (hts _ hl) v5 ⟨Nat.le_trans hr.1 hRm.1, Nat.le_trans (by show 8 + (M2.2.2.1 + 11) + 38 * d ≤ 38 * dd; omega) hRm.2⟩
  rw [hret] at hcb
  have hsz2 : w.1 < NC → H.size = gb G + w.1 := fun h => by
    rcases Nat.eq_zero_or_pos w.1 with h0 | h0
    · have := hS.1
      omega
    · have h1 := (hW.1 (w.1 - 1) _ (wl_at (G := G) (mu := mu) (show w.1 - 1 < w.1 by omega))).lt
      have h2 : gb G + (w.1 - 1) < H.size := h1
      omega
  exact call_on (va_runI (As := []) (b := gb G + k) ⟨hx, hb, hml, hown, hts⟩ (ht l G) ⟨hcb, hnm, hts _ hin⟩ ⟨PW.blind G w.1 mu _, fun U hU hWm => ⟨rfl, by rw [hU]; exact hW, va_K.moved hWm.alike hK, by rw [hU]; exact Nat.le_trans hgb hS.1, fun h => by rw [hU]; exact hsz2 h⟩⟩ rfl rfl hLL.1 (by simp [F0, cv, vr]) (lv_room (by rw [wsum_ok]; exact hrest)) hd hrm) hLL hS kk
end Makers
/-- the contract of a constructor -/
theorem TrI.of {d n n2 mc ms : Nat} {M : MI} {av : List Vv} {mu : Mem} {Qf : Option Vv → Mem → Prop} (hy : plainFor M.1 = true) (hlen : (entL av).length ≤ M.2.2.1) (hnm : M.1.name = "<init>")
    (body : ∀ K : KT, CX K (n, 0, 0) M d → CR K (n2, mc, ms) M Qf → (n < NC → KZ K (n, 0, 0)) → (mc ≤ (KR K).cells ∧ ms ≤ (KR K).slots) → KN K → AW K M (n, 0, 0) 0 (padL M.2.2.1 (entL av)) [] mu) : TrN d M av n n2 mc ms mu Qf := by
  intro l G
  refine MetFree.of_bodySF (code := M.2.1) (maxLocals := M.2.2.1) (ret := M.2.2.2) hy (fun args s m h hn => ?_) (fun p e s m args below meth c s₁ B hml hv _ => ?_)
  · obtain ⟨meth, c, h1, h2, h3, h4, h5, h6, -, -⟩ := Cond.code_spec hn (atoms_spec (ws := wc M :: TB) h _ List.mem_cons_self)
    exact ⟨meth, c, h1, h2, h3, h4, h5, h6⟩
  · obtain ⟨rfl, hWD, hKK, hgb, hsz⟩ := hv
    have hts := atoms_spec (ws := wc M :: TB) B.pre
    have hown : s.vm.findClass M.1.cls = some m.cls := findClass_of_methodNamed B.named
    have hin : meth.name = "<init>" := (name_of_methodNamed B.named B.method).1.trans hnm
    have hl := lv_entry (av.map (cv (gb G))) (n := M.2.2.1) (by rw [entL_len]; exact hlen)
    have hW := body (p, l, e, rmD d mc ms, s, m, _, below, meth, c, G, MQ below (QC G n2 Qf) _ s mc ms (AG G)) ⟨B.exec, B.bytes, hml, hown, fun w hw => hts w (List.mem_cons_of_mem _ hw), hKK, B.notSynchronized, hgb, ⟨Nat.le_refl _, Nat.le_refl _⟩, ⟨Nat.zero_le _, Nat.zero_le _⟩⟩ ⟨B.returns, rfl⟩ (fun h => hsz h) ⟨Nat.le_refl _, Nat.le_refl _⟩ hin _ s.heap [] (LH.entry hl) hWD va_S.rf
    rw [lg_entry_eq]
    obtain ⟨t, a1, o, b1, b2, b3⟩ := hW s₁ (by rw [B.state]; rfl) (Stand.of_body B)
    exact ⟨t, o, a1, b1, b2, ⟨b3.1, b3.2⟩⟩

/-! The picture: a memory of whole numbers. Cell k of the system lies at base + k; its slot j holds mu k j. -/
abbrev Vv : Type := Int ⊕ Int ⊕ Nat ⊕ Option Nat
def vi (x : Int) : Vv := .inl x
def vl (x : Int) : Vv := .inr (.inl x)
def vr (k : Nat) : Vv := .inr (.inr (.inl k))
def vq (a : Nat) : Vv := .inr (.inr (.inr (some a)))
def vx : Vv := .inr (.inr (.inr none))
abbrev Mem : Type := Nat → Nat → Int
abbrev Gv : Type := (Nat → ClassId) × (Nat → Nat → Nat) × (Nat → ClassId) × Nat
abbrev gb (G : Gv) : Nat := G.2.2.2
def rfo (b : Nat) (z : Int) : Option Nat := if z < 0 then none else some (b + z.toNat)
def cvr (b : Nat) (z : Int) : Value := va_rf (rfo b z)
def cv (b : Nat) (v : Vv) : Value := match v with
  | .inl x => .int (Int32.ofInt x)
  | .inr (.inl x) => .long (Int64.ofInt x)
  | .inr (.inr (.inl k)) => .ref (b + k)
  | .inr (.inr (.inr (some a))) => .ref a
  | .inr (.inr (.inr none)) => .null
def wr (mu : Mem) (k j : Nat) (v : Int) : Mem := fun a => if a = k then (fun b => if b = j then v else mu k b) else mu a
def ftl : List (List Nat) := [[0, 0, 0], [0, 0, 2, 2, 2], [2, 2, 2, 0, 1, 1], [2, 2, 2, 2, 0, 0, 0, 0, 2, 2, 0, 0, 0, 0, 0], [2, 2, 2, 2, 2, 2, 2, 0, 0, 0, 0, 0], [0, 0, 0, 2, 0, 0, 0, 0, 0, 0, 0, 0, 0, 1, 2, 2, 2, 2, 2, 2, 2, 0, 0, 2, 2, 2, 2, 2, 2, 0, 0, 0, 0, 0, 2, 2, 2, 2, 2, 0, 1, 1, 2]]
def ftag (ci j : Nat) : Nat := (ftl.getD ci []).getD j 0
def nfc (ci : Nat) : Nat := (ftl.getD ci []).length
/-- what each cell is: an object of a class (its number), or an array: 10 int, 11 long, 12 byte, 13 of fans, and its length -/
def shl : List (Nat × Nat) := [(4, 0), (3, 0), (10, 12), (10, 12), (10, 6), (10, 72), (12, 500), (10, 12), (0, 0), (2, 0), (10, 24), (10, 24), (11, 24), (10, 6), (13, 8),
  (1, 0), (10, 24), (10, 24), (10, 144), (1, 0), (10, 24), (10, 24), (10, 144), (1, 0), (10, 24), (10, 24), (10, 144), (1, 0), (10, 24), (10, 24), (10, 144), (1, 0), (10, 24), (10, 24), (10, 144),
  (1, 0), (10, 24), (10, 24), (10, 144), (1, 0), (10, 24), (10, 24), (10, 144), (1, 0), (10, 24), (10, 24), (10, 144), (1, 0), (10, 24), (10, 24), (10, 144), (1, 0), (10, 24), (10, 24), (10, 144),
  (5, 0), (10, 500), (11, 12), (11, 6), (11, 6), (10, 12), (10, 12), (10, 72), (10, 6), (10, 25), (10, 25), (10, 150), (10, 25), (10, 25), (10, 150), (10, 6), (10, 8), (10, 200), (10, 200), (10, 1200), (10, 25), (11, 1)]
def shp (k : Nat) : Nat × Nat := shl.getD k (99, 0)
abbrev NC : Nat := 77
def fcv (b t : Nat) (z : Int) : Value := if t = 0 then .int (Int32.ofInt z) else if t = 1 then .long (Int64.ofInt z) else cvr b z
def ent (G : Gv) (q : Nat × Nat) (m : Nat → Int) : va_E :=
  if q.1 = 10 then .inl (G.2.2.1 0, q.2, .inl (fun j => Int32.ofInt (m j)))
  else if q.1 = 11 then .inl (G.2.2.1 1, q.2, .inr (.inl (fun j => Int64.ofInt (m j))))
  else if q.1 = 12 then .inl (G.2.2.1 2, q.2, .inl (fun j => Int32.ofInt (m j)))
  else if q.1 = 13 then .inl (G.2.2.1 3, q.2, .inr (.inr (.inr (.inr (fun j => rfo (gb G) (m j))))))
  else .inr (q.1, (List.range (nfc q.1)).map (fun j => fcv (gb G) (ftag q.1 j) (m j)))
def wl (G : Gv) (n : Nat) (mu : Mem) : va_W := (List.range n).map (fun k => (gb G + k, ent G (shp k) (mu k)))
/-- the fans' cells -/
def isF (f : Nat) : Prop := ∃ t, t < 10 ∧ f = 15 + 4 * t
def isFz (z : Int) : Prop := ∃ f : Nat, isF f ∧ z = (f : Int)
/-- the references that never change -/
def srl : List (Nat × Nat × Nat) := [(0, 0, 1), (0, 1, 8), (0, 2, 9), (0, 3, 13), (0, 4, 14), (1, 0, 2), (1, 1, 3), (1, 2, 4), (1, 3, 5), (1, 8, 6), (1, 9, 7), (9, 0, 10), (9, 1, 11), (9, 2, 12),
  (55, 3, 56), (55, 14, 57), (55, 15, 58), (55, 16, 59), (55, 17, 60), (55, 18, 61), (55, 19, 62), (55, 20, 63), (55, 23, 64), (55, 24, 65), (55, 25, 66), (55, 26, 67), (55, 27, 68), (55, 28, 69), (55, 34, 70), (55, 35, 71), (55, 36, 72), (55, 37, 73), (55, 38, 74), (55, 42, 75)]
def GI (mu : Mem) : Prop := (∀ q ∈ srl, mu q.1 q.2.1 = (q.2.2 : Int)) ∧ (∀ t, t < 10 → mu (15 + 4 * t) 2 = ((15 + 4 * t + 1 : Nat) : Int) ∧ mu (15 + 4 * t) 3 = ((15 + 4 * t + 2 : Nat) : Int) ∧ mu (15 + 4 * t) 4 = ((15 + 4 * t + 3 : Nat) : Int)) ∧ isFz (mu 0 5) ∧ isFz (mu 0 6) ∧ ∀ i, i < 8 → isFz (mu 14 i)
def WD (G : Gv) (n : Nat) (mu : Mem) (H : Heap) : Prop := va_P (G.1, G.2.1) vwCl (wl G n mu) H ∧ (n = NC → GI mu)
def tyG (G : Gv) : List (ClassId × FieldType) := [(G.2.2.1 0, .int), (G.2.2.1 1, .long), (G.2.2.1 2, .byte), (G.2.2.1 3, .object "FanCones$Fan")]
abbrev AG (G : Gv) : Nat → Prop := fun q => gb G ≤ q
/-! locals -/
def lget : List Vv → Nat → Vv
  | [], _ => vx
  | v :: _, 0 => v
  | _ :: L, n + 1 => lget L n
def isL (v : Vv) : Bool := match v with
  | .inr (.inl _) => true
  | _ => false
def st1 (v : Vv) : List Vv → Nat → List Vv
  | [], _ => []
  | _ :: L, 0 => v :: L
  | w :: L, n + 1 => (match n, isL w with
    | 0, true => vx
    | _, _ => w) :: st1 v L n
def st2 (v : Vv) : List Vv → Nat → List Vv
  | [], _ => []
  | [_], 0 => [v]
  | _ :: _ :: L, 0 => v :: vx :: L
  | w :: L, n + 1 => (match n, isL w with
    | 0, true => vx
    | _, _ => w) :: st2 v L n
def LH (b nL : Nat) (L : List Vv) (ls : Array Slot) : Prop := ls.size = nL ∧ lv_wf ls ∧ ∀ i, lget L i ≠ vx → ls[i]? = some (.val (cv b (lget L i)))
def entL : List Vv → List Vv
  | [] => []
  | v :: r => if isL v then v :: vx :: entL r else v :: entL r
def padL : Nat → List Vv → List Vv
  | 0, L => L
  | n + 1, [] => vx :: padL n []
  | n + 1, v :: L => v :: padL n L
/-! the judgement -/
abbrev KT : Type := Program × Launch × Env × Room × State × MethodId × Array Value × List Frame × Method × Code × Gv × (State → Prop)
def AW (K : KT) (M : MI) (w : Nat × Nat × Nat) (pc : Nat) (L S : List Vv) (mu : Mem) : Prop := match K with
  | (p, l, e, R, s, m, args, below, meth, c, G, Q) => ∀ (ls : Array Slot) (H : Heap) (locs : List Loc), LH (gb G) M.2.2.1 L ls → WD G w.1 mu H → va_S (AG G) s.heap H locs → W p l e R s m args below meth c H locs w.2.1 w.2.2 Q (F0 m pc ls (S.map (cv (gb G))))
def CX (K : KT) (w : Nat × Nat × Nat) (M : MI) (dd : Nat) : Prop := match K with
  | (p, _, _, R, s, m, args, _, meth, c, G, _) => p.tables.exec = Jvm.exec ∧ c.code = M.2.1 ∧ c.maxLocals = M.2.2.1 ∧ s.vm.findClass M.1.cls = some m.cls ∧ (∀ w ∈ TB, w.before args s = true) ∧ va_K (G.1, G.2.1) vwCl (tyG G) s ∧ meth.locks = false ∧ gb G ≤ s.heap.size ∧ (dd ≤ R.frames ∧ 38 * dd ≤ R.locals) ∧ (w.2.1 ≤ R.cells ∧ w.2.2 ≤ R.slots)
def QC (G : Gv) (n : Nat) (Qf : Option Vv → Mem → Prop) : Array Value → State → Outcome → State → Prop := fun _ st o t =>
  ∃ (r : Option Vv) (mu : Mem), o = .returned (r.map (cv (gb G))) ∧ Qf r mu ∧ WD G n mu t.heap ∧ va_F (AG G) st t
def CR (K : KT) (w : Nat × Nat × Nat) (M : MI) (Qf : Option Vv → Mem → Prop) : Prop := match K with
  | (_, _, _, _, s, _, args, below, meth, _, G, Q) => meth.sig.returnType = M.2.2.2 ∧ Q = MQ below (QC G w.1 Qf) args s w.2.1 w.2.2 (AG G)
def rmD (d mc ms : Nat) : Room := { frames := d, cells := mc, slots := ms, locals := 38 * d }
def PW (G : Gv) (n : Nat) (mu : Mem) (U : State) : Prop := WD G n mu U.heap ∧ va_K (G.1, G.2.1) vwCl (tyG G) U ∧ gb G ≤ U.heap.size ∧ (n < NC → U.heap.size = gb G + n)
/-- a method's contract: its level, its arguments, the memory before; what it answers, the memory behind it -/
def TrN (d : Nat) (M : MI) (av : List Vv) (n n2 mc ms : Nat) (mu : Mem) (Qf : Option Vv → Mem → Prop) : Prop :=
  ∀ (l : Launch) (G : Gv), Met l M.1 (wc M :: TB) (rmD d mc ms) (va_Pc (av.map (cv (gb G))) (fun U => PW G n mu U)) (QC G n2 Qf) mc ms (AG G)
abbrev Tr (d : Nat) (M : MI) (av : List Vv) (mu : Mem) (Qf : Option Vv → Mem → Prop) : Prop := TrN d M av NC NC 0 0 mu Qf
/-- the same with one answer and one memory -/
abbrev TrE (d : Nat) (M : MI) (av : List Vv) (mu : Mem) (r : Option Vv) (mu2 : Mem) : Prop := Tr d M av mu (fun r' mu' => r' = r ∧ mu' = mu2)
/-! numbers -/
abbrev R32 (x : Int) : Prop := -2147483648 ≤ x ∧ x ≤ 2147483647
abbrev R64 (x : Int) : Prop := -9223372036854775808 ≤ x ∧ x ≤ 9223372036854775807
theorem r32 {x : Int} (h : R32 x) : (Int32.ofInt x).toInt = x := Int32.toInt_ofInt_of_le (by unfold R32 at h; omega) (by unfold R32 at h; omega)
theorem r64 {x : Int} (h : R64 x) : (Int64.ofInt x).toInt = x := Int64.toInt_ofInt_of_le (by unfold R64 at h; omega) (by unfold R64 at h; omega)
theorem i_eq {x y : Int} (hx : R32 x) (hy : R32 y) : Int32.ofInt x = Int32.ofInt y ↔ x = y := ⟨fun h => by rw [← r32 hx, ← r32 hy, h], fun h => by rw [h]⟩
theorem i_lt {x y : Int} (hx : R32 x) (hy : R32 y) : Int32.ofInt x < Int32.ofInt y ↔ x < y := by rw [Int32.lt_iff_toInt_lt, r32 hx, r32 hy]
theorem i_le {x y : Int} (hx : R32 x) (hy : R32 y) : Int32.ofInt x ≤ Int32.ofInt y ↔ x ≤ y := by rw [Int32.le_iff_toInt_le, r32 hx, r32 hy]
theorem l_eq {x y : Int} (hx : R64 x) (hy : R64 y) : Int64.ofInt x = Int64.ofInt y ↔ x = y := ⟨fun h => by rw [← r64 hx, ← r64 hy, h], fun h => by rw [h]⟩
theorem l_lt {x y : Int} (hx : R64 x) (hy : R64 y) : Int64.ofInt x < Int64.ofInt y ↔ x < y := by rw [Int64.lt_iff_toInt_lt, r64 hx, r64 hy]
theorem i_0 : Int32.ofInt 0 = 0 := by decide
theorem r32_0 : R32 0 := by unfold R32; omega
theorem i_div {x y : Int} (hx : R32 x) (hy : R32 y) : Int32.ofInt x / Int32.ofInt y = Int32.ofInt (x.tdiv y) := (Int32.ofInt_tdiv hx.1 hx.2 hy.1 hy.2).symm
theorem l_div {x y : Int} (hx : R64 x) (hy : R64 y) : Int64.ofInt x / Int64.ofInt y = Int64.ofInt (x.tdiv y) := (Int64.ofInt_tdiv hx.1 hx.2 hy.1 hy.2).symm
theorem i_rem {x y : Int} (hx : R32 x) (hy : R32 y) : Int32.ofInt x - Int32.ofInt x / Int32.ofInt y * Int32.ofInt y = Int32.ofInt (x.tmod y) := by
  rw [i_div hx hy, ← Int32.ofInt_mul, ← Int32.ofInt_sub, Int.tmod_def, Int.mul_comm]
theorem l_rem {x y : Int} (hx : R64 x) (hy : R64 y) : Int64.ofInt x - Int64.ofInt x / Int64.ofInt y * Int64.ofInt y = Int64.ofInt (x.tmod y) := by
  rw [l_div hx hy, ← Int64.ofInt_mul, ← Int64.ofInt_sub, Int.tmod_def, Int.mul_comm]
theorem i_2l {x : Int} (hx : R32 x) : (Int32.ofInt x).toInt64 = Int64.ofInt x := Int32.toInt64_ofInt hx.1 hx.2
theorem i_cl {x : Int} (hx : R32 x) (h0 : 0 ≤ x) : (Int32.ofInt x).toNatClampNeg = x.toNat := by
  show (Int32.ofInt x).toInt.toNat = x.toNat
  rw [r32 hx]
theorem i_in {x : Int} {n : Nat} (h0 : 0 ≤ x) (h1 : x < n) (hn : n < 2147483648) : vp_in (Int32.ofInt x) n := by
  have hx : R32 x := by unfold R32; omega
  rw [vp_in_iff, r32 hx]
  exact ⟨h0, h1⟩
/-! the world's list -/
theorem wl_at {G : Gv} {n k : Nat} {mu : Mem} (h : k < n) : (wl G n mu)[k]? = some (gb G + k, ent G (shp k) (mu k)) := by
  unfold wl
  rw [List.getElem?_map, List.getElem?_range h]
  rfl
theorem wl_get {G : Gv} {n k : Nat} {mu : Mem} {q : Nat × va_E} (h : (wl G n mu)[k]? = some q) : k < n ∧ q = (gb G + k, ent G (shp k) (mu k)) := by
  by_cases hk : k < n
  · rw [wl_at hk] at h
    exact ⟨hk, (Option.some.inj h).symm⟩
  · exfalso
    have h1 := (List.getElem?_eq_some_iff.mp h).1
    unfold wl at h1
    rw [List.length_map, List.length_range] at h1
    exact hk h1
theorem wl_len (G : Gv) (n : Nat) (mu : Mem) : (wl G n mu).length = n := by unfold wl; rw [List.length_map, List.length_range]
theorem wl_D (G : Gv) (n : Nat) (mu : Mem) : va_D (AG G) (wl G n mu) := by
  refine ⟨fun i j p q hi hj hpq => ?_, fun k q hk => ?_⟩
  · obtain ⟨-, rfl⟩ := wl_get hi
    obtain ⟨-, rfl⟩ := wl_get hj
    have h : gb G + i = gb G + j := hpq
    omega
  · obtain ⟨-, rfl⟩ := wl_get hk
    exact Nat.le_add_right _ _
theorem wl_set {G : Gv} {n k : Nat} {mu mu2 : Mem} {e : va_E} (h1 : ∀ a, a ≠ k → mu2 a = mu a) (h2 : ent G (shp k) (mu2 k) = e) : (wl G n mu).set k (gb G + k, e) = wl G n mu2 := by
  apply List.ext_getElem?
  intro i
  by_cases hi : i = k
  · subst hi
    by_cases hk : i < n
    · rw [List.getElem?_set_self (by rw [wl_len]; exact hk), wl_at hk, h2]
    · rw [List.getElem?_eq_none (by rw [List.length_set, wl_len]; omega), List.getElem?_eq_none (by rw [wl_len]; omega)]
  · rw [List.getElem?_set_ne (Ne.symm hi)]
    by_cases hk : i < n
    · rw [wl_at hk, wl_at hk, h1 i hi]
    · rw [List.getElem?_eq_none (by rw [wl_len]; omega), List.getElem?_eq_none (by rw [wl_len]; omega)]
theorem wr_ne {mu : Mem} {k j a : Nat} {v : Int} (h : a ≠ k) : wr mu k j v a = mu a := by unfold wr; rw [if_neg h]
theorem wr_self (mu : Mem) (k j : Nat) (v : Int) : wr mu k j v k = fun b => if b = j then v else mu k b := by unfold wr; rw [if_pos rfl]
theorem wr_at (mu : Mem) (k j : Nat) (v : Int) (a b : Nat) : wr mu k j v a b = if a = k ∧ b = j then v else mu a b := by
  unfold wr
  by_cases h : a = k
  · subst h
    simp
  · simp [h]
theorem ent_i (G : Gv) (n : Nat) (m : Nat → Int) : ent G (10, n) m = .inl (G.2.2.1 0, n, .inl (fun j => Int32.ofInt (m j))) := rfl
theorem ent_l (G : Gv) (n : Nat) (m : Nat → Int) : ent G (11, n) m = .inl (G.2.2.1 1, n, .inr (.inl (fun j => Int64.ofInt (m j)))) := rfl
theorem ent_b (G : Gv) (n : Nat) (m : Nat → Int) : ent G (12, n) m = .inl (G.2.2.1 2, n, .inl (fun j => Int32.ofInt (m j))) := rfl
theorem ent_q (G : Gv) (n : Nat) (m : Nat → Int) : ent G (13, n) m = .inl (G.2.2.1 3, n, .inr (.inr (.inr (.inr (fun j => rfo (gb G) (m j)))))) := rfl
theorem ent_o (G : Gv) {ci : Nat} (h : ci < 10) (n : Nat) (m : Nat → Int) : ent G (ci, n) m = .inr (ci, (List.range (nfc ci)).map (fun j => fcv (gb G) (ftag ci j) (m j))) := by
  unfold ent
  rw [if_neg (show ¬ ci = 10 by omega), if_neg (show ¬ ci = 11 by omega), if_neg (show ¬ ci = 12 by omega), if_neg (show ¬ ci = 13 by omega)]
/-- a cell of the world: its kind, its length -/
def Sh (n k t len : Nat) : Prop := shp k = (t, len) ∧ k < n
theorem rm_get {N j : Nat} (h : j < N) (f : Nat → Value) : ((List.range N).map f)[j]? = some (f j) := by
  rw [List.getElem?_map, List.getElem?_range h]
  rfl
theorem rm_set {N j : Nat} {f g : Nat → Value} {v : Value} (h1 : ∀ i, i ≠ j → g i = f i) (h2 : g j = v) : ((List.range N).map f).set j v = (List.range N).map g := by
  apply List.ext_getElem?
  intro i
  by_cases hi : i = j
  · subst hi
    by_cases hk : i < N
    · rw [List.getElem?_set_self (by rw [List.length_map, List.length_range]; exact hk), rm_get hk, h2]
    · rw [List.getElem?_eq_none (by rw [List.length_set, List.length_map, List.length_range]; omega), List.getElem?_eq_none (by rw [List.length_map, List.length_range]; omega)]
  · rw [List.getElem?_set_ne (Ne.symm hi)]
    by_cases hk : i < N
    · rw [rm_get hk, rm_get hk, h1 i hi]
    · rw [List.getElem?_eq_none (by rw [List.length_map, List.length_range]; omega), List.getElem?_eq_none (by rw [List.length_map, List.length_range]; omega)]
/-! locals, proved -/
theorem cv_cat (b : Nat) (v : Vv) : (cv b v).category = 2 ↔ isL v = true := by
  rcases v with x | x | x | x
  · simp [cv, isL, Value.category]
  · simp [cv, isL, Value.category]
  · simp [cv, isL, Value.category]
  · cases x <;> simp [cv, isL, Value.category]
theorem st1_get (v : Vv) : ∀ (L : List Vv) (i j : Nat), lget (st1 v L i) j = vx ∨ (j = i ∧ lget (st1 v L i) j = v) ∨ (j ≠ i ∧ ¬ (j + 1 = i ∧ isL (lget L j) = true) ∧ lget (st1 v L i) j = lget L j)
  | [], i, j => Or.inl rfl
  | w :: L, 0, 0 => Or.inr (Or.inl ⟨rfl, rfl⟩)
  | w :: L, 0, j + 1 => Or.inr (Or.inr ⟨by omega, by omega, rfl⟩)
  | w :: L, 0 + 1, 0 => by
    cases hw : isL w
    · refine Or.inr (Or.inr ⟨by omega, ?_, ?_⟩)
      · show ¬ (_ ∧ isL w = true)
        rw [hw]; simp
      · simp [st1, lget, hw]
    · exact Or.inl (by simp [st1, lget, hw])
  | w :: L, (n + 1) + 1, 0 => Or.inr (Or.inr ⟨by omega, by omega, rfl⟩)
  | w :: L, i + 1, j + 1 => by
    have h := st1_get v L i j
    have e : lget (st1 v (w :: L) (i + 1)) (j + 1) = lget (st1 v L i) j := rfl
    rw [e]
    rcases h with h | ⟨h1, h2⟩ | ⟨h1, h2, h3⟩
    · exact Or.inl h
    · exact Or.inr (Or.inl ⟨by omega, h2⟩)
    · refine Or.inr (Or.inr ⟨by omega, ?_, h3⟩)
      show ¬ (_ ∧ isL (lget L j) = true)
      intro q
      exact h2 ⟨by omega, q.2⟩
theorem st2_get (v : Vv) : ∀ (L : List Vv) (i j : Nat), lget (st2 v L i) j = vx ∨ (j = i ∧ lget (st2 v L i) j = v) ∨ (j ≠ i ∧ j ≠ i + 1 ∧ ¬ (j + 1 = i ∧ isL (lget L j) = true) ∧ lget (st2 v L i) j = lget L j)
  | [], i, j => Or.inl rfl
  | [w], 0, 0 => Or.inr (Or.inl ⟨rfl, rfl⟩)
  | [w], 0, j + 1 => Or.inl rfl
  | w :: u :: L, 0, 0 => Or.inr (Or.inl ⟨rfl, rfl⟩)
  | w :: u :: L, 0, 0 + 1 => Or.inl rfl
  | w :: u :: L, 0, (j + 1) + 1 => Or.inr (Or.inr ⟨by omega, by omega, by omega, rfl⟩)
  | w :: L, 0 + 1, 0 => by
    cases hw : isL w
    · refine Or.inr (Or.inr ⟨by omega, by omega, ?_, ?_⟩)
      · show ¬ (_ ∧ isL w = true)
        rw [hw]; simp
      · simp [st2, lget, hw]
    · exact Or.inl (by simp [st2, lget, hw])
  | w :: L, (n + 1) + 1, 0 => Or.inr (Or.inr ⟨by omega, by omega, by omega, by simp [st2, lget]⟩)
  | w :: L, i + 1, j + 1 => by
    have h := st2_get v L i j
    have e : lget (st2 v (w :: L) (i + 1)) (j + 1) = lget (st2 v L i) j := by cases L <;> rfl
    rw [e]
    rcases h with h | ⟨h1, h2⟩ | ⟨h1, h4, h2, h3⟩
    · exact Or.inl h
    · exact Or.inr (Or.inl ⟨by omega, h2⟩)
    · refine Or.inr (Or.inr ⟨by omega, by omega, ?_, h3⟩)
      show ¬ (_ ∧ isL (lget L j) = true)
      intro q
      exact h2 ⟨by omega, q.2⟩
theorem vx_dec (v : Vv) : v = vx ∨ v ≠ vx := Classical.em _
def lvL (b nL : Nat) (L : List Vv) : List (Nat × Value) := (List.range nL).filterMap (fun i => if lget L i = vx then none else some (i, cv b (lget L i)))
theorem lvL_mem {b nL : Nat} {L : List Vv} {i : Nat} (hi : i < nL) (h : lget L i ≠ vx) : (i, cv b (lget L i)) ∈ lvL b nL L := by
  refine List.mem_filterMap.mpr ⟨i, List.mem_range.mpr hi, ?_⟩
  rw [if_neg h]
theorem LH.has {b nL : Nat} {L : List Vv} {ls : Array Slot} (h : LH b nL L ls) : lv_has ls nL (lvL b nL L) := by
  refine ⟨h.1, h.2.1, fun q hq => ?_⟩
  obtain ⟨i, -, hi⟩ := List.mem_filterMap.mp hq
  by_cases hx : lget L i = vx
  · rw [if_pos hx] at hi; cases hi
  · rw [if_neg hx] at hi
    cases hi
    exact h.2.2 i hx
theorem LH.lt {b nL : Nat} {L : List Vv} {ls : Array Slot} (h : LH b nL L ls) {i : Nat} (hi : lget L i ≠ vx) : i < nL := by
  rw [← h.1]
  exact lv_lt (h.2.2 i hi)
theorem LH.s1 {b nL i : Nat} {L : List Vv} {ls ls2 : Array Slot} {v : Vv} (h : LH b nL L ls) (h2 : lv_has ls2 nL ((i, cv b v) :: (lvL b nL L).filter (fun q => !(q.1 == i) && !(q.1 + 1 == i && q.2.category == 2)))) : LH b nL (st1 v L i) ls2 := by
  refine ⟨h2.1, h2.2.1, fun j hj => ?_⟩
  rcases st1_get v L i j with q | ⟨q1, q2⟩ | ⟨q1, q2, q3⟩
  · exact absurd q hj
  · rw [q2, q1]
    exact h2.2.2 _ List.mem_cons_self
  · rw [q3] at hj ⊢
    refine h2.2.2 (j, cv b (lget L j)) (List.mem_cons_of_mem _ (List.mem_filter.mpr ⟨lvL_mem (h.lt hj) hj, ?_⟩))
    have e1 : (j == i) = false := by simpa using q1
    by_cases e2 : j + 1 = i
    · have e3 : ¬ (cv b (lget L j)).category = 2 := fun z => q2 ⟨e2, (cv_cat b _).mp z⟩
      simp [e1, e2, e3]
    · simp [e1, e2]
theorem LH.s2 {b nL i : Nat} {L : List Vv} {ls ls2 : Array Slot} {v : Vv} (h : LH b nL L ls) (h2 : lv_has ls2 nL ((i, cv b v) :: (lvL b nL L).filter (fun q => !(q.1 == i) && (!(q.1 == i + 1) && !(q.1 + 1 == i && q.2.category == 2))))) : LH b nL (st2 v L i) ls2 := by
  refine ⟨h2.1, h2.2.1, fun j hj => ?_⟩
  rcases st2_get v L i j with q | ⟨q1, q2⟩ | ⟨q1, q4, q2, q3⟩
  · exact absurd q hj
  · rw [q2, q1]
    exact h2.2.2 _ List.mem_cons_self
  · rw [q3] at hj ⊢
    refine h2.2.2 (j, cv b (lget L j)) (List.mem_cons_of_mem _ (List.mem_filter.mpr ⟨lvL_mem (h.lt hj) hj, ?_⟩))
    have e1 : (j == i) = false := by simpa using q1
    have e4 : (j == i + 1) = false := by simpa using q4
    by_cases e2 : j + 1 = i
    · have e3 : ¬ (cv b (lget L j)).category = 2 := fun z => q2 ⟨e2, (cv_cat b _).mp z⟩
      simp [e1, e4, e2, e3]
    · simp [e1, e4, e2]
theorem padL_get (L : List Vv) : ∀ (n j : Nat), lget (padL n L) j = lget L j := by
  induction L with
  | nil =>
    intro n
    induction n with
    | zero => intro j; rfl
    | succ n ih =>
      intro j
      cases j with
      | zero => rfl
      | succ j => exact ih j
  | cons v L ih =>
    intro n j
    cases n with
    | zero => rfl
    | succ n =>
      cases j with
      | zero => rfl
      | succ j => exact ih n j
theorem entL_get (b : Nat) : ∀ (av : List Vv) (i j : Nat), lget (entL av) j ≠ vx → (i + j, cv b (lget (entL av) j)) ∈ lv_args i (av.map (cv b))
  | [], i, j, h => absurd rfl h
  | v :: r, i, j, h => by
    have ec : (cv b v).category = 2 ↔ isL v = true := cv_cat b v
    cases hv : isL v with
    | true =>
      have e : entL (v :: r) = v :: vx :: entL r := by simp [entL, hv]
      have ea : lv_args i ((v :: r).map (cv b)) = (i, cv b v) :: lv_args (i + 2) (r.map (cv b)) := by simp [lv_args, ec.mpr hv]
      rw [e] at h ⊢
      rw [ea]
      match j, h with
      | 0, h => exact List.mem_cons_self
      | 1, h => exact absurd rfl h
      | j + 2, h =>
        have q := entL_get b r (i + 2) j h
        have e2 : i + 2 + j = i + (j + 2) := by omega
        rw [e2] at q
        exact List.mem_cons_of_mem _ q
    | false =>
      have e : entL (v :: r) = v :: entL r := by simp [entL, hv]
      have en : ¬ (cv b v).category = 2 := fun z => by rw [ec.mp z] at hv; cases hv
      have ea : lv_args i ((v :: r).map (cv b)) = (i, cv b v) :: lv_args (i + 1) (r.map (cv b)) := by simp [lv_args, en]
      rw [e] at h ⊢
      rw [ea]
      match j, h with
      | 0, h => exact List.mem_cons_self
      | j + 1, h =>
        have q := entL_get b r (i + 1) j h
        have e2 : i + 1 + j = i + (j + 1) := by omega
        rw [e2] at q
        exact List.mem_cons_of_mem _ q
theorem LH.entry {b n : Nat} {av : List Vv} {ls : Array Slot} (h : lv_has ls n (lv_args 0 (av.map (cv b)))) : LH b n (padL n (entL av)) ls := by
  refine ⟨h.1, h.2.1, fun j hj => ?_⟩
  rw [padL_get] at hj ⊢
  have q := h.2.2 _ (entL_get b av 0 j hj)
  rw [Nat.zero_add] at q
  exact q

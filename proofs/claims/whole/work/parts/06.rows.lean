theorem lcmp_val {x y : Int} (rx : R64 x) (ry : R64 y) : (lg_cmp (Int64.ofInt x) (Int64.ofInt y)) = if y < x then 1 else if x = y then 0 else -1 := by
  unfold lg_cmp
  by_cases h1 : y < x
  · rw [if_pos h1, if_pos ((l_lt ry rx).mpr h1)]
  · rw [if_neg h1, if_neg (fun z => h1 ((l_lt ry rx).mp z))]
    by_cases h2 : x = y
    · rw [if_pos h2, if_pos ((l_eq rx ry).mpr h2)]
    · rw [if_neg h2, if_neg (fun z => h2 ((l_eq rx ry).mp z))]
theorem lcmp_eq {x y : Int} (rx : R64 x) (ry : R64 y) : (lg_cmp (Int64.ofInt x) (Int64.ofInt y)) = 0 ↔ x = y := by
  rw [lcmp_val rx ry]
  by_cases h1 : y < x
  · rw [if_pos h1]
    constructor
    · intro h; first | omega | exact absurd h (by decide)
    · intro h; first | decide | omega
  · rw [if_neg h1]
    by_cases h2 : x = y
    · rw [if_pos h2]
      constructor
      · intro h; first | omega | exact absurd h (by decide)
      · intro h; first | decide | omega
    · rw [if_neg h2]
      constructor
      · intro h; first | omega | exact absurd h (by decide)
      · intro h; first | decide | omega
theorem lcmp_ne {x y : Int} (rx : R64 x) (ry : R64 y) : ¬ (lg_cmp (Int64.ofInt x) (Int64.ofInt y)) = 0 ↔ x ≠ y := by
  rw [lcmp_val rx ry]
  by_cases h1 : y < x
  · rw [if_pos h1]
    constructor
    · intro h; first | omega | exact absurd h (by decide)
    · intro h; first | decide | omega
  · rw [if_neg h1]
    by_cases h2 : x = y
    · rw [if_pos h2]
      constructor
      · intro h; first | omega | exact absurd h (by decide)
      · intro h; first | decide | omega
    · rw [if_neg h2]
      constructor
      · intro h; first | omega | exact absurd h (by decide)
      · intro h; first | decide | omega
theorem lcmp_lt {x y : Int} (rx : R64 x) (ry : R64 y) : (lg_cmp (Int64.ofInt x) (Int64.ofInt y)) < 0 ↔ x < y := by
  rw [lcmp_val rx ry]
  by_cases h1 : y < x
  · rw [if_pos h1]
    constructor
    · intro h; first | omega | exact absurd h (by decide)
    · intro h; first | decide | omega
  · rw [if_neg h1]
    by_cases h2 : x = y
    · rw [if_pos h2]
      constructor
      · intro h; first | omega | exact absurd h (by decide)
      · intro h; first | decide | omega
    · rw [if_neg h2]
      constructor
      · intro h; first | omega | exact absurd h (by decide)
      · intro h; first | decide | omega
theorem lcmp_ge {x y : Int} (rx : R64 x) (ry : R64 y) : 0 ≤ (lg_cmp (Int64.ofInt x) (Int64.ofInt y)) ↔ x ≥ y := by
  rw [lcmp_val rx ry]
  by_cases h1 : y < x
  · rw [if_pos h1]
    constructor
    · intro h; first | omega | exact absurd h (by decide)
    · intro h; first | decide | omega
  · rw [if_neg h1]
    by_cases h2 : x = y
    · rw [if_pos h2]
      constructor
      · intro h; first | omega | exact absurd h (by decide)
      · intro h; first | decide | omega
    · rw [if_neg h2]
      constructor
      · intro h; first | omega | exact absurd h (by decide)
      · intro h; first | decide | omega
theorem lcmp_gt {x y : Int} (rx : R64 x) (ry : R64 y) : 0 < (lg_cmp (Int64.ofInt x) (Int64.ofInt y)) ↔ x > y := by
  rw [lcmp_val rx ry]
  by_cases h1 : y < x
  · rw [if_pos h1]
    constructor
    · intro h; first | omega | exact absurd h (by decide)
    · intro h; first | decide | omega
  · rw [if_neg h1]
    by_cases h2 : x = y
    · rw [if_pos h2]
      constructor
      · intro h; first | omega | exact absurd h (by decide)
      · intro h; first | decide | omega
    · rw [if_neg h2]
      constructor
      · intro h; first | omega | exact absurd h (by decide)
      · intro h; first | decide | omega
theorem lcmp_le {x y : Int} (rx : R64 x) (ry : R64 y) : (lg_cmp (Int64.ofInt x) (Int64.ofInt y)) ≤ 0 ↔ x ≤ y := by
  rw [lcmp_val rx ry]
  by_cases h1 : y < x
  · rw [if_pos h1]
    constructor
    · intro h; first | omega | exact absurd h (by decide)
    · intro h; first | decide | omega
  · rw [if_neg h1]
    by_cases h2 : x = y
    · rw [if_pos h2]
      constructor
      · intro h; first | omega | exact absurd h (by decide)
      · intro h; first | decide | omega
    · rw [if_neg h2]
      constructor
      · intro h; first | omega | exact absurd h (by decide)
      · intro h; first | decide | omega
theorem aw_iconst {K : KT} {M : MI} {w : Nat × Nat × Nat} {pc dd : Nat} {L S : List Vv} {mu : Mem} (C : CX K w M dd) {n : Int} (hd : decode M.2.1 pc = .ok (.iconst n, 1))  (k : AW K M w (pc + 1) L (vi n :: S) mu) : AW K M w pc L S mu := by
  obtain ⟨p, l, e, R, s, m, args, below, meth, c, G, Q⟩ := K
  obtain ⟨hx, hb, hml, hown, hts, hK, hlk, hgb, hRm, hw⟩ := C
  intro ls H locs hl hW hS
  exact lv_iconst hx hb hd rfl (k ls H locs hl hW hS)
theorem aw_bipush {K : KT} {M : MI} {w : Nat × Nat × Nat} {pc dd : Nat} {L S : List Vv} {mu : Mem} (C : CX K w M dd) {n : Int} (hd : decode M.2.1 pc = .ok (.bipush n, 2)) (hv : (Int8.ofInt n).toInt32 = Int32.ofInt n) (k : AW K M w (pc + 2) L (vi n :: S) mu) : AW K M w pc L S mu := by
  obtain ⟨p, l, e, R, s, m, args, below, meth, c, G, Q⟩ := K
  obtain ⟨hx, hb, hml, hown, hts, hK, hlk, hgb, hRm, hw⟩ := C
  intro ls H locs hl hW hS
  exact lv_bipush hx hb hd hv (k ls H locs hl hW hS)
theorem aw_sipush {K : KT} {M : MI} {w : Nat × Nat × Nat} {pc dd : Nat} {L S : List Vv} {mu : Mem} (C : CX K w M dd) {n : Int} (hd : decode M.2.1 pc = .ok (.sipush n, 3)) (hv : (Int16.ofInt n).toInt32 = Int32.ofInt n) (k : AW K M w (pc + 3) L (vi n :: S) mu) : AW K M w pc L S mu := by
  obtain ⟨p, l, e, R, s, m, args, below, meth, c, G, Q⟩ := K
  obtain ⟨hx, hb, hml, hown, hts, hK, hlk, hgb, hRm, hw⟩ := C
  intro ls H locs hl hW hS
  exact lv_sipush hx hb hd hv (k ls H locs hl hW hS)
theorem aw_lconst {K : KT} {M : MI} {w : Nat × Nat × Nat} {pc dd : Nat} {L S : List Vv} {mu : Mem} (C : CX K w M dd) {n : Fin 2} {v : Int} (hd : decode M.2.1 pc = .ok (.lconst n, 1)) (hv : ((n : Nat) : Int) = v) (k : AW K M w (pc + 1) L (vl v :: S) mu) : AW K M w pc L S mu := by
  obtain ⟨p, l, e, R, s, m, args, below, meth, c, G, Q⟩ := K
  obtain ⟨hx, hb, hml, hown, hts, hK, hlk, hgb, hRm, hw⟩ := C
  intro ls H locs hl hW hS
  exact lv_lconst hx hb hd (by rw [← hv]; exact (Int64.ofInt_eq_ofNat).symm) (k ls H locs hl hW hS)
theorem aw_ldc {K : KT} {M : MI} {w : Nat × Nat × Nat} {pc dd : Nat} {L S : List Vv} {mu : Mem} (C : CX K w M dd) {n : Nat} {v : Int32} {z : Int} (hd : decode M.2.1 pc = .ok (.ldc n, 2)) (hc : Cond.constant M.1.cls n v ∈ TB) (hv : Int32.ofInt z = v) (k : AW K M w (pc + 2) L (vi z :: S) mu) : AW K M w pc L S mu := by
  obtain ⟨p, l, e, R, s, m, args, below, meth, c, G, Q⟩ := K
  obtain ⟨hx, hb, hml, hown, hts, hK, hlk, hgb, hRm, hw⟩ := C
  intro ls H locs hl hW hS
  exact lv_ldc hx hb hown (hts _ hc) hd (by rw [← hv]; exact (k ls H locs hl hW hS))
theorem aw_ldc2 {K : KT} {M : MI} {w : Nat × Nat × Nat} {pc dd : Nat} {L S : List Vv} {mu : Mem} (C : CX K w M dd) {n : Nat} {v : Int64} {z : Int} (hd : decode M.2.1 pc = .ok (.ldc2_w n, 3)) (hc : Cond.constantLong M.1.cls n v ∈ TB) (hv : Int64.ofInt z = v) (k : AW K M w (pc + 3) L (vl z :: S) mu) : AW K M w pc L S mu := by
  obtain ⟨p, l, e, R, s, m, args, below, meth, c, G, Q⟩ := K
  obtain ⟨hx, hb, hml, hown, hts, hK, hlk, hgb, hRm, hw⟩ := C
  intro ls H locs hl hW hS
  exact lv_ldc2 hx hb hown (hts _ hc) hd (by rw [← hv]; exact (k ls H locs hl hW hS))
theorem aw_iload_n {K : KT} {M : MI} {w : Nat × Nat × Nat} {pc dd : Nat} {L S : List Vv} {mu : Mem} (C : CX K w M dd) {i : Fin 4} {x : Int} (hd : decode M.2.1 pc = .ok (.iload_n i, 1)) (hL : lget L i = vi x) (k : AW K M w (pc + 1) L (vi x :: S) mu) : AW K M w pc L S mu := by
  obtain ⟨p, l, e, R, s, m, args, below, meth, c, G, Q⟩ := K
  obtain ⟨hx, hb, hml, hown, hts, hK, hlk, hgb, hRm, hw⟩ := C
  intro ls H locs hl hW hS
  exact lv_iload_n hx hb hd rfl (by have h := hl.2.2 i (by rw [hL]; exact fun h => by cases h); rw [hL] at h; exact h) (k ls H locs hl hW hS)
theorem aw_iload {K : KT} {M : MI} {w : Nat × Nat × Nat} {pc dd : Nat} {L S : List Vv} {mu : Mem} (C : CX K w M dd) {i : Nat} {x : Int} (hd : decode M.2.1 pc = .ok (.iload i, 2)) (hL : lget L i = vi x) (k : AW K M w (pc + 2) L (vi x :: S) mu) : AW K M w pc L S mu := by
  obtain ⟨p, l, e, R, s, m, args, below, meth, c, G, Q⟩ := K
  obtain ⟨hx, hb, hml, hown, hts, hK, hlk, hgb, hRm, hw⟩ := C
  intro ls H locs hl hW hS
  exact lv_iload hx hb hd (by have h := hl.2.2 i (by rw [hL]; exact fun h => by cases h); rw [hL] at h; exact h) (k ls H locs hl hW hS)
theorem aw_lload_n {K : KT} {M : MI} {w : Nat × Nat × Nat} {pc dd : Nat} {L S : List Vv} {mu : Mem} (C : CX K w M dd) {i : Fin 4} {x : Int} (hd : decode M.2.1 pc = .ok (.lload_n i, 1)) (hL : lget L i = vl x) (k : AW K M w (pc + 1) L (vl x :: S) mu) : AW K M w pc L S mu := by
  obtain ⟨p, l, e, R, s, m, args, below, meth, c, G, Q⟩ := K
  obtain ⟨hx, hb, hml, hown, hts, hK, hlk, hgb, hRm, hw⟩ := C
  intro ls H locs hl hW hS
  exact lv_lload_n hx hb hd rfl (by have h := hl.2.2 i (by rw [hL]; exact fun h => by cases h); rw [hL] at h; exact h) (k ls H locs hl hW hS)
theorem aw_lload {K : KT} {M : MI} {w : Nat × Nat × Nat} {pc dd : Nat} {L S : List Vv} {mu : Mem} (C : CX K w M dd) {i : Nat} {x : Int} (hd : decode M.2.1 pc = .ok (.lload i, 2)) (hL : lget L i = vl x) (k : AW K M w (pc + 2) L (vl x :: S) mu) : AW K M w pc L S mu := by
  obtain ⟨p, l, e, R, s, m, args, below, meth, c, G, Q⟩ := K
  obtain ⟨hx, hb, hml, hown, hts, hK, hlk, hgb, hRm, hw⟩ := C
  intro ls H locs hl hW hS
  exact lv_lload hx hb hd (by have h := hl.2.2 i (by rw [hL]; exact fun h => by cases h); rw [hL] at h; exact h) (k ls H locs hl hW hS)
theorem aw_aload_n {K : KT} {M : MI} {w : Nat × Nat × Nat} {pc dd : Nat} {L S : List Vv} {mu : Mem} (C : CX K w M dd) {i : Fin 4} {x : Nat} (hd : decode M.2.1 pc = .ok (.aload_n i, 1)) (hL : lget L i = vr x) (k : AW K M w (pc + 1) L (vr x :: S) mu) : AW K M w pc L S mu := by
  obtain ⟨p, l, e, R, s, m, args, below, meth, c, G, Q⟩ := K
  obtain ⟨hx, hb, hml, hown, hts, hK, hlk, hgb, hRm, hw⟩ := C
  intro ls H locs hl hW hS
  exact lv_aload_n hx hb hd rfl (by have h := hl.2.2 i (by rw [hL]; exact fun h => by cases h); rw [hL] at h; exact h) (k ls H locs hl hW hS)
theorem aw_aload {K : KT} {M : MI} {w : Nat × Nat × Nat} {pc dd : Nat} {L S : List Vv} {mu : Mem} (C : CX K w M dd) {i : Nat} {x : Nat} (hd : decode M.2.1 pc = .ok (.aload i, 2)) (hL : lget L i = vr x) (k : AW K M w (pc + 2) L (vr x :: S) mu) : AW K M w pc L S mu := by
  obtain ⟨p, l, e, R, s, m, args, below, meth, c, G, Q⟩ := K
  obtain ⟨hx, hb, hml, hown, hts, hK, hlk, hgb, hRm, hw⟩ := C
  intro ls H locs hl hW hS
  exact lv_aload hx hb hd (by have h := hl.2.2 i (by rw [hL]; exact fun h => by cases h); rw [hL] at h; exact h) (k ls H locs hl hW hS)
theorem aw_qload_n {K : KT} {M : MI} {w : Nat × Nat × Nat} {pc dd : Nat} {L S : List Vv} {mu : Mem} (C : CX K w M dd) {i : Fin 4} {x : Nat} (hd : decode M.2.1 pc = .ok (.aload_n i, 1)) (hL : lget L i = vq x) (k : AW K M w (pc + 1) L (vq x :: S) mu) : AW K M w pc L S mu := by
  obtain ⟨p, l, e, R, s, m, args, below, meth, c, G, Q⟩ := K
  obtain ⟨hx, hb, hml, hown, hts, hK, hlk, hgb, hRm, hw⟩ := C
  intro ls H locs hl hW hS
  exact lv_aload_n hx hb hd rfl (by have h := hl.2.2 i (by rw [hL]; exact fun h => by cases h); rw [hL] at h; exact h) (k ls H locs hl hW hS)
theorem aw_qload {K : KT} {M : MI} {w : Nat × Nat × Nat} {pc dd : Nat} {L S : List Vv} {mu : Mem} (C : CX K w M dd) {i : Nat} {x : Nat} (hd : decode M.2.1 pc = .ok (.aload i, 2)) (hL : lget L i = vq x) (k : AW K M w (pc + 2) L (vq x :: S) mu) : AW K M w pc L S mu := by
  obtain ⟨p, l, e, R, s, m, args, below, meth, c, G, Q⟩ := K
  obtain ⟨hx, hb, hml, hown, hts, hK, hlk, hgb, hRm, hw⟩ := C
  intro ls H locs hl hW hS
  exact lv_aload hx hb hd (by have h := hl.2.2 i (by rw [hL]; exact fun h => by cases h); rw [hL] at h; exact h) (k ls H locs hl hW hS)
theorem aw_istore_n {K : KT} {M : MI} {w : Nat × Nat × Nat} {pc dd : Nat} {L S : List Vv} {mu : Mem} (C : CX K w M dd) {i : Fin 4} {x : Int} (hd : decode M.2.1 pc = .ok (.istore_n i, 1)) (hi : (i : Nat) < M.2.2.1) (k : AW K M w (pc + 1) (st1 (vi x) L i) S mu) : AW K M w pc L (vi x :: S) mu := by
  obtain ⟨p, l, e, R, s, m, args, below, meth, c, G, Q⟩ := K
  obtain ⟨hx, hb, hml, hown, hts, hK, hlk, hgb, hRm, hw⟩ := C
  intro ls H locs hl hW hS
  exact lv_istore_n hx hb hd rfl hl.has hi rfl (fun ls2 h2 => k ls2 H locs (hl.s1 (v := vi x) h2) hW hS)
theorem aw_istore {K : KT} {M : MI} {w : Nat × Nat × Nat} {pc dd : Nat} {L S : List Vv} {mu : Mem} (C : CX K w M dd) {i : Nat} {x : Int} (hd : decode M.2.1 pc = .ok (.istore i, 2)) (hi : (i : Nat) < M.2.2.1) (k : AW K M w (pc + 2) (st1 (vi x) L i) S mu) : AW K M w pc L (vi x :: S) mu := by
  obtain ⟨p, l, e, R, s, m, args, below, meth, c, G, Q⟩ := K
  obtain ⟨hx, hb, hml, hown, hts, hK, hlk, hgb, hRm, hw⟩ := C
  intro ls H locs hl hW hS
  exact lv_istore hx hb hd hl.has hi rfl (fun ls2 h2 => k ls2 H locs (hl.s1 (v := vi x) h2) hW hS)
theorem aw_lstore_n {K : KT} {M : MI} {w : Nat × Nat × Nat} {pc dd : Nat} {L S : List Vv} {mu : Mem} (C : CX K w M dd) {i : Fin 4} {x : Int} (hd : decode M.2.1 pc = .ok (.lstore_n i, 1)) (hi : (i : Nat) + 1 < M.2.2.1) (k : AW K M w (pc + 1) (st2 (vl x) L i) S mu) : AW K M w pc L (vl x :: S) mu := by
  obtain ⟨p, l, e, R, s, m, args, below, meth, c, G, Q⟩ := K
  obtain ⟨hx, hb, hml, hown, hts, hK, hlk, hgb, hRm, hw⟩ := C
  intro ls H locs hl hW hS
  exact lv_lstore_n hx hb hd rfl hl.has hi rfl (fun ls2 h2 => k ls2 H locs (hl.s2 (v := vl x) h2) hW hS)
theorem aw_lstore {K : KT} {M : MI} {w : Nat × Nat × Nat} {pc dd : Nat} {L S : List Vv} {mu : Mem} (C : CX K w M dd) {i : Nat} {x : Int} (hd : decode M.2.1 pc = .ok (.lstore i, 2)) (hi : (i : Nat) + 1 < M.2.2.1) (k : AW K M w (pc + 2) (st2 (vl x) L i) S mu) : AW K M w pc L (vl x :: S) mu := by
  obtain ⟨p, l, e, R, s, m, args, below, meth, c, G, Q⟩ := K
  obtain ⟨hx, hb, hml, hown, hts, hK, hlk, hgb, hRm, hw⟩ := C
  intro ls H locs hl hW hS
  exact lv_lstore hx hb hd hl.has hi rfl (fun ls2 h2 => k ls2 H locs (hl.s2 (v := vl x) h2) hW hS)
theorem aw_astore_n {K : KT} {M : MI} {w : Nat × Nat × Nat} {pc dd : Nat} {L S : List Vv} {mu : Mem} (C : CX K w M dd) {i : Fin 4} {x : Nat} (hd : decode M.2.1 pc = .ok (.astore_n i, 1)) (hi : (i : Nat) < M.2.2.1) (k : AW K M w (pc + 1) (st1 (vr x) L i) S mu) : AW K M w pc L (vr x :: S) mu := by
  obtain ⟨p, l, e, R, s, m, args, below, meth, c, G, Q⟩ := K
  obtain ⟨hx, hb, hml, hown, hts, hK, hlk, hgb, hRm, hw⟩ := C
  intro ls H locs hl hW hS
  exact lv_astore_n hx hb hd rfl hl.has hi rfl (fun ls2 h2 => k ls2 H locs (hl.s1 (v := vr x) h2) hW hS)
theorem aw_astore {K : KT} {M : MI} {w : Nat × Nat × Nat} {pc dd : Nat} {L S : List Vv} {mu : Mem} (C : CX K w M dd) {i : Nat} {x : Nat} (hd : decode M.2.1 pc = .ok (.astore i, 2)) (hi : (i : Nat) < M.2.2.1) (k : AW K M w (pc + 2) (st1 (vr x) L i) S mu) : AW K M w pc L (vr x :: S) mu := by
  obtain ⟨p, l, e, R, s, m, args, below, meth, c, G, Q⟩ := K
  obtain ⟨hx, hb, hml, hown, hts, hK, hlk, hgb, hRm, hw⟩ := C
  intro ls H locs hl hW hS
  exact lv_astore hx hb hd hl.has hi rfl (fun ls2 h2 => k ls2 H locs (hl.s1 (v := vr x) h2) hW hS)
theorem aw_iinc {K : KT} {M : MI} {w : Nat × Nat × Nat} {pc dd : Nat} {L S : List Vv} {mu : Mem} (C : CX K w M dd) {i : Nat} {n x : Int} (hd : decode M.2.1 pc = .ok (.iinc i n, 3)) (hL : lget L i = vi x) (k : AW K M w (pc + 3) (st1 (vi (x + n)) L i) S mu) : AW K M w pc L S mu := by
  obtain ⟨p, l, e, R, s, m, args, below, meth, c, G, Q⟩ := K
  obtain ⟨hx, hb, hml, hown, hts, hK, hlk, hgb, hRm, hw⟩ := C
  intro ls H locs hl hW hS
  have hne : lget L i ≠ vx := by rw [hL]; exact fun h => by cases h
  obtain ⟨j, hj⟩ := List.getElem?_of_mem (lvL_mem (b := gb G) (hl.lt hne) hne)
  rw [hL] at hj
  exact lv_iinc (x := Int32.ofInt x) (v := Int32.ofInt (x + n)) hx hb hd hl.has hj (by rw [Int32.ofInt_add]) (hl.lt hne) rfl (fun ls2 h2 => k ls2 H locs (hl.s1 (v := vi (x + n)) h2) hW hS)
theorem aw_iadd {K : KT} {M : MI} {w : Nat × Nat × Nat} {pc dd : Nat} {L S : List Vv} {mu : Mem} (C : CX K w M dd) {x y : Int} (hd : decode M.2.1 pc = .ok (.iadd, 1)) (k : AW K M w (pc + 1) L (vi (x + y) :: S) mu) : AW K M w pc L (vi y :: vi x :: S) mu := by
  obtain ⟨p, l, e, R, s, m, args, below, meth, c, G, Q⟩ := K
  obtain ⟨hx, hb, hml, hown, hts, hK, hlk, hgb, hRm, hw⟩ := C
  intro ls H locs hl hW hS
  refine lv_iadd hx hb hd ?_
  have h := k ls H locs hl hW hS
  rw [List.map_cons, show cv (gb G) (vi (x + y)) = .int (Int32.ofInt (x + y)) from rfl, Int32.ofInt_add] at h
  exact h
theorem aw_isub {K : KT} {M : MI} {w : Nat × Nat × Nat} {pc dd : Nat} {L S : List Vv} {mu : Mem} (C : CX K w M dd) {x y : Int} (hd : decode M.2.1 pc = .ok (.isub, 1)) (k : AW K M w (pc + 1) L (vi (x - y) :: S) mu) : AW K M w pc L (vi y :: vi x :: S) mu := by
  obtain ⟨p, l, e, R, s, m, args, below, meth, c, G, Q⟩ := K
  obtain ⟨hx, hb, hml, hown, hts, hK, hlk, hgb, hRm, hw⟩ := C
  intro ls H locs hl hW hS
  refine lv_isub hx hb hd ?_
  have h := k ls H locs hl hW hS
  rw [List.map_cons, show cv (gb G) (vi (x - y)) = .int (Int32.ofInt (x - y)) from rfl, Int32.ofInt_sub] at h
  exact h
theorem aw_imul {K : KT} {M : MI} {w : Nat × Nat × Nat} {pc dd : Nat} {L S : List Vv} {mu : Mem} (C : CX K w M dd) {x y : Int} (hd : decode M.2.1 pc = .ok (.imul, 1)) (k : AW K M w (pc + 1) L (vi (x * y) :: S) mu) : AW K M w pc L (vi y :: vi x :: S) mu := by
  obtain ⟨p, l, e, R, s, m, args, below, meth, c, G, Q⟩ := K
  obtain ⟨hx, hb, hml, hown, hts, hK, hlk, hgb, hRm, hw⟩ := C
  intro ls H locs hl hW hS
  refine lv_imul hx hb hd ?_
  have h := k ls H locs hl hW hS
  rw [List.map_cons, show cv (gb G) (vi (x * y)) = .int (Int32.ofInt (x * y)) from rfl, Int32.ofInt_mul] at h
  exact h
theorem aw_ladd {K : KT} {M : MI} {w : Nat × Nat × Nat} {pc dd : Nat} {L S : List Vv} {mu : Mem} (C : CX K w M dd) {x y : Int} (hd : decode M.2.1 pc = .ok (.ladd, 1)) (k : AW K M w (pc + 1) L (vl (x + y) :: S) mu) : AW K M w pc L (vl y :: vl x :: S) mu := by
  obtain ⟨p, l, e, R, s, m, args, below, meth, c, G, Q⟩ := K
  obtain ⟨hx, hb, hml, hown, hts, hK, hlk, hgb, hRm, hw⟩ := C
  intro ls H locs hl hW hS
  refine lv_ladd hx hb hd ?_
  have h := k ls H locs hl hW hS
  rw [List.map_cons, show cv (gb G) (vl (x + y)) = .long (Int64.ofInt (x + y)) from rfl, Int64.ofInt_add] at h
  exact h
theorem aw_lsub {K : KT} {M : MI} {w : Nat × Nat × Nat} {pc dd : Nat} {L S : List Vv} {mu : Mem} (C : CX K w M dd) {x y : Int} (hd : decode M.2.1 pc = .ok (.lsub, 1)) (k : AW K M w (pc + 1) L (vl (x - y) :: S) mu) : AW K M w pc L (vl y :: vl x :: S) mu := by
  obtain ⟨p, l, e, R, s, m, args, below, meth, c, G, Q⟩ := K
  obtain ⟨hx, hb, hml, hown, hts, hK, hlk, hgb, hRm, hw⟩ := C
  intro ls H locs hl hW hS
  refine lv_lsub hx hb hd ?_
  have h := k ls H locs hl hW hS
  rw [List.map_cons, show cv (gb G) (vl (x - y)) = .long (Int64.ofInt (x - y)) from rfl, Int64.ofInt_sub] at h
  exact h
theorem aw_lmul {K : KT} {M : MI} {w : Nat × Nat × Nat} {pc dd : Nat} {L S : List Vv} {mu : Mem} (C : CX K w M dd) {x y : Int} (hd : decode M.2.1 pc = .ok (.lmul, 1)) (k : AW K M w (pc + 1) L (vl (x * y) :: S) mu) : AW K M w pc L (vl y :: vl x :: S) mu := by
  obtain ⟨p, l, e, R, s, m, args, below, meth, c, G, Q⟩ := K
  obtain ⟨hx, hb, hml, hown, hts, hK, hlk, hgb, hRm, hw⟩ := C
  intro ls H locs hl hW hS
  refine lv_lmul hx hb hd ?_
  have h := k ls H locs hl hW hS
  rw [List.map_cons, show cv (gb G) (vl (x * y)) = .long (Int64.ofInt (x * y)) from rfl, Int64.ofInt_mul] at h
  exact h
theorem aw_ineg {K : KT} {M : MI} {w : Nat × Nat × Nat} {pc dd : Nat} {L S : List Vv} {mu : Mem} (C : CX K w M dd) {x : Int} (hd : decode M.2.1 pc = .ok (.ineg, 1)) (k : AW K M w (pc + 1) L (vi (-x) :: S) mu) : AW K M w pc L (vi x :: S) mu := by
  obtain ⟨p, l, e, R, s, m, args, below, meth, c, G, Q⟩ := K
  obtain ⟨hx, hb, hml, hown, hts, hK, hlk, hgb, hRm, hw⟩ := C
  intro ls H locs hl hW hS
  refine lv_ineg hx hb hd ?_
  have h := k ls H locs hl hW hS
  rw [List.map_cons, show cv (gb G) (vi (-x)) = .int (Int32.ofInt (-x)) from rfl, Int32.ofInt_neg] at h
  exact h
theorem aw_lneg {K : KT} {M : MI} {w : Nat × Nat × Nat} {pc dd : Nat} {L S : List Vv} {mu : Mem} (C : CX K w M dd) {x : Int} (hd : decode M.2.1 pc = .ok (.lneg, 1)) (k : AW K M w (pc + 1) L (vl (-x) :: S) mu) : AW K M w pc L (vl x :: S) mu := by
  obtain ⟨p, l, e, R, s, m, args, below, meth, c, G, Q⟩ := K
  obtain ⟨hx, hb, hml, hown, hts, hK, hlk, hgb, hRm, hw⟩ := C
  intro ls H locs hl hW hS
  refine lv_lneg hx hb hd ?_
  have h := k ls H locs hl hW hS
  rw [List.map_cons, show cv (gb G) (vl (-x)) = .long (Int64.ofInt (-x)) from rfl, Int64.ofInt_neg] at h
  exact h
theorem aw_idiv {K : KT} {M : MI} {w : Nat × Nat × Nat} {pc dd : Nat} {L S : List Vv} {mu : Mem} (C : CX K w M dd) {x y : Int} (hd : decode M.2.1 pc = .ok (.idiv, 1)) (rx : R32 x) (ry : R32 y) (hne : y ≠ 0) (k : AW K M w (pc + 1) L (vi (x.tdiv y) :: S) mu) : AW K M w pc L (vi y :: vi x :: S) mu := by
  obtain ⟨p, l, e, R, s, m, args, below, meth, c, G, Q⟩ := K
  obtain ⟨hx, hb, hml, hown, hts, hK, hlk, hgb, hRm, hw⟩ := C
  intro ls H locs hl hW hS
  refine lv_idiv hx hb hd (fun h => hne ((i_eq ry (by unfold R32; omega)).mp h)) ?_
  have h := k ls H locs hl hW hS
  rw [List.map_cons, show cv (gb G) (vi (x.tdiv y)) = .int (Int32.ofInt (x.tdiv y)) from rfl, ← i_div rx ry] at h
  exact h
theorem aw_irem {K : KT} {M : MI} {w : Nat × Nat × Nat} {pc dd : Nat} {L S : List Vv} {mu : Mem} (C : CX K w M dd) {x y : Int} (hd : decode M.2.1 pc = .ok (.irem, 1)) (rx : R32 x) (ry : R32 y) (hne : y ≠ 0) (k : AW K M w (pc + 1) L (vi (x.tmod y) :: S) mu) : AW K M w pc L (vi y :: vi x :: S) mu := by
  obtain ⟨p, l, e, R, s, m, args, below, meth, c, G, Q⟩ := K
  obtain ⟨hx, hb, hml, hown, hts, hK, hlk, hgb, hRm, hw⟩ := C
  intro ls H locs hl hW hS
  refine lv_irem hx hb hd (fun h => hne ((i_eq ry (by unfold R32; omega)).mp h)) ?_
  have h := k ls H locs hl hW hS
  rw [List.map_cons, show cv (gb G) (vi (x.tmod y)) = .int (Int32.ofInt (x.tmod y)) from rfl, ← i_rem rx ry] at h
  exact h
theorem aw_ldiv {K : KT} {M : MI} {w : Nat × Nat × Nat} {pc dd : Nat} {L S : List Vv} {mu : Mem} (C : CX K w M dd) {x y : Int} (hd : decode M.2.1 pc = .ok (.ldiv, 1)) (rx : R64 x) (ry : R64 y) (hne : y ≠ 0) (k : AW K M w (pc + 1) L (vl (x.tdiv y) :: S) mu) : AW K M w pc L (vl y :: vl x :: S) mu := by
  obtain ⟨p, l, e, R, s, m, args, below, meth, c, G, Q⟩ := K
  obtain ⟨hx, hb, hml, hown, hts, hK, hlk, hgb, hRm, hw⟩ := C
  intro ls H locs hl hW hS
  refine lv_ldiv hx hb hd (fun h => hne ((l_eq ry (by unfold R64; omega)).mp h)) ?_
  have h := k ls H locs hl hW hS
  rw [List.map_cons, show cv (gb G) (vl (x.tdiv y)) = .long (Int64.ofInt (x.tdiv y)) from rfl, ← l_div rx ry] at h
  exact h
theorem aw_lrem {K : KT} {M : MI} {w : Nat × Nat × Nat} {pc dd : Nat} {L S : List Vv} {mu : Mem} (C : CX K w M dd) {x y : Int} (hd : decode M.2.1 pc = .ok (.lrem, 1)) (rx : R64 x) (ry : R64 y) (hne : y ≠ 0) (k : AW K M w (pc + 1) L (vl (x.tmod y) :: S) mu) : AW K M w pc L (vl y :: vl x :: S) mu := by
  obtain ⟨p, l, e, R, s, m, args, below, meth, c, G, Q⟩ := K
  obtain ⟨hx, hb, hml, hown, hts, hK, hlk, hgb, hRm, hw⟩ := C
  intro ls H locs hl hW hS
  refine lv_lrem hx hb hd (fun h => hne ((l_eq ry (by unfold R64; omega)).mp h)) ?_
  have h := k ls H locs hl hW hS
  rw [List.map_cons, show cv (gb G) (vl (x.tmod y)) = .long (Int64.ofInt (x.tmod y)) from rfl, ← l_rem rx ry] at h
  exact h
theorem aw_iand {K : KT} {M : MI} {w : Nat × Nat × Nat} {pc dd : Nat} {L S : List Vv} {mu : Mem} (C : CX K w M dd) {x y : Int} (hd : decode M.2.1 pc = .ok (.iand, 1)) (k : AW K M w (pc + 1) L (vi (Int32.ofInt x &&& Int32.ofInt y).toInt :: S) mu) : AW K M w pc L (vi y :: vi x :: S) mu := by
  obtain ⟨p, l, e, R, s, m, args, below, meth, c, G, Q⟩ := K
  obtain ⟨hx, hb, hml, hown, hts, hK, hlk, hgb, hRm, hw⟩ := C
  intro ls H locs hl hW hS
  refine lv_iand hx hb hd ?_
  have h := k ls H locs hl hW hS
  rw [List.map_cons, show cv (gb G) (vi (Int32.ofInt x &&& Int32.ofInt y).toInt) = .int (Int32.ofInt (Int32.ofInt x &&& Int32.ofInt y).toInt) from rfl, Int32.ofInt_toInt] at h
  exact h
theorem aw_ior {K : KT} {M : MI} {w : Nat × Nat × Nat} {pc dd : Nat} {L S : List Vv} {mu : Mem} (C : CX K w M dd) {x y : Int} (hd : decode M.2.1 pc = .ok (.ior, 1)) (k : AW K M w (pc + 1) L (vi (Int32.ofInt x ||| Int32.ofInt y).toInt :: S) mu) : AW K M w pc L (vi y :: vi x :: S) mu := by
  obtain ⟨p, l, e, R, s, m, args, below, meth, c, G, Q⟩ := K
  obtain ⟨hx, hb, hml, hown, hts, hK, hlk, hgb, hRm, hw⟩ := C
  intro ls H locs hl hW hS
  refine lv_ior hx hb hd ?_
  have h := k ls H locs hl hW hS
  rw [List.map_cons, show cv (gb G) (vi (Int32.ofInt x ||| Int32.ofInt y).toInt) = .int (Int32.ofInt (Int32.ofInt x ||| Int32.ofInt y).toInt) from rfl, Int32.ofInt_toInt] at h
  exact h
theorem aw_ishl {K : KT} {M : MI} {w : Nat × Nat × Nat} {pc dd : Nat} {L S : List Vv} {mu : Mem} (C : CX K w M dd) {x y : Int} (hd : decode M.2.1 pc = .ok (.ishl, 1)) (k : AW K M w (pc + 1) L (vi (Int32.ofInt x <<< (Int32.ofInt y &&& 31)).toInt :: S) mu) : AW K M w pc L (vi y :: vi x :: S) mu := by
  obtain ⟨p, l, e, R, s, m, args, below, meth, c, G, Q⟩ := K
  obtain ⟨hx, hb, hml, hown, hts, hK, hlk, hgb, hRm, hw⟩ := C
  intro ls H locs hl hW hS
  refine lv_ishl hx hb hd ?_
  have h := k ls H locs hl hW hS
  rw [List.map_cons, show cv (gb G) (vi (Int32.ofInt x <<< (Int32.ofInt y &&& 31)).toInt) = .int (Int32.ofInt (Int32.ofInt x <<< (Int32.ofInt y &&& 31)).toInt) from rfl, Int32.ofInt_toInt] at h
  exact h
theorem aw_ishr {K : KT} {M : MI} {w : Nat × Nat × Nat} {pc dd : Nat} {L S : List Vv} {mu : Mem} (C : CX K w M dd) {x y : Int} (hd : decode M.2.1 pc = .ok (.ishr, 1)) (k : AW K M w (pc + 1) L (vi (Int32.ofInt x >>> (Int32.ofInt y &&& 31)).toInt :: S) mu) : AW K M w pc L (vi y :: vi x :: S) mu := by
  obtain ⟨p, l, e, R, s, m, args, below, meth, c, G, Q⟩ := K
  obtain ⟨hx, hb, hml, hown, hts, hK, hlk, hgb, hRm, hw⟩ := C
  intro ls H locs hl hW hS
  refine lv_ishr hx hb hd ?_
  have h := k ls H locs hl hW hS
  rw [List.map_cons, show cv (gb G) (vi (Int32.ofInt x >>> (Int32.ofInt y &&& 31)).toInt) = .int (Int32.ofInt (Int32.ofInt x >>> (Int32.ofInt y &&& 31)).toInt) from rfl, Int32.ofInt_toInt] at h
  exact h
theorem aw_iushr {K : KT} {M : MI} {w : Nat × Nat × Nat} {pc dd : Nat} {L S : List Vv} {mu : Mem} (C : CX K w M dd) {x y : Int} (hd : decode M.2.1 pc = .ok (.iushr, 1)) (k : AW K M w (pc + 1) L (vi (((Int32.ofInt x).toUInt32 >>> ((Int32.ofInt y).toUInt32 &&& Int32.toUInt32 31)).toInt32).toInt :: S) mu) : AW K M w pc L (vi y :: vi x :: S) mu := by
  obtain ⟨p, l, e, R, s, m, args, below, meth, c, G, Q⟩ := K
  obtain ⟨hx, hb, hml, hown, hts, hK, hlk, hgb, hRm, hw⟩ := C
  intro ls H locs hl hW hS
  refine lv_iushr hx hb hd rfl ?_
  have h := k ls H locs hl hW hS
  rw [List.map_cons, show cv (gb G) (vi (((Int32.ofInt x).toUInt32 >>> ((Int32.ofInt y).toUInt32 &&& Int32.toUInt32 31)).toInt32).toInt) = .int (Int32.ofInt (((Int32.ofInt x).toUInt32 >>> ((Int32.ofInt y).toUInt32 &&& Int32.toUInt32 31)).toInt32).toInt) from rfl, Int32.ofInt_toInt] at h
  exact h
theorem aw_land {K : KT} {M : MI} {w : Nat × Nat × Nat} {pc dd : Nat} {L S : List Vv} {mu : Mem} (C : CX K w M dd) {x y : Int} (hd : decode M.2.1 pc = .ok (.land, 1)) (k : AW K M w (pc + 1) L (vl (Int64.ofInt x &&& Int64.ofInt y).toInt :: S) mu) : AW K M w pc L (vl y :: vl x :: S) mu := by
  obtain ⟨p, l, e, R, s, m, args, below, meth, c, G, Q⟩ := K
  obtain ⟨hx, hb, hml, hown, hts, hK, hlk, hgb, hRm, hw⟩ := C
  intro ls H locs hl hW hS
  refine lv_land hx hb hd ?_
  have h := k ls H locs hl hW hS
  rw [List.map_cons, show cv (gb G) (vl (Int64.ofInt x &&& Int64.ofInt y).toInt) = .long (Int64.ofInt (Int64.ofInt x &&& Int64.ofInt y).toInt) from rfl, Int64.ofInt_toInt] at h
  exact h
theorem aw_lor {K : KT} {M : MI} {w : Nat × Nat × Nat} {pc dd : Nat} {L S : List Vv} {mu : Mem} (C : CX K w M dd) {x y : Int} (hd : decode M.2.1 pc = .ok (.lor, 1)) (k : AW K M w (pc + 1) L (vl (Int64.ofInt x ||| Int64.ofInt y).toInt :: S) mu) : AW K M w pc L (vl y :: vl x :: S) mu := by
  obtain ⟨p, l, e, R, s, m, args, below, meth, c, G, Q⟩ := K
  obtain ⟨hx, hb, hml, hown, hts, hK, hlk, hgb, hRm, hw⟩ := C
  intro ls H locs hl hW hS
  refine lv_lor hx hb hd ?_
  have h := k ls H locs hl hW hS
  rw [List.map_cons, show cv (gb G) (vl (Int64.ofInt x ||| Int64.ofInt y).toInt) = .long (Int64.ofInt (Int64.ofInt x ||| Int64.ofInt y).toInt) from rfl, Int64.ofInt_toInt] at h
  exact h
theorem aw_lxor {K : KT} {M : MI} {w : Nat × Nat × Nat} {pc dd : Nat} {L S : List Vv} {mu : Mem} (C : CX K w M dd) {x y : Int} (hd : decode M.2.1 pc = .ok (.lxor, 1)) (k : AW K M w (pc + 1) L (vl (Int64.ofInt x ^^^ Int64.ofInt y).toInt :: S) mu) : AW K M w pc L (vl y :: vl x :: S) mu := by
  obtain ⟨p, l, e, R, s, m, args, below, meth, c, G, Q⟩ := K
  obtain ⟨hx, hb, hml, hown, hts, hK, hlk, hgb, hRm, hw⟩ := C
  intro ls H locs hl hW hS
  refine lv_lxor hx hb hd ?_
  have h := k ls H locs hl hW hS
  rw [List.map_cons, show cv (gb G) (vl (Int64.ofInt x ^^^ Int64.ofInt y).toInt) = .long (Int64.ofInt (Int64.ofInt x ^^^ Int64.ofInt y).toInt) from rfl, Int64.ofInt_toInt] at h
  exact h
theorem aw_lshl {K : KT} {M : MI} {w : Nat × Nat × Nat} {pc dd : Nat} {L S : List Vv} {mu : Mem} (C : CX K w M dd) {x y : Int} (hd : decode M.2.1 pc = .ok (.lshl, 1)) (k : AW K M w (pc + 1) L (vl (Int64.ofInt x <<< ((Int32.ofInt y).toInt64 &&& 63)).toInt :: S) mu) : AW K M w pc L (vi y :: vl x :: S) mu := by
  obtain ⟨p, l, e, R, s, m, args, below, meth, c, G, Q⟩ := K
  obtain ⟨hx, hb, hml, hown, hts, hK, hlk, hgb, hRm, hw⟩ := C
  intro ls H locs hl hW hS
  refine lv_lshl hx hb hd rfl ?_
  have h := k ls H locs hl hW hS
  rw [List.map_cons, show cv (gb G) (vl (Int64.ofInt x <<< ((Int32.ofInt y).toInt64 &&& 63)).toInt) = .long (Int64.ofInt (Int64.ofInt x <<< ((Int32.ofInt y).toInt64 &&& 63)).toInt) from rfl, Int64.ofInt_toInt] at h
  exact h
theorem aw_i2l {K : KT} {M : MI} {w : Nat × Nat × Nat} {pc dd : Nat} {L S : List Vv} {mu : Mem} (C : CX K w M dd) {x : Int} (hd : decode M.2.1 pc = .ok (.i2l, 1)) (rx : R32 x) (k : AW K M w (pc + 1) L (vl x :: S) mu) : AW K M w pc L (vi x :: S) mu := by
  obtain ⟨p, l, e, R, s, m, args, below, meth, c, G, Q⟩ := K
  obtain ⟨hx, hb, hml, hown, hts, hK, hlk, hgb, hRm, hw⟩ := C
  intro ls H locs hl hW hS
  exact lv_i2l hx hb hd (i_2l rx) (k ls H locs hl hW hS)
theorem aw_l2i {K : KT} {M : MI} {w : Nat × Nat × Nat} {pc dd : Nat} {L S : List Vv} {mu : Mem} (C : CX K w M dd) {x : Int} (hd : decode M.2.1 pc = .ok (.l2i, 1))  (k : AW K M w (pc + 1) L (vi x :: S) mu) : AW K M w pc L (vl x :: S) mu := by
  obtain ⟨p, l, e, R, s, m, args, below, meth, c, G, Q⟩ := K
  obtain ⟨hx, hb, hml, hown, hts, hK, hlk, hgb, hRm, hw⟩ := C
  intro ls H locs hl hW hS
  exact lv_l2i hx hb hd Int64.toInt32_ofInt (k ls H locs hl hW hS)
theorem aw_i2b {K : KT} {M : MI} {w : Nat × Nat × Nat} {pc dd : Nat} {L S : List Vv} {mu : Mem} (C : CX K w M dd) {x : Int} (hd : decode M.2.1 pc = .ok (.i2b, 1)) (k : AW K M w (pc + 1) L (vi ((Int32.ofInt x).toInt8.toInt32).toInt :: S) mu) : AW K M w pc L (vi x :: S) mu := by
  obtain ⟨p, l, e, R, s, m, args, below, meth, c, G, Q⟩ := K
  obtain ⟨hx, hb, hml, hown, hts, hK, hlk, hgb, hRm, hw⟩ := C
  intro ls H locs hl hW hS
  refine lv_i2b hx hb hd rfl ?_
  have h := k ls H locs hl hW hS
  rw [List.map_cons, show cv (gb G) (vi ((Int32.ofInt x).toInt8.toInt32).toInt) = .int (Int32.ofInt ((Int32.ofInt x).toInt8.toInt32).toInt) from rfl, Int32.ofInt_toInt] at h
  exact h
theorem aw_dup_i {K : KT} {M : MI} {w : Nat × Nat × Nat} {pc dd : Nat} {L S : List Vv} {mu : Mem} (C : CX K w M dd) {x : Int} (hd : decode M.2.1 pc = .ok (.dup, 1))  (k : AW K M w (pc + 1) L (vi x :: vi x :: S) mu) : AW K M w pc L (vi x :: S) mu := by
  obtain ⟨p, l, e, R, s, m, args, below, meth, c, G, Q⟩ := K
  obtain ⟨hx, hb, hml, hown, hts, hK, hlk, hgb, hRm, hw⟩ := C
  intro ls H locs hl hW hS
  exact lv_dup hx hb hd rfl (k ls H locs hl hW hS)
theorem aw_pop_i {K : KT} {M : MI} {w : Nat × Nat × Nat} {pc dd : Nat} {L S : List Vv} {mu : Mem} (C : CX K w M dd) {x : Int} (hd : decode M.2.1 pc = .ok (.pop, 1))  (k : AW K M w (pc + 1) L S mu) : AW K M w pc L (vi x :: S) mu := by
  obtain ⟨p, l, e, R, s, m, args, below, meth, c, G, Q⟩ := K
  obtain ⟨hx, hb, hml, hown, hts, hK, hlk, hgb, hRm, hw⟩ := C
  intro ls H locs hl hW hS
  exact lv_pop hx hb hd rfl (k ls H locs hl hW hS)
theorem aw_dup_a {K : KT} {M : MI} {w : Nat × Nat × Nat} {pc dd : Nat} {L S : List Vv} {mu : Mem} (C : CX K w M dd) {x : Nat} (hd : decode M.2.1 pc = .ok (.dup, 1))  (k : AW K M w (pc + 1) L (vr x :: vr x :: S) mu) : AW K M w pc L (vr x :: S) mu := by
  obtain ⟨p, l, e, R, s, m, args, below, meth, c, G, Q⟩ := K
  obtain ⟨hx, hb, hml, hown, hts, hK, hlk, hgb, hRm, hw⟩ := C
  intro ls H locs hl hW hS
  exact lv_dup hx hb hd rfl (k ls H locs hl hW hS)
theorem aw_pop_a {K : KT} {M : MI} {w : Nat × Nat × Nat} {pc dd : Nat} {L S : List Vv} {mu : Mem} (C : CX K w M dd) {x : Nat} (hd : decode M.2.1 pc = .ok (.pop, 1))  (k : AW K M w (pc + 1) L S mu) : AW K M w pc L (vr x :: S) mu := by
  obtain ⟨p, l, e, R, s, m, args, below, meth, c, G, Q⟩ := K
  obtain ⟨hx, hb, hml, hown, hts, hK, hlk, hgb, hRm, hw⟩ := C
  intro ls H locs hl hW hS
  exact lv_pop hx hb hd rfl (k ls H locs hl hW hS)
theorem aw_dup2_ai {K : KT} {M : MI} {w : Nat × Nat × Nat} {pc dd : Nat} {L S : List Vv} {mu : Mem} (C : CX K w M dd) {x : Int} {a : Nat} (hd : decode M.2.1 pc = .ok (.dup2, 1))  (k : AW K M w (pc + 1) L (vi x :: vr a :: vi x :: vr a :: S) mu) : AW K M w pc L (vi x :: vr a :: S) mu := by
  obtain ⟨p, l, e, R, s, m, args, below, meth, c, G, Q⟩ := K
  obtain ⟨hx, hb, hml, hown, hts, hK, hlk, hgb, hRm, hw⟩ := C
  intro ls H locs hl hW hS
  exact lv_dup2_11 hx hb hd rfl rfl (k ls H locs hl hW hS)
theorem aw_if_eq {K : KT} {M : MI} {w : Nat × Nat × Nat} {pc dd : Nat} {L S : List Vv} {mu : Mem} (C : CX K w M dd) {x off : Int} {tgt : Nat} (hd : decode M.2.1 pc = .ok (.ifCond .eq off, 3)) (ht : (pc : Int) + off = (tgt : Int)) (rx : R32 x) (kt : x = 0 → AW K M w tgt L S mu) (kf : x ≠ 0 → AW K M w (pc + 3) L S mu) : AW K M w pc L (vi x :: S) mu := by
  obtain ⟨p, l, e, R, s, m, args, below, meth, c, G, Q⟩ := K
  obtain ⟨hx, hb, hml, hown, hts, hK, hlk, hgb, hRm, hw⟩ := C
  intro ls H locs hl hW hS
  exact lv_if_eq hx hb hd ht (fun h => kt (by rw [← i_0] at h; exact (i_eq rx r32_0).mp h) ls H locs hl hW hS) (fun h => kf (by rw [← i_0] at h; exact fun z => h ((i_eq rx r32_0).mpr z)) ls H locs hl hW hS)
theorem aw_icmp_eq {K : KT} {M : MI} {w : Nat × Nat × Nat} {pc dd : Nat} {L S : List Vv} {mu : Mem} (C : CX K w M dd) {x y off : Int} {tgt : Nat} (hd : decode M.2.1 pc = .ok (.if_icmp .eq off, 3)) (ht : (pc : Int) + off = (tgt : Int)) (rx : R32 x) (ry : R32 y) (kt : x = y → AW K M w tgt L S mu) (kf : x ≠ y → AW K M w (pc + 3) L S mu) : AW K M w pc L (vi y :: vi x :: S) mu := by
  obtain ⟨p, l, e, R, s, m, args, below, meth, c, G, Q⟩ := K
  obtain ⟨hx, hb, hml, hown, hts, hK, hlk, hgb, hRm, hw⟩ := C
  intro ls H locs hl hW hS
  exact lv_icmp_eq hx hb hd ht (fun h => kt ((i_eq rx ry).mp h) ls H locs hl hW hS) (fun h => kf (fun z => h ((i_eq rx ry).mpr z)) ls H locs hl hW hS)
theorem aw_lcmp_eq {K : KT} {M : MI} {w : Nat × Nat × Nat} {pc dd : Nat} {L S : List Vv} {mu : Mem} (C : CX K w M dd) {x y off : Int} {tgt : Nat} (hd : decode M.2.1 pc = .ok (.lcmp, 1)) (hd2 : decode M.2.1 (pc + 1) = .ok (.ifCond .eq off, 3)) (ht : ((pc + 1 : Nat) : Int) + off = (tgt : Int)) (rx : R64 x) (ry : R64 y) (kt : x = y → AW K M w tgt L S mu) (kf : x ≠ y → AW K M w (pc + 4) L S mu) : AW K M w pc L (vl y :: vl x :: S) mu := by
  obtain ⟨p, l, e, R, s, m, args, below, meth, c, G, Q⟩ := K
  obtain ⟨hx, hb, hml, hown, hts, hK, hlk, hgb, hRm, hw⟩ := C
  intro ls H locs hl hW hS
  refine W.lcmp hx hb hd ?_
  exact lv_if_eq hx hb hd2 ht (fun h => kt ((lcmp_eq rx ry).mp h) ls H locs hl hW hS) (fun h => kf (by have h2 : ¬ (x = y) := fun z => h ((lcmp_eq rx ry).mpr z); omega) ls H locs hl hW hS)
theorem aw_if_ne {K : KT} {M : MI} {w : Nat × Nat × Nat} {pc dd : Nat} {L S : List Vv} {mu : Mem} (C : CX K w M dd) {x off : Int} {tgt : Nat} (hd : decode M.2.1 pc = .ok (.ifCond .ne off, 3)) (ht : (pc : Int) + off = (tgt : Int)) (rx : R32 x) (kt : x ≠ 0 → AW K M w tgt L S mu) (kf : x = 0 → AW K M w (pc + 3) L S mu) : AW K M w pc L (vi x :: S) mu := by
  obtain ⟨p, l, e, R, s, m, args, below, meth, c, G, Q⟩ := K
  obtain ⟨hx, hb, hml, hown, hts, hK, hlk, hgb, hRm, hw⟩ := C
  intro ls H locs hl hW hS
  exact lv_if_ne hx hb hd ht (fun h => kt (by rw [← i_0] at h; exact fun z => h ((i_eq rx r32_0).mpr z)) ls H locs hl hW hS) (fun h => kf (by rw [← i_0] at h; exact (i_eq rx r32_0).mp h) ls H locs hl hW hS)
theorem aw_icmp_ne {K : KT} {M : MI} {w : Nat × Nat × Nat} {pc dd : Nat} {L S : List Vv} {mu : Mem} (C : CX K w M dd) {x y off : Int} {tgt : Nat} (hd : decode M.2.1 pc = .ok (.if_icmp .ne off, 3)) (ht : (pc : Int) + off = (tgt : Int)) (rx : R32 x) (ry : R32 y) (kt : x ≠ y → AW K M w tgt L S mu) (kf : x = y → AW K M w (pc + 3) L S mu) : AW K M w pc L (vi y :: vi x :: S) mu := by
  obtain ⟨p, l, e, R, s, m, args, below, meth, c, G, Q⟩ := K
  obtain ⟨hx, hb, hml, hown, hts, hK, hlk, hgb, hRm, hw⟩ := C
  intro ls H locs hl hW hS
  exact lv_icmp_ne hx hb hd ht (fun h => kt (fun z => h ((i_eq rx ry).mpr z)) ls H locs hl hW hS) (fun h => kf ((i_eq rx ry).mp h) ls H locs hl hW hS)
theorem aw_lcmp_ne {K : KT} {M : MI} {w : Nat × Nat × Nat} {pc dd : Nat} {L S : List Vv} {mu : Mem} (C : CX K w M dd) {x y off : Int} {tgt : Nat} (hd : decode M.2.1 pc = .ok (.lcmp, 1)) (hd2 : decode M.2.1 (pc + 1) = .ok (.ifCond .ne off, 3)) (ht : ((pc + 1 : Nat) : Int) + off = (tgt : Int)) (rx : R64 x) (ry : R64 y) (kt : x ≠ y → AW K M w tgt L S mu) (kf : x = y → AW K M w (pc + 4) L S mu) : AW K M w pc L (vl y :: vl x :: S) mu := by
  obtain ⟨p, l, e, R, s, m, args, below, meth, c, G, Q⟩ := K
  obtain ⟨hx, hb, hml, hown, hts, hK, hlk, hgb, hRm, hw⟩ := C
  intro ls H locs hl hW hS
  refine W.lcmp hx hb hd ?_
  exact lv_if_ne hx hb hd2 ht (fun h => kt ((lcmp_ne rx ry).mp h) ls H locs hl hW hS) (fun h => kf ((lcmp_eq rx ry).mp h) ls H locs hl hW hS)
theorem aw_if_lt {K : KT} {M : MI} {w : Nat × Nat × Nat} {pc dd : Nat} {L S : List Vv} {mu : Mem} (C : CX K w M dd) {x off : Int} {tgt : Nat} (hd : decode M.2.1 pc = .ok (.ifCond .lt off, 3)) (ht : (pc : Int) + off = (tgt : Int)) (rx : R32 x) (kt : x < 0 → AW K M w tgt L S mu) (kf : x ≥ 0 → AW K M w (pc + 3) L S mu) : AW K M w pc L (vi x :: S) mu := by
  obtain ⟨p, l, e, R, s, m, args, below, meth, c, G, Q⟩ := K
  obtain ⟨hx, hb, hml, hown, hts, hK, hlk, hgb, hRm, hw⟩ := C
  intro ls H locs hl hW hS
  exact lv_if_lt hx hb hd ht (fun h => kt (by rw [← i_0] at h; exact (i_lt rx r32_0).mp h) ls H locs hl hW hS) (fun h => kf (by rw [← i_0] at h; exact Int.not_lt.mp (fun z => h ((i_lt rx r32_0).mpr z))) ls H locs hl hW hS)
theorem aw_icmp_lt {K : KT} {M : MI} {w : Nat × Nat × Nat} {pc dd : Nat} {L S : List Vv} {mu : Mem} (C : CX K w M dd) {x y off : Int} {tgt : Nat} (hd : decode M.2.1 pc = .ok (.if_icmp .lt off, 3)) (ht : (pc : Int) + off = (tgt : Int)) (rx : R32 x) (ry : R32 y) (kt : x < y → AW K M w tgt L S mu) (kf : x ≥ y → AW K M w (pc + 3) L S mu) : AW K M w pc L (vi y :: vi x :: S) mu := by
  obtain ⟨p, l, e, R, s, m, args, below, meth, c, G, Q⟩ := K
  obtain ⟨hx, hb, hml, hown, hts, hK, hlk, hgb, hRm, hw⟩ := C
  intro ls H locs hl hW hS
  exact lv_icmp_lt hx hb hd ht (fun h => kt ((i_lt rx ry).mp h) ls H locs hl hW hS) (fun h => kf (Int.not_lt.mp (fun z => h ((i_lt rx ry).mpr z))) ls H locs hl hW hS)
theorem aw_lcmp_lt {K : KT} {M : MI} {w : Nat × Nat × Nat} {pc dd : Nat} {L S : List Vv} {mu : Mem} (C : CX K w M dd) {x y off : Int} {tgt : Nat} (hd : decode M.2.1 pc = .ok (.lcmp, 1)) (hd2 : decode M.2.1 (pc + 1) = .ok (.ifCond .lt off, 3)) (ht : ((pc + 1 : Nat) : Int) + off = (tgt : Int)) (rx : R64 x) (ry : R64 y) (kt : x < y → AW K M w tgt L S mu) (kf : x ≥ y → AW K M w (pc + 4) L S mu) : AW K M w pc L (vl y :: vl x :: S) mu := by
  obtain ⟨p, l, e, R, s, m, args, below, meth, c, G, Q⟩ := K
  obtain ⟨hx, hb, hml, hown, hts, hK, hlk, hgb, hRm, hw⟩ := C
  intro ls H locs hl hW hS
  refine W.lcmp hx hb hd ?_
  exact lv_if_lt hx hb hd2 ht (fun h => kt ((lcmp_lt rx ry).mp h) ls H locs hl hW hS) (fun h => kf (by have h2 : ¬ (x < y) := fun z => h ((lcmp_lt rx ry).mpr z); omega) ls H locs hl hW hS)
theorem aw_if_ge {K : KT} {M : MI} {w : Nat × Nat × Nat} {pc dd : Nat} {L S : List Vv} {mu : Mem} (C : CX K w M dd) {x off : Int} {tgt : Nat} (hd : decode M.2.1 pc = .ok (.ifCond .ge off, 3)) (ht : (pc : Int) + off = (tgt : Int)) (rx : R32 x) (kt : x ≥ 0 → AW K M w tgt L S mu) (kf : x < 0 → AW K M w (pc + 3) L S mu) : AW K M w pc L (vi x :: S) mu := by
  obtain ⟨p, l, e, R, s, m, args, below, meth, c, G, Q⟩ := K
  obtain ⟨hx, hb, hml, hown, hts, hK, hlk, hgb, hRm, hw⟩ := C
  intro ls H locs hl hW hS
  exact lv_if_ge hx hb hd ht (fun h => kt (by rw [← i_0] at h; exact (i_le r32_0 rx).mp h) ls H locs hl hW hS) (fun h => kf (by rw [← i_0] at h; exact Int.not_le.mp (fun z => h ((i_le r32_0 rx).mpr z))) ls H locs hl hW hS)
theorem aw_icmp_ge {K : KT} {M : MI} {w : Nat × Nat × Nat} {pc dd : Nat} {L S : List Vv} {mu : Mem} (C : CX K w M dd) {x y off : Int} {tgt : Nat} (hd : decode M.2.1 pc = .ok (.if_icmp .ge off, 3)) (ht : (pc : Int) + off = (tgt : Int)) (rx : R32 x) (ry : R32 y) (kt : x ≥ y → AW K M w tgt L S mu) (kf : x < y → AW K M w (pc + 3) L S mu) : AW K M w pc L (vi y :: vi x :: S) mu := by
  obtain ⟨p, l, e, R, s, m, args, below, meth, c, G, Q⟩ := K
  obtain ⟨hx, hb, hml, hown, hts, hK, hlk, hgb, hRm, hw⟩ := C
  intro ls H locs hl hW hS
  exact lv_icmp_ge hx hb hd ht (fun h => kt ((i_le ry rx).mp h) ls H locs hl hW hS) (fun h => kf (Int.not_le.mp (fun z => h ((i_le ry rx).mpr z))) ls H locs hl hW hS)
theorem aw_lcmp_ge {K : KT} {M : MI} {w : Nat × Nat × Nat} {pc dd : Nat} {L S : List Vv} {mu : Mem} (C : CX K w M dd) {x y off : Int} {tgt : Nat} (hd : decode M.2.1 pc = .ok (.lcmp, 1)) (hd2 : decode M.2.1 (pc + 1) = .ok (.ifCond .ge off, 3)) (ht : ((pc + 1 : Nat) : Int) + off = (tgt : Int)) (rx : R64 x) (ry : R64 y) (kt : x ≥ y → AW K M w tgt L S mu) (kf : x < y → AW K M w (pc + 4) L S mu) : AW K M w pc L (vl y :: vl x :: S) mu := by
  obtain ⟨p, l, e, R, s, m, args, below, meth, c, G, Q⟩ := K
  obtain ⟨hx, hb, hml, hown, hts, hK, hlk, hgb, hRm, hw⟩ := C
  intro ls H locs hl hW hS
  refine W.lcmp hx hb hd ?_
  exact lv_if_ge hx hb hd2 ht (fun h => kt ((lcmp_ge rx ry).mp h) ls H locs hl hW hS) (fun h => kf (by have h2 : ¬ (x ≥ y) := fun z => h ((lcmp_ge rx ry).mpr z); omega) ls H locs hl hW hS)
theorem aw_if_gt {K : KT} {M : MI} {w : Nat × Nat × Nat} {pc dd : Nat} {L S : List Vv} {mu : Mem} (C : CX K w M dd) {x off : Int} {tgt : Nat} (hd : decode M.2.1 pc = .ok (.ifCond .gt off, 3)) (ht : (pc : Int) + off = (tgt : Int)) (rx : R32 x) (kt : x > 0 → AW K M w tgt L S mu) (kf : x ≤ 0 → AW K M w (pc + 3) L S mu) : AW K M w pc L (vi x :: S) mu := by
  obtain ⟨p, l, e, R, s, m, args, below, meth, c, G, Q⟩ := K
  obtain ⟨hx, hb, hml, hown, hts, hK, hlk, hgb, hRm, hw⟩ := C
  intro ls H locs hl hW hS
  exact lv_if_gt hx hb hd ht (fun h => kt (by rw [← i_0] at h; exact (i_lt r32_0 rx).mp h) ls H locs hl hW hS) (fun h => kf (by rw [← i_0] at h; exact Int.not_lt.mp (fun z => h ((i_lt r32_0 rx).mpr z))) ls H locs hl hW hS)
theorem aw_icmp_gt {K : KT} {M : MI} {w : Nat × Nat × Nat} {pc dd : Nat} {L S : List Vv} {mu : Mem} (C : CX K w M dd) {x y off : Int} {tgt : Nat} (hd : decode M.2.1 pc = .ok (.if_icmp .gt off, 3)) (ht : (pc : Int) + off = (tgt : Int)) (rx : R32 x) (ry : R32 y) (kt : x > y → AW K M w tgt L S mu) (kf : x ≤ y → AW K M w (pc + 3) L S mu) : AW K M w pc L (vi y :: vi x :: S) mu := by
  obtain ⟨p, l, e, R, s, m, args, below, meth, c, G, Q⟩ := K
  obtain ⟨hx, hb, hml, hown, hts, hK, hlk, hgb, hRm, hw⟩ := C
  intro ls H locs hl hW hS
  exact lv_icmp_gt hx hb hd ht (fun h => kt ((i_lt ry rx).mp h) ls H locs hl hW hS) (fun h => kf (Int.not_lt.mp (fun z => h ((i_lt ry rx).mpr z))) ls H locs hl hW hS)
theorem aw_lcmp_gt {K : KT} {M : MI} {w : Nat × Nat × Nat} {pc dd : Nat} {L S : List Vv} {mu : Mem} (C : CX K w M dd) {x y off : Int} {tgt : Nat} (hd : decode M.2.1 pc = .ok (.lcmp, 1)) (hd2 : decode M.2.1 (pc + 1) = .ok (.ifCond .gt off, 3)) (ht : ((pc + 1 : Nat) : Int) + off = (tgt : Int)) (rx : R64 x) (ry : R64 y) (kt : x > y → AW K M w tgt L S mu) (kf : x ≤ y → AW K M w (pc + 4) L S mu) : AW K M w pc L (vl y :: vl x :: S) mu := by
  obtain ⟨p, l, e, R, s, m, args, below, meth, c, G, Q⟩ := K
  obtain ⟨hx, hb, hml, hown, hts, hK, hlk, hgb, hRm, hw⟩ := C
  intro ls H locs hl hW hS
  refine W.lcmp hx hb hd ?_
  exact lv_if_gt hx hb hd2 ht (fun h => kt ((lcmp_gt rx ry).mp h) ls H locs hl hW hS) (fun h => kf (by have h2 : ¬ (x > y) := fun z => h ((lcmp_gt rx ry).mpr z); omega) ls H locs hl hW hS)
theorem aw_if_le {K : KT} {M : MI} {w : Nat × Nat × Nat} {pc dd : Nat} {L S : List Vv} {mu : Mem} (C : CX K w M dd) {x off : Int} {tgt : Nat} (hd : decode M.2.1 pc = .ok (.ifCond .le off, 3)) (ht : (pc : Int) + off = (tgt : Int)) (rx : R32 x) (kt : x ≤ 0 → AW K M w tgt L S mu) (kf : x > 0 → AW K M w (pc + 3) L S mu) : AW K M w pc L (vi x :: S) mu := by
  obtain ⟨p, l, e, R, s, m, args, below, meth, c, G, Q⟩ := K
  obtain ⟨hx, hb, hml, hown, hts, hK, hlk, hgb, hRm, hw⟩ := C
  intro ls H locs hl hW hS
  exact lv_if_le hx hb hd ht (fun h => kt (by rw [← i_0] at h; exact (i_le rx r32_0).mp h) ls H locs hl hW hS) (fun h => kf (by rw [← i_0] at h; exact Int.not_le.mp (fun z => h ((i_le rx r32_0).mpr z))) ls H locs hl hW hS)
theorem aw_icmp_le {K : KT} {M : MI} {w : Nat × Nat × Nat} {pc dd : Nat} {L S : List Vv} {mu : Mem} (C : CX K w M dd) {x y off : Int} {tgt : Nat} (hd : decode M.2.1 pc = .ok (.if_icmp .le off, 3)) (ht : (pc : Int) + off = (tgt : Int)) (rx : R32 x) (ry : R32 y) (kt : x ≤ y → AW K M w tgt L S mu) (kf : x > y → AW K M w (pc + 3) L S mu) : AW K M w pc L (vi y :: vi x :: S) mu := by
  obtain ⟨p, l, e, R, s, m, args, below, meth, c, G, Q⟩ := K
  obtain ⟨hx, hb, hml, hown, hts, hK, hlk, hgb, hRm, hw⟩ := C
  intro ls H locs hl hW hS
  exact lv_icmp_le hx hb hd ht (fun h => kt ((i_le rx ry).mp h) ls H locs hl hW hS) (fun h => kf (Int.not_le.mp (fun z => h ((i_le rx ry).mpr z))) ls H locs hl hW hS)
theorem aw_lcmp_le {K : KT} {M : MI} {w : Nat × Nat × Nat} {pc dd : Nat} {L S : List Vv} {mu : Mem} (C : CX K w M dd) {x y off : Int} {tgt : Nat} (hd : decode M.2.1 pc = .ok (.lcmp, 1)) (hd2 : decode M.2.1 (pc + 1) = .ok (.ifCond .le off, 3)) (ht : ((pc + 1 : Nat) : Int) + off = (tgt : Int)) (rx : R64 x) (ry : R64 y) (kt : x ≤ y → AW K M w tgt L S mu) (kf : x > y → AW K M w (pc + 4) L S mu) : AW K M w pc L (vl y :: vl x :: S) mu := by
  obtain ⟨p, l, e, R, s, m, args, below, meth, c, G, Q⟩ := K
  obtain ⟨hx, hb, hml, hown, hts, hK, hlk, hgb, hRm, hw⟩ := C
  intro ls H locs hl hW hS
  refine W.lcmp hx hb hd ?_
  exact lv_if_le hx hb hd2 ht (fun h => kt ((lcmp_le rx ry).mp h) ls H locs hl hW hS) (fun h => kf (by have h2 : ¬ (x ≤ y) := fun z => h ((lcmp_le rx ry).mpr z); omega) ls H locs hl hW hS)
theorem aw_goto {K : KT} {M : MI} {w : Nat × Nat × Nat} {pc dd : Nat} {L S : List Vv} {mu : Mem} (C : CX K w M dd) {off : Int} {tgt : Nat} (hd : decode M.2.1 pc = .ok (.goto off, 3)) (ht : (pc : Int) + off = (tgt : Int)) (k : AW K M w tgt L S mu) : AW K M w pc L S mu := by
  obtain ⟨p, l, e, R, s, m, args, below, meth, c, G, Q⟩ := K
  obtain ⟨hx, hb, hml, hown, hts, hK, hlk, hgb, hRm, hw⟩ := C
  intro ls H locs hl hW hS
  exact lv_goto hx hb hd ht (k ls H locs hl hW hS)
theorem aw_tableOut {K : KT} {M : MI} {w : Nat × Nat × Nat} {pc dd : Nat} {L S : List Vv} {mu : Mem} (C : CX K w M dd) {x dflt lo hi : Int} {offs : Array Int} {len tgt : Nat} (hd : decode M.2.1 pc = .ok (.tableswitch dflt lo hi offs, len)) (rx : R32 x) (h : x < lo ∨ hi < x) (ht : (pc : Int) + dflt = (tgt : Int)) (k : AW K M w tgt L S mu) : AW K M w pc L (vi x :: S) mu := by
  obtain ⟨p, l, e, R, s, m, args, below, meth, c, G, Q⟩ := K
  obtain ⟨hx, hb, hml, hown, hts, hK, hlk, hgb, hRm, hw⟩ := C
  intro ls H locs hl hW hS
  exact lv_tableOut hx hb hd (by rw [r32 rx]; exact h) ht (k ls H locs hl hW hS)
theorem aw_tableIn {K : KT} {M : MI} {w : Nat × Nat × Nat} {pc dd : Nat} {L S : List Vv} {mu : Mem} (C : CX K w M dd) {x dflt lo hi off : Int} {offs : Array Int} {len tgt : Nat} (hd : decode M.2.1 pc = .ok (.tableswitch dflt lo hi offs, len)) (rx : R32 x) (h1 : lo ≤ x) (h2 : x ≤ hi) (ho : offs[(x - lo).toNat]? = some off) (ht : (pc : Int) + off = (tgt : Int)) (k : AW K M w tgt L S mu) : AW K M w pc L (vi x :: S) mu := by
  obtain ⟨p, l, e, R, s, m, args, below, meth, c, G, Q⟩ := K
  obtain ⟨hx, hb, hml, hown, hts, hK, hlk, hgb, hRm, hw⟩ := C
  intro ls H locs hl hW hS
  exact lv_tableIn hx hb hd (by rw [r32 rx]; omega) (by rw [r32 rx]; omega) (by rw [r32 rx]; exact ho) ht (k ls H locs hl hW hS)

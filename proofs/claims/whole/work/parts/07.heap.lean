theorem cls_n {ci N : Nat} {C : String} {T : u_T} (h : vwCl[ci]? = some (C, T, N)) : ci < 6 ∧ N = nfc ci := by
  have hl : ci < 6 := (List.getElem?_eq_some_iff.mp h).1
  refine ⟨hl, ?_⟩
  match ci, hl, h with
  | 0, _, h => cases h; rfl
  | 1, _, h => cases h; rfl
  | 2, _, h => cases h; rfl
  | 3, _, h => cases h; rfl
  | 4, _, h => cases h; rfl
  | 5, _, h => cases h; rfl
theorem srl_ok : ∀ q ∈ srl, (shp q.1).1 < 10 ∧ ftag (shp q.1).1 q.2.1 = 2 := by decide
theorem shp_fan : ∀ t, t < 10 → shp (15 + 4 * t) = (1, 0) ∧ shp (15 + 4 * t + 1) = (10, 24) ∧ shp (15 + 4 * t + 2) = (10, 24) ∧ shp (15 + 4 * t + 3) = (10, 144) := by decide
theorem isF.lt {f : Nat} (h : isF f) : f + 3 < NC := by obtain ⟨t, h1, rfl⟩ := h; unfold NC; omega
theorem isF.s0 {f : Nat} (h : isF f) : Sh NC f 1 0 := by have := h.lt; obtain ⟨t, h1, rfl⟩ := h; exact ⟨(shp_fan t h1).1, by omega⟩
theorem isF.s1 {f : Nat} (h : isF f) : Sh NC (f + 1) 10 24 := by have := h.lt; obtain ⟨t, h1, rfl⟩ := h; exact ⟨(shp_fan t h1).2.1, by omega⟩
theorem isF.s2 {f : Nat} (h : isF f) : Sh NC (f + 2) 10 24 := by have := h.lt; obtain ⟨t, h1, rfl⟩ := h; exact ⟨(shp_fan t h1).2.2.1, by omega⟩
theorem isF.s3 {f : Nat} (h : isF f) : Sh NC (f + 3) 10 144 := by have := h.lt; obtain ⟨t, h1, rfl⟩ := h; exact ⟨(shp_fan t h1).2.2.2, by omega⟩
def SRf (k j r : Nat) : Prop := ∀ mu, GI mu → mu k j = (r : Int)
theorem srf (k j r : Nat) (h : (k, j, r) ∈ srl) : SRf k j r := fun mu g => g.1 _ h
theorem isF.x {f : Nat} (h : isF f) : SRf f 2 (f + 1) := by obtain ⟨t, h1, rfl⟩ := h; exact fun mu g => (g.2.1 t h1).1
theorem isF.y {f : Nat} (h : isF f) : SRf f 3 (f + 2) := by obtain ⟨t, h1, rfl⟩ := h; exact fun mu g => (g.2.1 t h1).2.1
theorem isF.n {f : Nat} (h : isF f) : SRf f 4 (f + 3) := by obtain ⟨t, h1, rfl⟩ := h; exact fun mu g => (g.2.1 t h1).2.2
theorem GI.w {mu : Mem} (g : GI mu) {k j ci len : Nat} {v : Int} (hs : shp k = (ci, len)) (h1 : ci < 10 → ftag ci j ≠ 2) (h2 : ci ≠ 13) : GI (wr mu k j v) := by
  have key : ∀ a b, (shp a).1 < 10 → ftag (shp a).1 b = 2 → wr mu k j v a b = mu a b := by
    intro a b q1 q2
    show wr mu k j v a b = mu a b
    rw [wr_at, if_neg]
    rintro ⟨rfl, rfl⟩
    rw [hs] at q1 q2
    exact h1 q1 q2
  obtain ⟨g1, g2, g3, g4, g5⟩ := g
  refine ⟨fun q hq => ?_, fun t ht => ?_, ?_, ?_, fun i hi => ?_⟩
  · have := srl_ok q hq
    rw [key _ _ this.1 this.2]
    exact g1 q hq
  · have e := (shp_fan t ht).1
    have q1 : (shp (15 + 4 * t)).1 < 10 := by rw [e]; decide
    rw [key _ 2 q1 (by rw [e]; rfl), key _ 3 q1 (by rw [e]; rfl), key _ 4 q1 (by rw [e]; rfl)]
    exact g2 t ht
  · rw [key 0 5 (by decide) (by decide)]; exact g3
  · rw [key 0 6 (by decide) (by decide)]; exact g4
  · have : wr mu k j v 14 i = mu 14 i := by
      rw [wr_at, if_neg]
      rintro ⟨rfl, rfl⟩
      have e : shp 14 = (13, 8) := rfl
      rw [e] at hs
      cases hs
      exact h2 rfl
    rw [this]
    exact g5 i hi
/-- a reference to a fan put where one may stand -/
theorem GI.wN {mu : Mem} (g : GI mu) {f : Nat} (hf : isF f) (j : Nat) (hj : j = 5 ∨ j = 6) : GI (wr mu 0 j (f : Int)) := by
  obtain ⟨g1, g2, g3, g4, g5⟩ := g
  refine ⟨fun q hq => ?_, fun t ht => ?_, ?_, ?_, fun i hi => ?_⟩
  · rw [wr_at, if_neg]
    · exact g1 q hq
    · have h : ∀ q ∈ srl, ¬ (q.1 = 0 ∧ (q.2.1 = 5 ∨ q.2.1 = 6)) := by decide
      rintro ⟨e1, e2⟩
      exact h q hq ⟨e1, by omega⟩
  · rw [wr_at, if_neg (by omega), wr_at, if_neg (by omega), wr_at, if_neg (by omega)]
    exact g2 t ht
  · rw [wr_at]; split
    · exact ⟨f, hf, rfl⟩
    · exact g3
  · rw [wr_at]; split
    · exact ⟨f, hf, rfl⟩
    · exact g4
  · rw [wr_at, if_neg (by omega)]; exact g5 i hi
theorem GI.wP {mu : Mem} (g : GI mu) {f : Nat} (hf : isF f) (j : Nat) : GI (wr mu 14 j (f : Int)) := by
  obtain ⟨g1, g2, g3, g4, g5⟩ := g
  refine ⟨fun q hq => ?_, fun t ht => ?_, ?_, ?_, fun i hi => ?_⟩
  · rw [wr_at, if_neg]
    · exact g1 q hq
    · have h : ∀ q ∈ srl, ¬ (q.1 = 14) := by decide
      rintro ⟨e1, e2⟩
      exact h q hq e1
  · rw [wr_at, if_neg (by omega), wr_at, if_neg (by omega), wr_at, if_neg (by omega)]
    exact g2 t ht
  · rw [wr_at, if_neg (by omega)]; exact g3
  · rw [wr_at, if_neg (by omega)]; exact g4
  · rw [wr_at]; split
    · exact ⟨f, hf, rfl⟩
    · exact g5 i hi
section Fields
variable {K : KT} {M : MI} {w : Nat × Nat × Nat} {pc dd : Nat} {L S : List Vv} {mu : Mem}
theorem aw_getV (C : CX K w M dd) {i ci j N k : Nat} {Cn : String} {T : u_T} {ty : Nat → FieldType} {v : Vv} (hd : decode M.2.1 pc = .ok (.getfield i, 3)) (hf : FL M.1.cls i ci Cn T N ty j) (hs : Sh w.1 k ci 0) (hv : ∀ b, fcv b (ftag ci j) (mu k j) = cv b v) (kk : AW K M w (pc + 3) L (v :: S) mu) : AW K M w pc L (vr k :: S) mu := by
  obtain ⟨p, l, e, R, s, m, args, below, meth, c, G, Q⟩ := K
  obtain ⟨hx, hb, hml, hown, hts, hK, hlk, hgb, hRm, hw⟩ := C
  intro ls H locs hl hW hS
  obtain ⟨⟨hc, hin, -, -⟩, hj, hlk⟩ := hf
  obtain ⟨hci, hN⟩ := cls_n hc
  have he := wl_at (G := G) (mu := mu) hs.2
  rw [hs.1, ent_o G (by omega)] at he
  refine va_get (D := (G.1, G.2.1)) hx hb hts hin hown hK hW.1 k he hc j hj (hts _ hlk) (fun _ h => h) (rm_get (by rw [← hN]; exact hj) _) hd ?_
  rw [hv]
  exact kk ls H locs hl hW hS
theorem aw_getI (C : CX K w M dd) {i ci j N k : Nat} {Cn : String} {T : u_T} {ty : Nat → FieldType} (hd : decode M.2.1 pc = .ok (.getfield i, 3)) (hf : FL M.1.cls i ci Cn T N ty j) (hs : Sh w.1 k ci 0) (ht : ftag ci j = 0) (kk : AW K M w (pc + 3) L (vi (mu k j) :: S) mu) : AW K M w pc L (vr k :: S) mu :=
  aw_getV C hd hf hs (fun b => by rw [ht]; rfl) kk
theorem aw_getL (C : CX K w M dd) {i ci j N k : Nat} {Cn : String} {T : u_T} {ty : Nat → FieldType} (hd : decode M.2.1 pc = .ok (.getfield i, 3)) (hf : FL M.1.cls i ci Cn T N ty j) (hs : Sh w.1 k ci 0) (ht : ftag ci j = 1) (kk : AW K M w (pc + 3) L (vl (mu k j) :: S) mu) : AW K M w pc L (vr k :: S) mu :=
  aw_getV C hd hf hs (fun b => by rw [ht]; rfl) kk
theorem cvr_nat (b r : Nat) : cvr b (r : Int) = .ref (b + r) := by
  unfold cvr rfo
  rw [if_neg (by omega)]
  rfl
theorem aw_getR (C : CX K w M dd) {i ci j N k r : Nat} {Cn : String} {T : u_T} {ty : Nat → FieldType} (hd : decode M.2.1 pc = .ok (.getfield i, 3)) (hf : FL M.1.cls i ci Cn T N ty j) (hs : Sh w.1 k ci 0) (ht : ftag ci j = 2) (hr : mu k j = (r : Int)) (kk : AW K M w (pc + 3) L (vr r :: S) mu) : AW K M w pc L (vr k :: S) mu :=
  aw_getV C hd hf hs (fun b => by rw [ht, hr]; exact cvr_nat b r) kk
theorem aw_gi (hn : w.1 = NC) (kk : GI mu → AW K M w pc L S mu) : AW K M w pc L S mu := by
  obtain ⟨p, l, e, R, s, m, args, below, meth, c, G, Q⟩ := K
  intro ls H locs hl hW hS
  exact kk (hW.2 hn) ls H locs hl hW hS
theorem aw_getS (C : CX K w M dd) {i ci j N k r : Nat} {Cn : String} {T : u_T} {ty : Nat → FieldType} (hd : decode M.2.1 pc = .ok (.getfield i, 3)) (hf : FL M.1.cls i ci Cn T N ty j) (hs : Sh w.1 k ci 0) (ht : ftag ci j = 2) (hn : w.1 = NC) (hr : SRf k j r) (kk : AW K M w (pc + 3) L (vr r :: S) mu) : AW K M w pc L (vr k :: S) mu :=
  aw_gi hn (fun g => aw_getR C hd hf hs ht (hr mu g) kk)
/-- the fields 'now' and 'draft' -/
theorem aw_getD (C : CX K w M dd) {i j N : Nat} {Cn : String} {T : u_T} {ty : Nat → FieldType} (hd : decode M.2.1 pc = .ok (.getfield i, 3)) (hf : FL M.1.cls i 4 Cn T N ty j) (hn : w.1 = NC) (hj : j = 5 ∨ j = 6) (kk : ∀ f : Nat, isF f → mu 0 j = (f : Int) → AW K M w (pc + 3) L (vr f :: S) mu) : AW K M w pc L (vr 0 :: S) mu := by
  refine aw_gi hn (fun g => ?_)
  have h : isFz (mu 0 j) := by
    rcases hj with rfl | rfl
    · exact g.2.2.1
    · exact g.2.2.2.1
  obtain ⟨f, h1, h2⟩ := h
  exact aw_getR C hd hf ⟨rfl, by rw [hn]; decide⟩ (by rcases hj with rfl | rfl <;> rfl) h2 (kk f h1 h2)
theorem aw_putV (C : CX K w M dd) {i ci j N k : Nat} {Cn : String} {T : u_T} {ty : Nat → FieldType} {v : Vv} {z : Int} (hd : decode M.2.1 pc = .ok (.putfield i, 3)) (hf : FL M.1.cls i ci Cn T N ty j) (hs : Sh w.1 k ci 0) (hfin : (T j).2.2.2 = false) (hv : ∀ b, fcv b (ftag ci j) z = cv b v) (hn : ∀ b, narrow (ty j) (cv b v) = cv b v) (hfit : ∀ b, fits (ty j) (cv b v) = true) (hG : w.1 = NC → GI mu → GI (wr mu k j z)) (kk : AW K M w (pc + 3) L S (wr mu k j z)) : AW K M w pc L (v :: vr k :: S) mu := by
  obtain ⟨p, l, e, R, s, m, args, below, meth, c, G, Q⟩ := K
  obtain ⟨hx, hb, hml, hown, hts, hK, hlk, hgb, hRm, hw⟩ := C
  intro ls H locs hl hW hS
  obtain ⟨⟨hc, hin, hty, hnm⟩, hj, hlk⟩ := hf
  obtain ⟨hci, hN⟩ := cls_n hc
  have he := wl_at (G := G) (mu := mu) hs.2
  rw [hs.1, ent_o G (by omega)] at he
  refine va_put (D := (G.1, G.2.1)) (A := AG G) hx hb hts hin ty hty hnm hown hK hW.1 (wl_D G _ _) hS k he hc j hj (hts _ hlk) (fun _ h => h) hfin (hty j hj) (hn _) (hfit _) (by rw [List.length_map, List.length_range, ← hN]; exact hj) hd (fun H1 locs1 hP1 _ hS1 => ?_)
  rw [wl_set (mu2 := wr mu k j z) (fun a ha => wr_ne ha) (by
    rw [hs.1, ent_o G (by omega), wr_self]
    congr 2
    refine (rm_set (fun a ha => ?_) ?_).symm
    · dsimp only; rw [if_neg ha]
    · dsimp only; rw [if_pos rfl]; exact hv _)] at hP1
  exact kk ls H1 locs1 hl ⟨hP1, fun q => hG q (hW.2 q)⟩ hS1
theorem aw_putI (C : CX K w M dd) {i ci j N k : Nat} {Cn : String} {T : u_T} {ty : Nat → FieldType} {x : Int} (hd : decode M.2.1 pc = .ok (.putfield i, 3)) (hf : FL M.1.cls i ci Cn T N ty j) (hs : Sh w.1 k ci 0) (ht : ftag ci j = 0) (hty : ty j = .int) (hfin : (T j).2.2.2 = false) (kk : AW K M w (pc + 3) L S (wr mu k j x)) : AW K M w pc L (vi x :: vr k :: S) mu :=
  aw_putV C hd hf hs hfin (v := vi x) (z := x) (fun b => by rw [ht]; rfl) (fun b => by rw [hty]; rfl) (fun b => by rw [hty]; rfl) (fun _ g => g.w hs.1 (fun _ => by rw [ht]; decide) (by have := (cls_n hf.1.1).1; omega)) kk
theorem aw_putZ (C : CX K w M dd) {i ci j N k : Nat} {Cn : String} {T : u_T} {ty : Nat → FieldType} {x : Int} (hd : decode M.2.1 pc = .ok (.putfield i, 3)) (hf : FL M.1.cls i ci Cn T N ty j) (hs : Sh w.1 k ci 0) (ht : ftag ci j = 0) (hty : ty j = .boolean) (hfin : (T j).2.2.2 = false) (hx : x = 0 ∨ x = 1) (kk : AW K M w (pc + 3) L S (wr mu k j x)) : AW K M w pc L (vi x :: vr k :: S) mu :=
  aw_putV C hd hf hs hfin (v := vi x) (z := x) (fun b => by rw [ht]; rfl) (fun b => by rw [hty]; rcases hx with rfl | rfl <;> rfl) (fun b => by rw [hty]; rcases hx with rfl | rfl <;> rfl) (fun _ g => g.w hs.1 (fun _ => by rw [ht]; decide) (by have := (cls_n hf.1.1).1; omega)) kk
theorem aw_putL (C : CX K w M dd) {i ci j N k : Nat} {Cn : String} {T : u_T} {ty : Nat → FieldType} {x : Int} (hd : decode M.2.1 pc = .ok (.putfield i, 3)) (hf : FL M.1.cls i ci Cn T N ty j) (hs : Sh w.1 k ci 0) (ht : ftag ci j = 1) (hty : ty j = .long) (hfin : (T j).2.2.2 = false) (kk : AW K M w (pc + 3) L S (wr mu k j x)) : AW K M w pc L (vl x :: vr k :: S) mu :=
  aw_putV C hd hf hs hfin (v := vl x) (z := x) (fun b => by rw [ht]; rfl) (fun b => by rw [hty]; rfl) (fun b => by rw [hty]; rfl) (fun _ g => g.w hs.1 (fun _ => by rw [ht]; decide) (by have := (cls_n hf.1.1).1; omega)) kk
theorem aw_putD (C : CX K w M dd) {i j N f : Nat} {Cn : String} {T : u_T} {ty : Nat → FieldType} (hd : decode M.2.1 pc = .ok (.putfield i, 3)) (hf : FL M.1.cls i 4 Cn T N ty j) (hn : w.1 = NC) (hj : j = 5 ∨ j = 6) (hF : isF f) (hty : ty j = .object "FanCones$Fan") (hfin : (T j).2.2.2 = false) (kk : AW K M w (pc + 3) L S (wr mu 0 j (f : Int))) : AW K M w pc L (vr f :: vr 0 :: S) mu :=
  aw_putV C hd hf ⟨rfl, by rw [hn]; decide⟩ hfin (v := vr f) (z := (f : Int)) (fun b => by rw [show ftag 4 j = 2 by rcases hj with rfl | rfl <;> rfl]; exact cvr_nat b f) (fun b => by rw [hty]; rfl) (fun b => by rw [hty]; rfl) (fun _ g => g.wN hF j hj) kk
/-! arrays -/
theorem aw_iald (C : CX K w M dd) {k len : Nat} {x : Int} (hd : decode M.2.1 pc = .ok (.iaload, 1)) (hs : Sh w.1 k 10 len) (hl : len < 2147483648) (h0 : 0 ≤ x) (h1 : x < (len : Int)) (kk : AW K M w (pc + 1) L (vi (mu k x.toNat) :: S) mu) : AW K M w pc L (vi x :: vr k :: S) mu := by
  obtain ⟨p, l, e, R, s, m, args, below, meth, c, G, Q⟩ := K
  obtain ⟨hx, hb, hml, hown, hts, hK, hlk, hgb, hRm, hw⟩ := C
  intro ls H locs hLL hW hS
  have he := wl_at (G := G) (mu := mu) hs.2
  rw [hs.1, ent_i] at he
  refine va_iald (D := (G.1, G.2.1)) hx hb hK hW.1 k 0 he rfl (i_in h0 h1 hl) hd ?_
  rw [i_cl (by unfold R32; omega) h0]
  exact kk ls H locs hLL hW hS
theorem aw_bald (C : CX K w M dd) {k len : Nat} {x : Int} (hd : decode M.2.1 pc = .ok (.baload, 1)) (hs : Sh w.1 k 12 len) (hl : len < 2147483648) (h0 : 0 ≤ x) (h1 : x < (len : Int)) (kk : AW K M w (pc + 1) L (vi (mu k x.toNat) :: S) mu) : AW K M w pc L (vi x :: vr k :: S) mu := by
  obtain ⟨p, l, e, R, s, m, args, below, meth, c, G, Q⟩ := K
  obtain ⟨hx, hb, hml, hown, hts, hK, hlk, hgb, hRm, hw⟩ := C
  intro ls H locs hLL hW hS
  have he := wl_at (G := G) (mu := mu) hs.2
  rw [hs.1, ent_b] at he
  refine va_bald (D := (G.1, G.2.1)) hx hb hK hW.1 k 2 he rfl (i_in h0 h1 hl) hd ?_
  rw [i_cl (by unfold R32; omega) h0]
  exact kk ls H locs hLL hW hS
theorem aw_lald (C : CX K w M dd) {k len : Nat} {x : Int} (hd : decode M.2.1 pc = .ok (.laload, 1)) (hs : Sh w.1 k 11 len) (hl : len < 2147483648) (h0 : 0 ≤ x) (h1 : x < (len : Int)) (kk : AW K M w (pc + 1) L (vl (mu k x.toNat) :: S) mu) : AW K M w pc L (vi x :: vr k :: S) mu := by
  obtain ⟨p, l, e, R, s, m, args, below, meth, c, G, Q⟩ := K
  obtain ⟨hx, hb, hml, hown, hts, hK, hlk, hgb, hRm, hw⟩ := C
  intro ls H locs hLL hW hS
  have he := wl_at (G := G) (mu := mu) hs.2
  rw [hs.1, ent_l] at he
  refine va_lald (D := (G.1, G.2.1)) hx hb hK hW.1 k 1 he rfl (i_in h0 h1 hl) hd ?_
  rw [i_cl (by unfold R32; omega) h0]
  exact kk ls H locs hLL hW hS
/-- the kept fans -/
theorem aw_aald (C : CX K w M dd) {x : Int} (hd : decode M.2.1 pc = .ok (.aaload, 1)) (hn : w.1 = NC) (h0 : 0 ≤ x) (h1 : x < 8) (kk : ∀ f : Nat, isF f → mu 14 x.toNat = (f : Int) → AW K M w (pc + 1) L (vr f :: S) mu) : AW K M w pc L (vi x :: vr 14 :: S) mu := by
  refine aw_gi hn (fun g => ?_)
  obtain ⟨f, hf1, hf2⟩ := g.2.2.2.2 x.toNat (by omega)
  have kk := kk f hf1 hf2
  obtain ⟨p, l, e, R, s, m, args, below, meth, c, G, Q⟩ := K
  obtain ⟨hx, hb, hml, hown, hts, hK, hlk, hgb, hRm, hw⟩ := C
  intro ls H locs hLL hW hS
  have he := wl_at (G := G) (mu := mu) (n := w.1) (k := 14) (by rw [hn]; decide)
  rw [show shp 14 = (13, 8) from rfl, ent_q] at he
  refine va_aldq (D := (G.1, G.2.1)) hx hb hK hW.1 14 3 he rfl (i_in (n := 8) h0 (by omega) (by decide)) hd ?_
  rw [i_cl (by unfold R32; omega) h0, hf2, show va_rf (rfo (gb G) ((f : Nat) : Int)) = .ref (gb G + f) from cvr_nat _ f]
  exact kk ls H locs hLL hW hS
theorem aw_alen (C : CX K w M dd) {k t len : Nat} (hd : decode M.2.1 pc = .ok (.arraylength, 1)) (hs : Sh w.1 k t len) (ht : t = 10 ∨ t = 11 ∨ t = 12 ∨ t = 13) (kk : AW K M w (pc + 1) L (vi (len : Int) :: S) mu) : AW K M w pc L (vr k :: S) mu := by
  obtain ⟨p, l, e, R, s, m, args, below, meth, c, G, Q⟩ := K
  obtain ⟨hx, hb, hml, hown, hts, hK, hlk, hgb, hRm, hw⟩ := C
  intro ls H locs hLL hW hS
  have he := wl_at (G := G) (mu := mu) hs.2
  rcases ht with rfl | rfl | rfl | rfl
  · rw [hs.1, ent_i] at he
    exact va_alen (D := (G.1, G.2.1)) (ty := .int) hx hb hK hW.1 k 0 he rfl (Int32.ofInt_eq_ofNat).symm hd (kk ls H locs hLL hW hS)
  · rw [hs.1, ent_l] at he
    exact va_alen (D := (G.1, G.2.1)) (ty := .long) hx hb hK hW.1 k 1 he rfl (Int32.ofInt_eq_ofNat).symm hd (kk ls H locs hLL hW hS)
  · rw [hs.1, ent_b] at he
    exact va_alen (D := (G.1, G.2.1)) (ty := .byte) hx hb hK hW.1 k 2 he rfl (Int32.ofInt_eq_ofNat).symm hd (kk ls H locs hLL hW hS)
  · rw [hs.1, ent_q] at he
    exact va_alen (D := (G.1, G.2.1)) (ty := .object "FanCones$Fan") hx hb hK hW.1 k 3 he rfl (Int32.ofInt_eq_ofNat).symm hd (kk ls H locs hLL hW hS)
theorem aw_iast (C : CX K w M dd) {k len : Nat} {x v : Int} (hd : decode M.2.1 pc = .ok (.iastore, 1)) (hs : Sh w.1 k 10 len) (hl : len < 2147483648) (h0 : 0 ≤ x) (h1 : x < (len : Int)) (kk : AW K M w (pc + 1) L S (wr mu k x.toNat v)) : AW K M w pc L (vi v :: vi x :: vr k :: S) mu := by
  obtain ⟨p, l, e, R, s, m, args, below, meth, c, G, Q⟩ := K
  obtain ⟨hx, hb, hml, hown, hts, hK, hlk, hgb, hRm, hw⟩ := C
  intro ls H locs hLL hW hS
  have he := wl_at (G := G) (mu := mu) hs.2
  rw [hs.1, ent_i] at he
  refine va_iast (D := (G.1, G.2.1)) (A := AG G) hx hb hK hW.1 (wl_D G _ _) hS k 0 he rfl (i_in h0 h1 hl) hd (fun H1 locs1 hP1 _ hS1 => ?_)
  rw [wl_set (mu2 := wr mu k x.toNat v) (fun a ha => wr_ne ha) (by
    rw [hs.1, ent_i, wr_self, i_cl (by unfold R32; omega) h0]
    congr 4
    funext a
    by_cases ha : a = x.toNat
    · dsimp only; rw [if_pos ha]; subst ha; simp [upd]
    · dsimp only; rw [if_neg ha]; simp [upd, ha])] at hP1
  exact kk ls H1 locs1 hLL ⟨hP1, fun q => (hW.2 q).w hs.1 (fun q => absurd q (by decide)) (by decide)⟩ hS1
theorem aw_last (C : CX K w M dd) {k len : Nat} {x v : Int} (hd : decode M.2.1 pc = .ok (.lastore, 1)) (hs : Sh w.1 k 11 len) (hl : len < 2147483648) (h0 : 0 ≤ x) (h1 : x < (len : Int)) (kk : AW K M w (pc + 1) L S (wr mu k x.toNat v)) : AW K M w pc L (vl v :: vi x :: vr k :: S) mu := by
  obtain ⟨p, l, e, R, s, m, args, below, meth, c, G, Q⟩ := K
  obtain ⟨hx, hb, hml, hown, hts, hK, hlk, hgb, hRm, hw⟩ := C
  intro ls H locs hLL hW hS
  have he := wl_at (G := G) (mu := mu) hs.2
  rw [hs.1, ent_l] at he
  refine va_last (D := (G.1, G.2.1)) (A := AG G) hx hb hK hW.1 (wl_D G _ _) hS k 1 he rfl (i_in h0 h1 hl) hd (fun H1 locs1 hP1 _ hS1 => ?_)
  rw [wl_set (mu2 := wr mu k x.toNat v) (fun a ha => wr_ne ha) (by
    rw [hs.1, ent_l, wr_self, i_cl (by unfold R32; omega) h0]
    congr 5
    funext a
    by_cases ha : a = x.toNat
    · dsimp only; rw [if_pos ha]; subst ha; simp [vp_updL]
    · dsimp only; rw [if_neg ha]; simp [vp_updL, ha])] at hP1
  exact kk ls H1 locs1 hLL ⟨hP1, fun q => (hW.2 q).w hs.1 (fun q => absurd q (by decide)) (by decide)⟩ hS1
/-- a byte: what was stored is kept as a byte -/
theorem aw_bast (C : CX K w M dd) {k len : Nat} {x v z : Int} (hd : decode M.2.1 pc = .ok (.bastore, 1)) (hs : Sh w.1 k 12 len) (hl : len < 2147483648) (h0 : 0 ≤ x) (h1 : x < (len : Int)) (hz : vp_nar .byte (Int32.ofInt v) = Int32.ofInt z) (kk : AW K M w (pc + 1) L S (wr mu k x.toNat z)) : AW K M w pc L (vi v :: vi x :: vr k :: S) mu := by
  obtain ⟨p, l, e, R, s, m, args, below, meth, c, G, Q⟩ := K
  obtain ⟨hx, hb, hml, hown, hts, hK, hlk, hgb, hRm, hw⟩ := C
  intro ls H locs hLL hW hS
  have he := wl_at (G := G) (mu := mu) hs.2
  rw [hs.1, ent_b] at he
  refine va_bast (D := (G.1, G.2.1)) (A := AG G) hx hb hK hW.1 (wl_D G _ _) hS k 2 he rfl (i_in h0 h1 hl) hd (fun H1 locs1 hP1 _ hS1 => ?_)
  rw [hz, wl_set (mu2 := wr mu k x.toNat z) (fun a ha => wr_ne ha) (by
    rw [hs.1, ent_b, wr_self, i_cl (by unfold R32; omega) h0]
    congr 4
    funext a
    by_cases ha : a = x.toNat
    · dsimp only; rw [if_pos ha]; subst ha; simp [upd]
    · dsimp only; rw [if_neg ha]; simp [upd, ha])] at hP1
  exact kk ls H1 locs1 hLL ⟨hP1, fun q => (hW.2 q).w hs.1 (fun q => absurd q (by decide)) (by decide)⟩ hS1
theorem aw_aast (C : CX K w M dd) {f : Nat} {x : Int} (hd : decode M.2.1 pc = .ok (.aastore, 1)) (hn : w.1 = NC) (hF : isF f) (h0 : 0 ≤ x) (h1 : x < 8) (kk : AW K M w (pc + 1) L S (wr mu 14 x.toNat (f : Int))) : AW K M w pc L (vr f :: vi x :: vr 14 :: S) mu := by
  obtain ⟨p, l, e, R, s, m, args, below, meth, c, G, Q⟩ := K
  obtain ⟨hx, hb, hml, hown, hts, hK, hlk, hgb, hRm, hw⟩ := C
  intro ls H locs hLL hW hS
  have he := wl_at (G := G) (mu := mu) (n := w.1) (k := 14) (by rw [hn]; decide)
  rw [show shp 14 = (13, 8) from rfl, ent_q] at he
  have hv := wl_at (G := G) (mu := mu) (n := w.1) (k := f) (by rw [hn]; have := hF.lt; omega)
  rw [hF.s0.1, ent_o G (by decide)] at hv
  refine va_astq (D := (G.1, G.2.1)) (A := AG G) (r := (RX1, TX1, 5)) hx hb hK hW.1 (wl_D G _ _) hS 14 3 f 1 he rfl hv rfl (i_in (n := 8) h0 (by omega) (by decide)) hd (fun H1 locs1 hP1 _ hS1 => ?_)
  rw [wl_set (mu2 := wr mu 14 x.toNat (f : Int)) (fun a ha => wr_ne ha) (by
    rw [show shp 14 = (13, 8) from rfl, ent_q, wr_self, i_cl (by unfold R32; omega) h0]
    congr 8
    funext a
    by_cases ha : a = x.toNat
    · dsimp only; rw [if_pos ha]; subst ha; simp [va_up, rfo]
    · dsimp only; rw [if_neg ha]; simp [va_up, ha])] at hP1
  exact kk ls H1 locs1 hLL ⟨hP1, fun q => (hW.2 q).wP hF _⟩ hS1
end Fields

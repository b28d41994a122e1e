def actR (mu m2 : Mem) (V : FV) (a : Int) (H : Nat → FV) (c : Int) (W : FV) : Prop := m2 0 11 = c ∧ afr mu m2 ∧ (c = 0 → cSt m2 W (min 8 (a + 1)) (psh V H)) ∧ (c ≠ 0 → cSt m2 V a H)
theorem cE.df {mu m : Mem} {c : Int} {g : Nat} (he : cE mu m c) : dfr g mu m := fun x y _ h2 h3 => he.1 x y (fun w => by unfold qS at w; omega)
theorem dfr.m {mu m m2 : Mem} {g : Nat} (h : dfr g mu m) (h2 : frm (fanS g) m m2) : dfr g mu m2 := fun x y a b c => by rw [h2 x a]; exact h x y a b c
theorem dfr.c0 {mu m : Mem} {g : Nat} (h : dfr g mu m) (hg : isF g) {y : Nat} (hy : y ≠ 11) : m 0 y = mu 0 y := by
  have := hg.ge
  exact h 0 y (by unfold fanS; omega) (by omega) (by omega)
theorem dfr.c14 {mu m : Mem} {g : Nat} (h : dfr g mu m) (hg : isF g) (y : Nat) : m 14 y = mu 14 y := by
  have := hg.ge
  exact h 14 y (by unfold fanS; omega) (by omega) (by omega)
theorem dfr.af {mu m : Mem} {g : Nat} (h : dfr g mu m) (hg : isF g) : afr mu m := fun x y hxy => by
  have := hg.ge
  obtain ⟨t, h1, rfl⟩ := hg
  exact h x y (by unfold fanS; omega) (by omega) (by omega)
theorem afr.tr {a b c : Mem} (h1 : afr a b) (h2 : afr b c) : afr a c := fun x y h => (h2 x y h).trans (h1 x y h)
/-- the ring's names at a state -/
def rN (mu : Mem) (f g p : Nat) : Prop := (isF f ∧ mu 0 5 = (f : Int)) ∧ (isF g ∧ mu 0 6 = (g : Int)) ∧ (isF p ∧ mu 14 (mu 0 7).toNat = (p : Int)) ∧ f ≠ g
theorem cSt.rn {mu : Mem} {V : FV} {a : Int} {H : Nat → FV} (h : cSt mu V a H) : ∃ f g p, rN mu f g p ∧ cF mu f ∧ fv mu f = V := by
  obtain ⟨f, c, e⟩ := h.f
  obtain ⟨g, hg, eg⟩ := h.draft
  have hn := h.2.2.2.2.2.1
  obtain ⟨p, hp, ep⟩ := h.past (i := (mu 0 7).toNat) (by omega)
  exact ⟨f, g, p, ⟨⟨c.1, c.2.1⟩, ⟨hg, eg⟩, ⟨hp, ep⟩, rg_ne h.1 (s := 0) (t := 1) (by decide) (by decide) c.2.1 eg (by decide)⟩, c, e⟩
theorem kd {mu m : Mem} {V : FV} {a : Int} {H : Nat → FV} {f g p : Nat} (h : cSt mu V a H) (r : rN mu f g p) (hd : dfr g mu m) : TrE 1 mX5_keepDraft [vr 0] m none (kpM m f g p (mu 0 7)) := by
  have hg := r.2.1.1
  have ha := h.2.2.2.2.1
  have hn := h.2.2.2.2.2.1
  exact t_X5_keepDraft r.1.1 hg r.2.2.1.1 ((hd.c0 hg (by decide)).trans r.1.2) ((hd.c0 hg (by decide)).trans r.2.1.2) (hd.c0 hg (by decide)) hn.1 hn.2 ((hd.c14 hg _).trans r.2.2.1.2) (by rw [hd.c0 hg (by decide), h.2.2.2.1]; exact ha)
theorem ki {mu m : Mem} {V : FV} {a : Int} {H : Nat → FV} {f g p : Nat} (h : cSt mu V a H) (r : rN mu f g p) (hd : dfr g mu m) {b : Int} (hb : b = 0 ∨ b = 1) : TrE 2 mX5_keepIf [vr 0, vi b] m (some (vi b)) (if b = 0 then wr m 0 11 3 else kpM m f g p (mu 0 7)) := by
  have hg := r.2.1.1
  have ha := h.2.2.2.2.1
  have hn := h.2.2.2.2.2.1
  exact t_X5_keepIf r.1.1 hg r.2.2.1.1 ((hd.c0 hg (by decide)).trans r.1.2) ((hd.c0 hg (by decide)).trans r.2.1.2) (hd.c0 hg (by decide)) hn.1 hn.2 ((hd.c14 hg _).trans r.2.2.1.2) (by rw [hd.c0 hg (by decide), h.2.2.2.1]; exact ha) hb
theorem act_k {mu m : Mem} {V W : FV} {a : Int} {H : Nat → FV} {f g p : Nat} (h : cSt mu V a H) (r : rN mu f g p) (hd : dfr g mu m) (h0 : m 0 11 = 0) (hV : 0 < V.1) (hW : fv m g = W) (gW : gV W) : actR mu (kpM m f g p (mu 0 7)) V a H 0 W := by
  obtain ⟨k1, k2, k3⟩ := h.k r.1.1 r.1.2 r.2.1.1 r.2.1.2 r.2.2.1.1 r.2.2.1.2 hV hd hW gW
  exact ⟨k2.trans h0, (hd.af r.2.1.1).tr k3, fun _ => k1, fun w => absurd rfl w⟩
theorem act_n {mu m : Mem} {V W : FV} {a : Int} {H : Nat → FV} {g : Nat} {c : Int} (h : cSt mu V a H) (hg : isF g) (eg : mu 0 6 = (g : Int)) (hd : dfr g mu m) (h0 : m 0 11 = c) (hc : c ≠ 0) : actR mu m V a H c W := ⟨h0, hd.af hg, fun w => absurd w hc, fun _ => h.d hg eg hd⟩
theorem dfr.w {mu m : Mem} {g : Nat} {c : Int} (h : dfr g mu m) : dfr g mu (wr m 0 11 c) := fun x y a b d => by rw [wr_at, if_neg b]; exact h x y a b d
theorem gV_set {V : FV} (h : gV V) {d : Nat} {u : Nat → Int} (hu : ∀ j : Nat, (j : Int) < V.1 → hld (u j)) : gV (setN V d u) := by
  obtain ⟨⟨a, b, c, e, k⟩, m⟩ := h
  refine ⟨⟨a, b, c, e, fun d2 j => ?_⟩, m⟩
  show -2000 ≤ (if d2 = d then (if (j : Int) < V.1 then u j else 0) else V.2.2.2.2 d2 j) ∧ (if d2 = d then (if (j : Int) < V.1 then u j else 0) else V.2.2.2.2 d2 j) ≤ 2000
  split
  · split
    · exact hu j (by assumption)
    · omega
  · exact k d2 j
noncomputable def qSe (V : FV) (d i v : Int) : Int × Int := if ¬ ((0 ≤ d ∧ d < V.2.1) ∧ 0 ≤ i ∧ i < V.1) then (NTH, 1) else if b01 (v < -20 ∨ 20 < v) = 1 then (NTH, 2) else (gn V d i, 0)
def wSe (V : FV) (d i v : Int) : FV := setN V d.toNat (fun j => if j = i.toNat then v else gn V d j)
theorem t_X5_set {mu : Mem} {V : FV} {a : Int} {H : Nat → FV} {d i v : Int} (S : cSt mu V a H) (hd : R32 d) (hi : R32 i) (hv : R32 v) : Tr 3 mX5_set [vr 0, vi d, vi i, vi v] mu (fun r m2 => r = some (vl (qSe V d i v).1) ∧ actR mu m2 V a H (qSe V d i v).2 (wSe V d i v)) := by
  refine Tr.of (by decide +kernel) (Nat.le_of_ble_eq_true rfl) (fun K C E => ?_)
  obtain ⟨f, g, p, r, h, rfl⟩ := S.rn
  obtain ⟨⟨hf, ef⟩, ⟨hg, eg⟩, ⟨hp, ep⟩, fne⟩ := id r
  have hV := h.2.2.1
  have hn := hV.n
  have hl := hV.l
  have en0 : (fv mu f).1 = mu f 0 := rfl
  have el0 : (fv mu f).2.1 = mu f 1 := rfl
  unfold qSe at E
  have k2 := b01_01 (0 ≤ d ∧ d < mu f 1)
  have k2t : b01 (0 ≤ d ∧ d < mu f 1) = 1 → 0 ≤ d ∧ d < mu f 1 := b01_iff.mp
  have k2f : b01 (0 ≤ d ∧ d < mu f 1) = 0 → ¬ (0 ≤ d ∧ d < mu f 1) := b01_niff.mp
  have k1 := b01_01 (0 ≤ i ∧ i < mu f 0)
  have k1t : b01 (0 ≤ i ∧ i < mu f 0) = 1 → 0 ≤ i ∧ i < mu f 0 := b01_iff.mp
  have k1f : b01 (0 ≤ i ∧ i < mu f 0) = 0 → ¬ (0 ≤ i ∧ i < mu f 0) := b01_niff.mp
  have k3 := b01_01 (v < -20 ∨ 20 < v)
  have fin : ∀ {v90 v91 : Vv} (c : Int), (c = 0 ∧ ((0 ≤ d ∧ d < mu f 1) ∧ 0 ≤ i ∧ i < mu f 0) ∧ b01 (v < -20 ∨ 20 < v) = 0) ∨ (c = 1 ∧ ¬ ((0 ≤ d ∧ d < mu f 1) ∧ 0 ≤ i ∧ i < mu f 0)) ∨ (c = 2 ∧ ((0 ≤ d ∧ d < mu f 1) ∧ 0 ≤ i ∧ i < mu f 0) ∧ b01 (v < -20 ∨ 20 < v) = 1) → AW K mX5_set (NC, 0, 0) 37 [vr 0, vi d, vi i, vi v, v90, v91] [vi c, vr 0] mu := by
    rintro v90 v91 c (⟨rfl, q⟩ | ⟨rfl, q⟩ | ⟨rfl, q⟩)
    · rw [if_neg (show ¬ ¬ ((0 ≤ d ∧ d < (fv mu f).2.1) ∧ 0 ≤ i ∧ i < (fv mu f).1) from fun z => z q.1), if_neg (show ¬ b01 (v < -20 ∨ 20 < v) = 1 by omega)] at E
      have b1 := hV.g d i
      have bv := b01_niff.mp q.2
      refine aw_putI C dX5_set_37 fX5_62 ⟨rfl, by decide⟩ rfl rfl rfl ?_
      have hc : cE mu (wr mu 0 11 0) 0 := cE_w
      generalize wr mu 0 11 0 = m1 at *
      obtain ⟨e5, ev, hV1, en, el, e11⟩ := hc.all h
      have e6 : m1 0 6 = (g : Int) := ((hc.df (g := g)).c0 hg (by decide)).trans eg
      refine aw_aload_n C dX5_set_40 rfl ?_
      refine aw_getI C dX5_set_41 fX5_62 ⟨rfl, by decide⟩ rfl ?_
      rw [e11]
      refine aw_if_eq C dX5_set_44 (tgt := 51) (by decide) ⟨by omega, by omega⟩ (fun c1 => ?_) (fun c1 => ?_)
      · refine aw_aload_n C dX5_set_51 rfl ?_
        refine aw_getR C dX5_set_52 fX5_43 ⟨rfl, by decide⟩ rfl e5 ?_
        refine aw_iload_n C dX5_set_55 rfl ?_
        refine aw_iload_n C dX5_set_56 rfl ?_
        refine aw_call1 C dX5_set_57 lX5_168 vX1_number (t_X1_number hf hV1 (by omega) (by omega) (by omega) (by omega)) rfl rfl rfl hf.s0 rfl ⟨by decide, by decide⟩ (Nat.le_of_ble_eq_true rfl) ?_
        rw [ev]
        refine aw_i2l C dX5_set_60 ⟨by omega, by omega⟩ ?_
        refine aw_lstore C dX5_set_61 (by decide) ?_
        refine aw_aload_n C dX5_set_63 rfl ?_
        refine aw_getR C dX5_set_64 fX5_47 ⟨rfl, by decide⟩ rfl e6 ?_
        refine aw_aload_n C dX5_set_67 rfl ?_
        refine aw_getR C dX5_set_68 fX5_43 ⟨rfl, by decide⟩ rfl e5 ?_
        refine aw_call C dX5_set_71 lX5_234 vX1_copyFrom (t_X1_copyFrom hg hf (fun w => fne w.symm) (by omega) (by omega)) rfl rfl rfl hg.s0 rfl ⟨by decide, by decide⟩ (Nat.le_of_ble_eq_true rfl) (fun r2 mu2 hq2 => ?_)
        obtain ⟨rfl, y1, y2⟩ := hq2
        have D2 : dfr g mu mu2 := (hc.df (g := g)).m y2
        have e6b : mu2 0 6 = (g : Int) := (D2.c0 hg (by decide)).trans eg
        have e11b : mu2 0 11 = 0 := by have := hg.ge; rw [y2 0 (by unfold fanS; omega)]; exact e11
        rw [ev] at y1
        generalize mu2 = m2 at *
        show AW _ _ _ _ _ [] _
        refine aw_aload_n C dX5_set_74 rfl ?_
        refine aw_getR C dX5_set_75 fX5_47 ⟨rfl, by decide⟩ rfl e6b ?_
        refine aw_iload_n C dX5_set_78 rfl ?_
        refine aw_iload_n C dX5_set_79 rfl ?_
        refine aw_iload_n C dX5_set_80 rfl ?_
        refine aw_call0 C dX5_set_81 lX5_238 vX1_put (t_X1_put hg (by omega) (by omega) (by omega) (by omega)) rfl rfl rfl hg.s0 rfl ⟨by decide, by decide⟩ (Nat.le_of_ble_eq_true rfl) ?_
        have gg := hg.ge
        have D3 : dfr g mu (wr m2 (g + 3) (d * 24 + i).toNat v) := fun x y a1 a2 a3 => by
          rw [wr_at, if_neg (fun w => a1 (by unfold fanS; omega))]; exact D2 x y a1 a2 a3
        have e11c : wr m2 (g + 3) (d * 24 + i).toNat v 0 11 = 0 := by rw [wr_ne (by omega)]; exact e11b
        have n2 : m2 g 0 = mu f 0 := congrArg (fun z : FV => z.1) y1
        have l2 : m2 g 1 = mu f 1 := congrArg (fun z : FV => z.2.1) y1
        have W3 : fv (wr m2 (g + 3) (d * 24 + i).toNat v) g = wSe (fv mu f) d i v := by
          unfold wSe
          rw [← y1]
          refine set_view (by omega) (wr_ne (by omega)) (wr_ne (by omega)) (wr_ne (by omega)) (fun d2 j w1 w2 => ?_)
          rw [wr_at]
          by_cases z1 : d2 = d.toNat
          · rw [if_pos z1]
            by_cases z2 : j = i.toNat
            · rw [if_pos ⟨rfl, by omega⟩, if_pos z2]
            · rw [if_neg (by omega), if_neg z2, fn_at (mu := m2) (f := g) (d := d) (i := (j : Int)) (by omega) (by omega) (by omega) (by omega)]
              congr 1; omega
          · rw [if_neg z1, if_neg (by omega)]
        refine aw_aload_n C dX5_set_84 rfl ?_
        refine aw_call0 C dX5_set_85 lX5_242 vX5_keepDraft (kd S r D3) rfl rfl rfl ⟨rfl, by decide⟩ rfl ⟨by decide, by decide⟩ (Nat.le_of_ble_eq_true rfl) ?_
        refine aw_lload C dX5_set_88 rfl ?_
        exact aw_lret C E dX5_set_90 rfl ⟨rfl, act_k S r D3 e11c (by omega) W3 (gV_set h.2.2 (fun j _ => by show hld (if j = i.toNat then v else gn (fv mu f) d j); unfold hld; split; omega; exact hV.g d j))⟩
      · exfalso; omega
    · rw [if_pos (show ¬ ((0 ≤ d ∧ d < (fv mu f).2.1) ∧ 0 ≤ i ∧ i < (fv mu f).1) from q)] at E
      refine aw_putI C dX5_set_37 fX5_62 ⟨rfl, by decide⟩ rfl rfl rfl ?_
      have hc : cE mu (wr mu 0 11 1) 1 := cE_w
      generalize wr mu 0 11 1 = m1 at *
      obtain ⟨e5, ev, hV1, en, el, e11⟩ := hc.all h
      refine aw_aload_n C dX5_set_40 rfl ?_
      refine aw_getI C dX5_set_41 fX5_62 ⟨rfl, by decide⟩ rfl ?_
      rw [e11]
      refine aw_if_eq C dX5_set_44 (tgt := 51) (by decide) ⟨by omega, by omega⟩ (fun c1 => ?_) (fun c1 => ?_)
      · exfalso; omega
      · refine aw_ldc2 C dX5_set_47 kX5_130 (z := -9223372036854775808) (by decide +kernel) ?_
        exact aw_lret C E dX5_set_50 rfl ⟨rfl, act_n S hg eg hc.df e11 (by decide)⟩
    · rw [if_neg (show ¬ ¬ ((0 ≤ d ∧ d < (fv mu f).2.1) ∧ 0 ≤ i ∧ i < (fv mu f).1) from fun z => z q.1), if_pos q.2] at E
      refine aw_putI C dX5_set_37 fX5_62 ⟨rfl, by decide⟩ rfl rfl rfl ?_
      have hc : cE mu (wr mu 0 11 2) 2 := cE_w
      generalize wr mu 0 11 2 = m1 at *
      obtain ⟨e5, ev, hV1, en, el, e11⟩ := hc.all h
      refine aw_aload_n C dX5_set_40 rfl ?_
      refine aw_getI C dX5_set_41 fX5_62 ⟨rfl, by decide⟩ rfl ?_
      rw [e11]
      refine aw_if_eq C dX5_set_44 (tgt := 51) (by decide) ⟨by omega, by omega⟩ (fun c1 => ?_) (fun c1 => ?_)
      · exfalso; omega
      · refine aw_ldc2 C dX5_set_47 kX5_130 (z := -9223372036854775808) (by decide +kernel) ?_
        exact aw_lret C E dX5_set_50 rfl ⟨rfl, act_n S hg eg hc.df e11 (by decide)⟩
  refine aw_aload_n C dX5_set_0 rfl ?_
  refine aw_aload_n C dX5_set_1 rfl ?_
  refine aw_iload_n C dX5_set_2 rfl ?_
  refine aw_call1 C dX5_set_3 lX5_165 vX5_hasLoad (t_X5_hasLoad h hd) rfl rfl rfl ⟨rfl, by decide⟩ rfl ⟨by decide, by decide⟩ (Nat.le_of_ble_eq_true rfl) ?_
  refine aw_if_eq C dX5_set_6 (tgt := 17) (by decide) ⟨by omega, by omega⟩ (fun c1 => ?_) (fun c1 => ?_)
  · refine aw_iconst C dX5_set_17 ?_
    refine aw_goto C dX5_set_18 (tgt := 37) (by decide) ?_
    first
    | exact fin 0 (Or.inl ⟨rfl, ⟨k2t (by omega), k1t (by omega)⟩, by omega⟩)
    | exact fin 2 (Or.inr (Or.inr ⟨rfl, ⟨k2t (by omega), k1t (by omega)⟩, by omega⟩))
    | exact fin 1 (Or.inr (Or.inl ⟨rfl, fun z => k2f (by omega) z.1⟩))
    | exact fin 1 (Or.inr (Or.inl ⟨rfl, fun z => k1f (by omega) z.2⟩))
  · refine aw_aload_n C dX5_set_9 rfl ?_
    refine aw_iload_n C dX5_set_10 rfl ?_
    refine aw_call1 C dX5_set_11 lX5_126 vX5_hasRay (t_X5_hasRay h hi) rfl rfl rfl ⟨rfl, by decide⟩ rfl ⟨by decide, by decide⟩ (Nat.le_of_ble_eq_true rfl) ?_
    refine aw_if_ne C dX5_set_14 (tgt := 21) (by decide) ⟨by omega, by omega⟩ (fun c2 => ?_) (fun c2 => ?_)
    · refine aw_iload_n C dX5_set_21 rfl ?_
      refine aw_i2l C dX5_set_22 ⟨by omega, by omega⟩ ?_
      refine aw_ldc2 C dX5_set_23 kX5_228 (z := 20) (by decide +kernel) ?_
      refine aw_callS1 C dX5_set_26 lX5_230 vX4_isBeyond (t_X4_isBeyondB ⟨by omega, by omega⟩ ⟨by omega, by omega⟩ ⟨by omega, by omega⟩) rfl rfl rfl ⟨by decide, by decide⟩ (Nat.le_of_ble_eq_true rfl) ?_
      refine aw_if_eq C dX5_set_29 (tgt := 36) (by decide) ⟨by omega, by omega⟩ (fun c3 => ?_) (fun c3 => ?_)
      · refine aw_iconst C dX5_set_36 ?_
        first
        | exact fin 0 (Or.inl ⟨rfl, ⟨k2t (by omega), k1t (by omega)⟩, by omega⟩)
        | exact fin 2 (Or.inr (Or.inr ⟨rfl, ⟨k2t (by omega), k1t (by omega)⟩, by omega⟩))
        | exact fin 1 (Or.inr (Or.inl ⟨rfl, fun z => k2f (by omega) z.1⟩))
        | exact fin 1 (Or.inr (Or.inl ⟨rfl, fun z => k1f (by omega) z.2⟩))
      · refine aw_iconst C dX5_set_32 ?_
        refine aw_goto C dX5_set_33 (tgt := 37) (by decide) ?_
        first
        | exact fin 0 (Or.inl ⟨rfl, ⟨k2t (by omega), k1t (by omega)⟩, by omega⟩)
        | exact fin 2 (Or.inr (Or.inr ⟨rfl, ⟨k2t (by omega), k1t (by omega)⟩, by omega⟩))
        | exact fin 1 (Or.inr (Or.inl ⟨rfl, fun z => k2f (by omega) z.1⟩))
        | exact fin 1 (Or.inr (Or.inl ⟨rfl, fun z => k1f (by omega) z.2⟩))
    · refine aw_iconst C dX5_set_17 ?_
      refine aw_goto C dX5_set_18 (tgt := 37) (by decide) ?_
      first
      | exact fin 0 (Or.inl ⟨rfl, ⟨k2t (by omega), k1t (by omega)⟩, by omega⟩)
      | exact fin 2 (Or.inr (Or.inr ⟨rfl, ⟨k2t (by omega), k1t (by omega)⟩, by omega⟩))
      | exact fin 1 (Or.inr (Or.inl ⟨rfl, fun z => k2f (by omega) z.1⟩))
      | exact fin 1 (Or.inr (Or.inl ⟨rfl, fun z => k1f (by omega) z.2⟩))

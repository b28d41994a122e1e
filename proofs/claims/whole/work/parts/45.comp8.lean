noncomputable def qAd (V : FV) (d e t : Int) : Int × Int := if ¬ ((0 ≤ d ∧ d < V.2.1) ∧ 0 ≤ e ∧ e < V.2.1) then (0, 1) else if b01 (t < -3 ∨ 3 < t) = 1 then (0, 2) else if b01 (∀ j : Int, 0 ≤ j → j < V.1 → hld (gn V d j + t * gn V e j)) = 1 then (1, 0) else (0, 3)
def wAd (V : FV) (d e t : Int) : FV := setN V d.toNat (fun j => gn V d j + t * gn V e j)
theorem t_X5_adds {mu : Mem} {V : FV} {a : Int} {H : Nat → FV} {d e t : Int} (S : cSt mu V a H) (hd : R32 d) (he : R32 e) (ht : R32 t) : Tr 3 mX5_adds [vr 0, vi d, vi e, vi t] mu (fun r m2 => r = some (vi (qAd V d e t).1) ∧ actR mu m2 V a H (qAd V d e t).2 (wAd V d e t)) := by
  refine Tr.of (by decide +kernel) (Nat.le_of_ble_eq_true rfl) (fun K C E => ?_)
  obtain ⟨f, g, p, r, h, rfl⟩ := S.rn
  obtain ⟨⟨hf, ef⟩, ⟨hg, eg⟩, ⟨hp, ep⟩, fne⟩ := id r
  have hV := h.2.2.1
  have hn := hV.n
  have hl := hV.l
  have en0 : (fv mu f).1 = mu f 0 := rfl
  have el0 : (fv mu f).2.1 = mu f 1 := rfl
  unfold qAd at E
  have k2 := b01_01 (0 ≤ d ∧ d < mu f 1)
  have k2t : b01 (0 ≤ d ∧ d < mu f 1) = 1 → 0 ≤ d ∧ d < mu f 1 := b01_iff.mp
  have k2f : b01 (0 ≤ d ∧ d < mu f 1) = 0 → ¬ (0 ≤ d ∧ d < mu f 1) := b01_niff.mp
  have k1 := b01_01 (0 ≤ e ∧ e < mu f 1)
  have k1t : b01 (0 ≤ e ∧ e < mu f 1) = 1 → 0 ≤ e ∧ e < mu f 1 := b01_iff.mp
  have k1f : b01 (0 ≤ e ∧ e < mu f 1) = 0 → ¬ (0 ≤ e ∧ e < mu f 1) := b01_niff.mp
  have k3 := b01_01 ((t < -3 ∨ 3 < t))
  have k5 := b01_01 (∀ j : Int, 0 ≤ j → j < (fv mu f).1 → hld (gn (fv mu f) d j + t * gn (fv mu f) e j))
  have fin : ∀ (c : Int), (c = 0 ∧ ((0 ≤ d ∧ d < mu f 1) ∧ 0 ≤ e ∧ e < mu f 1) ∧ b01 (t < -3 ∨ 3 < t) = 0) ∨ (c = 1 ∧ ¬ ((0 ≤ d ∧ d < mu f 1) ∧ 0 ≤ e ∧ e < mu f 1)) ∨ (c = 2 ∧ ((0 ≤ d ∧ d < mu f 1) ∧ 0 ≤ e ∧ e < mu f 1) ∧ b01 (t < -3 ∨ 3 < t) = 1) → AW K mX5_adds (NC, 0, 0) 37 [vr 0, vi d, vi e, vi t] [vi c, vr 0] mu := by
    rintro c (⟨rfl, q⟩ | ⟨rfl, q⟩ | ⟨rfl, q⟩)
    · rw [if_neg (show ¬ ¬ ((0 ≤ d ∧ d < (fv mu f).2.1) ∧ 0 ≤ e ∧ e < (fv mu f).2.1) from fun z => z q.1), if_neg (show ¬ b01 (t < -3 ∨ 3 < t) = 1 by omega)] at E
      have bv := b01_niff.mp q.2
      refine aw_putI C dX5_adds_37 fX5_62 ⟨rfl, by decide⟩ rfl rfl rfl ?_
      have hc : cE mu (wr mu 0 11 0) 0 := cE_w
      generalize wr mu 0 11 0 = m1 at *
      obtain ⟨e5, ev, hV1, en, el, e11⟩ := hc.all h
      have e6 : m1 0 6 = (g : Int) := ((hc.df (g := g)).c0 hg (by decide)).trans eg
      refine aw_aload_n C dX5_adds_40 rfl ?_
      refine aw_getI C dX5_adds_41 fX5_62 ⟨rfl, by decide⟩ rfl ?_
      rw [e11]
      refine aw_if_eq C dX5_adds_44 (tgt := 49) (by decide) ⟨by omega, by omega⟩ (fun c1 => ?_) (fun c1 => ?_)
      · refine aw_aload_n C dX5_adds_49 rfl ?_
        refine aw_getR C dX5_adds_50 fX5_47 ⟨rfl, by decide⟩ rfl e6 ?_
        refine aw_aload_n C dX5_adds_53 rfl ?_
        refine aw_getR C dX5_adds_54 fX5_43 ⟨rfl, by decide⟩ rfl e5 ?_
        refine aw_call C dX5_adds_57 lX5_234 vX1_copyFrom (t_X1_copyFrom hg hf (fun w => fne w.symm) (by omega) (by omega)) rfl rfl rfl hg.s0 rfl ⟨by decide, by decide⟩ (Nat.le_of_ble_eq_true rfl) (fun r2 mu2 hq2 => ?_)
        obtain ⟨rfl, y1, y2⟩ := hq2
        have D2 : dfr g mu mu2 := (hc.df (g := g)).m y2
        have e5b : mu2 0 5 = (f : Int) := (D2.c0 hg (by decide)).trans ef
        have e6b : mu2 0 6 = (g : Int) := (D2.c0 hg (by decide)).trans eg
        have e11b : mu2 0 11 = 0 := by have := hg.ge; rw [y2 0 (by unfold fanS; omega)]; exact e11
        have n2 : mu2 g 0 = mu f 0 := by rw [ev] at y1; exact congrArg (fun z : FV => z.1) y1
        have l2 : mu2 g 1 = mu f 1 := by rw [ev] at y1; exact congrArg (fun z : FV => z.2.1) y1
        rw [ev] at y1
        have hVg : bV (fv mu2 g) := by rw [y1]; exact hV
        have evb : fv mu2 f = fv mu f := D2.fv hg hf fne
        have hVf : bV (fv mu2 f) := by rw [evb]; exact hV
        have n2f : mu2 f 0 = mu f 0 := congrArg (fun z : FV => z.1) evb
        have l2f : mu2 f 1 = mu f 1 := congrArg (fun z : FV => z.2.1) evb
        generalize mu2 = m2 at *
        show AW _ _ _ _ _ [] _
        refine aw_aload_n C dX5_adds_60 rfl ?_
        refine aw_aload_n C dX5_adds_61 rfl ?_
        refine aw_getR C dX5_adds_62 fX5_47 ⟨rfl, by decide⟩ rfl e6b ?_
        refine aw_iload_n C dX5_adds_65 rfl ?_
        refine aw_iload_n C dX5_adds_66 rfl ?_
        refine aw_iload_n C dX5_adds_67 rfl ?_
        refine aw_call C dX5_adds_68 lX5_247 vX1_addLoad (t_X1_addLoad hg hVg (by omega) (by omega) (by omega) (by omega) ⟨by omega, by omega⟩) rfl rfl rfl hg.s0 rfl ⟨by decide, by decide⟩ (Nat.le_of_ble_eq_true rfl) (fun r3 mu3 hq3 => ?_)
        obtain ⟨w1, rfl, w3⟩ := hq3
        have D3 : dfr g mu mu3 := D2.m w1
        have e11c : mu3 0 11 = 0 := by have := hg.ge; rw [w1 0 (by unfold fanS; omega)]; exact e11b
        rw [n2, y1]
        rw [y1] at w3
        generalize mu3 = m3 at *
        show AW _ _ _ _ _ (vi (b01 (∀ j : Int, 0 ≤ j → j < (fv mu f).1 → hld (gn (fv mu f) d j + t * gn (fv mu f) e j))) :: _) _
        refine aw_call1 C dX5_adds_71 lX5_251 vX5_keepIf (ki S r D3 k5) rfl rfl rfl ⟨rfl, by decide⟩ rfl ⟨by decide, by decide⟩ (Nat.le_of_ble_eq_true rfl) ?_
        exact aw_zret C E dX5_adds_74 rfl k5 (by
  by_cases w : b01 (∀ j : Int, 0 ≤ j → j < (fv mu f).1 → hld (gn (fv mu f) d j + t * gn (fv mu f) e j)) = 0
  · rw [if_pos w, if_neg (show ¬ b01 (∀ j : Int, 0 ≤ j → j < (fv mu f).1 → hld (gn (fv mu f) d j + t * gn (fv mu f) e j)) = 1 by omega), w]
    exact ⟨rfl, act_n S hg eg D3.w (by rw [wr_at, if_pos ⟨rfl, rfl⟩]) (by decide)⟩
  · rw [if_neg w, if_pos (show b01 (∀ j : Int, 0 ≤ j → j < (fv mu f).1 → hld (gn (fv mu f) d j + t * gn (fv mu f) e j)) = 1 by omega), show b01 (∀ j : Int, 0 ≤ j → j < (fv mu f).1 → hld (gn (fv mu f) d j + t * gn (fv mu f) e j)) = 1 by omega]
    exact ⟨rfl, act_k S r D3 e11c (by have := (h.2.2.cl (Or.inr (show 0 < (fv mu f).2.1 by omega))).1.1; omega) w3 (gV_set h.2.2 (fun j hj => b01_iff.mp (show b01 (∀ j : Int, 0 ≤ j → j < (fv mu f).1 → hld (gn (fv mu f) d j + t * gn (fv mu f) e j)) = 1 by omega) j (by omega) hj))⟩)
      · exfalso; omega
    · rw [if_pos (show ¬ ((0 ≤ d ∧ d < (fv mu f).2.1) ∧ 0 ≤ e ∧ e < (fv mu f).2.1) from q)] at E
      refine aw_putI C dX5_adds_37 fX5_62 ⟨rfl, by decide⟩ rfl rfl rfl ?_
      have hc : cE mu (wr mu 0 11 1) 1 := cE_w
      generalize wr mu 0 11 1 = m1 at *
      obtain ⟨e5, ev, hV1, en, el, e11⟩ := hc.all h
      have e6 : m1 0 6 = (g : Int) := ((hc.df (g := g)).c0 hg (by decide)).trans eg
      refine aw_aload_n C dX5_adds_40 rfl ?_
      refine aw_getI C dX5_adds_41 fX5_62 ⟨rfl, by decide⟩ rfl ?_
      rw [e11]
      refine aw_if_eq C dX5_adds_44 (tgt := 49) (by decide) ⟨by omega, by omega⟩ (fun c1 => ?_) (fun c1 => ?_)
      · exfalso; omega
      · refine aw_iconst C dX5_adds_47 ?_
        exact aw_zret C E dX5_adds_48 rfl (by omega) ⟨rfl, act_n S hg eg hc.df e11 (by decide)⟩
    · rw [if_neg (show ¬ ¬ ((0 ≤ d ∧ d < (fv mu f).2.1) ∧ 0 ≤ e ∧ e < (fv mu f).2.1) from fun z => z q.1), if_pos q.2] at E
      refine aw_putI C dX5_adds_37 fX5_62 ⟨rfl, by decide⟩ rfl rfl rfl ?_
      have hc : cE mu (wr mu 0 11 2) 2 := cE_w
      generalize wr mu 0 11 2 = m1 at *
      obtain ⟨e5, ev, hV1, en, el, e11⟩ := hc.all h
      have e6 : m1 0 6 = (g : Int) := ((hc.df (g := g)).c0 hg (by decide)).trans eg
      refine aw_aload_n C dX5_adds_40 rfl ?_
      refine aw_getI C dX5_adds_41 fX5_62 ⟨rfl, by decide⟩ rfl ?_
      rw [e11]
      refine aw_if_eq C dX5_adds_44 (tgt := 49) (by decide) ⟨by omega, by omega⟩ (fun c1 => ?_) (fun c1 => ?_)
      · exfalso; omega
      · refine aw_iconst C dX5_adds_47 ?_
        exact aw_zret C E dX5_adds_48 rfl (by omega) ⟨rfl, act_n S hg eg hc.df e11 (by decide)⟩
  refine aw_aload_n C dX5_adds_0 rfl ?_
  refine aw_aload_n C dX5_adds_1 rfl ?_
  refine aw_iload_n C dX5_adds_2 rfl ?_
  refine aw_call1 C dX5_adds_3 lX5_165 vX5_hasLoad (t_X5_hasLoad h hd) rfl rfl rfl ⟨rfl, by decide⟩ rfl ⟨by decide, by decide⟩ (Nat.le_of_ble_eq_true rfl) ?_
  refine aw_if_eq C dX5_adds_6 (tgt := 17) (by decide) ⟨by omega, by omega⟩ (fun c1 => ?_) (fun c1 => ?_)
  · refine aw_iconst C dX5_adds_17 ?_
    refine aw_goto C dX5_adds_18 (tgt := 37) (by decide) ?_
    first
    | exact fin 0 (Or.inl ⟨rfl, ⟨k2t (by omega), k1t (by omega)⟩, by omega⟩)
    | exact fin 2 (Or.inr (Or.inr ⟨rfl, ⟨k2t (by omega), k1t (by omega)⟩, by omega⟩))
    | exact fin 1 (Or.inr (Or.inl ⟨rfl, fun z => k2f (by omega) z.1⟩))
    | exact fin 1 (Or.inr (Or.inl ⟨rfl, fun z => k1f (by omega) z.2⟩))
  · refine aw_aload_n C dX5_adds_9 rfl ?_
    refine aw_iload_n C dX5_adds_10 rfl ?_
    refine aw_call1 C dX5_adds_11 lX5_165 vX5_hasLoad (t_X5_hasLoad h he) rfl rfl rfl ⟨rfl, by decide⟩ rfl ⟨by decide, by decide⟩ (Nat.le_of_ble_eq_true rfl) ?_
    refine aw_if_ne C dX5_adds_14 (tgt := 21) (by decide) ⟨by omega, by omega⟩ (fun c2 => ?_) (fun c2 => ?_)
    · refine aw_iload_n C dX5_adds_21 rfl ?_
      refine aw_i2l C dX5_adds_22 ⟨by omega, by omega⟩ ?_
      refine aw_ldc2 C dX5_adds_23 kX5_245 (z := 3) (by decide +kernel) ?_
      refine aw_callS1 C dX5_adds_26 lX5_230 vX4_isBeyond (t_X4_isBeyondB ⟨by omega, by omega⟩ ⟨by omega, by omega⟩ ⟨by omega, by omega⟩) rfl rfl rfl ⟨by decide, by decide⟩ (Nat.le_of_ble_eq_true rfl) ?_
      refine aw_if_eq C dX5_adds_29 (tgt := 36) (by decide) ⟨by omega, by omega⟩ (fun c3 => ?_) (fun c3 => ?_)
      · refine aw_iconst C dX5_adds_36 ?_
        first
        | exact fin 0 (Or.inl ⟨rfl, ⟨k2t (by omega), k1t (by omega)⟩, by omega⟩)
        | exact fin 2 (Or.inr (Or.inr ⟨rfl, ⟨k2t (by omega), k1t (by omega)⟩, by omega⟩))
        | exact fin 1 (Or.inr (Or.inl ⟨rfl, fun z => k2f (by omega) z.1⟩))
        | exact fin 1 (Or.inr (Or.inl ⟨rfl, fun z => k1f (by omega) z.2⟩))
      · refine aw_iconst C dX5_adds_32 ?_
        refine aw_goto C dX5_adds_33 (tgt := 37) (by decide) ?_
        first
        | exact fin 0 (Or.inl ⟨rfl, ⟨k2t (by omega), k1t (by omega)⟩, by omega⟩)
        | exact fin 2 (Or.inr (Or.inr ⟨rfl, ⟨k2t (by omega), k1t (by omega)⟩, by omega⟩))
        | exact fin 1 (Or.inr (Or.inl ⟨rfl, fun z => k2f (by omega) z.1⟩))
        | exact fin 1 (Or.inr (Or.inl ⟨rfl, fun z => k1f (by omega) z.2⟩))
    · refine aw_iconst C dX5_adds_17 ?_
      refine aw_goto C dX5_adds_18 (tgt := 37) (by decide) ?_
      first
      | exact fin 0 (Or.inl ⟨rfl, ⟨k2t (by omega), k1t (by omega)⟩, by omega⟩)
      | exact fin 2 (Or.inr (Or.inr ⟨rfl, ⟨k2t (by omega), k1t (by omega)⟩, by omega⟩))
      | exact fin 1 (Or.inr (Or.inl ⟨rfl, fun z => k2f (by omega) z.1⟩))
      | exact fin 1 (Or.inr (Or.inl ⟨rfl, fun z => k1f (by omega) z.2⟩))
noncomputable def qSh (V : FV) (d x y : Int) : Int × Int := if ¬ (0 ≤ d ∧ d < V.2.1) then (0, 1) else if b01 ((x < -20 ∨ 20 < x) ∨ (y < -20 ∨ 20 < y)) = 1 then (0, 2) else if b01 (∀ j : Int, 0 ≤ j → j < V.1 → hld (gn V d j + x * gx V j + y * gy V j)) = 1 then (1, 0) else (0, 3)
def wSh (V : FV) (d x y : Int) : FV := setN V d.toNat (fun j => gn V d j + x * gx V j + y * gy V j)
theorem t_X5_shifts {mu : Mem} {V : FV} {a : Int} {H : Nat → FV} {d x y : Int} (S : cSt mu V a H) (hd : R32 d) (hx : R32 x) (hy : R32 y) : Tr 3 mX5_shifts [vr 0, vi d, vi x, vi y] mu (fun r m2 => r = some (vi (qSh V d x y).1) ∧ actR mu m2 V a H (qSh V d x y).2 (wSh V d x y)) := by
  refine Tr.of (by decide +kernel) (Nat.le_of_ble_eq_true rfl) (fun K C E => ?_)
  obtain ⟨f, g, p, r, h, rfl⟩ := S.rn
  obtain ⟨⟨hf, ef⟩, ⟨hg, eg⟩, ⟨hp, ep⟩, fne⟩ := id r
  have hV := h.2.2.1
  have hn := hV.n
  have hl := hV.l
  have en0 : (fv mu f).1 = mu f 0 := rfl
  have el0 : (fv mu f).2.1 = mu f 1 := rfl
  unfold qSh at E
  have k2 := b01_01 (0 ≤ d ∧ d < mu f 1)
  have k2t : b01 (0 ≤ d ∧ d < mu f 1) = 1 → 0 ≤ d ∧ d < mu f 1 := b01_iff.mp
  have k2f : b01 (0 ≤ d ∧ d < mu f 1) = 0 → ¬ (0 ≤ d ∧ d < mu f 1) := b01_niff.mp
  have k3 := b01_01 (((x < -20 ∨ 20 < x) ∨ (y < -20 ∨ 20 < y)))
  have k5 := b01_01 (∀ j : Int, 0 ≤ j → j < (fv mu f).1 → hld (gn (fv mu f) d j + x * gx (fv mu f) j + y * gy (fv mu f) j))
  have k6 := b01_01 (x < -20 ∨ 20 < x)
  have k7 := b01_01 (y < -20 ∨ 20 < y)
  have k6t := @b01_iff (x < -20 ∨ 20 < x)
  have k6f := @b01_niff (x < -20 ∨ 20 < x)
  have k7t := @b01_iff (y < -20 ∨ 20 < y)
  have k7f := @b01_niff (y < -20 ∨ 20 < y)
  have k3t := @b01_iff ((x < -20 ∨ 20 < x) ∨ (y < -20 ∨ 20 < y))
  have k3f := @b01_niff ((x < -20 ∨ 20 < x) ∨ (y < -20 ∨ 20 < y))
  have fin : ∀ {v90 : Vv} (c : Int), (c = 0 ∧ (0 ≤ d ∧ d < mu f 1) ∧ b01 ((x < -20 ∨ 20 < x) ∨ (y < -20 ∨ 20 < y)) = 0) ∨ (c = 1 ∧ ¬ (0 ≤ d ∧ d < mu f 1)) ∨ (c = 2 ∧ (0 ≤ d ∧ d < mu f 1) ∧ b01 ((x < -20 ∨ 20 < x) ∨ (y < -20 ∨ 20 < y)) = 1) → AW K mX5_shifts (NC, 0, 0) 52 [vr 0, vi d, vi x, vi y, v90] [vi c, vr 0] mu := by
    rintro v90 c (⟨rfl, q⟩ | ⟨rfl, q⟩ | ⟨rfl, q⟩)
    · rw [if_neg (show ¬ ¬ (0 ≤ d ∧ d < (fv mu f).2.1) from fun z => z q.1), if_neg (show ¬ b01 ((x < -20 ∨ 20 < x) ∨ (y < -20 ∨ 20 < y)) = 1 by omega)] at E
      have bv := b01_niff.mp q.2
      refine aw_putI C dX5_shifts_52 fX5_62 ⟨rfl, by decide⟩ rfl rfl rfl ?_
      have hc : cE mu (wr mu 0 11 0) 0 := cE_w
      generalize wr mu 0 11 0 = m1 at *
      obtain ⟨e5, ev, hV1, en, el, e11⟩ := hc.all h
      have e6 : m1 0 6 = (g : Int) := ((hc.df (g := g)).c0 hg (by decide)).trans eg
      refine aw_aload_n C dX5_shifts_55 rfl ?_
      refine aw_getI C dX5_shifts_56 fX5_62 ⟨rfl, by decide⟩ rfl ?_
      rw [e11]
      refine aw_if_eq C dX5_shifts_59 (tgt := 64) (by decide) ⟨by omega, by omega⟩ (fun c1 => ?_) (fun c1 => ?_)
      · refine aw_aload_n C dX5_shifts_64 rfl ?_
        refine aw_getR C dX5_shifts_65 fX5_47 ⟨rfl, by decide⟩ rfl e6 ?_
        refine aw_aload_n C dX5_shifts_68 rfl ?_
        refine aw_getR C dX5_shifts_69 fX5_43 ⟨rfl, by decide⟩ rfl e5 ?_
        refine aw_call C dX5_shifts_72 lX5_234 vX1_copyFrom (t_X1_copyFrom hg hf (fun w => fne w.symm) (by omega) (by omega)) rfl rfl rfl hg.s0 rfl ⟨by decide, by decide⟩ (Nat.le_of_ble_eq_true rfl) (fun r2 mu2 hq2 => ?_)
        obtain ⟨rfl, y1, y2⟩ := hq2
        have D2 : dfr g mu mu2 := (hc.df (g := g)).m y2
        have e5b : mu2 0 5 = (f : Int) := (D2.c0 hg (by decide)).trans ef
        have e6b : mu2 0 6 = (g : Int) := (D2.c0 hg (by decide)).trans eg
        have e11b : mu2 0 11 = 0 := by have := hg.ge; rw [y2 0 (by unfold fanS; omega)]; exact e11
        have n2 : mu2 g 0 = mu f 0 := by rw [ev] at y1; exact congrArg (fun z : FV => z.1) y1
        have l2 : mu2 g 1 = mu f 1 := by rw [ev] at y1; exact congrArg (fun z : FV => z.2.1) y1
        rw [ev] at y1
        have hVg : bV (fv mu2 g) := by rw [y1]; exact hV
        have evb : fv mu2 f = fv mu f := D2.fv hg hf fne
        have hVf : bV (fv mu2 f) := by rw [evb]; exact hV
        have n2f : mu2 f 0 = mu f 0 := congrArg (fun z : FV => z.1) evb
        have l2f : mu2 f 1 = mu f 1 := congrArg (fun z : FV => z.2.1) evb
        generalize mu2 = m2 at *
        show AW _ _ _ _ _ [] _
        refine aw_aload_n C dX5_shifts_75 rfl ?_
        refine aw_aload_n C dX5_shifts_76 rfl ?_
        refine aw_getR C dX5_shifts_77 fX5_47 ⟨rfl, by decide⟩ rfl e6b ?_
        refine aw_iload_n C dX5_shifts_80 rfl ?_
        refine aw_iload_n C dX5_shifts_81 rfl ?_
        refine aw_iload_n C dX5_shifts_82 rfl ?_
        refine aw_call C dX5_shifts_83 lX5_255 vX1_addWhole (t_X1_addWhole hg hVg (by omega) (by omega) ⟨by omega, by omega⟩ ⟨by omega, by omega⟩) rfl rfl rfl hg.s0 rfl ⟨by decide, by decide⟩ (Nat.le_of_ble_eq_true rfl) (fun r3 mu3 hq3 => ?_)
        obtain ⟨w1, rfl, w3⟩ := hq3
        have D3 : dfr g mu mu3 := D2.m w1
        have e11c : mu3 0 11 = 0 := by have := hg.ge; rw [w1 0 (by unfold fanS; omega)]; exact e11b
        rw [n2, y1]
        rw [y1] at w3
        generalize mu3 = m3 at *
        show AW _ _ _ _ _ (vi (b01 (∀ j : Int, 0 ≤ j → j < (fv mu f).1 → hld (gn (fv mu f) d j + x * gx (fv mu f) j + y * gy (fv mu f) j))) :: _) _
        refine aw_call1 C dX5_shifts_86 lX5_251 vX5_keepIf (ki S r D3 k5) rfl rfl rfl ⟨rfl, by decide⟩ rfl ⟨by decide, by decide⟩ (Nat.le_of_ble_eq_true rfl) ?_
        exact aw_zret C E dX5_shifts_89 rfl k5 (by
  by_cases w : b01 (∀ j : Int, 0 ≤ j → j < (fv mu f).1 → hld (gn (fv mu f) d j + x * gx (fv mu f) j + y * gy (fv mu f) j)) = 0
  · rw [if_pos w, if_neg (show ¬ b01 (∀ j : Int, 0 ≤ j → j < (fv mu f).1 → hld (gn (fv mu f) d j + x * gx (fv mu f) j + y * gy (fv mu f) j)) = 1 by omega), w]
    exact ⟨rfl, act_n S hg eg D3.w (by rw [wr_at, if_pos ⟨rfl, rfl⟩]) (by decide)⟩
  · rw [if_neg w, if_pos (show b01 (∀ j : Int, 0 ≤ j → j < (fv mu f).1 → hld (gn (fv mu f) d j + x * gx (fv mu f) j + y * gy (fv mu f) j)) = 1 by omega), show b01 (∀ j : Int, 0 ≤ j → j < (fv mu f).1 → hld (gn (fv mu f) d j + x * gx (fv mu f) j + y * gy (fv mu f) j)) = 1 by omega]
    exact ⟨rfl, act_k S r D3 e11c (by have := (h.2.2.cl (Or.inr (show 0 < (fv mu f).2.1 by omega))).1.1; omega) w3 (gV_set h.2.2 (fun j hj => b01_iff.mp (show b01 (∀ j : Int, 0 ≤ j → j < (fv mu f).1 → hld (gn (fv mu f) d j + x * gx (fv mu f) j + y * gy (fv mu f) j)) = 1 by omega) j (by omega) hj))⟩)
      · exfalso; omega
    · rw [if_pos (show ¬ (0 ≤ d ∧ d < (fv mu f).2.1) from q)] at E
      refine aw_putI C dX5_shifts_52 fX5_62 ⟨rfl, by decide⟩ rfl rfl rfl ?_
      have hc : cE mu (wr mu 0 11 1) 1 := cE_w
      generalize wr mu 0 11 1 = m1 at *
      obtain ⟨e5, ev, hV1, en, el, e11⟩ := hc.all h
      have e6 : m1 0 6 = (g : Int) := ((hc.df (g := g)).c0 hg (by decide)).trans eg
      refine aw_aload_n C dX5_shifts_55 rfl ?_
      refine aw_getI C dX5_shifts_56 fX5_62 ⟨rfl, by decide⟩ rfl ?_
      rw [e11]
      refine aw_if_eq C dX5_shifts_59 (tgt := 64) (by decide) ⟨by omega, by omega⟩ (fun c1 => ?_) (fun c1 => ?_)
      · exfalso; omega
      · refine aw_iconst C dX5_shifts_62 ?_
        exact aw_zret C E dX5_shifts_63 rfl (by omega) ⟨rfl, act_n S hg eg hc.df e11 (by decide)⟩
    · rw [if_neg (show ¬ ¬ (0 ≤ d ∧ d < (fv mu f).2.1) from fun z => z q.1), if_pos q.2] at E
      refine aw_putI C dX5_shifts_52 fX5_62 ⟨rfl, by decide⟩ rfl rfl rfl ?_
      have hc : cE mu (wr mu 0 11 2) 2 := cE_w
      generalize wr mu 0 11 2 = m1 at *
      obtain ⟨e5, ev, hV1, en, el, e11⟩ := hc.all h
      have e6 : m1 0 6 = (g : Int) := ((hc.df (g := g)).c0 hg (by decide)).trans eg
      refine aw_aload_n C dX5_shifts_55 rfl ?_
      refine aw_getI C dX5_shifts_56 fX5_62 ⟨rfl, by decide⟩ rfl ?_
      rw [e11]
      refine aw_if_eq C dX5_shifts_59 (tgt := 64) (by decide) ⟨by omega, by omega⟩ (fun c1 => ?_) (fun c1 => ?_)
      · exfalso; omega
      · refine aw_iconst C dX5_shifts_62 ?_
        exact aw_zret C E dX5_shifts_63 rfl (by omega) ⟨rfl, act_n S hg eg hc.df e11 (by decide)⟩
  refine aw_iload_n C dX5_shifts_0 rfl ?_
  refine aw_i2l C dX5_shifts_1 ⟨by omega, by omega⟩ ?_
  refine aw_ldc2 C dX5_shifts_2 kX5_228 (z := 20) (by decide +kernel) ?_
  refine aw_callS1 C dX5_shifts_5 lX5_230 vX4_isBeyond (t_X4_isBeyondB ⟨by omega, by omega⟩ ⟨by omega, by omega⟩ ⟨by omega, by omega⟩) rfl rfl rfl ⟨by decide, by decide⟩ (Nat.le_of_ble_eq_true rfl) ?_
  refine aw_if_ne C dX5_shifts_8 (tgt := 22) (by decide) ⟨by omega, by omega⟩ (fun c1 => ?_) (fun c1 => ?_)
  · refine aw_iconst C dX5_shifts_22 ?_
    refine aw_goto C dX5_shifts_23 (tgt := 27) (by decide) ?_
    refine aw_istore C dX5_shifts_27 (by decide) ?_
    refine aw_aload_n C dX5_shifts_29 rfl ?_
    refine aw_aload_n C dX5_shifts_30 rfl ?_
    refine aw_iload_n C dX5_shifts_31 rfl ?_
    refine aw_call1 C dX5_shifts_32 lX5_165 vX5_hasLoad (t_X5_hasLoad h hd) rfl rfl rfl ⟨rfl, by decide⟩ rfl ⟨by decide, by decide⟩ (Nat.le_of_ble_eq_true rfl) ?_
    refine aw_if_ne C dX5_shifts_35 (tgt := 42) (by decide) ⟨by omega, by omega⟩ (fun c3 => ?_) (fun c3 => ?_)
    · refine aw_iload C dX5_shifts_42 rfl ?_
      refine aw_if_eq C dX5_shifts_44 (tgt := 51) (by decide) ⟨by omega, by omega⟩ (fun c4 => ?_) (fun c4 => ?_)
      · refine aw_iconst C dX5_shifts_51 ?_
        first
        | exact fin 1 (Or.inr (Or.inl ⟨rfl, k2f (by omega)⟩))
        | exact fin 0 (Or.inl ⟨rfl, k2t (by omega), k3f.mpr (fun z => by rcases z with z | z; exact k6f.mp (by omega) z; exact k7f.mp (by omega) z)⟩)
        | exact fin 2 (Or.inr (Or.inr ⟨rfl, k2t (by omega), k3t.mpr (Or.inl (k6t.mp (by omega)))⟩))
        | exact fin 2 (Or.inr (Or.inr ⟨rfl, k2t (by omega), k3t.mpr (Or.inr (k7t.mp (by omega)))⟩))
        | exact absurd c4 (by decide)
        | exact absurd rfl c4
      · refine aw_iconst C dX5_shifts_47 ?_
        refine aw_goto C dX5_shifts_48 (tgt := 52) (by decide) ?_
        first
        | exact fin 1 (Or.inr (Or.inl ⟨rfl, k2f (by omega)⟩))
        | exact fin 0 (Or.inl ⟨rfl, k2t (by omega), k3f.mpr (fun z => by rcases z with z | z; exact k6f.mp (by omega) z; exact k7f.mp (by omega) z)⟩)
        | exact fin 2 (Or.inr (Or.inr ⟨rfl, k2t (by omega), k3t.mpr (Or.inl (k6t.mp (by omega)))⟩))
        | exact fin 2 (Or.inr (Or.inr ⟨rfl, k2t (by omega), k3t.mpr (Or.inr (k7t.mp (by omega)))⟩))
        | exact absurd c4 (by decide)
        | exact absurd rfl c4
    · refine aw_iconst C dX5_shifts_38 ?_
      refine aw_goto C dX5_shifts_39 (tgt := 52) (by decide) ?_
      first
      | exact fin 1 (Or.inr (Or.inl ⟨rfl, k2f (by omega)⟩))
      | exact fin 0 (Or.inl ⟨rfl, k2t (by omega), k3f.mpr (fun z => by rcases z with z | z; exact k6f.mp (by omega) z; exact k7f.mp (by omega) z)⟩)
      | exact fin 2 (Or.inr (Or.inr ⟨rfl, k2t (by omega), k3t.mpr (Or.inl (k6t.mp (by omega)))⟩))
      | exact fin 2 (Or.inr (Or.inr ⟨rfl, k2t (by omega), k3t.mpr (Or.inr (k7t.mp (by omega)))⟩))
      | exact absurd c4 (by decide)
      | exact absurd rfl c4
  · refine aw_iload_n C dX5_shifts_11 rfl ?_
    refine aw_i2l C dX5_shifts_12 ⟨by omega, by omega⟩ ?_
    refine aw_ldc2 C dX5_shifts_13 kX5_228 (z := 20) (by decide +kernel) ?_
    refine aw_callS1 C dX5_shifts_16 lX5_230 vX4_isBeyond (t_X4_isBeyondB ⟨by omega, by omega⟩ ⟨by omega, by omega⟩ ⟨by omega, by omega⟩) rfl rfl rfl ⟨by decide, by decide⟩ (Nat.le_of_ble_eq_true rfl) ?_
    refine aw_if_eq C dX5_shifts_19 (tgt := 26) (by decide) ⟨by omega, by omega⟩ (fun c2 => ?_) (fun c2 => ?_)
    · refine aw_iconst C dX5_shifts_26 ?_
      refine aw_istore C dX5_shifts_27 (by decide) ?_
      refine aw_aload_n C dX5_shifts_29 rfl ?_
      refine aw_aload_n C dX5_shifts_30 rfl ?_
      refine aw_iload_n C dX5_shifts_31 rfl ?_
      refine aw_call1 C dX5_shifts_32 lX5_165 vX5_hasLoad (t_X5_hasLoad h hd) rfl rfl rfl ⟨rfl, by decide⟩ rfl ⟨by decide, by decide⟩ (Nat.le_of_ble_eq_true rfl) ?_
      refine aw_if_ne C dX5_shifts_35 (tgt := 42) (by decide) ⟨by omega, by omega⟩ (fun c3 => ?_) (fun c3 => ?_)
      · refine aw_iload C dX5_shifts_42 rfl ?_
        refine aw_if_eq C dX5_shifts_44 (tgt := 51) (by decide) ⟨by omega, by omega⟩ (fun c4 => ?_) (fun c4 => ?_)
        · refine aw_iconst C dX5_shifts_51 ?_
          first
          | exact fin 1 (Or.inr (Or.inl ⟨rfl, k2f (by omega)⟩))
          | exact fin 0 (Or.inl ⟨rfl, k2t (by omega), k3f.mpr (fun z => by rcases z with z | z; exact k6f.mp (by omega) z; exact k7f.mp (by omega) z)⟩)
          | exact fin 2 (Or.inr (Or.inr ⟨rfl, k2t (by omega), k3t.mpr (Or.inl (k6t.mp (by omega)))⟩))
          | exact fin 2 (Or.inr (Or.inr ⟨rfl, k2t (by omega), k3t.mpr (Or.inr (k7t.mp (by omega)))⟩))
          | exact absurd c4 (by decide)
          | exact absurd rfl c4
        · refine aw_iconst C dX5_shifts_47 ?_
          refine aw_goto C dX5_shifts_48 (tgt := 52) (by decide) ?_
          first
          | exact fin 1 (Or.inr (Or.inl ⟨rfl, k2f (by omega)⟩))
          | exact fin 0 (Or.inl ⟨rfl, k2t (by omega), k3f.mpr (fun z => by rcases z with z | z; exact k6f.mp (by omega) z; exact k7f.mp (by omega) z)⟩)
          | exact fin 2 (Or.inr (Or.inr ⟨rfl, k2t (by omega), k3t.mpr (Or.inl (k6t.mp (by omega)))⟩))
          | exact fin 2 (Or.inr (Or.inr ⟨rfl, k2t (by omega), k3t.mpr (Or.inr (k7t.mp (by omega)))⟩))
          | exact absurd c4 (by decide)
          | exact absurd rfl c4
      · refine aw_iconst C dX5_shifts_38 ?_
        refine aw_goto C dX5_shifts_39 (tgt := 52) (by decide) ?_
        first
        | exact fin 1 (Or.inr (Or.inl ⟨rfl, k2f (by omega)⟩))
        | exact fin 0 (Or.inl ⟨rfl, k2t (by omega), k3f.mpr (fun z => by rcases z with z | z; exact k6f.mp (by omega) z; exact k7f.mp (by omega) z)⟩)
        | exact fin 2 (Or.inr (Or.inr ⟨rfl, k2t (by omega), k3t.mpr (Or.inl (k6t.mp (by omega)))⟩))
        | exact fin 2 (Or.inr (Or.inr ⟨rfl, k2t (by omega), k3t.mpr (Or.inr (k7t.mp (by omega)))⟩))
        | exact absurd c4 (by decide)
        | exact absurd rfl c4
    · refine aw_iconst C dX5_shifts_22 ?_
      refine aw_goto C dX5_shifts_23 (tgt := 27) (by decide) ?_
      refine aw_istore C dX5_shifts_27 (by decide) ?_
      refine aw_aload_n C dX5_shifts_29 rfl ?_
      refine aw_aload_n C dX5_shifts_30 rfl ?_
      refine aw_iload_n C dX5_shifts_31 rfl ?_
      refine aw_call1 C dX5_shifts_32 lX5_165 vX5_hasLoad (t_X5_hasLoad h hd) rfl rfl rfl ⟨rfl, by decide⟩ rfl ⟨by decide, by decide⟩ (Nat.le_of_ble_eq_true rfl) ?_
      refine aw_if_ne C dX5_shifts_35 (tgt := 42) (by decide) ⟨by omega, by omega⟩ (fun c3 => ?_) (fun c3 => ?_)
      · refine aw_iload C dX5_shifts_42 rfl ?_
        refine aw_if_eq C dX5_shifts_44 (tgt := 51) (by decide) ⟨by omega, by omega⟩ (fun c4 => ?_) (fun c4 => ?_)
        · refine aw_iconst C dX5_shifts_51 ?_
          first
          | exact fin 1 (Or.inr (Or.inl ⟨rfl, k2f (by omega)⟩))
          | exact fin 0 (Or.inl ⟨rfl, k2t (by omega), k3f.mpr (fun z => by rcases z with z | z; exact k6f.mp (by omega) z; exact k7f.mp (by omega) z)⟩)
          | exact fin 2 (Or.inr (Or.inr ⟨rfl, k2t (by omega), k3t.mpr (Or.inl (k6t.mp (by omega)))⟩))
          | exact fin 2 (Or.inr (Or.inr ⟨rfl, k2t (by omega), k3t.mpr (Or.inr (k7t.mp (by omega)))⟩))
          | exact absurd c4 (by decide)
          | exact absurd rfl c4
        · refine aw_iconst C dX5_shifts_47 ?_
          refine aw_goto C dX5_shifts_48 (tgt := 52) (by decide) ?_
          first
          | exact fin 1 (Or.inr (Or.inl ⟨rfl, k2f (by omega)⟩))
          | exact fin 0 (Or.inl ⟨rfl, k2t (by omega), k3f.mpr (fun z => by rcases z with z | z; exact k6f.mp (by omega) z; exact k7f.mp (by omega) z)⟩)
          | exact fin 2 (Or.inr (Or.inr ⟨rfl, k2t (by omega), k3t.mpr (Or.inl (k6t.mp (by omega)))⟩))
          | exact fin 2 (Or.inr (Or.inr ⟨rfl, k2t (by omega), k3t.mpr (Or.inr (k7t.mp (by omega)))⟩))
          | exact absurd c4 (by decide)
          | exact absurd rfl c4
      · refine aw_iconst C dX5_shifts_38 ?_
        refine aw_goto C dX5_shifts_39 (tgt := 52) (by decide) ?_
        first
        | exact fin 1 (Or.inr (Or.inl ⟨rfl, k2f (by omega)⟩))
        | exact fin 0 (Or.inl ⟨rfl, k2t (by omega), k3f.mpr (fun z => by rcases z with z | z; exact k6f.mp (by omega) z; exact k7f.mp (by omega) z)⟩)
        | exact fin 2 (Or.inr (Or.inr ⟨rfl, k2t (by omega), k3t.mpr (Or.inl (k6t.mp (by omega)))⟩))
        | exact fin 2 (Or.inr (Or.inr ⟨rfl, k2t (by omega), k3t.mpr (Or.inr (k7t.mp (by omega)))⟩))
        | exact absurd c4 (by decide)
        | exact absurd rfl c4

noncomputable def qDr (V : FV) (i : Int) : Int × Int := if ¬ (0 ≤ i ∧ i < V.1) then (-1, 1) else if b01 (cgo V i) = 1 then (V.1 - 1, 0) else (-1, 5)
def wDr (V : FV) (i : Int) : FV := remV V i.toNat
theorem gV_rem {V : FV} (h : gV V) {i : Int} (h0 : 0 ≤ i) (h1 : i < V.1) (hg : cgo V i) : gV (remV V i.toNat) := by
  have cl := h.cl (Or.inl (by omega))
  exact ⟨bV_rem h.1 (by omega), Or.inr ⟨clo_rem cl.1 h0 h1 hg.1 hg.2, prm_rem cl.2 h0⟩⟩
theorem t_X5_drop {mu : Mem} {V : FV} {a : Int} {H : Nat → FV} {i : Int} (S : cSt mu V a H) (hi : R32 i) : Tr 4 mX5_drop [vr 0, vi i] mu (fun r m2 => r = some (vi (qDr V i).1) ∧ actR mu m2 V a H (qDr V i).2 (wDr V i)) := by
  refine Tr.of (by decide +kernel) (Nat.le_of_ble_eq_true rfl) (fun K C E => ?_)
  obtain ⟨f, g, p, r, h, rfl⟩ := S.rn
  obtain ⟨⟨hf, ef⟩, ⟨hg, eg⟩, ⟨hp, ep⟩, fne⟩ := id r
  have hV := h.2.2.1
  have hn := hV.n
  have hl := hV.l
  have en0 : (fv mu f).1 = mu f 0 := rfl
  have el0 : (fv mu f).2.1 = mu f 1 := rfl
  unfold qDr at E
  have k2 := b01_01 (0 ≤ i ∧ i < mu f 0)
  have k2t : b01 (0 ≤ i ∧ i < mu f 0) = 1 → 0 ≤ i ∧ i < mu f 0 := b01_iff.mp
  have k2f : b01 (0 ≤ i ∧ i < mu f 0) = 0 → ¬ (0 ≤ i ∧ i < mu f 0) := b01_niff.mp
  have k3 := b01_01 (cgo (fv mu f) i)
  have fin : ∀ (c : Int), (c = 0 ∧ (0 ≤ i ∧ i < mu f 0) ∧ b01 (cgo (fv mu f) i) = 1) ∨ (c = 1 ∧ ¬ (0 ≤ i ∧ i < mu f 0)) ∨ (c = 5 ∧ (0 ≤ i ∧ i < mu f 0) ∧ b01 (cgo (fv mu f) i) = 0) → AW K mX5_drop (NC, 0, 0) 29 [vr 0, vi i] [vi c, vr 0] mu := by
    rintro c (⟨rfl, q⟩ | ⟨rfl, q⟩ | ⟨rfl, q⟩)
    · rw [if_neg (show ¬ ¬ (0 ≤ i ∧ i < (fv mu f).1) from fun z => z q.1), if_pos q.2] at E
      refine aw_putI C dX5_drop_29 fX5_62 ⟨rfl, by decide⟩ rfl rfl rfl ?_
      have hc : cE mu (wr mu 0 11 0) 0 := cE_w
      generalize wr mu 0 11 0 = m1 at *
      obtain ⟨e5, ev, hV1, en, el, e11⟩ := hc.all h
      have e6 : m1 0 6 = (g : Int) := ((hc.df (g := g)).c0 hg (by decide)).trans eg
      refine aw_aload_n C dX5_drop_32 rfl ?_
      refine aw_getI C dX5_drop_33 fX5_62 ⟨rfl, by decide⟩ rfl ?_
      rw [e11]
      refine aw_if_eq C dX5_drop_36 (tgt := 41) (by decide) ⟨by omega, by omega⟩ (fun c1 => ?_) (fun c1 => ?_)
      · refine aw_aload_n C dX5_drop_41 rfl ?_
        refine aw_getR C dX5_drop_42 fX5_47 ⟨rfl, by decide⟩ rfl e6 ?_
        refine aw_aload_n C dX5_drop_45 rfl ?_
        refine aw_getR C dX5_drop_46 fX5_43 ⟨rfl, by decide⟩ rfl e5 ?_
        refine aw_call C dX5_drop_49 lX5_234 vX1_copyFrom (t_X1_copyFrom hg hf (fun w => fne w.symm) (by omega) (by omega)) rfl rfl rfl hg.s0 rfl ⟨by decide, by decide⟩ (Nat.le_of_ble_eq_true rfl) (fun r2 mu2 hq2 => ?_)
        obtain ⟨rfl, y1, y2⟩ := hq2
        have D2 : dfr g mu mu2 := (hc.df (g := g)).m y2
        have e5b : mu2 0 5 = (f : Int) := (D2.c0 hg (by decide)).trans ef
        have e6b : mu2 0 6 = (g : Int) := (D2.c0 hg (by decide)).trans eg
        have e11b : mu2 0 11 = 0 := by have := hg.ge; rw [y2 0 (by unfold fanS; omega)]; exact e11
        have n2 : mu2 g 0 = mu f 0 := by rw [ev] at y1; exact congrArg (fun z : FV => z.1) y1
        have l2 : mu2 g 1 = mu f 1 := by rw [ev] at y1; exact congrArg (fun z : FV => z.2.1) y1
        rw [ev] at y1
        have hVg : bV (fv mu2 g) := by rw [y1]; exact hV
        have evb : fv mu2 f = fv mu f := D2.fv hg hf fne
        have hVf : bV (fv mu2 f) := by rw [evb]; exact hV
        have n2f : mu2 f 0 = mu f 0 := congrArg (fun z : FV => z.1) evb
        have l2f : mu2 f 1 = mu f 1 := congrArg (fun z : FV => z.2.1) evb
        generalize mu2 = m2 at *
        show AW _ _ _ _ _ [] _
        refine aw_aload_n C dX5_drop_52 rfl ?_
        refine aw_getR C dX5_drop_53 fX5_47 ⟨rfl, by decide⟩ rfl e6b ?_
        refine aw_iload_n C dX5_drop_56 rfl ?_
        refine aw_call C dX5_drop_57 lX5_271 vX1_remove (t_X1_remove hg hVg (by omega) (by omega)) rfl rfl rfl hg.s0 rfl ⟨by decide, by decide⟩ (Nat.le_of_ble_eq_true rfl) (fun r3 mu3 hq3 => ?_)
        obtain ⟨rfl, w1, w3⟩ := hq3
        have D3 : dfr g mu mu3 := D2.m w1
        have e11c : mu3 0 11 = 0 := by have := hg.ge; rw [w1 0 (by unfold fanS; omega)]; exact e11b
        rw [y1] at w3
        generalize mu3 = m3 at *
        show AW _ _ _ _ _ [] _
        refine aw_aload_n C dX5_drop_60 rfl ?_
        refine aw_call0 C dX5_drop_61 lX5_242 vX5_keepDraft (kd S r D3) rfl rfl rfl ⟨rfl, by decide⟩ rfl ⟨by decide, by decide⟩ (Nat.le_of_ble_eq_true rfl) ?_
        have ak := act_k S r D3 e11c (by omega) w3 (gV_rem h.2.2 q.1.1 q.1.2 (b01_iff.mp q.2))
        have gg := hg.ge
        have e5k : kpM m3 f g p (mu 0 7) 0 5 = (g : Int) := by
          unfold kpM
          rw [wr_at, if_neg (by omega), wr_at, if_neg (by omega), wr_at, if_neg (by omega), wr_at, if_pos ⟨rfl, rfl⟩]
        have ekn : kpM m3 f g p (mu 0 7) g 0 = mu f 0 - 1 := by
          unfold kpM
          rw [wr_ne (by omega), wr_ne (by omega), wr_ne (by omega), wr_ne (by omega), wr_ne (by omega)]
          exact congrArg (fun z : FV => z.1) w3
        refine aw_aload_n C dX5_drop_64 rfl ?_
        refine aw_getR C dX5_drop_65 fX5_43 ⟨rfl, by decide⟩ rfl e5k ?_
        refine aw_getI C dX5_drop_68 fX5_97 hg.s0 rfl ?_
        rw [ekn]
        exact aw_iret C E dX5_drop_71 rfl ⟨rfl, ak⟩
      · exfalso; omega
    · rw [if_pos (show ¬ (0 ≤ i ∧ i < (fv mu f).1) from q)] at E
      refine aw_putI C dX5_drop_29 fX5_62 ⟨rfl, by decide⟩ rfl rfl rfl ?_
      have hc : cE mu (wr mu 0 11 1) 1 := cE_w
      generalize wr mu 0 11 1 = m1 at *
      obtain ⟨e5, ev, hV1, en, el, e11⟩ := hc.all h
      have e6 : m1 0 6 = (g : Int) := ((hc.df (g := g)).c0 hg (by decide)).trans eg
      refine aw_aload_n C dX5_drop_32 rfl ?_
      refine aw_getI C dX5_drop_33 fX5_62 ⟨rfl, by decide⟩ rfl ?_
      rw [e11]
      refine aw_if_eq C dX5_drop_36 (tgt := 41) (by decide) ⟨by omega, by omega⟩ (fun c1 => ?_) (fun c1 => ?_)
      · exfalso; omega
      · refine aw_iconst C dX5_drop_39 ?_
        exact aw_iret C E dX5_drop_40 rfl ⟨rfl, act_n S hg eg hc.df e11 (by decide)⟩
    · rw [if_neg (show ¬ ¬ (0 ≤ i ∧ i < (fv mu f).1) from fun z => z q.1), if_neg (show ¬ b01 (cgo (fv mu f) i) = 1 by omega)] at E
      refine aw_putI C dX5_drop_29 fX5_62 ⟨rfl, by decide⟩ rfl rfl rfl ?_
      have hc : cE mu (wr mu 0 11 5) 5 := cE_w
      generalize wr mu 0 11 5 = m1 at *
      obtain ⟨e5, ev, hV1, en, el, e11⟩ := hc.all h
      have e6 : m1 0 6 = (g : Int) := ((hc.df (g := g)).c0 hg (by decide)).trans eg
      refine aw_aload_n C dX5_drop_32 rfl ?_
      refine aw_getI C dX5_drop_33 fX5_62 ⟨rfl, by decide⟩ rfl ?_
      rw [e11]
      refine aw_if_eq C dX5_drop_36 (tgt := 41) (by decide) ⟨by omega, by omega⟩ (fun c1 => ?_) (fun c1 => ?_)
      · exfalso; omega
      · refine aw_iconst C dX5_drop_39 ?_
        exact aw_iret C E dX5_drop_40 rfl ⟨rfl, act_n S hg eg hc.df e11 (by decide)⟩
  refine aw_aload_n C dX5_drop_0 rfl ?_
  refine aw_aload_n C dX5_drop_1 rfl ?_
  refine aw_iload_n C dX5_drop_2 rfl ?_
  refine aw_call1 C dX5_drop_3 lX5_126 vX5_hasRay (t_X5_hasRay h hi) rfl rfl rfl ⟨rfl, by decide⟩ rfl ⟨by decide, by decide⟩ (Nat.le_of_ble_eq_true rfl) ?_
  refine aw_if_ne C dX5_drop_6 (tgt := 13) (by decide) ⟨by omega, by omega⟩ (fun c1 => ?_) (fun c1 => ?_)
  · refine aw_aload_n C dX5_drop_13 rfl ?_
    refine aw_getR C dX5_drop_14 fX5_43 ⟨rfl, by decide⟩ rfl ef ?_
    refine aw_iload_n C dX5_drop_17 rfl ?_
    refine aw_call1 C dX5_drop_18 lX5_268 vX1_canGo (t_X1_canGo hf hV (k2t (by omega)).1 (k2t (by omega)).2) rfl rfl rfl hf.s0 rfl ⟨by decide, by decide⟩ (Nat.le_of_ble_eq_true rfl) ?_
    refine aw_if_eq C dX5_drop_21 (tgt := 28) (by decide) ⟨by omega, by omega⟩ (fun c2 => ?_) (fun c2 => ?_)
    · refine aw_iconst C dX5_drop_28 ?_
      first
      | exact fin 1 (Or.inr (Or.inl ⟨rfl, k2f (by omega)⟩))
      | exact fin 0 (Or.inl ⟨rfl, k2t (by omega), by omega⟩)
      | exact fin 5 (Or.inr (Or.inr ⟨rfl, k2t (by omega), by omega⟩))
    · refine aw_iconst C dX5_drop_24 ?_
      refine aw_goto C dX5_drop_25 (tgt := 29) (by decide) ?_
      first
      | exact fin 1 (Or.inr (Or.inl ⟨rfl, k2f (by omega)⟩))
      | exact fin 0 (Or.inl ⟨rfl, k2t (by omega), by omega⟩)
      | exact fin 5 (Or.inr (Or.inr ⟨rfl, k2t (by omega), by omega⟩))
  · refine aw_iconst C dX5_drop_9 ?_
    refine aw_goto C dX5_drop_10 (tgt := 29) (by decide) ?_
    first
    | exact fin 1 (Or.inr (Or.inl ⟨rfl, k2f (by omega)⟩))
    | exact fin 0 (Or.inl ⟨rfl, k2t (by omega), by omega⟩)
    | exact fin 5 (Or.inr (Or.inr ⟨rfl, k2t (by omega), by omega⟩))

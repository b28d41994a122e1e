noncomputable def qFi (V : FV) (d v : Int) : Int × Int := if ¬ (0 ≤ d ∧ d < V.2.1) then (0, 1) else if b01 (v < -20 ∨ 20 < v) = 1 then (0, 2) else (1, 0)
def wFi (V : FV) (d v : Int) : FV := setN V d.toNat (fun _ => v)
theorem t_X5_fill {mu : Mem} {V : FV} {a : Int} {H : Nat → FV} {d v : Int} (S : cSt mu V a H) (hd : R32 d) (hv : R32 v) : Tr 3 mX5_fill [vr 0, vi d, vi v] mu (fun r m2 => r = some (vi (qFi V d v).1) ∧ actR mu m2 V a H (qFi V d v).2 (wFi V d v)) := by
  refine Tr.of (by decide +kernel) (Nat.le_of_ble_eq_true rfl) (fun K C E => ?_)
  obtain ⟨f, g, p, r, h, rfl⟩ := S.rn
  obtain ⟨⟨hf, ef⟩, ⟨hg, eg⟩, ⟨hp, ep⟩, fne⟩ := id r
  have hV := h.2.2.1
  have hn := hV.n
  have hl := hV.l
  have en0 : (fv mu f).1 = mu f 0 := rfl
  have el0 : (fv mu f).2.1 = mu f 1 := rfl
  unfold qFi at E
  have k2 := b01_01 (0 ≤ d ∧ d < mu f 1)
  have k2t : b01 (0 ≤ d ∧ d < mu f 1) = 1 → 0 ≤ d ∧ d < mu f 1 := b01_iff.mp
  have k2f : b01 (0 ≤ d ∧ d < mu f 1) = 0 → ¬ (0 ≤ d ∧ d < mu f 1) := b01_niff.mp
  have k3 := b01_01 (v < -20 ∨ 20 < v)
  have loop : (0 ≤ d ∧ d < mu f 1) → b01 (v < -20 ∨ 20 < v) = 0 → CR K (NC, 0, 0) mX5_fill (fun r m2 => r = some (vi 1) ∧ actR mu m2 (fv mu f) a H 0 (wFi (fv mu f) d v)) → ∀ (m2 : Mem), dfr g mu m2 → m2 0 11 = 0 → fv m2 g = fv mu f → ∀ (k : Nat) (i : Int) (m : Mem), i + k = mu f 0 → 0 ≤ i → dfr g mu m → m 0 11 = 0 → m g = m2 g → m (g + 1) = m2 (g + 1) → m (g + 2) = m2 (g + 2) → (∀ x : Nat, m (g + 3) x = if 24 * d ≤ x ∧ (x : Int) < 24 * d + i then v else m2 (g + 3) x) → AW K mX5_fill (NC, 0, 0) 54 [vr 0, vi d, vi v, vi i] [] m := by
    intro q0 q9 E m2 D2 e11b y1 k
    have bv := b01_niff.mp q9
    have n2 : m2 g 0 = mu f 0 := congrArg (fun z : FV => z.1) y1
    have l2 : m2 g 1 = mu f 1 := congrArg (fun z : FV => z.2.1) y1
    induction k with
    | zero =>
      intro i m q1 q2 D e11 g0 g1 g2 g3
      have e6 : m 0 6 = (g : Int) := (D.c0 hg (by decide)).trans eg
      have gn0 : m g 0 = mu f 0 := by rw [g0]; exact n2
      have W3 : fv m g = wFi (fv mu f) d v := by
        unfold wFi
        rw [← y1]
        refine set_view (by omega) g0 g1 g2 (fun d2 j w1 w2 => ?_)
        rw [g3]
        by_cases z1 : d2 = d.toNat
        · rw [if_pos z1, if_pos (by omega)]
        · rw [if_neg z1, if_neg (by omega)]
      refine aw_iload_n C dX5_fill_54 rfl ?_
      refine aw_aload_n C dX5_fill_55 rfl ?_
      refine aw_getR C dX5_fill_56 fX5_47 ⟨rfl, by decide⟩ rfl e6 ?_
      refine aw_getI C dX5_fill_59 fX5_97 hg.s0 rfl ?_
      rw [gn0]
      refine aw_icmp_ge C dX5_fill_62 (tgt := 81) (by decide) ⟨by omega, by omega⟩ ⟨by omega, by omega⟩ (fun c1 => ?_) (fun c1 => ?_)
      · refine aw_aload_n C dX5_fill_81 rfl ?_
        refine aw_call0 C dX5_fill_82 lX5_242 vX5_keepDraft (kd S r D) rfl rfl rfl ⟨rfl, by decide⟩ rfl ⟨by decide, by decide⟩ (Nat.le_of_ble_eq_true rfl) ?_
        refine aw_iconst C dX5_fill_85 ?_
        exact aw_zret C E dX5_fill_86 rfl (by omega) ⟨rfl, act_k S r D e11 (by have := (h.2.2.cl (Or.inr (show 0 < (fv mu f).2.1 by omega))).1.1; omega) W3 (gV_set h.2.2 (fun j _ => by unfold hld; omega))⟩
      · exfalso; omega
    | succ k ih =>
      intro i m q1 q2 D e11 g0 g1 g2 g3
      have e6 : m 0 6 = (g : Int) := (D.c0 hg (by decide)).trans eg
      have gn0 : m g 0 = mu f 0 := by rw [g0]; exact n2
      have gg := hg.ge
      refine aw_iload_n C dX5_fill_54 rfl ?_
      refine aw_aload_n C dX5_fill_55 rfl ?_
      refine aw_getR C dX5_fill_56 fX5_47 ⟨rfl, by decide⟩ rfl e6 ?_
      refine aw_getI C dX5_fill_59 fX5_97 hg.s0 rfl ?_
      rw [gn0]
      refine aw_icmp_ge C dX5_fill_62 (tgt := 81) (by decide) ⟨by omega, by omega⟩ ⟨by omega, by omega⟩ (fun c1 => ?_) (fun c1 => ?_)
      · exfalso; omega
      · refine aw_aload_n C dX5_fill_65 rfl ?_
        refine aw_getR C dX5_fill_66 fX5_47 ⟨rfl, by decide⟩ rfl e6 ?_
        refine aw_iload_n C dX5_fill_69 rfl ?_
        refine aw_iload_n C dX5_fill_70 rfl ?_
        refine aw_iload_n C dX5_fill_71 rfl ?_
        refine aw_call0 C dX5_fill_72 lX5_238 vX1_put (t_X1_put hg (by omega) (by omega) (by omega) (by omega)) rfl rfl rfl hg.s0 rfl ⟨by decide, by decide⟩ (Nat.le_of_ble_eq_true rfl) ?_
        refine aw_iinc C dX5_fill_75 rfl ?_
        refine aw_goto C dX5_fill_78 (tgt := 54) (by decide) ?_
        refine ih (i + 1) _ (by omega) (by omega) (fun x y a1 a2 a3 => ?_) ?_ ?_ ?_ ?_ (fun x => ?_)
        · rw [wr_at, if_neg (fun w => a1 (by unfold fanS; omega))]; exact D x y a1 a2 a3
        · rw [wr_ne (by omega)]; exact e11
        · rw [wr_ne (by omega)]; exact g0
        · rw [wr_ne (by omega)]; exact g1
        · rw [wr_ne (by omega)]; exact g2
        · rw [wr_at, g3]
          by_cases z : x = (d * 24 + i).toNat
          · rw [if_pos ⟨rfl, z⟩, if_pos (by omega)]
          · rw [if_neg (fun w => z w.2)]
            by_cases z2 : 24 * d ≤ x ∧ (x : Int) < 24 * d + i
            · rw [if_pos z2, if_pos (by omega)]
            · rw [if_neg z2, if_neg (by omega)]
  have fin : ∀ {v90 : Vv} (c : Int), (c = 0 ∧ (0 ≤ d ∧ d < mu f 1) ∧ b01 (v < -20 ∨ 20 < v) = 0) ∨ (c = 1 ∧ ¬ (0 ≤ d ∧ d < mu f 1)) ∨ (c = 2 ∧ (0 ≤ d ∧ d < mu f 1) ∧ b01 (v < -20 ∨ 20 < v) = 1) → AW K mX5_fill (NC, 0, 0) 29 [vr 0, vi d, vi v, v90] [vi c, vr 0] mu := by
    rintro v90 c (⟨rfl, q⟩ | ⟨rfl, q⟩ | ⟨rfl, q⟩)
    · rw [if_neg (show ¬ ¬ (0 ≤ d ∧ d < (fv mu f).2.1) from fun z => z q.1), if_neg (show ¬ b01 (v < -20 ∨ 20 < v) = 1 by omega)] at E
      refine aw_putI C dX5_fill_29 fX5_62 ⟨rfl, by decide⟩ rfl rfl rfl ?_
      have hc : cE mu (wr mu 0 11 0) 0 := cE_w
      generalize wr mu 0 11 0 = m1 at *
      obtain ⟨e5, ev, hV1, en, el, e11⟩ := hc.all h
      have e6 : m1 0 6 = (g : Int) := ((hc.df (g := g)).c0 hg (by decide)).trans eg
      refine aw_aload_n C dX5_fill_32 rfl ?_
      refine aw_getI C dX5_fill_33 fX5_62 ⟨rfl, by decide⟩ rfl ?_
      rw [e11]
      refine aw_if_eq C dX5_fill_36 (tgt := 41) (by decide) ⟨by omega, by omega⟩ (fun c1 => ?_) (fun c1 => ?_)
      · refine aw_aload_n C dX5_fill_41 rfl ?_
        refine aw_getR C dX5_fill_42 fX5_47 ⟨rfl, by decide⟩ rfl e6 ?_
        refine aw_aload_n C dX5_fill_45 rfl ?_
        refine aw_getR C dX5_fill_46 fX5_43 ⟨rfl, by decide⟩ rfl e5 ?_
        refine aw_call C dX5_fill_49 lX5_234 vX1_copyFrom (t_X1_copyFrom hg hf (fun w => fne w.symm) (by omega) (by omega)) rfl rfl rfl hg.s0 rfl ⟨by decide, by decide⟩ (Nat.le_of_ble_eq_true rfl) (fun r2 mu2 hq2 => ?_)
        obtain ⟨rfl, y1, y2⟩ := hq2
        have D2 : dfr g mu mu2 := (hc.df (g := g)).m y2
        have e5b : mu2 0 5 = (f : Int) := (D2.c0 hg (by decide)).trans ef
        have e6b : mu2 0 6 = (g : Int) := (D2.c0 hg (by decide)).trans eg
        have e11b : mu2 0 11 = 0 := by have := hg.ge; rw [y2 0 (by unfold fanS; omega)]; exact e11
        have n2 : mu2 g 0 = mu f 0 := by rw [ev] at y1; exact congrArg (fun z : FV => z.1) y1
        have l2 : mu2 g 1 = mu f 1 := by rw [ev] at y1; exact congrArg (fun z : FV => z.2.1) y1
        rw [ev] at y1
        have hVg : bV (fv mu2 g) := by rw [y1]; exact hV
        have evb : fv mu2 f = fv mu f := D2.fv hg hf fne
        have hVf : bV (fv mu2 f) := by rw [evb]; exact hV
        have n2f : mu2 f 0 = mu f 0 := congrArg (fun z : FV => z.1) evb
        have l2f : mu2 f 1 = mu f 1 := congrArg (fun z : FV => z.2.1) evb
        generalize mu2 = m2 at *
        show AW _ _ _ _ _ [] _
        refine aw_iconst C dX5_fill_52 ?_
        refine aw_istore_n C dX5_fill_53 (by decide) ?_
        exact loop q.1 q.2 E m2 D2 e11b y1 (mu f 0).toNat 0 m2 (by omega) (by omega) D2 e11b rfl rfl rfl (fun x => by rw [if_neg (by omega)])
      · exfalso; omega
    · rw [if_pos (show ¬ (0 ≤ d ∧ d < (fv mu f).2.1) from q)] at E
      refine aw_putI C dX5_fill_29 fX5_62 ⟨rfl, by decide⟩ rfl rfl rfl ?_
      have hc : cE mu (wr mu 0 11 1) 1 := cE_w
      generalize wr mu 0 11 1 = m1 at *
      obtain ⟨e5, ev, hV1, en, el, e11⟩ := hc.all h
      have e6 : m1 0 6 = (g : Int) := ((hc.df (g := g)).c0 hg (by decide)).trans eg
      refine aw_aload_n C dX5_fill_32 rfl ?_
      refine aw_getI C dX5_fill_33 fX5_62 ⟨rfl, by decide⟩ rfl ?_
      rw [e11]
      refine aw_if_eq C dX5_fill_36 (tgt := 41) (by decide) ⟨by omega, by omega⟩ (fun c1 => ?_) (fun c1 => ?_)
      · exfalso; omega
      · refine aw_iconst C dX5_fill_39 ?_
        exact aw_zret C E dX5_fill_40 rfl (by omega) ⟨rfl, act_n S hg eg hc.df e11 (by decide)⟩
    · rw [if_neg (show ¬ ¬ (0 ≤ d ∧ d < (fv mu f).2.1) from fun z => z q.1), if_pos q.2] at E
      refine aw_putI C dX5_fill_29 fX5_62 ⟨rfl, by decide⟩ rfl rfl rfl ?_
      have hc : cE mu (wr mu 0 11 2) 2 := cE_w
      generalize wr mu 0 11 2 = m1 at *
      obtain ⟨e5, ev, hV1, en, el, e11⟩ := hc.all h
      have e6 : m1 0 6 = (g : Int) := ((hc.df (g := g)).c0 hg (by decide)).trans eg
      refine aw_aload_n C dX5_fill_32 rfl ?_
      refine aw_getI C dX5_fill_33 fX5_62 ⟨rfl, by decide⟩ rfl ?_
      rw [e11]
      refine aw_if_eq C dX5_fill_36 (tgt := 41) (by decide) ⟨by omega, by omega⟩ (fun c1 => ?_) (fun c1 => ?_)
      · exfalso; omega
      · refine aw_iconst C dX5_fill_39 ?_
        exact aw_zret C E dX5_fill_40 rfl (by omega) ⟨rfl, act_n S hg eg hc.df e11 (by decide)⟩
  refine aw_aload_n C dX5_fill_0 rfl ?_
  refine aw_aload_n C dX5_fill_1 rfl ?_
  refine aw_iload_n C dX5_fill_2 rfl ?_
  refine aw_call1 C dX5_fill_3 lX5_165 vX5_hasLoad (t_X5_hasLoad h hd) rfl rfl rfl ⟨rfl, by decide⟩ rfl ⟨by decide, by decide⟩ (Nat.le_of_ble_eq_true rfl) ?_
  refine aw_if_ne C dX5_fill_6 (tgt := 13) (by decide) ⟨by omega, by omega⟩ (fun c1 => ?_) (fun c1 => ?_)
  · refine aw_iload_n C dX5_fill_13 rfl ?_
    refine aw_i2l C dX5_fill_14 ⟨by omega, by omega⟩ ?_
    refine aw_ldc2 C dX5_fill_15 kX5_228 (z := 20) (by decide +kernel) ?_
    refine aw_callS1 C dX5_fill_18 lX5_230 vX4_isBeyond (t_X4_isBeyondB ⟨by omega, by omega⟩ ⟨by omega, by omega⟩ ⟨by omega, by omega⟩) rfl rfl rfl ⟨by decide, by decide⟩ (Nat.le_of_ble_eq_true rfl) ?_
    refine aw_if_eq C dX5_fill_21 (tgt := 28) (by decide) ⟨by omega, by omega⟩ (fun c2 => ?_) (fun c2 => ?_)
    · refine aw_iconst C dX5_fill_28 ?_
      first
      | exact fin 1 (Or.inr (Or.inl ⟨rfl, k2f (by omega)⟩))
      | exact fin 0 (Or.inl ⟨rfl, k2t (by omega), by omega⟩)
      | exact fin 2 (Or.inr (Or.inr ⟨rfl, k2t (by omega), by omega⟩))
    · refine aw_iconst C dX5_fill_24 ?_
      refine aw_goto C dX5_fill_25 (tgt := 29) (by decide) ?_
      first
      | exact fin 1 (Or.inr (Or.inl ⟨rfl, k2f (by omega)⟩))
      | exact fin 0 (Or.inl ⟨rfl, k2t (by omega), by omega⟩)
      | exact fin 2 (Or.inr (Or.inr ⟨rfl, k2t (by omega), by omega⟩))
  · refine aw_iconst C dX5_fill_9 ?_
    refine aw_goto C dX5_fill_10 (tgt := 29) (by decide) ?_
    first
    | exact fin 1 (Or.inr (Or.inl ⟨rfl, k2f (by omega)⟩))
    | exact fin 0 (Or.inl ⟨rfl, k2t (by omega), by omega⟩)
    | exact fin 2 (Or.inr (Or.inr ⟨rfl, k2t (by omega), by omega⟩))

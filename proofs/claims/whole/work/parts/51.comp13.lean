noncomputable def fli (V : FV) : Int := fst (lit V) (-1) V.1.toNat 0
noncomputable def lnV : Nat → FV → Int → FV × Int
  | 0, V, w => (V, w)
  | k + 1, V, w => if fli V = -1 then (V, w) else lnV k (remV V (fli V).toNat) (w + 1)
noncomputable def qLn (V : FV) : Int × Int := if ¬ 0 < V.1 then (-1, 1) else ((lnV 24 V 0).2, 0)
noncomputable def wLn (V : FV) : FV := (lnV 24 V 0).1
theorem t_X5_lean {mu : Mem} {V : FV} {a : Int} {H : Nat → FV}  (S : cSt mu V a H)  : Tr 6 mX5_lean [vr 0] mu (fun r m2 => r = some (vi (qLn V).1) ∧ actR mu m2 V a H (qLn V).2 (wLn V)) := by
  refine Tr.of (by decide +kernel) (Nat.le_of_ble_eq_true rfl) (fun K C E => ?_)
  obtain ⟨f, g, p, r, h, rfl⟩ := S.rn
  obtain ⟨⟨hf, ef⟩, ⟨hg, eg⟩, ⟨hp, ep⟩, fne⟩ := id r
  have hV := h.2.2.1
  have hn := hV.n
  have hl := hV.l
  have en0 : (fv mu f).1 = mu f 0 := rfl
  have el0 : (fv mu f).2.1 = mu f 1 := rfl
  unfold qLn at E
  have k2 := b01_01 (0 < mu f 0)
  have k2t : b01 (0 < mu f 0) = 1 → 0 < mu f 0 := b01_iff.mp
  have k2f : b01 (0 < mu f 0) = 0 → ¬ 0 < mu f 0 := b01_niff.mp
  have loop : 0 < mu f 0 → CR K (NC, 0, 0) mX5_lean (fun r m2 => r = some (vi (lnV 24 (fv mu f) 0).2) ∧ actR mu m2 (fv mu f) a H 0 (wLn (fv mu f))) → ∀ (k : Nat) (w : Int) (X : FV) (m : Mem), w + k = 24 → 0 ≤ w → dfr g mu m → m 0 11 = 0 → fv m g = X → gV X → 0 < X.1 → lnV k X w = lnV 24 (fv mu f) 0 → AW K mX5_lean (NC, 0, 0) 46 [vr 0, vi (fli X), vi w] [] m := by
    intro q0 E k
    induction k with
    | zero =>
      intro w X m q1 q2 D e11 y1 gX pX q3
      have hfl := fst_in2 (P := lit X) X.1.toNat 0
      have hfe : fli X = fst (lit X) (-1) X.1.toNat 0 := rfl
      have bX := gX.1.1
      have fr : -1 ≤ fli X ∧ fli X ≤ 24 := by rw [hfe]; rcases hfl with z | z <;> omega
      have q3 : (X, w) = lnV 24 (fv mu f) 0 := q3
      unfold wLn at E
      rw [← q3] at E
      refine aw_iload_n C dX5_lean_46 rfl ?_
      refine aw_iconst C dX5_lean_47 ?_
      refine aw_icmp_eq C dX5_lean_48 (tgt := 79) (by decide) ⟨by omega, by omega⟩ ⟨by omega, by omega⟩ (fun c1 => ?_) (fun c1 => ?_)
      · refine aw_aload_n C dX5_lean_79 rfl ?_
        refine aw_call0 C dX5_lean_80 lX5_242 vX5_keepDraft (kd S r D) rfl rfl rfl ⟨rfl, by decide⟩ rfl ⟨by decide, by decide⟩ (Nat.le_of_ble_eq_true rfl) ?_
        refine aw_iload_n C dX5_lean_83 rfl ?_
        exact aw_iret C E dX5_lean_84 rfl ⟨rfl, act_k S r D e11 q0 y1 gX⟩
      · refine aw_iload_n C dX5_lean_51 rfl ?_
        refine aw_bipush C dX5_lean_52 rfl ?_
        refine aw_icmp_ge C dX5_lean_54 (tgt := 79) (by decide) ⟨by omega, by omega⟩ ⟨by omega, by omega⟩ (fun c2 => ?_) (fun c2 => ?_)
        · refine aw_aload_n C dX5_lean_79 rfl ?_
          refine aw_call0 C dX5_lean_80 lX5_242 vX5_keepDraft (kd S r D) rfl rfl rfl ⟨rfl, by decide⟩ rfl ⟨by decide, by decide⟩ (Nat.le_of_ble_eq_true rfl) ?_
          refine aw_iload_n C dX5_lean_83 rfl ?_
          exact aw_iret C E dX5_lean_84 rfl ⟨rfl, act_k S r D e11 q0 y1 gX⟩
        · exfalso; omega
    | succ k ih =>
      intro w X m q1 q2 D e11 y1 gX pX q3
      have e6 : m 0 6 = (g : Int) := (D.c0 hg (by decide)).trans eg
      have hfl := fst_in2 (P := lit X) X.1.toNat 0
      have hfe : fli X = fst (lit X) (-1) X.1.toNat 0 := rfl
      have bX := gX.1.1
      have fr : -1 ≤ fli X ∧ fli X ≤ 24 := by rw [hfe]; rcases hfl with z | z <;> omega
      have e : lnV (k + 1) X w = if fli X = -1 then (X, w) else lnV k (remV X (fli X).toNat) (w + 1) := rfl
      rw [e] at q3
      have gm0 : m g 0 = X.1 := congrArg (fun z : FV => z.1) y1
      by_cases c0 : fli X = -1
      · rw [if_pos c0] at q3
        unfold wLn at E
        rw [← q3] at E
        refine aw_iload_n C dX5_lean_46 rfl ?_
        refine aw_iconst C dX5_lean_47 ?_
        refine aw_icmp_eq C dX5_lean_48 (tgt := 79) (by decide) ⟨by omega, by omega⟩ ⟨by omega, by omega⟩ (fun c1 => ?_) (fun c1 => ?_)
        · refine aw_aload_n C dX5_lean_79 rfl ?_
          refine aw_call0 C dX5_lean_80 lX5_242 vX5_keepDraft (kd S r D) rfl rfl rfl ⟨rfl, by decide⟩ rfl ⟨by decide, by decide⟩ (Nat.le_of_ble_eq_true rfl) ?_
          refine aw_iload_n C dX5_lean_83 rfl ?_
          exact aw_iret C E dX5_lean_84 rfl ⟨rfl, act_k S r D e11 q0 y1 gX⟩
        · exfalso; omega
      · rw [if_neg c0] at q3
        rw [← hfe] at hfl
        have hl2 : 0 ≤ fli X ∧ fli X < X.1 ∧ lit X (fli X) := by
          rcases hfl with z | ⟨z1, z2, z3⟩
          · exact absurd z c0
          · exact ⟨by omega, by omega, z3⟩
        have gR := gV_rem gX hl2.1 hl2.2.1 hl2.2.2.1
        have pR : 0 < (remV X (fli X).toNat).1 := by
          have := hl2.2.2.1.1
          show 0 < X.1 - 1
          omega
        refine aw_iload_n C dX5_lean_46 rfl ?_
        refine aw_iconst C dX5_lean_47 ?_
        refine aw_icmp_eq C dX5_lean_48 (tgt := 79) (by decide) ⟨by omega, by omega⟩ ⟨by omega, by omega⟩ (fun c1 => ?_) (fun c1 => ?_)
        · exfalso; omega
        · refine aw_iload_n C dX5_lean_51 rfl ?_
          refine aw_bipush C dX5_lean_52 rfl ?_
          refine aw_icmp_ge C dX5_lean_54 (tgt := 79) (by decide) ⟨by omega, by omega⟩ ⟨by omega, by omega⟩ (fun c2 => ?_) (fun c2 => ?_)
          · exfalso; omega
          · refine aw_aload_n C dX5_lean_57 rfl ?_
            refine aw_getR C dX5_lean_58 fX5_47 ⟨rfl, by decide⟩ rfl e6 ?_
            refine aw_iload_n C dX5_lean_61 rfl ?_
            refine aw_call C dX5_lean_62 lX5_271 vX1_remove (t_X1_remove hg (by rw [y1]; exact gX.1) hl2.1 (by omega)) rfl rfl rfl hg.s0 rfl ⟨by decide, by decide⟩ (Nat.le_of_ble_eq_true rfl) (fun r3 mu3 hq3 => ?_)
            obtain ⟨rfl, w1, w3⟩ := hq3
            have D3 : dfr g mu mu3 := D.m w1
            have e11c : mu3 0 11 = 0 := by have := hg.ge; rw [w1 0 (by unfold fanS; omega)]; exact e11
            have e6c : mu3 0 6 = (g : Int) := (D3.c0 hg (by decide)).trans eg
            rw [y1] at w3
            generalize mu3 = m3 at *
            show AW _ _ _ _ _ [] _
            refine aw_iinc C dX5_lean_65 rfl ?_
            refine aw_aload_n C dX5_lean_68 rfl ?_
            refine aw_getR C dX5_lean_69 fX5_47 ⟨rfl, by decide⟩ rfl e6c ?_
            refine aw_call1 C dX5_lean_72 lX5_274 vX1_firstLight (t_X1_firstLight hg (by rw [w3]; exact gR.1)) rfl rfl rfl hg.s0 rfl ⟨by decide, by decide⟩ (Nat.le_of_ble_eq_true rfl) ?_
            rw [w3, show m3 g 0 = (remV X (fli X).toNat).1 from congrArg (fun z : FV => z.1) w3]
            show AW _ _ _ _ _ [vi (fli (remV X (fli X).toNat))] _
            refine aw_istore_n C dX5_lean_75 (by decide) ?_
            refine aw_goto C dX5_lean_76 (tgt := 46) (by decide) ?_
            exact ih (w + 1) _ m3 (by omega) (by omega) D3 e11c w3 gR pR q3
  have fin : ∀ {v90 v91 : Vv} (c : Int), (c = 0 ∧ 0 < mu f 0) ∨ (c = 1 ∧ ¬ 0 < mu f 0) → AW K mX5_lean (NC, 0, 0) 13 [vr 0, v90, v91] [vi c, vr 0] mu := by
    rintro v90 v91 c (⟨rfl, q⟩ | ⟨rfl, q⟩)
    · rw [if_neg (show ¬ ¬ 0 < (fv mu f).1 from fun z => z q)] at E
      refine aw_putI C dX5_lean_13 fX5_62 ⟨rfl, by decide⟩ rfl rfl rfl ?_
      have hc : cE mu (wr mu 0 11 0) 0 := cE_w
      generalize wr mu 0 11 0 = m1 at *
      obtain ⟨e5, ev, hV1, en, el, e11⟩ := hc.all h
      have e6 : m1 0 6 = (g : Int) := ((hc.df (g := g)).c0 hg (by decide)).trans eg
      refine aw_aload_n C dX5_lean_16 rfl ?_
      refine aw_getI C dX5_lean_17 fX5_62 ⟨rfl, by decide⟩ rfl ?_
      rw [e11]
      refine aw_if_eq C dX5_lean_20 (tgt := 25) (by decide) ⟨by omega, by omega⟩ (fun c1 => ?_) (fun c1 => ?_)
      · refine aw_aload_n C dX5_lean_25 rfl ?_
        refine aw_getR C dX5_lean_26 fX5_47 ⟨rfl, by decide⟩ rfl e6 ?_
        refine aw_aload_n C dX5_lean_29 rfl ?_
        refine aw_getR C dX5_lean_30 fX5_43 ⟨rfl, by decide⟩ rfl e5 ?_
        refine aw_call C dX5_lean_33 lX5_234 vX1_copyFrom (t_X1_copyFrom hg hf (fun w => fne w.symm) (by omega) (by omega)) rfl rfl rfl hg.s0 rfl ⟨by decide, by decide⟩ (Nat.le_of_ble_eq_true rfl) (fun r2 mu2 hq2 => ?_)
        obtain ⟨rfl, y1, y2⟩ := hq2
        have D2 : dfr g mu mu2 := (hc.df (g := g)).m y2
        have e5b : mu2 0 5 = (f : Int) := (D2.c0 hg (by decide)).trans ef
        have e6b : mu2 0 6 = (g : Int) := (D2.c0 hg (by decide)).trans eg
        have e11b : mu2 0 11 = 0 := by have := hg.ge; rw [y2 0 (by unfold fanS; omega)]; exact e11
        have n2 : mu2 g 0 = mu f 0 := by rw [ev] at y1; exact congrArg (fun z : FV => z.1) y1
        have l2 : mu2 g 1 = mu f 1 := by rw [ev] at y1; exact congrArg (fun z : FV => z.2.1) y1
        rw [ev] at y1
        have hVg : bV (fv mu2 g) := by rw [y1]; exact hV
        have evb : fv mu2 f = fv mu f := D2.fv hg hf fne
        have hVf : bV (fv mu2 f) := by rw [evb]; exact hV
        have n2f : mu2 f 0 = mu f 0 := congrArg (fun z : FV => z.1) evb
        have l2f : mu2 f 1 = mu f 1 := congrArg (fun z : FV => z.2.1) evb
        generalize mu2 = m2 at *
        show AW _ _ _ _ _ [] _
        refine aw_aload_n C dX5_lean_36 rfl ?_
        refine aw_getR C dX5_lean_37 fX5_47 ⟨rfl, by decide⟩ rfl e6b ?_
        refine aw_call1 C dX5_lean_40 lX5_274 vX1_firstLight (t_X1_firstLight hg hVg) rfl rfl rfl hg.s0 rfl ⟨by decide, by decide⟩ (Nat.le_of_ble_eq_true rfl) ?_
        rw [y1, n2]
        show AW _ _ _ _ _ [vi (fli (fv mu f))] _
        refine aw_istore_n C dX5_lean_43 (by decide) ?_
        refine aw_iconst C dX5_lean_44 ?_
        refine aw_istore_n C dX5_lean_45 (by decide) ?_
        exact loop q E 24 0 (fv mu f) m2 (by omega) (by omega) D2 e11b y1 h.2.2 q rfl
      · exfalso; omega
    · rw [if_pos (show ¬ 0 < (fv mu f).1 from q)] at E
      refine aw_putI C dX5_lean_13 fX5_62 ⟨rfl, by decide⟩ rfl rfl rfl ?_
      have hc : cE mu (wr mu 0 11 1) 1 := cE_w
      generalize wr mu 0 11 1 = m1 at *
      obtain ⟨e5, ev, hV1, en, el, e11⟩ := hc.all h
      have e6 : m1 0 6 = (g : Int) := ((hc.df (g := g)).c0 hg (by decide)).trans eg
      refine aw_aload_n C dX5_lean_16 rfl ?_
      refine aw_getI C dX5_lean_17 fX5_62 ⟨rfl, by decide⟩ rfl ?_
      rw [e11]
      refine aw_if_eq C dX5_lean_20 (tgt := 25) (by decide) ⟨by omega, by omega⟩ (fun c1 => ?_) (fun c1 => ?_)
      · exfalso; omega
      · refine aw_iconst C dX5_lean_23 ?_
        exact aw_iret C E dX5_lean_24 rfl ⟨rfl, act_n S hg eg hc.df e11 (by decide)⟩
  refine aw_aload_n C dX5_lean_0 rfl ?_
  refine aw_aload_n C dX5_lean_1 rfl ?_
  refine aw_call1 C dX5_lean_2 lX5_100 vX5_isThere (t_X5_isThere h) rfl rfl rfl ⟨rfl, by decide⟩ rfl ⟨by decide, by decide⟩ (Nat.le_of_ble_eq_true rfl) ?_
  refine aw_if_eq C dX5_lean_5 (tgt := 12) (by decide) ⟨by omega, by omega⟩ (fun c1 => ?_) (fun c1 => ?_)
  · refine aw_iconst C dX5_lean_12 ?_
    first
    | exact fin 1 (Or.inr ⟨rfl, k2f (by omega)⟩)
    | exact fin 0 (Or.inl ⟨rfl, k2t (by omega)⟩)
  · refine aw_iconst C dX5_lean_8 ?_
    refine aw_goto C dX5_lean_9 (tgt := 13) (by decide) ?_
    first
    | exact fin 1 (Or.inr ⟨rfl, k2f (by omega)⟩)
    | exact fin 0 (Or.inl ⟨rfl, k2t (by omega)⟩)

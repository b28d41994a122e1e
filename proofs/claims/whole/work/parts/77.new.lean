/-! a new ray on the sheet -/
noncomputable def spV (V : FV) (i x y : Int) (e : Nat) : Int := if (e : Int) < V.2.1 ∧ b01 (fra x y) = 0 then (if b01 (hld (ftt V e i x y / trn V i)) = 1 then ftt V e i x y / trn V i else 2001) else 0
/-- a sheet whose entries are held -/
def hW (W : FV) : Prop := bW W ∧ W.2.1 = 6 ∧ ∀ d j : Nat, hld (W.2.2.2.2 d j)
def lnR (mu m : Mem) (V W : FV) (i x y : Int) : Prop := frc bgS mu m ∧ ((okI (rsV V.2.1 W) V i x y ∧ sv m = insV W (bp W x y W.1.toNat).toNat x y (fun d => if (d : Int) < V.2.1 then ftt V d i x y / trn V i else 0) ∧ m 55 33 = mu 55 33) ∨ (¬ okI (rsV V.2.1 W) V i x y ∧ m 55 33 = 0))
theorem t_X6_laysNew {mu : Mem} {V W : FV} {i x y : Int} (eV : mv mu = V) (hV : bV V) (hcl : clo V) (i0 : 0 ≤ i) (i1 : i < V.1) (eS : sv mu = W) (hW : bW W) (h6 : W.2.1 = 6) (hx : R32 x) (hy : R32 y) (hr : mu 55 33 = 0 ∨ mu 55 33 = 1) : Tr 3 mX6_laysNew [vr 55, vi i, vi x, vi y] mu (fun r m2 => r = none ∧ lnR mu m2 V W i x y) := by
  refine Tr.of (by decide +kernel) (Nat.le_of_ble_eq_true rfl) (fun K C E => ?_)
  have hl := hV.2.1
  have hn := hW.1
  have ht := hV.trn i
  have ht2 := hcl.2 i i0 i1
  have kf := b01_01 (fra x y)
  have spb : ∀ e, R32 (spV V i x y e) := fun e => by
    unfold spV
    by_cases w : (e : Int) < V.2.1 ∧ b01 (fra x y) = 0
    · rw [if_pos w]
      by_cases z : b01 (hld (ftt V e i x y / trn V i)) = 1
      · rw [if_pos z]
        have := b01_iff.mp z
        unfold hld at this
        exact ⟨by omega, by omega⟩
      · rw [if_neg z]; exact ⟨by decide, by decide⟩
    · rw [if_neg w]; exact ⟨by decide, by decide⟩
  have loop : ∀ (k : Nat) (d : Int) (m : Mem) (v5 : Vv), 0 ≤ d → d + k = 6 → frc (fun a _ => a = 70) mu m → (∀ e : Nat, (e : Int) < d → m 70 e = spV V i x y e) → AW K mX6_laysNew (NC, 0, 0) 3 [vr 55, vi i, vi x, vi y, vi d, v5, vx] [] m := by
    intro k
    induction k with
    | zero =>
      intro d m v5 q0 q1 q2 q3
      have es : sv m = W := (sv_fr (q2 _ _ (by decide)) (fun x y _ _ => q2 x y (by omega))).trans eS
      have er : m 55 33 = mu 55 33 := q2 _ _ (by decide)
      have hc70 : ∀ d : Nat, d < 6 → m 70 d = spV V i x y d := fun d hd => q3 d (by omega)
      refine aw_iload C dX6_laysNew_3 rfl ?_
      refine aw_bipush C dX6_laysNew_5 rfl ?_
      refine aw_icmp_ge C dX6_laysNew_7 (tgt := 87) (by decide) ⟨by omega, by omega⟩ ⟨by omega, by omega⟩ (fun c1 => ?_) (fun c1 => ?_)
      · refine aw_aload_n C dX6_laysNew_87 rfl ?_
        refine aw_iload_n C dX6_laysNew_88 rfl ?_
        refine aw_iload_n C dX6_laysNew_89 rfl ?_
        refine aw_call C dX6_laysNew_90 lX6_251 vX6_lays (t_X6_lays es hW hx hy (fun d hd => by rw [hc70 d hd]; exact spb d) (by rw [er]; exact hr)) rfl rfl rfl ⟨rfl, by decide⟩ rfl ⟨by decide, by decide⟩ (Nat.le_of_ble_eq_true rfl) (fun r2 mu2 hq2 => ?_)
        obtain ⟨rfl, f1, f2⟩ := hq2
        have fin : lnR mu mu2 V W i x y := by
          refine ⟨(q2.mono (fun a b w => by unfold bgS; omega)).tr (f1.mono lyS_b), ?_⟩
          have okd : okI (rsV V.2.1 W) V i x y ↔ inL W x y ∧ ∀ d : Nat, d < 6 → hld (m 70 d) := by
            constructor
            · rintro ⟨o1, o2, o3, o4⟩
              have o1 : W.1 < 24 := o1
              refine ⟨⟨by omega, o2, o3⟩, fun d hd => ?_⟩
              rw [hc70 d hd]
              unfold spV
              by_cases w : (d : Int) < V.2.1 ∧ b01 (fra x y) = 0
              · have z : hld (ftt V d i x y / trn V i) := o4 d (by omega) w.1
                rw [if_pos w, if_pos (b01_t z)]; exact z
              · rw [if_neg w]; unfold hld; omega
            · rintro ⟨⟨o1, o2, o3⟩, o4⟩
              refine ⟨show W.1 < 24 by omega, o2, o3, fun d d0 d1 => ?_⟩
              have d1 : d < V.2.1 := d1
              have z := o4 d.toNat (by omega)
              rw [hc70 d.toNat (by omega)] at z
              unfold spV at z
              rw [if_pos ⟨by omega, b01_f (fun w => by unfold fra at w; omega)⟩, show ((d.toNat : Nat) : Int) = d by omega] at z
              by_cases z2 : b01 (hld (ftt V d i x y / trn V i)) = 1
              · exact b01_iff.mp z2
              · rw [if_neg z2] at z; unfold hld at z; omega
          rcases f2 with ⟨z, -, z2⟩ | ⟨z, z1, z2⟩
          · exact Or.inr ⟨fun w => z (okd.mp w).1, z2⟩
          · by_cases w : ∀ d : Nat, d < 6 → hld (m 70 d)
            · have ok := okd.mpr ⟨z, w⟩
              refine Or.inl ⟨ok, ?_, by rw [z2, b01_t w, er]; rfl⟩
              rw [z1]
              refine ins_cg (fun d hd => ?_)
              rw [h6] at hd
              rw [hc70 d (by omega)]
              unfold spV
              by_cases e : (d : Int) < V.2.1
              · have z : hld (ftt V d i x y / trn V i) := ok.2.2.2 d (by omega) e
                rw [if_pos e, if_pos ⟨e, b01_f (fun w => by have := ok.2.1; have := ok.2.2.1; unfold fra at w; omega)⟩, if_pos (b01_t z)]
              · rw [if_neg e, if_neg (fun w => e w.1)]
            · exact Or.inr ⟨fun o => w (okd.mp o).2, by rw [z2, b01_f w]; rfl⟩
        generalize mu2 = m3 at *
        show AW _ _ _ _ _ [] _
        exact aw_vret C E dX6_laysNew_93 rfl ⟨rfl, fin⟩
      · exfalso; omega
    | succ k ih =>
      intro d m v5 q0 q1 q2 q3
      have eVm : mv m = V := by
        rw [← eV]
        unfold mv
        rw [q2 55 29 (by decide), q2 55 30 (by decide), show m 64 = mu 64 from funext fun b => q2 64 b (show ¬ (64 : Nat) = 70 by decide), show m 65 = mu 65 from funext fun b => q2 65 b (show ¬ (65 : Nat) = 70 by decide), show m 66 = mu 66 from funext fun b => q2 66 b (show ¬ (66 : Nat) = 70 by decide)]
      have e2 := mv2 eVm
      have esp : spV V i x y d.toNat = if d < V.2.1 ∧ b01 (fra x y) = 0 then (if b01 (hld (ftt V d i x y / trn V i)) = 1 then ftt V d i x y / trn V i else 2001) else 0 := by
        unfold spV
        rw [show ((d.toNat : Nat) : Int) = d by omega]
      have step : ∀ (v : Int) (v5 : Vv), v = spV V i x y d.toNat → AW K mX6_laysNew (NC, 0, 0) 3 [vr 55, vi i, vi x, vi y, vi (d + 1), v5, vx] [] (wr m 70 d.toNat v) := fun v w5 hv => by
        refine ih (d + 1) _ _ (by omega) (by omega) (q2.w rfl) (fun e he => ?_)
        rw [wr_at]
        by_cases e1 : e = d.toNat
        · rw [if_pos ⟨rfl, e1⟩, e1]; exact hv
        · rw [if_neg (fun w => e1 w.2)]; exact q3 e (by omega)
      have kh := b01_01 (hld (ftt V d i x y / trn V i))
      have k0 : b01 (-2000 ≤ (0 : Int) ∧ (0 : Int) ≤ 2000) = 1 := b01_t (by decide)
      have kk : b01 (-2000 ≤ ftt V d i x y / trn V i ∧ ftt V d i x y / trn V i ≤ 2000) = b01 (hld (ftt V d i x y / trn V i)) := rfl
      refine aw_iload C dX6_laysNew_3 rfl ?_
      refine aw_bipush C dX6_laysNew_5 rfl ?_
      refine aw_icmp_ge C dX6_laysNew_7 (tgt := 87) (by decide) ⟨by omega, by omega⟩ ⟨by omega, by omega⟩ (fun c1 => ?_) (fun c1 => ?_)
      · exfalso; omega
      · refine aw_iload C dX6_laysNew_10 rfl ?_
        refine aw_aload_n C dX6_laysNew_12 rfl ?_
        refine aw_getI C dX6_laysNew_13 fX6_279 ⟨rfl, by decide⟩ rfl ?_
        refine aw_icmp_ge C dX6_laysNew_16 (tgt := 48) (by decide) ⟨by omega, by omega⟩ ⟨by omega, by omega⟩ (fun c2 => ?_) (fun c2 => ?_)
        · --go
          refine aw_lconst C dX6_laysNew_48 (v := 0) rfl ?_
          refine aw_lstore C dX6_laysNew_49 (by decide) ?_
          refine aw_aload_n C dX6_laysNew_51 rfl ?_
          refine aw_getS C dX6_laysNew_52 fX6_59 ⟨rfl, by decide⟩ rfl rfl (srf 55 34 70 (by decide)) ?_
          refine aw_iload C dX6_laysNew_55 rfl ?_
          refine aw_lload C dX6_laysNew_57 rfl ?_
          refine aw_ldc2 C dX6_laysNew_59 kX6_247 (z := -2000) (by decide +kernel) ?_
          refine aw_ldc2 C dX6_laysNew_62 kX6_249 (z := 2000) (by decide +kernel) ?_
          refine aw_callS1 C dX6_laysNew_65 lX6_108 vX6_in (t_X6_in ⟨by omega, by omega⟩ ⟨by omega, by omega⟩ ⟨by omega, by omega⟩) rfl rfl rfl ⟨by decide, by decide⟩ (Nat.le_of_ble_eq_true rfl) ?_
          refine aw_if_eq C dX6_laysNew_68 (tgt := 77) (by decide) ⟨by omega, by omega⟩ (fun ch => ?_) (fun ch => ?_)
          · exfalso; omega
          · refine aw_lload C dX6_laysNew_71 rfl ?_
            refine aw_l2i C dX6_laysNew_73 ?_
            refine aw_goto C dX6_laysNew_74 (tgt := 80) (by decide) ?_
            refine aw_iast C dX6_laysNew_80 ⟨rfl, by decide⟩ (by decide) (by omega) (by omega) ?_
            refine aw_iinc C dX6_laysNew_81 rfl ?_
            refine aw_goto C dX6_laysNew_84 (tgt := 3) (by decide) ?_
            exact step _ _ (by rw [esp, if_neg (by omega)])
        · refine aw_iload_n C dX6_laysNew_19 rfl ?_
          refine aw_iload_n C dX6_laysNew_20 rfl ?_
          refine aw_callS1 C dX6_laysNew_21 lX6_322 vX6_isNear (t_X6_isNear hx hy) rfl rfl rfl ⟨by decide, by decide⟩ (Nat.le_of_ble_eq_true rfl) ?_
          refine aw_if_eq C dX6_laysNew_24 (tgt := 48) (by decide) ⟨by omega, by omega⟩ (fun cf => ?_) (fun cf => ?_)
          · --go
            refine aw_lconst C dX6_laysNew_48 (v := 0) rfl ?_
            refine aw_lstore C dX6_laysNew_49 (by decide) ?_
            refine aw_aload_n C dX6_laysNew_51 rfl ?_
            refine aw_getS C dX6_laysNew_52 fX6_59 ⟨rfl, by decide⟩ rfl rfl (srf 55 34 70 (by decide)) ?_
            refine aw_iload C dX6_laysNew_55 rfl ?_
            refine aw_lload C dX6_laysNew_57 rfl ?_
            refine aw_ldc2 C dX6_laysNew_59 kX6_247 (z := -2000) (by decide +kernel) ?_
            refine aw_ldc2 C dX6_laysNew_62 kX6_249 (z := 2000) (by decide +kernel) ?_
            refine aw_callS1 C dX6_laysNew_65 lX6_108 vX6_in (t_X6_in ⟨by omega, by omega⟩ ⟨by omega, by omega⟩ ⟨by omega, by omega⟩) rfl rfl rfl ⟨by decide, by decide⟩ (Nat.le_of_ble_eq_true rfl) ?_
            refine aw_if_eq C dX6_laysNew_68 (tgt := 77) (by decide) ⟨by omega, by omega⟩ (fun ch => ?_) (fun ch => ?_)
            · exfalso; omega
            · refine aw_lload C dX6_laysNew_71 rfl ?_
              refine aw_l2i C dX6_laysNew_73 ?_
              refine aw_goto C dX6_laysNew_74 (tgt := 80) (by decide) ?_
              refine aw_iast C dX6_laysNew_80 ⟨rfl, by decide⟩ (by decide) (by omega) (by omega) ?_
              refine aw_iinc C dX6_laysNew_81 rfl ?_
              refine aw_goto C dX6_laysNew_84 (tgt := 3) (by decide) ?_
              exact step _ _ (by rw [esp, if_neg (by omega)])
          · have b0 := fra_n (x := x) (y := y) (by omega)
            have fb := hV.ft d i b0.1 b0.2
            have qb := ediv_b ht2 (T := ftt V d i x y) (B := 28800000) ⟨by omega, by omega⟩ (by decide)
            --go
            refine aw_aload_n C dX6_laysNew_27 rfl ?_
            refine aw_iload C dX6_laysNew_28 rfl ?_
            refine aw_iload_n C dX6_laysNew_30 rfl ?_
            refine aw_iload_n C dX6_laysNew_31 rfl ?_
            refine aw_iload_n C dX6_laysNew_32 rfl ?_
            refine aw_call1 C dX6_laysNew_33 lX6_335 vX6_above (t_X6_above eVm hV i0 i1 q0 (by omega) b0.1 b0.2) rfl rfl rfl ⟨rfl, by decide⟩ rfl ⟨by decide, by decide⟩ (Nat.le_of_ble_eq_true rfl) ?_
            refine aw_aload_n C dX6_laysNew_36 rfl ?_
            refine aw_iload_n C dX6_laysNew_37 rfl ?_
            refine aw_call1 C dX6_laysNew_38 lX6_288 vX6_turn (t_X6_turn eVm hV i0 i1) rfl rfl rfl ⟨rfl, by decide⟩ rfl ⟨by decide, by decide⟩ (Nat.le_of_ble_eq_true rfl) ?_
            refine aw_i2l C dX6_laysNew_41 ⟨by omega, by omega⟩ ?_
            refine aw_callS1 C dX6_laysNew_42 lX6_85 vX6_down (t_X6_down ⟨by omega, by omega⟩ ⟨by omega, by omega⟩ ht2) rfl rfl rfl ⟨by decide, by decide⟩ (Nat.le_of_ble_eq_true rfl) ?_
            refine aw_goto C dX6_laysNew_45 (tgt := 49) (by decide) ?_
            refine aw_lstore C dX6_laysNew_49 (by decide) ?_
            refine aw_aload_n C dX6_laysNew_51 rfl ?_
            refine aw_getS C dX6_laysNew_52 fX6_59 ⟨rfl, by decide⟩ rfl rfl (srf 55 34 70 (by decide)) ?_
            refine aw_iload C dX6_laysNew_55 rfl ?_
            refine aw_lload C dX6_laysNew_57 rfl ?_
            refine aw_ldc2 C dX6_laysNew_59 kX6_247 (z := -2000) (by decide +kernel) ?_
            refine aw_ldc2 C dX6_laysNew_62 kX6_249 (z := 2000) (by decide +kernel) ?_
            refine aw_callS1 C dX6_laysNew_65 lX6_108 vX6_in (t_X6_in ⟨by omega, by omega⟩ ⟨by omega, by omega⟩ ⟨by omega, by omega⟩) rfl rfl rfl ⟨by decide, by decide⟩ (Nat.le_of_ble_eq_true rfl) ?_
            refine aw_if_eq C dX6_laysNew_68 (tgt := 77) (by decide) ⟨by omega, by omega⟩ (fun ch => ?_) (fun ch => ?_)
            · --go
              refine aw_sipush C dX6_laysNew_77 rfl ?_
              refine aw_iast C dX6_laysNew_80 ⟨rfl, by decide⟩ (by decide) (by omega) (by omega) ?_
              refine aw_iinc C dX6_laysNew_81 rfl ?_
              refine aw_goto C dX6_laysNew_84 (tgt := 3) (by decide) ?_
              exact step _ _ (by rw [esp, if_pos ⟨by omega, by omega⟩, if_neg (by omega)])
            · --go
              refine aw_lload C dX6_laysNew_71 rfl ?_
              refine aw_l2i C dX6_laysNew_73 ?_
              refine aw_goto C dX6_laysNew_74 (tgt := 80) (by decide) ?_
              refine aw_iast C dX6_laysNew_80 ⟨rfl, by decide⟩ (by decide) (by omega) (by omega) ?_
              refine aw_iinc C dX6_laysNew_81 rfl ?_
              refine aw_goto C dX6_laysNew_84 (tgt := 3) (by decide) ?_
              exact step _ _ (by rw [esp, if_pos ⟨by omega, by omega⟩, if_pos (by omega)])
  refine aw_iconst C dX6_laysNew_0 ?_
  refine aw_istore C dX6_laysNew_1 (by decide) ?_
  exact loop 6 0 mu _ (by omega) (by omega) frc.rf (fun e he => by omega)
/-! what the sheet becomes -/
theorem mSt_hold {m m2 : Mem} {V W : FV} {a : Int} {H : Nat → FV} (S : mSt m V a H) (hp : 0 < V.1) (es : mv6 m2 = W) (hf : frc hdS m m2) (gW : gV (rsV V.2.1 W)) (hw : 0 < W.1) (hN : ∀ d j : Nat, hld (W.2.2.2.2 d j)) : mSt m2 (rsV V.2.1 W) a H := by
  obtain ⟨⟨s1, s2, s3⟩, s4, s5, s6, s7⟩ := S
  have e2 : m2 55 30 = m 55 30 := hf _ _ (by unfold hdS; omega)
  have e6 : m2 55 32 = m 55 32 := hf _ _ (by unfold hdS; omega)
  have e9 : m2 55 39 = m 55 39 := hf _ _ (by unfold hdS; omega)
  have f1 : m2 71 = m 71 := funext fun b => hf _ _ (by unfold hdS; omega)
  have f2 : m2 72 = m 72 := funext fun b => hf _ _ (by unfold hdS; omega)
  have f3 : m2 73 = m 73 := funext fun b => hf _ _ (by unfold hdS; omega)
  have f4 : m2 74 = m 74 := funext fun b => hf _ _ (by unfold hdS; omega)
  have l2 : m2 55 30 = V.2.1 := e2.trans (mv2 s1)
  have l6 := s2.1.2.1.2
  refine ⟨⟨?_, gW, Or.inl ⟨by rw [e6]; omega, hw⟩⟩, by rw [e9]; exact s4, fun j hj => ?_, fun d i hd hi => ?_, fun j hj => by unfold pB; rw [f1, f4]; exact s7 j hj⟩
  · rw [mv_rs (by omega), l2, es]
  · rw [← s5 j hj]
    unfold pmv
    rw [e2, f1, f2, f3, f4]
  · have := hN d i
    rw [← es] at this
    have e : (mv6 m2).2.2.2.2 d i = m2 66 (25 * d + i) := by
      show cut2 6 (m2 55 29) (fun d j => m2 66 (25 * d + j)) d i = _
      unfold cut2
      rw [if_pos ⟨by omega, hi⟩]
    rw [e] at this
    exact this
theorem mv6_srt {mu : Mem} {V : FV} (e : mv mu = V) (h : srt V) : srt (mv6 mu) := by subst e; exact h
theorem mv6_bW {mu : Mem} {V : FV} (e : mv mu = V) (h : bV V) : bW (mv6 mu) := by subst e; exact ⟨h.1, h.2.2.1, h.2.2.2.1⟩
theorem mv6_rs {mu : Mem} {V : FV} (e : mv mu = V) (h : bV V) : rsV V.2.1 (mv6 mu) = V := by
  have := mv_rs (mu := mu) (by rw [mv2 e]; exact h.2.1.2)
  rw [mv2 e, e] at this
  exact this.symm
theorem mv6_hW {mu : Mem} {V : FV} (e : mv mu = V) (h : bV V) (hN : nB mu) : hW (mv6 mu) := by
  refine ⟨mv6_bW e h, rfl, fun d j => ?_⟩
  show hld (cut2 6 (mu 55 29) (fun d j => mu 66 (25 * d + j)) d j)
  unfold cut2
  by_cases w : (d : Int) < 6 ∧ (j : Int) < mu 55 29
  · rw [if_pos w]; exact hN d j (by omega) w.2
  · rw [if_neg w]; unfold hld; omega
theorem hW_ins {W : FV} (h : hW W) {p : Nat} {x y : Int} {c : Nat → Int} (hn : W.1 < 24) (hx : -60 ≤ x ∧ x ≤ 60) (hy : -60 ≤ y ∧ y ≤ 60) (hc : ∀ d : Nat, hld (c d)) : hW (insV W p x y c) := by
  obtain ⟨⟨h1, h2, h3⟩, h4, h5⟩ := h
  have ib : ∀ (A : Nat → Int) (v B : Int), (∀ i, -B ≤ A i ∧ A i ≤ B) → (-B ≤ v ∧ v ≤ B) → ∀ i, -B ≤ ins A p v i ∧ ins A p v i ≤ B := fun A v B hA hv i => by
    unfold ins
    split
    · exact hA i
    · split
      · exact hv
      · exact hA _
  refine ⟨⟨⟨show 0 ≤ W.1 + 1 by omega, show W.1 + 1 ≤ 24 by omega⟩, ib _ _ 60 h2 hx, ib _ _ 60 h3 hy⟩, h4, fun d j => ?_⟩
  show hld (if (d : Int) < W.2.1 then ins (W.2.2.2.2 d) p (c d) j else 0)
  split
  · exact ib _ _ 2000 (h5 d) (hc d) j
  · unfold hld; omega
theorem hW_rem {W : FV} (h : hW W) {p : Nat} (hp : 1 ≤ W.1) : hW (remV W p) := by
  obtain ⟨⟨h1, h2, h3⟩, h4, h5⟩ := h
  have ib : ∀ (A : Nat → Int) (B : Int), (∀ i, -B ≤ A i ∧ A i ≤ B) → ∀ i, -B ≤ del A p i ∧ del A p i ≤ B := fun A B hA i => by
    unfold del
    split
    · exact hA i
    · exact hA _
  exact ⟨⟨⟨show 0 ≤ W.1 - 1 by omega, show W.1 - 1 ≤ 24 by omega⟩, ib _ 60 h2, ib _ 60 h3⟩, h4, fun d j => ib _ 2000 (h5 d) j⟩
theorem rs_splt {W : FV} {l x y p : Int} (h : splt (rsV l W) x y p) : splt W x y p := h
theorem bp_pos {W : FV} {l x y : Int} (h : splt (rsV l W) x y (pos (rsV l W) x y)) : bp W x y W.1.toNat = pos (rsV l W) x y := splt_bpos (rs_splt h)
theorem bgS_k {mu m : Mem} (h : frc bgS mu m) : ∀ x y, kpM2 x y → m x y = mu x y := fun x y w => h x y (by unfold kpM2 at w; unfold bgS; omega)
theorem bgS_K : ∀ x y, bgS x y → mfK x y := fun x y h => by unfold bgS at h; unfold mfK; omega
theorem hdS_K : ∀ x y, hdS x y → mfK x y := fun x y h => by unfold hdS at h; unfold mfK; omega
theorem sv_rmm {mu m : Mem} (h : frc rmmS mu m) : sv m = sv mu := sv_fr (h _ _ (by unfold rmmS; omega)) (fun x y _ _ => h _ _ (by unfold rmmS; omega))
theorem t_X6_placeOf {mu : Mem} {V : FV} {x y p : Int} (eV : mv mu = V) (hV : bV V) (hx : R32 x) (hy : R32 y) (p0 : 0 ≤ p) (p1 : p < V.1) (h1 : gx V p = x) (h2 : gy V p = y) (hu : ∀ j, 0 ≤ j → j < p → ¬ (gx V j = x ∧ gy V j = y)) : TrE 0 mX6_placeOf [vr 55, vi x, vi y] mu (some (vi p)) mu := by
  refine Tr.of (by decide +kernel) (Nat.le_of_ble_eq_true rfl) (fun K C E => ?_)
  have hn := hV.1
  have loop : ∀ (k : Nat) (i : Int), 0 ≤ i → i + k = p → AW K mX6_placeOf (NC, 0, 0) 2 [vr 55, vi x, vi y, vi i] [] mu := by
    intro k
    induction k with
    | zero =>
      intro i q0 q1
      have e : i = p := by omega
      subst e
      have f1 := mxV eV p0 p1
      have f2 := myV eV p0 p1
      have b1 := hV.x i
      have b2 := hV.y i
      refine aw_aload_n C dX6_placeOf_2 rfl ?_
      refine aw_getS C dX6_placeOf_3 fX6_41 ⟨rfl, by decide⟩ rfl rfl (srf 55 23 64 (by decide)) ?_
      refine aw_iload_n C dX6_placeOf_6 rfl ?_
      refine aw_iald C dX6_placeOf_7 ⟨rfl, by decide⟩ (by decide) (by omega) (by omega) ?_
      refine aw_iload_n C dX6_placeOf_8 rfl ?_
      refine aw_icmp_ne C dX6_placeOf_9 (tgt := 22) (by decide) ⟨by omega, by omega⟩ ⟨by omega, by omega⟩ (fun c1 => ?_) (fun c1 => ?_)
      · exfalso; omega
      · refine aw_aload_n C dX6_placeOf_12 rfl ?_
        refine aw_getS C dX6_placeOf_13 fX6_44 ⟨rfl, by decide⟩ rfl rfl (srf 55 24 65 (by decide)) ?_
        refine aw_iload_n C dX6_placeOf_16 rfl ?_
        refine aw_iald C dX6_placeOf_17 ⟨rfl, by decide⟩ (by decide) (by omega) (by omega) ?_
        refine aw_iload_n C dX6_placeOf_18 rfl ?_
        refine aw_icmp_eq C dX6_placeOf_19 (tgt := 28) (by decide) ⟨by omega, by omega⟩ ⟨by omega, by omega⟩ (fun c2 => ?_) (fun c2 => ?_)
        · refine aw_iload_n C dX6_placeOf_28 rfl ?_
          exact aw_iret C E dX6_placeOf_29 rfl ⟨rfl, rfl⟩
        · exfalso; omega
    | succ k ih =>
      intro i q0 q1
      have f1 := mxV eV q0 (show i < V.1 by omega)
      have f2 := myV eV q0 (show i < V.1 by omega)
      have b1 := hV.x i
      have b2 := hV.y i
      have z := hu i q0 (by omega)
      refine aw_aload_n C dX6_placeOf_2 rfl ?_
      refine aw_getS C dX6_placeOf_3 fX6_41 ⟨rfl, by decide⟩ rfl rfl (srf 55 23 64 (by decide)) ?_
      refine aw_iload_n C dX6_placeOf_6 rfl ?_
      refine aw_iald C dX6_placeOf_7 ⟨rfl, by decide⟩ (by decide) (by omega) (by omega) ?_
      refine aw_iload_n C dX6_placeOf_8 rfl ?_
      refine aw_icmp_ne C dX6_placeOf_9 (tgt := 22) (by decide) ⟨by omega, by omega⟩ ⟨by omega, by omega⟩ (fun c1 => ?_) (fun c1 => ?_)
      · refine aw_iinc C dX6_placeOf_22 rfl ?_
        refine aw_goto C dX6_placeOf_25 (tgt := 2) (by decide) ?_
        exact ih (i + 1) (by omega) (by omega)
      · refine aw_aload_n C dX6_placeOf_12 rfl ?_
        refine aw_getS C dX6_placeOf_13 fX6_44 ⟨rfl, by decide⟩ rfl rfl (srf 55 24 65 (by decide)) ?_
        refine aw_iload_n C dX6_placeOf_16 rfl ?_
        refine aw_iald C dX6_placeOf_17 ⟨rfl, by decide⟩ (by decide) (by omega) (by omega) ?_
        refine aw_iload_n C dX6_placeOf_18 rfl ?_
        refine aw_icmp_eq C dX6_placeOf_19 (tgt := 28) (by decide) ⟨by omega, by omega⟩ ⟨by omega, by omega⟩ (fun c2 => ?_) (fun c2 => ?_)
        · exfalso; omega
        · refine aw_iinc C dX6_placeOf_22 rfl ?_
          refine aw_goto C dX6_placeOf_25 (tgt := 2) (by decide) ?_
          exact ih (i + 1) (by omega) (by omega)
  refine aw_iconst C dX6_placeOf_0 ?_
  refine aw_istore_n C dX6_placeOf_1 (by decide) ?_
  exact loop p.toNat 0 (by omega) (by omega)

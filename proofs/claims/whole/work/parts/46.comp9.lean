/-! undo -/
def udM (mu : Mem) (f c : Nat) (n a : Int) : Mem := wr (wr (wr (wr mu 0 5 c) 14 (pv8 n).toNat f) 0 7 (pv8 n)) 0 8 (a - 1)
theorem cSt.u {mu : Mem} {V : FV} {a : Int} {H : Nat → FV} (h : cSt mu V a H) (h0 : 0 < a) {f c : Nat} (hf : isF f) (ef : mu 0 5 = (f : Int)) (hc : isF c) (ec : mu 14 (pv8 (mu 0 7)).toNat = (c : Int)) : cSt (udM mu f c (mu 0 7) a) (H 0) (a - 1) (fun j => H (j + 1)) ∧ afr mu (udM mu f c (mu 0 7) a) ∧ (udM mu f c (mu 0 7) a) 0 11 = mu 0 11 := by
  have hh := h
  obtain ⟨r, ⟨f2, hf2, ef2, evf⟩, gv, ea, ha, hn, hp⟩ := h
  obtain rfl : f2 = f := by omega
  generalize hN : mu 0 7 = n at *
  have np : 0 ≤ pv8 n ∧ pv8 n < 8 := by unfold pv8; split <;> omega
  have k0 : ∀ b, b ≠ 5 → b ≠ 7 → b ≠ 8 → udM mu f2 c n a 0 b = mu 0 b := fun b b1 b2 b3 => by
    unfold udM
    rw [wr_at, if_neg (by omega), wr_at, if_neg (by omega), wr_ne (by omega), wr_at, if_neg (by omega)]
  have k5 : udM mu f2 c n a 0 5 = (c : Int) := by
    unfold udM
    rw [wr_at, if_neg (by omega), wr_at, if_neg (by omega), wr_ne (by omega), wr_at, if_pos ⟨rfl, rfl⟩]
  have k7 : udM mu f2 c n a 0 7 = pv8 n := by
    unfold udM
    rw [wr_at, if_neg (by omega), wr_at, if_pos ⟨rfl, rfl⟩]
  have k8 : udM mu f2 c n a 0 8 = a - 1 := by
    unfold udM
    rw [wr_at, if_pos ⟨rfl, rfl⟩]
  have k14 : ∀ b, udM mu f2 c n a 14 b = if b = (pv8 n).toNat then (f2 : Int) else mu 14 b := fun b => by
    unfold udM
    rw [wr_ne (by omega), wr_ne (by omega), wr_at]
    by_cases w : b = (pv8 n).toNat
    · rw [if_pos ⟨rfl, w⟩, if_pos w]
    · rw [if_neg (fun z => w z.2), if_neg w, wr_ne (by omega)]
  have kx : ∀ x, x ≠ 0 → x ≠ 14 → udM mu f2 c n a x = mu x := fun x x1 x2 => by
    unfold udM
    rw [wr_ne (by omega), wr_ne (by omega), wr_ne (by omega), wr_ne (by omega)]
  have kf : ∀ z, isF z → fv (udM mu f2 c n a) z = fv mu z := fun z hz => by
    have := hz.ge
    exact fv_eq fun x a b => kx x (by omega) (by omega)
  have e : ∀ t, slt (udM mu f2 c n a) t = slt mu (if t = 0 then (pv8 n).toNat + 2 else if t = (pv8 n).toNat + 2 then 0 else t) := fun t => by
    by_cases t0 : t = 0
    · subst t0; rw [if_pos rfl, slt_0, slt_p, k5, ec]
    · rw [if_neg t0]
      by_cases t1 : t = 1
      · subst t1; rw [if_neg (by omega), slt_1, slt_1, k0 6 (by decide) (by decide) (by decide)]
      · obtain ⟨i, rfl⟩ : ∃ i, t = i + 2 := ⟨t - 2, by omega⟩
        rw [slt_p, k14]
        by_cases ti : i = (pv8 n).toNat
        · rw [if_pos ti, if_pos (by omega), slt_0, ef]
        · rw [if_neg ti, if_neg (by omega), slt_p]
  refine ⟨⟨⟨fun s t hs ht est => ?_, fun t ht => ?_⟩, ⟨c, hc, k5, ?_⟩, ?_, k8, by omega, by rw [k7]; exact np, fun j hj => ?_⟩, fun x y hxy => ?_, k0 11 (by decide) (by decide) (by decide)⟩
  · rw [e, e] at est
    have := r.1 _ _ (by split; omega; split <;> omega) (by split; omega; split <;> omega) est
    split at this <;> split at this <;> (try split at this) <;> (try split at this) <;> omega
  · rw [e]
    exact r.2 _ (by split; omega; split <;> omega)
  · rw [kf c hc]
    have z := (hp 0 (by omega)).1
    have e2 : pst mu 0 = c := by
      unfold pst
      rw [hN, show ((n + 7 - ((0 : Nat) : Int)) % 8).toNat = (pv8 n).toNat by unfold pv8; split <;> omega, ec]; omega
    rw [e2] at z
    exact z
  · exact (hp 0 (by omega)).2.1
  · obtain ⟨z1, z2, z3⟩ := hp (j + 1) (by omega)
    refine ⟨?_, z2, z3⟩
    show fv _ _ = H (j + 1)
    rw [← z1]
    unfold pst
    rw [k7, hN]
    have i1 : ((pv8 n + 7 - (j : Int)) % 8).toNat = ((n + 7 - ((j + 1 : Nat) : Int)) % 8).toNat := by unfold pv8; split <;> omega
    have i2 : ¬ ((n + 7 - ((j + 1 : Nat) : Int)) % 8).toNat = (pv8 n).toNat := by unfold pv8; split <;> omega
    rw [i1, k14, if_neg i2]
    obtain ⟨p, p1, p2⟩ := hh.past (i := ((n + 7 - ((j + 1 : Nat) : Int)) % 8).toNat) (by omega)
    rw [p2, show (p : Int).toNat = p by omega]
    exact kf p p1
  · by_cases x0 : x = 0
    · subst x0; exact k0 y (by omega) (by omega) (by omega)
    · rw [kx x x0 (by omega)]
def qUn (V : FV) (a : Int) : Int × Int := if ¬ 0 < V.1 then (-1, 1) else if a = 0 then (-1, 5) else (a - 1, 0)
theorem t_X5_undo {mu : Mem} {V : FV} {a : Int} {H : Nat → FV} (S : cSt mu V a H) : Tr 1 mX5_undo [vr 0] mu (fun r m2 => r = some (vi (qUn V a).1) ∧ m2 0 11 = (qUn V a).2 ∧ afr mu m2 ∧ ((qUn V a).2 = 0 → cSt m2 (H 0) (a - 1) (fun j => H (j + 1))) ∧ ((qUn V a).2 ≠ 0 → cSt m2 V a H)) := by
  refine Tr.of (by decide +kernel) (Nat.le_of_ble_eq_true rfl) (fun K C E => ?_)
  obtain ⟨f, g, p, r, h, rfl⟩ := S.rn
  obtain ⟨⟨hf, ef⟩, ⟨hg, eg⟩, ⟨hp, ep⟩, fne⟩ := id r
  have hV := h.2.2.1
  have hn := hV.n
  have ha := S.2.2.2.2.1
  have ea := S.2.2.2.1
  have hnn := S.2.2.2.2.2.1
  have k1 := b01_01 (0 < mu f 0)
  have k1t : b01 (0 < mu f 0) = 1 → 0 < mu f 0 := b01_iff.mp
  have k1f : b01 (0 < mu f 0) = 0 → ¬ 0 < mu f 0 := b01_niff.mp
  unfold qUn at E
  have fin : ∀ {v90 v91 : Vv} (c : Int), (c = 0 ∧ 0 < mu f 0 ∧ a ≠ 0) ∨ (c = 1 ∧ ¬ 0 < mu f 0) ∨ (c = 5 ∧ 0 < mu f 0 ∧ a = 0) → AW K mX5_undo (NC, 0, 0) 24 [vr 0, v90, v91] [vi c, vr 0] mu := by
    rintro v90 v91 c (⟨rfl, q⟩ | ⟨rfl, q⟩ | ⟨rfl, q⟩)
    · rw [if_neg (show ¬ ¬ 0 < (fv mu f).1 from fun z => z q.1), if_neg q.2] at E
      refine aw_putI C dX5_undo_24 fX5_62 ⟨rfl, by decide⟩ rfl rfl rfl ?_
      have hc : cE mu (wr mu 0 11 0) 0 := cE_w
      generalize wr mu 0 11 0 = m1 at *
      obtain ⟨e5, ev, hV1, en, el, e11⟩ := hc.all h
      have S1 := S.e hc
      have a1 := S1.2.2.2.1
      have n1 := S1.2.2.2.2.2.1
      have np : 0 ≤ pv8 (m1 0 7) ∧ pv8 (m1 0 7) < 8 := by unfold pv8; split <;> omega
      refine aw_aload_n C dX5_undo_27 rfl ?_
      refine aw_getI C dX5_undo_28 fX5_62 ⟨rfl, by decide⟩ rfl ?_
      rw [e11]
      refine aw_if_eq C dX5_undo_31 (tgt := 36) (by decide) ⟨by omega, by omega⟩ (fun c1 => ?_) (fun c1 => ?_)
      · refine aw_aload_n C dX5_undo_36 rfl ?_
        refine aw_getI C dX5_undo_37 fX5_277 ⟨rfl, by decide⟩ rfl ?_
        refine aw_iconst C dX5_undo_40 ?_
        refine aw_isub C dX5_undo_41 ?_
        refine aw_callS1 C dX5_undo_42 lX5_280 vX5_placeInRing (t_X5_placeInRing ⟨by omega, by omega⟩) rfl rfl rfl ⟨by decide, by decide⟩ (Nat.le_of_ble_eq_true rfl) ?_
        rw [pr8_pv n1.1 n1.2]
        refine aw_istore_n C dX5_undo_45 (by decide) ?_
        refine aw_aload_n C dX5_undo_46 rfl ?_
        refine aw_getR C dX5_undo_47 fX5_43 ⟨rfl, by decide⟩ rfl e5 ?_
        refine aw_astore_n C dX5_undo_50 (by decide) ?_
        refine aw_aload_n C dX5_undo_51 rfl ?_
        refine aw_aload_n C dX5_undo_52 rfl ?_
        refine aw_getS C dX5_undo_53 fX5_38 ⟨rfl, by decide⟩ rfl rfl (srf 0 4 14 (by decide)) ?_
        refine aw_iload_n C dX5_undo_56 rfl ?_
        refine aw_aald C dX5_undo_57 rfl (by omega) (by omega) (fun g2 hg2 eg2 => ?_)
        have ec : m1 14 (pv8 (m1 0 7)).toNat = (g2 : Int) := eg2
        refine aw_putD C dX5_undo_58 fX5_43 rfl (by decide) hg2 rfl rfl ?_
        refine aw_aload_n C dX5_undo_61 rfl ?_
        refine aw_getS C dX5_undo_62 fX5_38 ⟨rfl, by decide⟩ rfl rfl (srf 0 4 14 (by decide)) ?_
        refine aw_iload_n C dX5_undo_65 rfl ?_
        refine aw_aload_n C dX5_undo_66 rfl ?_
        refine aw_aast C dX5_undo_67 rfl hf (by omega) (by omega) ?_
        refine aw_aload_n C dX5_undo_68 rfl ?_
        refine aw_iload_n C dX5_undo_69 rfl ?_
        refine aw_putI C dX5_undo_70 fX5_277 ⟨rfl, by decide⟩ rfl rfl rfl ?_
        refine aw_aload_n C dX5_undo_73 rfl ?_
        refine aw_dup_a C dX5_undo_74 ?_
        refine aw_getI C dX5_undo_75 fX5_94 ⟨rfl, by decide⟩ rfl ?_
        rw [wr_at, if_neg (by omega), wr_ne (by omega), wr_at, if_neg (by omega), a1]
        refine aw_iconst C dX5_undo_78 ?_
        refine aw_isub C dX5_undo_79 ?_
        refine aw_putI C dX5_undo_80 fX5_94 ⟨rfl, by decide⟩ rfl rfl rfl ?_
        refine aw_aload_n C dX5_undo_83 rfl ?_
        refine aw_getI C dX5_undo_84 fX5_94 ⟨rfl, by decide⟩ rfl ?_
        rw [wr_at, if_pos ⟨rfl, rfl⟩]
        exact aw_iret C E dX5_undo_87 rfl (by obtain ⟨u1, u2, u3⟩ := S1.u (by omega) hf e5 hg2 ec; exact ⟨rfl, u3.trans e11, hc.af.tr u2, fun _ => u1, fun w => absurd rfl w⟩)
      · exfalso; omega
    · rw [if_pos (show ¬ 0 < (fv mu f).1 from q)] at E
      refine aw_putI C dX5_undo_24 fX5_62 ⟨rfl, by decide⟩ rfl rfl rfl ?_
      have hc : cE mu (wr mu 0 11 1) 1 := cE_w
      generalize wr mu 0 11 1 = m1 at *
      obtain ⟨e5, ev, hV1, en, el, e11⟩ := hc.all h
      refine aw_aload_n C dX5_undo_27 rfl ?_
      refine aw_getI C dX5_undo_28 fX5_62 ⟨rfl, by decide⟩ rfl ?_
      rw [e11]
      refine aw_if_eq C dX5_undo_31 (tgt := 36) (by decide) ⟨by omega, by omega⟩ (fun c1 => ?_) (fun c1 => ?_)
      · exfalso; omega
      · refine aw_iconst C dX5_undo_34 ?_
        exact aw_iret C E dX5_undo_35 rfl ⟨rfl, e11, hc.af, fun w => absurd (show (1 : Int) = 0 from w) (by decide), fun _ => S.e hc⟩
    · rw [if_neg (show ¬ ¬ 0 < (fv mu f).1 from fun z => z q.1), if_pos q.2] at E
      refine aw_putI C dX5_undo_24 fX5_62 ⟨rfl, by decide⟩ rfl rfl rfl ?_
      have hc : cE mu (wr mu 0 11 5) 5 := cE_w
      generalize wr mu 0 11 5 = m1 at *
      obtain ⟨e5, ev, hV1, en, el, e11⟩ := hc.all h
      refine aw_aload_n C dX5_undo_27 rfl ?_
      refine aw_getI C dX5_undo_28 fX5_62 ⟨rfl, by decide⟩ rfl ?_
      rw [e11]
      refine aw_if_eq C dX5_undo_31 (tgt := 36) (by decide) ⟨by omega, by omega⟩ (fun c1 => ?_) (fun c1 => ?_)
      · exfalso; omega
      · refine aw_iconst C dX5_undo_34 ?_
        exact aw_iret C E dX5_undo_35 rfl ⟨rfl, e11, hc.af, fun w => absurd (show (5 : Int) = 0 from w) (by decide), fun _ => S.e hc⟩
  refine aw_aload_n C dX5_undo_0 rfl ?_
  refine aw_aload_n C dX5_undo_1 rfl ?_
  refine aw_call1 C dX5_undo_2 lX5_100 vX5_isThere (t_X5_isThere h) rfl rfl rfl ⟨rfl, by decide⟩ rfl ⟨by decide, by decide⟩ (Nat.le_of_ble_eq_true rfl) ?_
  refine aw_if_ne C dX5_undo_5 (tgt := 12) (by decide) ⟨by omega, by omega⟩ (fun c1 => ?_) (fun c1 => ?_)
  · refine aw_aload_n C dX5_undo_12 rfl ?_
    refine aw_getI C dX5_undo_13 fX5_94 ⟨rfl, by decide⟩ rfl ?_
    rw [ea]
    refine aw_if_ne C dX5_undo_16 (tgt := 23) (by decide) ⟨by omega, by omega⟩ (fun c2 => ?_) (fun c2 => ?_)
    · refine aw_iconst C dX5_undo_23 ?_
      first
      | exact fin 1 (Or.inr (Or.inl ⟨rfl, k1f (by omega)⟩))
      | exact fin 0 (Or.inl ⟨rfl, k1t (by omega), by omega⟩)
      | exact fin 5 (Or.inr (Or.inr ⟨rfl, k1t (by omega), by omega⟩))
    · refine aw_iconst C dX5_undo_19 ?_
      refine aw_goto C dX5_undo_20 (tgt := 24) (by decide) ?_
      first
      | exact fin 1 (Or.inr (Or.inl ⟨rfl, k1f (by omega)⟩))
      | exact fin 0 (Or.inl ⟨rfl, k1t (by omega), by omega⟩)
      | exact fin 5 (Or.inr (Or.inr ⟨rfl, k1t (by omega), by omega⟩))
  · refine aw_iconst C dX5_undo_8 ?_
    refine aw_goto C dX5_undo_9 (tgt := 24) (by decide) ?_
    first
    | exact fin 1 (Or.inr (Or.inl ⟨rfl, k1f (by omega)⟩))
    | exact fin 0 (Or.inl ⟨rfl, k1t (by omega), by omega⟩)
    | exact fin 5 (Or.inr (Or.inr ⟨rfl, k1t (by omega), by omega⟩))

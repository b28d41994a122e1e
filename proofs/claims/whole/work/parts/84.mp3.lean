/-! what the reference has read -/
def pdM (m : Mem) : PD := (m 55 21, m 55 22, cut1 (m 55 21) (m 60), cut1 (m 55 21) (m 61), cut1 (m 55 21) (m 57), cut1 (m 55 22) (m 58), cut2 (m 55 22) 12 (fun d r => m 62 (12 * d + r)))
theorem pdM_fr {mu m : Mem} {P : Nat → Nat → Prop} (h : frc P mu m) (h1 : ¬ P 55 21) (h2 : ¬ P 55 22) (h3 : ∀ x y, (x = 57 ∨ x = 58 ∨ (60 ≤ x ∧ x ≤ 62)) → ¬ P x y) : pdM m = pdM mu := by
  unfold pdM
  rw [h 55 21 h1, h 55 22 h2, show m 60 = mu 60 from funext fun b => h 60 b (h3 60 b (by omega)), show m 61 = mu 61 from funext fun b => h 61 b (h3 61 b (by omega)), show m 57 = mu 57 from funext fun b => h 57 b (h3 57 b (by omega)), show m 58 = mu 58 from funext fun b => h 58 b (h3 58 b (by omega)), show m 62 = mu 62 from funext fun b => h 62 b (h3 62 b (by omega))]
theorem pdM_fl {mu m : Mem} (h : frc flS mu m) : pdM m = pdM mu := pdM_fr h (by unfold flS; omega) (by unfold flS; omega) (fun x y w => by unfold flS; omega)
theorem rdK.fl {mu m : Mem} {A : Nat → Int} {n : Int} (h : rdK mu A n) (hf : frc flS mu m) : rdK m A n := h.fr hf (by unfold flS; omega) (fun j => by unfold flS; omega)
theorem t_X6_findR {mu : Mem} {D : PD} {w : Int} (eD : pdM mu = D) (hD : bD D) (hw : R62 w) : TrE 0 mX6_find [vr 57, vi (mu 55 21), vl w] mu (some (vi (rNm D w))) mu := by
  refine Tr.of (by decide +kernel) (Nat.le_of_ble_eq_true rfl) (fun K C E => ?_)
  unfold R62 at hw
  have n1 : mu 55 21 = D.1 := by rw [← eD]; rfl
  have hn := hD.1
  have hv : ∀ k : Int, 0 ≤ k → k < D.1 → mu 57 k.toNat = D.2.2.2.2.1 k.toNat := fun k k0 k1 => by rw [← eD]; exact (cut1_at k0 (by rw [n1]; exact k1)).symm
  have hr := hD.2.2.2.2.1
  unfold rNm at E
  have loop : ∀ (q : Nat) (k : Int), 0 ≤ k → k + q = D.1 → fst (fun i => D.2.2.2.2.1 i.toNat = w) (-1) D.1.toNat 0 = fst (fun i => D.2.2.2.2.1 i.toNat = w) (-1) q k → AW K mX6_find (NC, 0, 0) 3 [vr 57, vi (mu 55 21), vl w, vx, vi k] [] mu := by
    intro q
    induction q with
    | zero =>
      intro k q0 q1 q2
      refine aw_iload C dX6_find_3 rfl ?_
      refine aw_iload_n C dX6_find_5 rfl ?_
      refine aw_icmp_ge C dX6_find_6 (tgt := 27) (by decide) ⟨by omega, by omega⟩ ⟨by omega, by omega⟩ (fun c1 => ?_) (fun c1 => ?_)
      · refine aw_iconst C dX6_find_27 ?_
        exact aw_iret C E dX6_find_28 rfl ⟨by rw [q2]; rfl, rfl⟩
      · exfalso; omega
    | succ q ih =>
      intro k q0 q1 q2
      have e := hv k q0 (by omega)
      have b1 := hr k.toNat
      refine aw_iload C dX6_find_3 rfl ?_
      refine aw_iload_n C dX6_find_5 rfl ?_
      refine aw_icmp_ge C dX6_find_6 (tgt := 27) (by decide) ⟨by omega, by omega⟩ ⟨by omega, by omega⟩ (fun c1 => ?_) (fun c1 => ?_)
      · exfalso; omega
      · refine aw_aload_n C dX6_find_9 rfl ?_
        refine aw_iload C dX6_find_10 rfl ?_
        refine aw_lald C dX6_find_12 ⟨rfl, by decide⟩ (by decide) (by omega) (by omega) ?_
        refine aw_lload_n C dX6_find_13 rfl ?_
        refine aw_lcmp_ne C dX6_find_14 dX6_find_15 (tgt := 21) (by decide) ⟨by omega, by omega⟩ ⟨by omega, by omega⟩ (fun c2 => ?_) (fun c2 => ?_)
        · refine aw_iinc C dX6_find_21 rfl ?_
          refine aw_goto C dX6_find_24 (tgt := 3) (by decide) ?_
          exact ih (k + 1) (by omega) (by omega) (by rw [q2, fst_f (P := fun i => D.2.2.2.2.1 i.toNat = w) (i := k) (by show ¬ D.2.2.2.2.1 k.toNat = w; omega)])
        · refine aw_iload C dX6_find_18 rfl ?_
          exact aw_iret C E dX6_find_20 rfl ⟨by rw [q2, fst_t (P := fun i => D.2.2.2.2.1 i.toNat = w) (i := k) (by show D.2.2.2.2.1 k.toNat = w; omega)], rfl⟩
  refine aw_iconst C dX6_find_0 ?_
  refine aw_istore C dX6_find_1 (by decide) ?_
  exact loop D.1.toNat 0 (by omega) (by omega) rfl
theorem t_X6_findL {mu : Mem} {D : PD} {w : Int} (eD : pdM mu = D) (hD : bD D) (hw : R62 w) : Tr 0 mX6_find [vr 58, vi (mu 55 22), vl w] mu (fun r m2 => mu = m2 ∧ ∃ z, r = some (vi z) ∧ (-1 ≤ z ∧ z ≤ 6) ∧ (z ≠ -1 ↔ lNm D w)) := by
  refine Tr.of (by decide +kernel) (Nat.le_of_ble_eq_true rfl) (fun K C E => ?_)
  unfold R62 at hw
  have n1 : mu 55 22 = D.2.1 := by rw [← eD]; rfl
  have hn := hD.2.1
  have hv : ∀ k : Int, 0 ≤ k → k < D.2.1 → mu 58 k.toNat = D.2.2.2.2.2.1 k.toNat := fun k k0 k1 => by rw [← eD]; exact (cut1_at k0 (by rw [n1]; exact k1)).symm
  have hr := hD.2.2.2.2.2.1
  have loop : ∀ (q : Nat) (k : Int), 0 ≤ k → k + q = D.2.1 → (∀ j : Int, 0 ≤ j → j < k → ¬ D.2.2.2.2.2.1 j.toNat = w) → AW K mX6_find (NC, 0, 0) 3 [vr 58, vi (mu 55 22), vl w, vx, vi k] [] mu := by
    intro q
    induction q with
    | zero =>
      intro k q0 q1 q2
      refine aw_iload C dX6_find_3 rfl ?_
      refine aw_iload_n C dX6_find_5 rfl ?_
      refine aw_icmp_ge C dX6_find_6 (tgt := 27) (by decide) ⟨by omega, by omega⟩ ⟨by omega, by omega⟩ (fun c1 => ?_) (fun c1 => ?_)
      · refine aw_iconst C dX6_find_27 ?_
        exact aw_iret C E dX6_find_28 rfl ⟨rfl, -1, rfl, by omega, fun z => absurd rfl z, fun ⟨i, i0, i1, i2⟩ => absurd i2 (q2 i i0 (by omega))⟩
      · exfalso; omega
    | succ q ih =>
      intro k q0 q1 q2
      have e := hv k q0 (by omega)
      have b1 := hr k.toNat
      refine aw_iload C dX6_find_3 rfl ?_
      refine aw_iload_n C dX6_find_5 rfl ?_
      refine aw_icmp_ge C dX6_find_6 (tgt := 27) (by decide) ⟨by omega, by omega⟩ ⟨by omega, by omega⟩ (fun c1 => ?_) (fun c1 => ?_)
      · exfalso; omega
      · refine aw_aload_n C dX6_find_9 rfl ?_
        refine aw_iload C dX6_find_10 rfl ?_
        refine aw_lald C dX6_find_12 ⟨rfl, by decide⟩ (by decide) (by omega) (by omega) ?_
        refine aw_lload_n C dX6_find_13 rfl ?_
        refine aw_lcmp_ne C dX6_find_14 dX6_find_15 (tgt := 21) (by decide) ⟨by omega, by omega⟩ ⟨by omega, by omega⟩ (fun c2 => ?_) (fun c2 => ?_)
        · refine aw_iinc C dX6_find_21 rfl ?_
          refine aw_goto C dX6_find_24 (tgt := 3) (by decide) ?_
          refine ih (k + 1) (by omega) (by omega) (fun j j0 j1 => ?_)
          by_cases e1 : j = k
          · rw [e1]; omega
          · exact q2 j j0 (by omega)
        · refine aw_iload C dX6_find_18 rfl ?_
          exact aw_iret C E dX6_find_20 rfl ⟨rfl, k, rfl, by omega, fun _ => ⟨k, q0, by omega, by omega⟩, fun _ => by omega⟩
  refine aw_iconst C dX6_find_0 ?_
  refine aw_istore C dX6_find_1 (by decide) ?_
  exact loop D.2.1.toNat 0 (by omega) (by omega) (fun j j0 j1 => by omega)
theorem t_X6_isThere {mu : Mem} {D : PD} {x y : Int} (eD : pdM mu = D) (hD : bD D) (hx : R32 x) (hy : R32 y) : TrE 0 mX6_isThere [vr 55, vi x, vi y] mu (some (vi (b01 (rAt D x y)))) mu := by
  refine Tr.of (by decide +kernel) (Nat.le_of_ble_eq_true rfl) (fun K C E => ?_)
  have n1 : mu 55 21 = D.1 := by rw [← eD]; rfl
  have hn := hD.1
  have hv : ∀ k : Int, 0 ≤ k → k < D.1 → mu 60 k.toNat = D.2.2.1 k.toNat ∧ mu 61 k.toNat = D.2.2.2.1 k.toNat := fun k k0 k1 => by
    rw [← eD]; exact ⟨(cut1_at k0 (by rw [n1]; exact k1)).symm, (cut1_at k0 (by rw [n1]; exact k1)).symm⟩
  have bx := hD.2.2.1
  have by_ := hD.2.2.2.1
  have loop : ∀ (q : Nat) (k : Int), 0 ≤ k → k + q = D.1 → (∀ j : Int, 0 ≤ j → j < k → ¬ (D.2.2.1 j.toNat = x ∧ D.2.2.2.1 j.toNat = y)) → AW K mX6_isThere (NC, 0, 0) 2 [vr 55, vi x, vi y, vi k] [] mu := by
    intro q
    induction q with
    | zero =>
      intro k q0 q1 q2
      refine aw_iload_n C dX6_isThere_2 rfl ?_
      refine aw_aload_n C dX6_isThere_3 rfl ?_
      refine aw_getI C dX6_isThere_4 fX6_180 ⟨rfl, by decide⟩ rfl ?_
      refine aw_icmp_ge C dX6_isThere_7 (tgt := 38) (by decide) ⟨by omega, by omega⟩ ⟨by omega, by omega⟩ (fun c1 => ?_) (fun c1 => ?_)
      · refine aw_iconst C dX6_isThere_38 ?_
        exact aw_zret C E dX6_isThere_39 rfl (by omega) ⟨by rw [b01_f (fun ⟨i, i0, i1, i2⟩ => q2 i i0 (by omega) i2)], rfl⟩
      · exfalso; omega
    | succ q ih =>
      intro k q0 q1 q2
      obtain ⟨e1, e2⟩ := hv k q0 (by omega)
      have b1 := bx k.toNat
      have b2 := by_ k.toNat
      have go : ¬ (D.2.2.1 k.toNat = x ∧ D.2.2.2.1 k.toNat = y) → AW K mX6_isThere (NC, 0, 0) 2 [vr 55, vi x, vi y, vi (k + 1)] [] mu := fun w => by
        refine ih (k + 1) (by omega) (by omega) (fun j j0 j1 => ?_)
        by_cases e1 : j = k
        · rw [e1]; exact w
        · exact q2 j j0 (by omega)
      refine aw_iload_n C dX6_isThere_2 rfl ?_
      refine aw_aload_n C dX6_isThere_3 rfl ?_
      refine aw_getI C dX6_isThere_4 fX6_180 ⟨rfl, by decide⟩ rfl ?_
      refine aw_icmp_ge C dX6_isThere_7 (tgt := 38) (by decide) ⟨by omega, by omega⟩ ⟨by omega, by omega⟩ (fun c1 => ?_) (fun c1 => ?_)
      · exfalso; omega
      · refine aw_aload_n C dX6_isThere_10 rfl ?_
        refine aw_getS C dX6_isThere_11 fX6_29 ⟨rfl, by decide⟩ rfl rfl (srf 55 17 60 (by decide)) ?_
        refine aw_iload_n C dX6_isThere_14 rfl ?_
        refine aw_iald C dX6_isThere_15 ⟨rfl, by decide⟩ (by decide) (by omega) (by omega) ?_
        refine aw_iload_n C dX6_isThere_16 rfl ?_
        refine aw_icmp_ne C dX6_isThere_17 (tgt := 32) (by decide) ⟨by omega, by omega⟩ ⟨by omega, by omega⟩ (fun c2 => ?_) (fun c2 => ?_)
        · refine aw_iinc C dX6_isThere_32 rfl ?_
          refine aw_goto C dX6_isThere_35 (tgt := 2) (by decide) ?_
          exact go (by omega)
        · refine aw_aload_n C dX6_isThere_20 rfl ?_
          refine aw_getS C dX6_isThere_21 fX6_32 ⟨rfl, by decide⟩ rfl rfl (srf 55 18 61 (by decide)) ?_
          refine aw_iload_n C dX6_isThere_24 rfl ?_
          refine aw_iald C dX6_isThere_25 ⟨rfl, by decide⟩ (by decide) (by omega) (by omega) ?_
          refine aw_iload_n C dX6_isThere_26 rfl ?_
          refine aw_icmp_ne C dX6_isThere_27 (tgt := 32) (by decide) ⟨by omega, by omega⟩ ⟨by omega, by omega⟩ (fun c3 => ?_) (fun c3 => ?_)
          · refine aw_iinc C dX6_isThere_32 rfl ?_
            refine aw_goto C dX6_isThere_35 (tgt := 2) (by decide) ?_
            exact go (by omega)
          · refine aw_iconst C dX6_isThere_30 ?_
            exact aw_zret C E dX6_isThere_31 rfl (by omega) ⟨by rw [b01_t ⟨k, q0, by omega, by omega, by omega⟩], rfl⟩
  refine aw_iconst C dX6_isThere_0 ?_
  refine aw_istore_n C dX6_isThere_1 (by decide) ?_
  exact loop D.1.toNat 0 (by omega) (by omega) (fun j j0 j1 => by omega)
theorem t_X6_readNewF {mu : Mem} {f pl : Int} (hF : FS mu f pl) : TrS 7 mX6_readNew (fun _ => [vr 55]) mu (fun r m2 => (∃ z, r = some (vl z)) ∧ mu = m2) := by
  refine TrS.of (by decide +kernel) (fun _ => Nat.le_of_ble_eq_true rfl) (fun K C E hX => ?_)
  refine aw_aload_n C dX6_readNew_0 rfl ?_
  refine aw_callX C hX dX6_readNew_1 lX6_176 vX6_isName (t_X6_isNameF hF) rfl rfl rfl rfl ⟨rfl, by decide⟩ rfl ⟨by decide, by decide⟩ (Nat.le_of_ble_eq_true rfl) (fun r1 mu1 hq1 => ?_)
  obtain ⟨rfl, rfl⟩ := hq1
  show AW _ _ _ _ _ [vi 0] _
  refine aw_if_ne C dX6_readNew_4 (tgt := 15) (by decide) ⟨by omega, by omega⟩ (fun c2 => ?_) (fun c2 => ?_)
  · exfalso; omega
  · refine aw_aload_n C dX6_readNew_7 rfl ?_
    refine aw_iconst C dX6_readNew_8 ?_
    refine aw_call0 C dX6_readNew_9 lX6_159 vX6_flaw (t_X6_flawF hF) rfl rfl rfl ⟨rfl, by decide⟩ rfl ⟨by decide, by decide⟩ (Nat.le_of_ble_eq_true rfl) ?_
    refine aw_goto C dX6_readNew_12 (tgt := 58) (by decide) ?_
    refine aw_aload_n C dX6_readNew_58 rfl ?_
    refine aw_getL C dX6_readNew_59 fX6_126 ⟨rfl, by decide⟩ rfl ?_
    refine aw_lstore_n C dX6_readNew_62 (by decide) ?_
    refine aw_aload_n C dX6_readNew_63 rfl ?_
    refine aw_call0 C dX6_readNew_64 lX6_163 vX6_goOn (t_X6_goOnF hF) rfl rfl rfl ⟨rfl, by decide⟩ rfl ⟨by decide, by decide⟩ (Nat.le_of_ble_eq_true rfl) ?_
    refine aw_lload_n C dX6_readNew_67 rfl ?_
    exact aw_lret C E dX6_readNew_68 rfl ⟨⟨_, rfl⟩, rfl⟩
theorem t_X6_readNew0 {mu : Mem} {A : Nat → Int} {n : Int} {t : TK} {D : PD} (hK : rdK mu A n) (h7 : mu 55 7 = 0) (hM : MT mu t) (hi : tI n t) (hnb : nbM mu) (eD : pdM mu = D) (hD : bD D) : TrS 7 mX6_readNew (fun _ => [vr 55]) mu (fun r m2 => frc flS mu m2 ∧ ((fNew D t = 0 ∧ r = some (vl t.2.1) ∧ m2 55 7 = 0 ∧ MT m2 (tok A n t.2.2.2) ∧ nbM m2) ∨ (fNew D t ≠ 0 ∧ (∃ z, r = some (vl z)) ∧ FS m2 (fNew D t) t.2.2.1))) := by
  refine TrS.of (by decide +kernel) (fun _ => Nat.le_of_ble_eq_true rfl) (fun K C E hX => ?_)
  have kb := b01_01 (isNm t)
  have ef : fNew D t = if b01 (isNm t) = 0 then 1 else if b01 (rNm D t.2.1 ≠ -1 ∨ lNm D t.2.1) = 1 then 3 else 0 := rfl
  have kl := b01_01 (rNm D t.2.1 ≠ -1 ∨ lNm D t.2.1)
  have kli : b01 (rNm D t.2.1 ≠ -1 ∨ lNm D t.2.1) = 1 ↔ (rNm D t.2.1 ≠ -1 ∨ lNm D t.2.1) := b01_iff
  have rn := rNm_in hD t.2.1
  have b4 := hi.2.2
  have bad : ∀ (f : Int) (m : Mem), frc (fun a b => a = 55 ∧ (b = 7 ∨ b = 8)) mu m → FS m f t.2.2.1 → fNew D t = f → f ≠ 0 → AW K mX6_readNew (NC, 0, 0) 58 [vr 55, vx, vx] [] m := by
    intro f m g1 g2 g3 g4
    refine aw_aload_n C dX6_readNew_58 rfl ?_
    refine aw_getL C dX6_readNew_59 fX6_126 ⟨rfl, by decide⟩ rfl ?_
    refine aw_lstore_n C dX6_readNew_62 (by decide) ?_
    refine aw_aload_n C dX6_readNew_63 rfl ?_
    refine aw_call0 C dX6_readNew_64 lX6_163 vX6_goOn (t_X6_goOnF g2) rfl rfl rfl ⟨rfl, by decide⟩ rfl ⟨by decide, by decide⟩ (Nat.le_of_ble_eq_true rfl) ?_
    refine aw_lload_n C dX6_readNew_67 rfl ?_
    exact aw_lret C E dX6_readNew_68 rfl ⟨g1.mono f78_f, Or.inr ⟨by rw [g3]; exact g4, ⟨_, rfl⟩, by rw [g3]; exact g2⟩⟩
  refine aw_aload_n C dX6_readNew_0 rfl ?_
  refine aw_callX C hX dX6_readNew_1 lX6_176 vX6_isName (t_X6_isName h7 hM hi.1) rfl rfl rfl rfl ⟨rfl, by decide⟩ rfl ⟨by decide, by decide⟩ (Nat.le_of_ble_eq_true rfl) (fun r1 mu1 hq1 => ?_)
  obtain ⟨rfl, rfl⟩ := hq1
  show AW _ _ _ _ _ [vi (b01 (isNm t))] _
  refine aw_if_ne C dX6_readNew_4 (tgt := 15) (by decide) ⟨by omega, by omega⟩ (fun c2 => ?_) (fun c2 => ?_)
  · have nm := b01_iff.mp (show b01 (isNm t) = 1 by omega)
    have t1 := nm.1
    have wb := hi.1.2.1 t1
    have w13 := (hM.k hi.1).2.2.2.2.2.2.1 t1
    --go
    refine aw_aload_n C dX6_readNew_15 rfl ?_
    refine aw_getS C dX6_readNew_16 fX6_19 ⟨rfl, by decide⟩ rfl rfl (srf 55 14 57 (by decide)) ?_
    refine aw_aload_n C dX6_readNew_19 rfl ?_
    refine aw_getI C dX6_readNew_20 fX6_180 ⟨rfl, by decide⟩ rfl ?_
    refine aw_aload_n C dX6_readNew_23 rfl ?_
    refine aw_getL C dX6_readNew_24 fX6_126 ⟨rfl, by decide⟩ rfl ?_
    rw [w13]
    refine aw_callS1 C dX6_readNew_27 lX6_183 vX6_find (t_X6_findR eD hD ⟨by omega, by omega⟩) rfl rfl rfl ⟨by decide, by decide⟩ (Nat.le_of_ble_eq_true rfl) ?_
    refine aw_iconst C dX6_readNew_30 ?_
    refine aw_icmp_ne C dX6_readNew_31 (tgt := 53) (by decide) ⟨by omega, by omega⟩ ⟨by omega, by omega⟩ (fun c3 => ?_) (fun c3 => ?_)
    · --go
      refine aw_aload_n C dX6_readNew_53 rfl ?_
      refine aw_iconst C dX6_readNew_54 ?_
      refine aw_call C dX6_readNew_55 lX6_159 vX6_flaw (t_X6_flaw0 h7 (by omega) hnb) rfl rfl rfl ⟨rfl, by decide⟩ rfl ⟨by decide, by decide⟩ (Nat.le_of_ble_eq_true rfl) (fun r4 mu4 hq4 => ?_)
      obtain ⟨rfl, g1, g2⟩ := hq4
      rw [hM.1] at g2
      generalize mu4 = m2 at *
      show AW _ _ _ _ _ [] _
      exact bad 3 m2 g1 g2 (by rw [ef, if_neg (by omega), if_pos (kli.mpr (Or.inl (by omega)))]) (by decide)
    · refine aw_aload_n C dX6_readNew_34 rfl ?_
      refine aw_getS C dX6_readNew_35 fX6_23 ⟨rfl, by decide⟩ rfl rfl (srf 55 15 58 (by decide)) ?_
      refine aw_aload_n C dX6_readNew_38 rfl ?_
      refine aw_getI C dX6_readNew_39 fX6_187 ⟨rfl, by decide⟩ rfl ?_
      refine aw_aload_n C dX6_readNew_42 rfl ?_
      refine aw_getL C dX6_readNew_43 fX6_126 ⟨rfl, by decide⟩ rfl ?_
      rw [w13]
      refine aw_callS C dX6_readNew_46 lX6_183 vX6_find (t_X6_findL eD hD ⟨by omega, by omega⟩) rfl rfl rfl ⟨by decide, by decide⟩ (Nat.le_of_ble_eq_true rfl) (fun r5 mu5 hq5 => ?_)
      obtain ⟨rfl, z, rfl, zb, zi⟩ := hq5
      show AW _ _ _ _ _ [vi z] _
      refine aw_iconst C dX6_readNew_49 ?_
      refine aw_icmp_eq C dX6_readNew_50 (tgt := 58) (by decide) ⟨by omega, by omega⟩ ⟨by omega, by omega⟩ (fun c6 => ?_) (fun c6 => ?_)
      · have f0 : fNew D t = 0 := by
          rw [ef, if_neg (by omega), if_neg (fun w => by rcases kli.mp w with u | u; omega; have := zi.mpr u; omega)]
        --go
        refine aw_aload_n C dX6_readNew_58 rfl ?_
        refine aw_getL C dX6_readNew_59 fX6_126 ⟨rfl, by decide⟩ rfl ?_
        refine aw_lstore_n C dX6_readNew_62 (by decide) ?_
        refine aw_aload_n C dX6_readNew_63 rfl ?_
        refine aw_call C dX6_readNew_64 lX6_163 vX6_goOn (t_X6_goOn hK h7 (hM.nx (by omega)) b4.1 b4.2.1 hnb) rfl rfl rfl ⟨rfl, by decide⟩ rfl ⟨by decide, by decide⟩ (Nat.le_of_ble_eq_true rfl) (fun r7 mu7 hq7 => ?_)
        obtain ⟨rfl, f1, f2, f3⟩ := hq7
        generalize mu7 = m2 at *
        show AW _ _ _ _ _ [] _
        refine aw_lload_n C dX6_readNew_67 rfl ?_
        exact aw_lret C E dX6_readNew_68 rfl ⟨f1.mono goS_f, Or.inl ⟨f0, by rw [w13], (f1 _ _ (by unfold goS; omega)).trans h7, f2, f3⟩⟩
      · --go
        refine aw_aload_n C dX6_readNew_53 rfl ?_
        refine aw_iconst C dX6_readNew_54 ?_
        refine aw_call C dX6_readNew_55 lX6_159 vX6_flaw (t_X6_flaw0 h7 (by omega) hnb) rfl rfl rfl ⟨rfl, by decide⟩ rfl ⟨by decide, by decide⟩ (Nat.le_of_ble_eq_true rfl) (fun r8 mu8 hq8 => ?_)
        obtain ⟨rfl, g1, g2⟩ := hq8
        rw [hM.1] at g2
        generalize mu8 = m2 at *
        show AW _ _ _ _ _ [] _
        exact bad 3 m2 g1 g2 (by rw [ef, if_neg (by omega), if_pos (kli.mpr (Or.inr (zi.mp (by omega))))]) (by decide)
  · --go
    refine aw_aload_n C dX6_readNew_7 rfl ?_
    refine aw_iconst C dX6_readNew_8 ?_
    refine aw_call C dX6_readNew_9 lX6_159 vX6_flaw (t_X6_flaw0 h7 (by omega) hnb) rfl rfl rfl ⟨rfl, by decide⟩ rfl ⟨by decide, by decide⟩ (Nat.le_of_ble_eq_true rfl) (fun r9 mu9 hq9 => ?_)
    obtain ⟨rfl, g1, g2⟩ := hq9
    rw [hM.1] at g2
    generalize mu9 = m2 at *
    show AW _ _ _ _ _ [] _
    refine aw_goto C dX6_readNew_12 (tgt := 58) (by decide) ?_
    exact bad 1 m2 g1 g2 (by rw [ef, if_pos (by omega)]) (by decide)

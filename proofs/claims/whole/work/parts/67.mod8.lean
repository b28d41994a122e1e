def mfr (mu m : Mem) : Prop := ∀ x y, x < 55 ∨ x = 56 ∨ x = 59 ∨ x = 76 ∨ (x = 55 ∧ (y = 4 ∨ y = 7 ∨ y = 9 ∨ y = 12)) → m x y = mu x y
def mfK : Nat → Nat → Prop := fun x y => ¬ (x < 55 ∨ x = 56 ∨ x = 59 ∨ x = 76 ∨ (x = 55 ∧ (y = 4 ∨ y = 7 ∨ y = 9 ∨ y = 12)))
theorem mfr_of {mu m : Mem} {P : Nat → Nat → Prop} (h : frc P mu m) (hP : ∀ x y, P x y → mfK x y) : mfr mu m := fun x y hxy => h x y (fun w => hP x y w hxy)
def kpM2 : Nat → Nat → Prop := fun x y => (x = 55 ∧ (y = 29 ∨ y = 30 ∨ y = 32 ∨ y = 39)) ∨ (64 ≤ x ∧ x ≤ 66) ∨ (71 ≤ x ∧ x ≤ 74)
theorem mSt_fr {mu m : Mem} {V : FV} {a : Int} {H : Nat → FV} (S : mSt mu V a H) (h : ∀ x y, kpM2 x y → m x y = mu x y) : mSt m V a H := by
  have e1 : m 55 29 = mu 55 29 := h _ _ (by unfold kpM2; omega)
  have e2 : m 55 30 = mu 55 30 := h _ _ (by unfold kpM2; omega)
  have e6 : m 55 32 = mu 55 32 := h _ _ (by unfold kpM2; omega)
  have e9 : m 55 39 = mu 55 39 := h _ _ (by unfold kpM2; omega)
  have e3 : m 64 = mu 64 := funext fun b => h _ _ (by unfold kpM2; omega)
  have e4 : m 65 = mu 65 := funext fun b => h _ _ (by unfold kpM2; omega)
  have e5 : m 66 = mu 66 := funext fun b => h _ _ (by unfold kpM2; omega)
  have f1 : m 71 = mu 71 := funext fun b => h _ _ (by unfold kpM2; omega)
  have f2 : m 72 = mu 72 := funext fun b => h _ _ (by unfold kpM2; omega)
  have f3 : m 73 = mu 73 := funext fun b => h _ _ (by unfold kpM2; omega)
  have f4 : m 74 = mu 74 := funext fun b => h _ _ (by unfold kpM2; omega)
  obtain ⟨⟨s1, s2, s3⟩, s4, s5, s6, s7⟩ := S
  refine ⟨⟨?_, s2, by rw [e6]; exact s3⟩, by rw [e9]; exact s4, fun j hj => ?_, by unfold nB; rw [e1, e5]; exact s6, fun j hj => by unfold pB; rw [f1, f4]; exact s7 j hj⟩
  · rw [← s1]
    unfold mv
    rw [e1, e2, e3, e4, e5]
  · rw [← s5 j hj]
    unfold pmv
    rw [e2, f1, f2, f3, f4]
theorem mSt.t {mu : Mem} {V : FV} {a : Int} {H : Nat → FV} (S : mSt mu V a H) : mSt (wr mu 55 0 0) V a H := mSt_fr S (fun x y h => by unfold kpM2 at h; rw [wr_at, if_neg (by omega)])
theorem mSt.g {mu : Mem} {V : FV} {a c : Int} {H : Nat → FV} (S : mSt mu V a H) : mSt (gd mu c) V a H := mSt_fr S (fun x y h => by unfold kpM2 at h; unfold gd; rw [wr_at, if_neg (by omega), wr_at, if_neg (by omega)])
/-- numbers laid anew -/
theorem mSt_set {mu m : Mem} {V : FV} {a : Int} {H : Nat → FV} {d : Nat} {u : Nat → Int} (S : mSt mu V a H) (h : ∀ x y, kpM2 x y → x ≠ 66 → m x y = mu x y) (hd : (d : Int) < V.2.1) (hu : ∀ j : Nat, (j : Int) < V.1 → hld (u j)) (h3 : ∀ d2 j : Nat, (d2 : Int) < 6 → (j : Int) < V.1 → m 66 (25 * d2 + j) = if d2 = d then u j else mu 66 (25 * d2 + j)) : mSt m (setN V d u) a H := by
  have e1 : m 55 29 = mu 55 29 := h _ _ (by unfold kpM2; omega) (by decide)
  have e2 : m 55 30 = mu 55 30 := h _ _ (by unfold kpM2; omega) (by decide)
  have e6 : m 55 32 = mu 55 32 := h _ _ (by unfold kpM2; omega) (by decide)
  have e9 : m 55 39 = mu 55 39 := h _ _ (by unfold kpM2; omega) (by decide)
  have e3 : m 64 = mu 64 := funext fun b => h _ _ (by unfold kpM2; omega) (by decide)
  have e4 : m 65 = mu 65 := funext fun b => h _ _ (by unfold kpM2; omega) (by decide)
  have f1 : m 71 = mu 71 := funext fun b => h _ _ (by unfold kpM2; omega) (by decide)
  have f2 : m 72 = mu 72 := funext fun b => h _ _ (by unfold kpM2; omega) (by decide)
  have f3 : m 73 = mu 73 := funext fun b => h _ _ (by unfold kpM2; omega) (by decide)
  have f4 : m 74 = mu 74 := funext fun b => h _ _ (by unfold kpM2; omega) (by decide)
  obtain ⟨⟨s1, s2, s3⟩, s4, s5, s6, s7⟩ := S
  have l6 := s2.1.2.1.2
  refine ⟨⟨?_, gV_set s2 hu, by rw [e6]; exact s3⟩, by rw [e9]; exact s4, fun j hj => ?_, fun d2 j hd2 hj => ?_, fun j hj => by unfold pB; rw [f1, f4]; exact s7 j hj⟩
  · subst s1
    have l6 : mu 55 30 ≤ 6 := l6
    unfold mv setN
    rw [e1, e2, e3, e4]
    refine congrArg _ (congrArg _ (congr (congrArg _ rfl) (congr (congrArg _ rfl) ?_)))
    funext d2 j
    show cut2 (mu 55 30) (mu 55 29) (fun d j => m 66 (25 * d + j)) d2 j = if d2 = d then (if (j : Int) < mu 55 29 then u j else 0) else cut2 (mu 55 30) (mu 55 29) (fun d j => mu 66 (25 * d + j)) d2 j
    have hd : (d : Int) < mu 55 30 := hd
    unfold cut2
    dsimp only
    by_cases hj : (d2 : Int) < mu 55 30 ∧ (j : Int) < mu 55 29
    · rw [if_pos hj, h3 d2 j (by omega) hj.2]
      by_cases e : d2 = d
      · rw [if_pos e, if_pos e, if_pos hj.2]
      · rw [if_neg e, if_neg e, if_pos hj]
    · rw [if_neg hj]
      by_cases e : d2 = d
      · rw [if_pos e, if_neg (by omega)]
      · rw [if_neg e, if_neg hj]
  · rw [← s5 j hj]
    unfold pmv
    rw [e2, f1, f2, f3, f4]
  · rw [e1] at hj
    rw [h3 d2 j (by omega) (by rw [← mv1 s1]; exact hj)]
    split
    · exact hu j (by rw [← mv1 s1]; exact hj)
    · exact s6 d2 j hd2 hj
def mAct (mu m2 : Mem) (V : FV) (a : Int) (H : Nat → FV) (c : Int) (W : FV) : Prop := (m2 55 0 = 0 ∧ m2 55 1 = c ∧ m2 55 2 = -1) ∧ mfr mu m2 ∧ (c = 0 → mSt m2 W (min 8 (a + 1)) (psh V H)) ∧ (c ≠ 0 → mSt m2 V a H)
theorem gd3 {m : Mem} {c : Int} (h : m 55 0 = 0) : gd m c 55 0 = 0 ∧ gd m c 55 1 = c ∧ gd m c 55 2 = -1 := by
  unfold gd
  refine ⟨?_, ?_, ?_⟩
  · rw [wr_at, if_neg (by decide), wr_at, if_neg (by decide)]; exact h
  · rw [wr_at, if_neg (by decide), wr_at, if_pos ⟨rfl, rfl⟩]
  · rw [wr_at, if_pos ⟨rfl, rfl⟩]
theorem mfr.gd {mu m : Mem} {c : Int} (h : mfr mu m) : mfr mu (gd m c) := fun x y hxy => by
  unfold Jvm.Pilot.@@N@@.gd
  rw [wr_at, if_neg (by omega), wr_at, if_neg (by omega)]
  exact h x y hxy
theorem mfr.t {mu : Mem} : mfr mu (wr mu 55 0 0) := fun x y hxy => by rw [wr_at, if_neg (by omega)]
theorem mfr.tr {a b c : Mem} (h1 : mfr a b) (h2 : mfr b c) : mfr a c := fun x y h => (h2 x y h).trans (h1 x y h)
theorem mAct_n {mu m : Mem} {V W : FV} {a c : Int} {H : Nat → FV} (S : mSt m V a H) (h0 : m 55 0 = 0) (hf : mfr mu m) (hc : c ≠ 0) : mAct mu (gd m c) V a H c W := ⟨gd3 h0, hf.gd, fun w => absurd w hc, fun _ => S.g⟩
theorem mAct_k {mu m : Mem} {V W : FV} {a : Int} {H : Nat → FV} (S : mSt m W (min 8 (a + 1)) (psh V H)) (h0 : m 55 0 = 0) (hf : mfr mu m) : mAct mu (gd m 0) V a H 0 W := ⟨gd3 h0, hf.gd, fun _ => S.g, fun w => absurd rfl w⟩
theorem rmm_K : ∀ x y, rmmS x y → mfK x y := fun x y h => by unfold rmmS at h; unfold mfK; omega
def rst (mu m : Mem) (b i n : Int) : Prop := cpd (m 64) (mu 64) (fun j => mu 72 (25 * b.toNat + j)) 0 i ∧ cpd (m 65) (mu 65) (fun j => mu 73 (25 * b.toNat + j)) 0 i ∧ cpd (m 66) (mu 66) (fun j => mu 74 (150 * b.toNat + j)) 0 n ∧ m 55 29 = mu 71 b.toNat ∧ m 55 39 = b ∧ frc (fun x y => (x = 55 ∧ (y = 29 ∨ y = 39)) ∨ (64 ≤ x ∧ x ≤ 66)) mu m
theorem rst_fin {mu m : Mem} {V : FV} {a : Int} {H : Nat → FV} (S : mSt mu V a H) (h0 : 0 < a) (hp : 0 < V.1) (hH : gV (H 0) ∧ 0 < (H 0).1) (h : rst mu m (a - 1) 25 150) : mSt m (H 0) (a - 1) (fun j => H (j + 1)) := by
  obtain ⟨y1, y2, y3, y4, y5, y6⟩ := h
  obtain ⟨⟨s1, s2, s3⟩, s4, s5, s6, s7⟩ := S
  have e0 := s5 0 (by omega)
  have b0 := s7 0 (by omega)
  have e2 : m 55 30 = mu 55 30 := y6 _ _ (by omega)
  have e6 : m 55 32 = mu 55 32 := y6 _ _ (by omega)
  have f1 : m 71 = mu 71 := funext fun b => y6 _ _ (by omega)
  have f2 : m 72 = mu 72 := funext fun b => y6 _ _ (by omega)
  have f3 : m 73 = mu 73 := funext fun b => y6 _ _ (by omega)
  have f4 : m 74 = mu 74 := funext fun b => y6 _ _ (by omega)
  have nl : mu 55 30 ≤ 6 := by rw [mv2 s1]; exact s2.1.2.1.2
  rw [show (a - 1 - ((0 : Nat) : Int)).toNat = (a - 1).toNat by omega] at e0 b0
  have nn : mu 71 (a - 1).toNat ≤ 24 := by
    have : mu 71 (a - 1).toNat = (H 0).1 := congrArg (fun z : FV => z.1) e0
    rw [this]
    exact hH.1.1.1.2
  refine ⟨⟨?_, hH.1, Or.inl ⟨by rw [e6]; omega, hH.2⟩⟩, y5, fun j hj => ?_, nB_pB b0 y4 nn (fun i hi => by rw [y3.in_ (by omega)]), fun j hj => ?_⟩
  · rw [← e0]
    refine mv_pmv y4 e2 nn nl (fun i hi => ?_) (fun i hi => ?_) (fun i hi => ?_)
    · rw [y1.in_ (by omega)]
    · rw [y2.in_ (by omega)]
    · rw [y3.in_ (by omega)]
  · show pmv m _ = H (j + 1)
    rw [show (a - 1 - 1 - (j : Int)).toNat = (a - 1 - ((j + 1 : Nat) : Int)).toNat by omega, ← s5 (j + 1) (by omega)]
    unfold pmv
    rw [e2, f1, f2, f3, f4]
  · rw [show (a - 1 - 1 - (j : Int)).toNat = (a - 1 - ((j + 1 : Nat) : Int)).toNat by omega]
    unfold pB
    rw [f1, f4]
    exact s7 (j + 1) (by omega)
theorem t_X6_undo {mu : Mem} {V : FV} {a : Int} {H : Nat → FV} (S : mSt mu V a H) (ha : 0 ≤ a ∧ a ≤ 8) (hH : ∀ j : Nat, (j : Int) < a → gV (H j) ∧ 0 < (H j).1) : Tr 1 mX6_undo [vr 55] mu (fun r m2 => r = some (vi (qUn V a).1) ∧ (m2 55 0 = 0 ∧ m2 55 1 = (qUn V a).2 ∧ m2 55 2 = -1) ∧ mfr mu m2 ∧ ((qUn V a).2 = 0 → mSt m2 (H 0) (a - 1) (fun j => H (j + 1))) ∧ ((qUn V a).2 ≠ 0 → mSt m2 V a H)) := by
  refine Tr.of (by decide +kernel) (Nat.le_of_ble_eq_true rfl) (fun K C E => ?_)
  have l2 : ∀ (m1 : Mem), mfr mu m1 → m1 55 0 = 0 → mSt m1 V a H → 0 < V.1 → 0 < a → ∀ (k : Nat) (i : Int) (m : Mem), 0 ≤ i → i + k = 150 → rst m1 m (a - 1) 25 i → AW K mX6_undo (NC, 0, 0) 110 [vr 55, vi i] [] m := by
    intro m1 fr1 t0 S1 hp h0 k
    have qe : qUn V a = (a - 1, 0) := (if_neg (by omega) : qUn V a = _).trans (if_neg (by omega))
    induction k with
    | zero =>
      intro i m q0 q1 q2
      have e : i = 150 := by omega
      rw [e] at q2
      have S2 := rst_fin S1 h0 hp (hH 0 (by omega)) q2
      have e39 := q2.2.2.2.2.1
      have fr2 : mfr m1 m := mfr_of q2.2.2.2.2.2 (fun x y w => by unfold mfK; omega)
      have t2 : m 55 0 = 0 := (q2.2.2.2.2.2 55 0 (by omega)).trans t0
      refine aw_iload_n C dX6_undo_110 rfl ?_
      refine aw_sipush C dX6_undo_111 rfl ?_
      refine aw_icmp_ge C dX6_undo_114 (tgt := 144) (by decide) ⟨by omega, by omega⟩ ⟨by omega, by omega⟩ (fun c1 => ?_) (fun c1 => ?_)
      · refine aw_aload_n C dX6_undo_144 rfl ?_
        refine aw_aload_n C dX6_undo_145 rfl ?_
        refine aw_getI C dX6_undo_146 fX6_261 ⟨rfl, by decide⟩ rfl ?_
        rw [e39]
        refine aw_call1 C dX6_undo_149 lX6_270 vX6_good (t_X6_good) rfl rfl rfl ⟨rfl, by decide⟩ rfl ⟨by decide, by decide⟩ (Nat.le_of_ble_eq_true rfl) ?_
        exact aw_iret C E dX6_undo_152 rfl (by rw [qe]; exact ⟨rfl, gd3 t2, (fr1.tr fr2).gd, fun _ => S2.g, fun w => absurd rfl w⟩)
      · exfalso; omega
    | succ k ih =>
      intro i m q0 q1 q2
      obtain ⟨y1, y2, y3, y4, y5, y6⟩ := q2
      have f74 : ∀ p, m 74 p = m1 74 p := fun p => y6 _ _ (by omega)
      refine aw_iload_n C dX6_undo_110 rfl ?_
      refine aw_sipush C dX6_undo_111 rfl ?_
      refine aw_icmp_ge C dX6_undo_114 (tgt := 144) (by decide) ⟨by omega, by omega⟩ ⟨by omega, by omega⟩ (fun c1 => ?_) (fun c1 => ?_)
      · exfalso; omega
      · refine aw_aload_n C dX6_undo_117 rfl ?_
        refine aw_getS C dX6_undo_118 fX6_47 ⟨rfl, by decide⟩ rfl rfl (srf 55 25 66 (by decide)) ?_
        refine aw_iload_n C dX6_undo_121 rfl ?_
        refine aw_aload_n C dX6_undo_122 rfl ?_
        refine aw_getS C dX6_undo_123 fX6_71 ⟨rfl, by decide⟩ rfl rfl (srf 55 38 74 (by decide)) ?_
        refine aw_sipush C dX6_undo_126 rfl ?_
        refine aw_aload_n C dX6_undo_129 rfl ?_
        refine aw_getI C dX6_undo_130 fX6_261 ⟨rfl, by decide⟩ rfl ?_
        rw [y5]
        refine aw_imul C dX6_undo_133 ?_
        refine aw_iload_n C dX6_undo_134 rfl ?_
        refine aw_iadd C dX6_undo_135 ?_
        refine aw_iald C dX6_undo_136 ⟨rfl, by decide⟩ (by decide) (by omega) (by omega) ?_
        rw [f74]
        refine aw_iast C dX6_undo_137 ⟨rfl, by decide⟩ (by decide) (by omega) (by omega) ?_
        refine aw_iinc C dX6_undo_138 rfl ?_
        refine aw_goto C dX6_undo_141 (tgt := 110) (by decide) ?_
        refine ih (i + 1) _ (by omega) (by omega) ⟨by rw [wr_ne (by decide)]; exact y1, by rw [wr_ne (by decide)]; exact y2, cpd_s y3 rfl (by omega) (by omega) (by omega) ?_ (by omega), by rw [wr_ne (by decide)]; exact y4, by rw [wr_ne (by decide)]; exact y5, y6.w (Or.inr ⟨by decide, by decide⟩)⟩
        show _ = m1 74 _
        congr 1; omega
  have l1 : ∀ (m1 : Mem), mfr mu m1 → m1 55 0 = 0 → mSt m1 V a H → 0 < V.1 → 0 < a → ∀ (k : Nat) (i : Int) (m : Mem), 0 ≤ i → i + k = 25 → rst m1 m (a - 1) i 0 → AW K mX6_undo (NC, 0, 0) 56 [vr 55, vi i] [] m := by
    intro m1 fr1 t0 S1 hp h0 k
    induction k with
    | zero =>
      intro i m q0 q1 q2
      have e : i = 25 := by omega
      rw [e] at q2
      refine aw_iload_n C dX6_undo_56 rfl ?_
      refine aw_bipush C dX6_undo_57 rfl ?_
      refine aw_icmp_ge C dX6_undo_59 (tgt := 108) (by decide) ⟨by omega, by omega⟩ ⟨by omega, by omega⟩ (fun c1 => ?_) (fun c1 => ?_)
      · refine aw_iconst C dX6_undo_108 ?_
        refine aw_istore_n C dX6_undo_109 (by decide) ?_
        exact l2 m1 fr1 t0 S1 hp h0 150 0 m (by omega) (by omega) q2
      · exfalso; omega
    | succ k ih =>
      intro i m q0 q1 q2
      obtain ⟨y1, y2, y3, y4, y5, y6⟩ := q2
      have f72 : ∀ p, m 72 p = m1 72 p := fun p => y6 _ _ (by omega)
      have f73 : ∀ p q v, wr m 64 q v 73 p = m1 73 p := fun p q v => by rw [wr_ne (by decide)]; exact y6 _ _ (by omega)
      have f39 : ∀ q v, wr m 64 q v 55 39 = a - 1 := fun q v => by rw [wr_ne (by decide)]; exact y5
      refine aw_iload_n C dX6_undo_56 rfl ?_
      refine aw_bipush C dX6_undo_57 rfl ?_
      refine aw_icmp_ge C dX6_undo_59 (tgt := 108) (by decide) ⟨by omega, by omega⟩ ⟨by omega, by omega⟩ (fun c1 => ?_) (fun c1 => ?_)
      · exfalso; omega
      · refine aw_aload_n C dX6_undo_62 rfl ?_
        refine aw_getS C dX6_undo_63 fX6_41 ⟨rfl, by decide⟩ rfl rfl (srf 55 23 64 (by decide)) ?_
        refine aw_iload_n C dX6_undo_66 rfl ?_
        refine aw_aload_n C dX6_undo_67 rfl ?_
        refine aw_getS C dX6_undo_68 fX6_65 ⟨rfl, by decide⟩ rfl rfl (srf 55 36 72 (by decide)) ?_
        refine aw_bipush C dX6_undo_71 rfl ?_
        refine aw_aload_n C dX6_undo_73 rfl ?_
        refine aw_getI C dX6_undo_74 fX6_261 ⟨rfl, by decide⟩ rfl ?_
        rw [y5]
        refine aw_imul C dX6_undo_77 ?_
        refine aw_iload_n C dX6_undo_78 rfl ?_
        refine aw_iadd C dX6_undo_79 ?_
        refine aw_iald C dX6_undo_80 ⟨rfl, by decide⟩ (by decide) (by omega) (by omega) ?_
        rw [f72]
        refine aw_iast C dX6_undo_81 ⟨rfl, by decide⟩ (by decide) (by omega) (by omega) ?_
        refine aw_aload_n C dX6_undo_82 rfl ?_
        refine aw_getS C dX6_undo_83 fX6_44 ⟨rfl, by decide⟩ rfl rfl (srf 55 24 65 (by decide)) ?_
        refine aw_iload_n C dX6_undo_86 rfl ?_
        refine aw_aload_n C dX6_undo_87 rfl ?_
        refine aw_getS C dX6_undo_88 fX6_68 ⟨rfl, by decide⟩ rfl rfl (srf 55 37 73 (by decide)) ?_
        refine aw_bipush C dX6_undo_91 rfl ?_
        refine aw_aload_n C dX6_undo_93 rfl ?_
        refine aw_getI C dX6_undo_94 fX6_261 ⟨rfl, by decide⟩ rfl ?_
        rw [f39]
        refine aw_imul C dX6_undo_97 ?_
        refine aw_iload_n C dX6_undo_98 rfl ?_
        refine aw_iadd C dX6_undo_99 ?_
        refine aw_iald C dX6_undo_100 ⟨rfl, by decide⟩ (by decide) (by omega) (by omega) ?_
        rw [f73]
        refine aw_iast C dX6_undo_101 ⟨rfl, by decide⟩ (by decide) (by omega) (by omega) ?_
        refine aw_iinc C dX6_undo_102 rfl ?_
        refine aw_goto C dX6_undo_105 (tgt := 56) (by decide) ?_
        refine ih (i + 1) _ (by omega) (by omega) ⟨?_, cpd_s y2 (wr_ne (by decide)) (by omega) (by omega) (by omega) ?_ (by omega), by rw [wr_ne (by decide), wr_ne (by decide)]; exact y3, by rw [wr_ne (by decide), wr_ne (by decide)]; exact y4, by rw [wr_ne (by decide), wr_ne (by decide)]; exact y5, (y6.w (Or.inr ⟨by decide, by decide⟩)).w (Or.inr ⟨by decide, by decide⟩)⟩
        · rw [wr_ne (by decide)]
          refine cpd_s y1 rfl (by omega) (by omega) (by omega) ?_ (by omega)
          show _ = m1 72 _
          congr 1; omega
        · show _ = m1 73 _
          congr 1; omega
  refine aw_aload_n C dX6_undo_0 rfl ?_
  refine aw_iconst C dX6_undo_1 ?_
  refine aw_putI C dX6_undo_2 fX6_77 ⟨rfl, by decide⟩ rfl rfl rfl ?_
  have S1 := S.t
  have fr1 := mfr.t (mu := mu)
  have t0 : wr mu 55 0 0 55 0 = 0 := by rw [wr_at, if_pos ⟨rfl, rfl⟩]
  generalize wr mu 55 0 0 = m1 at *
  have h3 := S1.1.2.2
  have ea := S1.2.1
  refine aw_aload_n C dX6_undo_5 rfl ?_
  refine aw_getI C dX6_undo_6 fX6_264 ⟨rfl, by decide⟩ rfl ?_
  refine aw_if_ne C dX6_undo_9 (tgt := 18) (by decide) ⟨by omega, by omega⟩ (fun c1 => ?_) (fun c1 => ?_)
  · refine aw_aload_n C dX6_undo_18 rfl ?_
    refine aw_getI C dX6_undo_19 fX6_261 ⟨rfl, by decide⟩ rfl ?_
    rw [ea]
    refine aw_if_ne C dX6_undo_22 (tgt := 31) (by decide) ⟨by omega, by omega⟩ (fun c2 => ?_) (fun c2 => ?_)
    · refine aw_aload_n C dX6_undo_31 rfl ?_
      refine aw_dup_a C dX6_undo_32 ?_
      refine aw_getI C dX6_undo_33 fX6_261 ⟨rfl, by decide⟩ rfl ?_
      rw [ea]
      refine aw_iconst C dX6_undo_36 ?_
      refine aw_isub C dX6_undo_37 ?_
      refine aw_putI C dX6_undo_38 fX6_261 ⟨rfl, by decide⟩ rfl rfl rfl ?_
      refine aw_aload_n C dX6_undo_41 rfl ?_
      refine aw_aload_n C dX6_undo_42 rfl ?_
      refine aw_getS C dX6_undo_43 fX6_62 ⟨rfl, by decide⟩ rfl rfl (srf 55 35 71 (by decide)) ?_
      refine aw_aload_n C dX6_undo_46 rfl ?_
      refine aw_getI C dX6_undo_47 fX6_261 ⟨rfl, by decide⟩ rfl ?_
      have e39 : wr m1 55 39 (a - 1) 55 39 = a - 1 := by rw [wr_at, if_pos ⟨rfl, rfl⟩]
      rw [e39]
      refine aw_iald C dX6_undo_50 ⟨rfl, by decide⟩ (by decide) (by omega) (by omega) ?_
      refine aw_putI C dX6_undo_51 fX6_255 ⟨rfl, by decide⟩ rfl rfl rfl ?_
      refine aw_iconst C dX6_undo_54 ?_
      refine aw_istore_n C dX6_undo_55 (by decide) ?_
      refine l1 m1 fr1 t0 S1 (by omega) (by omega) 25 0 _ (by omega) (by omega) ⟨by rw [wr_ne (by decide), wr_ne (by decide)]; exact cpd_0 (by omega), by rw [wr_ne (by decide), wr_ne (by decide)]; exact cpd_0 (by omega), by rw [wr_ne (by decide), wr_ne (by decide)]; exact cpd_0 (by omega), by rw [wr_at, if_pos ⟨rfl, rfl⟩, wr_ne (by decide)], by rw [wr_at, if_neg (by decide)]; exact e39, (frc.rf.w (Or.inl ⟨rfl, Or.inr rfl⟩)).w (Or.inl ⟨rfl, Or.inl rfl⟩)⟩
    · have qe : qUn V a = (-1, 5) := (if_neg (by omega) : qUn V a = _).trans (if_pos (by omega))
      --go
      refine aw_aload_n C dX6_undo_25 rfl ?_
      refine aw_iconst C dX6_undo_26 ?_
      refine aw_call1 C dX6_undo_27 lX6_267 vX6_refused (t_X6_refused) rfl rfl rfl ⟨rfl, by decide⟩ rfl ⟨by decide, by decide⟩ (Nat.le_of_ble_eq_true rfl) ?_
      exact aw_iret C E dX6_undo_30 rfl (by rw [qe]; exact ⟨rfl, gd3 t0, fr1.gd, fun w => absurd w (by decide), fun _ => S1.g⟩)
  · have qe : qUn V a = (-1, 1) := if_pos (by omega)
    --go
    refine aw_aload_n C dX6_undo_12 rfl ?_
    refine aw_iconst C dX6_undo_13 ?_
    refine aw_call1 C dX6_undo_14 lX6_267 vX6_refused (t_X6_refused) rfl rfl rfl ⟨rfl, by decide⟩ rfl ⟨by decide, by decide⟩ (Nat.le_of_ble_eq_true rfl) ?_
    exact aw_iret C E dX6_undo_17 rfl (by rw [qe]; exact ⟨rfl, gd3 t0, fr1.gd, fun w => absurd w (by decide), fun _ => S1.g⟩)
theorem t_X6_set {mu : Mem} {V : FV} {a : Int} {H : Nat → FV} {d i v : Int} (S : mSt mu V a H) (ha : 0 ≤ a ∧ a ≤ 8) (hH : ∀ j : Nat, (j : Int) < a → bV (H j)) (hd : R32 d) (hi : R32 i) (hv : R32 v) : Tr 2 mX6_set [vr 55, vi d, vi i, vi v] mu (fun r m2 => r = some (vl (qSe V d i v).1) ∧ mAct mu m2 V a H (qSe V d i v).2 (wSe V d i v)) := by
  refine Tr.of (by decide +kernel) (Nat.le_of_ble_eq_true rfl) (fun K C E => ?_)
  have k1 := b01_01 (0 ≤ d ∧ d < V.2.1)
  have k1i : b01 (0 ≤ d ∧ d < V.2.1) = 1 ↔ (0 ≤ d ∧ d < V.2.1) := b01_iff
  have k2 := b01_01 (0 ≤ i ∧ i < V.1)
  have k2i : b01 (0 ≤ i ∧ i < V.1) = 1 ↔ (0 ≤ i ∧ i < V.1) := b01_iff
  have k3 := b01_01 (-20 ≤ v ∧ v ≤ 20)
  have k3i : b01 (-20 ≤ v ∧ v ≤ 20) = 1 ↔ (-20 ≤ v ∧ v ≤ 20) := b01_iff
  have k4 := b01_01 (v < -20 ∨ 20 < v)
  have k4i : b01 (v < -20 ∨ 20 < v) = 1 ↔ (v < -20 ∨ 20 < v) := b01_iff
  have SET : ∀ (m2 : Mem), mSt m2 V (min 8 (a + 1)) (psh V H) → mv m2 = V → bV V → 0 ≤ d → d < V.2.1 → 0 ≤ i → i < V.1 → -20 ≤ v ∧ v ≤ 20 → mSt (wr m2 66 (25 * d + i).toNat v) (wSe V d i v) (min 8 (a + 1)) (psh V H) := fun m2 S2 eV hV d0 d1 i0 i1 v20 => by
    have hn := hV.1
    refine mSt_set S2 (fun x y _ w => by rw [wr_ne w]) (by omega) (fun j hj => ?_) (fun d2 j hd2 hj => ?_)
    · show hld (if j = i.toNat then v else gn V d j)
      have := hV.g d j
      unfold hld
      split <;> omega
    · rw [wr_at]
      by_cases e : d2 = d.toNat
      · rw [if_pos e]
        by_cases e2 : j = i.toNat
        · rw [if_pos ⟨rfl, by omega⟩, if_pos e2]
        · rw [if_neg (fun w => by have := w.2; omega), if_neg e2, ← mnV eV (d := d) (i := (j : Int)) (by omega) hj d0 d1]
          congr 1; omega
      · rw [if_neg e, if_neg (fun w => by have := w.2; omega)]
  refine aw_aload_n C dX6_set_0 rfl ?_
  refine aw_iconst C dX6_set_1 ?_
  refine aw_putI C dX6_set_2 fX6_77 ⟨rfl, by decide⟩ rfl rfl rfl ?_
  have S1 := S.t
  have fr1 := mfr.t (mu := mu)
  have t0 : wr mu 55 0 0 55 0 = 0 := by rw [wr_at, if_pos ⟨rfl, rfl⟩]
  generalize wr mu 55 0 0 = m1 at *
  have hm := S1.1
  have eV := hm.1
  have hV := hm.2.1.1
  have hn := hV.1
  have hl := hV.2.1
  have e1 := mv1 eV
  have e2 := mv2 eV
  have h3 := hm.2.2
  refine aw_aload_n C dX6_set_5 rfl ?_
  refine aw_iload_n C dX6_set_6 rfl ?_
  refine aw_call1 C dX6_set_7 lX6_328 vX6_isLoad (t_X6_isLoad hm (by assumption)) rfl rfl rfl ⟨rfl, by decide⟩ rfl ⟨by decide, by decide⟩ (Nat.le_of_ble_eq_true rfl) ?_
  refine aw_if_eq C dX6_set_10 (tgt := 21) (by decide) ⟨by omega, by omega⟩ (fun c1 => ?_) (fun c1 => ?_)
  · have qe : qSe V d i v = (NTH, 1) := if_pos (by omega)
    --go
    refine aw_aload_n C dX6_set_21 rfl ?_
    refine aw_iconst C dX6_set_22 ?_
    refine aw_call1 C dX6_set_23 lX6_311 vX6_lost (t_X6_lost) rfl rfl rfl ⟨rfl, by decide⟩ rfl ⟨by decide, by decide⟩ (Nat.le_of_ble_eq_true rfl) ?_
    exact aw_lret C E dX6_set_26 rfl (by rw [qe]; exact ⟨rfl, mAct_n S1 t0 fr1 (by decide)⟩)
  · refine aw_aload_n C dX6_set_13 rfl ?_
    refine aw_iload_n C dX6_set_14 rfl ?_
    refine aw_call1 C dX6_set_15 lX6_308 vX6_isRay (t_X6_isRay hm (by assumption)) rfl rfl rfl ⟨rfl, by decide⟩ rfl ⟨by decide, by decide⟩ (Nat.le_of_ble_eq_true rfl) ?_
    refine aw_if_ne C dX6_set_18 (tgt := 27) (by decide) ⟨by omega, by omega⟩ (fun c2 => ?_) (fun c2 => ?_)
    · refine aw_iload_n C dX6_set_27 rfl ?_
      refine aw_i2l C dX6_set_28 ⟨by omega, by omega⟩ ?_
      refine aw_ldc2 C dX6_set_29 kX6_391 (z := -20) (by decide +kernel) ?_
      refine aw_ldc2 C dX6_set_32 kX6_393 (z := 20) (by decide +kernel) ?_
      refine aw_callS1 C dX6_set_35 lX6_108 vX6_in (t_X6_in ⟨by omega, by omega⟩ ⟨by omega, by omega⟩ ⟨by omega, by omega⟩) rfl rfl rfl ⟨by decide, by decide⟩ (Nat.le_of_ble_eq_true rfl) ?_
      refine aw_if_ne C dX6_set_38 (tgt := 47) (by decide) ⟨by omega, by omega⟩ (fun c3 => ?_) (fun c3 => ?_)
      · have qe : qSe V d i v = (gn V d i, 0) := (if_neg (by omega) : qSe V d i v = _).trans (if_neg (by omega))
        --go
        refine aw_aload_n C dX6_set_47 rfl ?_
        refine aw_call C dX6_set_48 lX6_395 vX6_remembers (t_X6_remembers S1 ha hH) rfl rfl rfl ⟨rfl, by decide⟩ rfl ⟨by decide, by decide⟩ (Nat.le_of_ble_eq_true rfl) (fun r4 mu4 hq4 => ?_)
        obtain ⟨rfl, f1, S2⟩ := hq4
        have t2 : mu4 55 0 = 0 := (f1 55 0 (by unfold rmmS; omega)).trans t0
        have fr2 : mfr mu mu4 := fr1.tr (mfr_of f1 rmm_K)
        have eV2 := S2.1.1
        generalize mu4 = m2 at *
        show AW _ _ _ _ _ [] _
        refine aw_aload_n C dX6_set_51 rfl ?_
        refine aw_iload_n C dX6_set_52 rfl ?_
        refine aw_iload_n C dX6_set_53 rfl ?_
        refine aw_call1 C dX6_set_54 lX6_331 vX6_numberOf (t_X6_numberOf eV2 hV (by omega) (by omega) (by omega) (by omega)) rfl rfl rfl ⟨rfl, by decide⟩ rfl ⟨by decide, by decide⟩ (Nat.le_of_ble_eq_true rfl) ?_
        refine aw_lstore C dX6_set_57 (by decide) ?_
        refine aw_aload_n C dX6_set_59 rfl ?_
        refine aw_getS C dX6_set_60 fX6_47 ⟨rfl, by decide⟩ rfl rfl (srf 55 25 66 (by decide)) ?_
        refine aw_bipush C dX6_set_63 rfl ?_
        refine aw_iload_n C dX6_set_65 rfl ?_
        refine aw_imul C dX6_set_66 ?_
        refine aw_iload_n C dX6_set_67 rfl ?_
        refine aw_iadd C dX6_set_68 ?_
        refine aw_iload_n C dX6_set_69 rfl ?_
        refine aw_iast C dX6_set_70 ⟨rfl, by decide⟩ (by decide) (by omega) (by omega) ?_
        refine aw_aload_n C dX6_set_71 rfl ?_
        refine aw_lload C dX6_set_72 rfl ?_
        refine aw_call1 C dX6_set_74 lX6_315 vX6_told (t_X6_told) rfl rfl rfl ⟨rfl, by decide⟩ rfl ⟨by decide, by decide⟩ (Nat.le_of_ble_eq_true rfl) ?_
        exact aw_lret C E dX6_set_77 rfl (by rw [qe]; exact ⟨rfl, mAct_k (SET m2 S2 eV2 hV (by omega) (by omega) (by omega) (by omega) (by omega)) (by rw [wr_ne (by decide)]; exact t2) (fun x y w => by rw [wr_at, if_neg (by omega)]; exact fr2 x y w)⟩)
      · have qe : qSe V d i v = (NTH, 2) := (if_neg (by omega) : qSe V d i v = _).trans (if_pos (by omega))
        --go
        refine aw_aload_n C dX6_set_41 rfl ?_
        refine aw_iconst C dX6_set_42 ?_
        refine aw_call1 C dX6_set_43 lX6_311 vX6_lost (t_X6_lost) rfl rfl rfl ⟨rfl, by decide⟩ rfl ⟨by decide, by decide⟩ (Nat.le_of_ble_eq_true rfl) ?_
        exact aw_lret C E dX6_set_46 rfl (by rw [qe]; exact ⟨rfl, mAct_n S1 t0 fr1 (by decide)⟩)
    · have qe : qSe V d i v = (NTH, 1) := if_pos (by omega)
      --go
      refine aw_aload_n C dX6_set_21 rfl ?_
      refine aw_iconst C dX6_set_22 ?_
      refine aw_call1 C dX6_set_23 lX6_311 vX6_lost (t_X6_lost) rfl rfl rfl ⟨rfl, by decide⟩ rfl ⟨by decide, by decide⟩ (Nat.le_of_ble_eq_true rfl) ?_
      exact aw_lret C E dX6_set_26 rfl (by rw [qe]; exact ⟨rfl, mAct_n S1 t0 fr1 (by decide)⟩)
/-- a load's numbers laid anew one by one -/
theorem mSt_cpd {mu m : Mem} {V : FV} {a : Int} {H : Nat → FV} {d : Int} {u : Nat → Int} {g : Nat → Int} (S : mSt mu V a H) (h : ∀ x y, kpM2 x y → x ≠ 66 → m x y = mu x y) (d0 : 0 ≤ d) (hd : d < V.2.1) (hu : ∀ j : Nat, (j : Int) < V.1 → hld (u j)) (hc : cpd (m 66) (mu 66) g (25 * d) (25 * d + V.1)) (hg : ∀ j : Nat, (j : Int) < V.1 → g (25 * d.toNat + j) = u j) : mSt m (setN V d.toNat u) a H := by
  have hn := S.1.2.1.1.1
  refine mSt_set S h (by omega) hu (fun d2 j hd2 hj => ?_)
  by_cases e : d2 = d.toNat
  · rw [if_pos e, hc.in_ (by omega), e, hg j hj]
  · rw [if_neg e, hc.out (by omega)]
theorem t_X6_fill {mu : Mem} {V : FV} {a : Int} {H : Nat → FV} {d v : Int} (S : mSt mu V a H) (ha : 0 ≤ a ∧ a ≤ 8) (hH : ∀ j : Nat, (j : Int) < a → bV (H j)) (hd : R32 d) (hv : R32 v) : Tr 2 mX6_fill [vr 55, vi d, vi v] mu (fun r m2 => r = some (vi (qFi V d v).1) ∧ mAct mu m2 V a H (qFi V d v).2 (wFi V d v)) := by
  refine Tr.of (by decide +kernel) (Nat.le_of_ble_eq_true rfl) (fun K C E => ?_)
  have k1 := b01_01 (0 ≤ d ∧ d < V.2.1)
  have k1i : b01 (0 ≤ d ∧ d < V.2.1) = 1 ↔ (0 ≤ d ∧ d < V.2.1) := b01_iff
  have k3 := b01_01 (-20 ≤ v ∧ v ≤ 20)
  have k3i : b01 (-20 ≤ v ∧ v ≤ 20) = 1 ↔ (-20 ≤ v ∧ v ≤ 20) := b01_iff
  have k4 := b01_01 (v < -20 ∨ 20 < v)
  have k4i : b01 (v < -20 ∨ 20 < v) = 1 ↔ (v < -20 ∨ 20 < v) := b01_iff
  have loop : 0 ≤ d → d < V.2.1 → -20 ≤ v ∧ v ≤ 20 → ∀ (m2 : Mem), mSt m2 V (min 8 (a + 1)) (psh V H) → m2 55 0 = 0 → mfr mu m2 → ∀ (k : Nat) (i : Int) (m : Mem), 0 ≤ i → i + k = V.1 → frc (fun x _ => x = 66) m2 m → cpd (m 66) (m2 66) (fun _ => v) (25 * d) (25 * d + i) → AW K mX6_fill (NC, 0, 0) 45 [vr 55, vi d, vi v, vi i] [] m := by
    intro d0 d1 v20 m2 S2 t2 fr2 k
    have qe : qFi V d v = (1, 0) := (if_neg (by omega) : qFi V d v = _).trans (if_neg (by omega))
    have hn := S2.1.2.1.1.1
    have hl := S2.1.2.1.1.2.1
    have e1 := mv1 S2.1.1
    induction k with
    | zero =>
      intro i m q0 q1 q2 q3
      have e29 : m 55 29 = V.1 := (q2 _ _ (by decide)).trans e1
      have e : i = V.1 := by omega
      rw [e] at q3
      have S3 := mSt_cpd (u := fun _ => v) S2 (fun x y _ w => q2 x y w) d0 d1 (fun j hj => by unfold hld; omega) q3 (fun j hj => rfl)
      have fr3 : mfr m2 m := mfr_of q2 (fun x y w => by unfold mfK; omega)
      have t3 : m 55 0 = 0 := (q2 _ _ (by decide)).trans t2
      refine aw_iload_n C dX6_fill_45 rfl ?_
      refine aw_aload_n C dX6_fill_46 rfl ?_
      refine aw_getI C dX6_fill_47 fX6_255 ⟨rfl, by decide⟩ rfl ?_
      refine aw_icmp_ge C dX6_fill_50 (tgt := 71) (by decide) ⟨by omega, by omega⟩ ⟨by omega, by omega⟩ (fun c1 => ?_) (fun c1 => ?_)
      · refine aw_aload_n C dX6_fill_71 rfl ?_
        refine aw_iconst C dX6_fill_72 ?_
        refine aw_call1 C dX6_fill_73 lX6_398 vX6_done (t_X6_done ⟨by omega, by omega⟩) rfl rfl rfl ⟨rfl, by decide⟩ rfl ⟨by decide, by decide⟩ (Nat.le_of_ble_eq_true rfl) ?_
        exact aw_zret C E dX6_fill_76 rfl (by omega) (by rw [qe]; exact ⟨rfl, mAct_k S3 t3 (fr2.tr fr3)⟩)
      · exfalso; omega
    | succ k ih =>
      intro i m q0 q1 q2 q3
      have e29 : m 55 29 = V.1 := (q2 _ _ (by decide)).trans e1
      refine aw_iload_n C dX6_fill_45 rfl ?_
      refine aw_aload_n C dX6_fill_46 rfl ?_
      refine aw_getI C dX6_fill_47 fX6_255 ⟨rfl, by decide⟩ rfl ?_
      refine aw_icmp_ge C dX6_fill_50 (tgt := 71) (by decide) ⟨by omega, by omega⟩ ⟨by omega, by omega⟩ (fun c1 => ?_) (fun c1 => ?_)
      · exfalso; omega
      · refine aw_aload_n C dX6_fill_53 rfl ?_
        refine aw_getS C dX6_fill_54 fX6_47 ⟨rfl, by decide⟩ rfl rfl (srf 55 25 66 (by decide)) ?_
        refine aw_bipush C dX6_fill_57 rfl ?_
        refine aw_iload_n C dX6_fill_59 rfl ?_
        refine aw_imul C dX6_fill_60 ?_
        refine aw_iload_n C dX6_fill_61 rfl ?_
        refine aw_iadd C dX6_fill_62 ?_
        refine aw_iload_n C dX6_fill_63 rfl ?_
        refine aw_iast C dX6_fill_64 ⟨rfl, by decide⟩ (by decide) (by omega) (by omega) ?_
        refine aw_iinc C dX6_fill_65 rfl ?_
        refine aw_goto C dX6_fill_68 (tgt := 45) (by decide) ?_
        exact ih (i + 1) _ (by omega) (by omega) (q2.w rfl) (cpd_s q3 rfl (by omega) (by omega) (by omega) rfl (by omega))
  refine aw_aload_n C dX6_fill_0 rfl ?_
  refine aw_iconst C dX6_fill_1 ?_
  refine aw_putI C dX6_fill_2 fX6_77 ⟨rfl, by decide⟩ rfl rfl rfl ?_
  have S1 := S.t
  have fr1 := mfr.t (mu := mu)
  have t0 : wr mu 55 0 0 55 0 = 0 := by rw [wr_at, if_pos ⟨rfl, rfl⟩]
  generalize wr mu 55 0 0 = m1 at *
  have hm := S1.1
  have eV := hm.1
  have hV := hm.2.1.1
  have hn := hV.1
  have hl := hV.2.1
  have e1 := mv1 eV
  have e2 := mv2 eV
  have h3 := hm.2.2
  refine aw_aload_n C dX6_fill_5 rfl ?_
  refine aw_iload_n C dX6_fill_6 rfl ?_
  refine aw_call1 C dX6_fill_7 lX6_328 vX6_isLoad (t_X6_isLoad hm (by assumption)) rfl rfl rfl ⟨rfl, by decide⟩ rfl ⟨by decide, by decide⟩ (Nat.le_of_ble_eq_true rfl) ?_
  refine aw_if_ne C dX6_fill_10 (tgt := 19) (by decide) ⟨by omega, by omega⟩ (fun c1 => ?_) (fun c1 => ?_)
  · refine aw_iload_n C dX6_fill_19 rfl ?_
    refine aw_i2l C dX6_fill_20 ⟨by omega, by omega⟩ ?_
    refine aw_ldc2 C dX6_fill_21 kX6_391 (z := -20) (by decide +kernel) ?_
    refine aw_ldc2 C dX6_fill_24 kX6_393 (z := 20) (by decide +kernel) ?_
    refine aw_callS1 C dX6_fill_27 lX6_108 vX6_in (t_X6_in ⟨by omega, by omega⟩ ⟨by omega, by omega⟩ ⟨by omega, by omega⟩) rfl rfl rfl ⟨by decide, by decide⟩ (Nat.le_of_ble_eq_true rfl) ?_
    refine aw_if_ne C dX6_fill_30 (tgt := 39) (by decide) ⟨by omega, by omega⟩ (fun c2 => ?_) (fun c2 => ?_)
    · refine aw_aload_n C dX6_fill_39 rfl ?_
      refine aw_call C dX6_fill_40 lX6_395 vX6_remembers (t_X6_remembers S1 ha hH) rfl rfl rfl ⟨rfl, by decide⟩ rfl ⟨by decide, by decide⟩ (Nat.le_of_ble_eq_true rfl) (fun r3 mu3 hq3 => ?_)
      obtain ⟨rfl, f1, S2⟩ := hq3
      have t2 : mu3 55 0 = 0 := (f1 55 0 (by unfold rmmS; omega)).trans t0
      have fr2 : mfr mu mu3 := fr1.tr (mfr_of f1 rmm_K)
      have eV2 := S2.1.1
      generalize mu3 = m2 at *
      show AW _ _ _ _ _ [] _
      refine aw_iconst C dX6_fill_43 ?_
      refine aw_istore_n C dX6_fill_44 (by decide) ?_
      exact loop (by omega) (by omega) (by omega) m2 S2 t2 fr2 V.1.toNat 0 _ (by omega) (by omega) frc.rf (cpd_0 (by omega))
    · have qe : qFi V d v = (0, 2) := (if_neg (by omega) : qFi V d v = _).trans (if_pos (by omega))
      --go
      refine aw_aload_n C dX6_fill_33 rfl ?_
      refine aw_iconst C dX6_fill_34 ?_
      refine aw_call1 C dX6_fill_35 lX6_398 vX6_done (t_X6_done ⟨by omega, by omega⟩) rfl rfl rfl ⟨rfl, by decide⟩ rfl ⟨by decide, by decide⟩ (Nat.le_of_ble_eq_true rfl) ?_
      exact aw_zret C E dX6_fill_38 rfl (by omega) (by rw [qe]; exact ⟨rfl, mAct_n S1 t0 fr1 (by decide)⟩)
  · have qe : qFi V d v = (0, 1) := if_pos (by omega)
    --go
    refine aw_aload_n C dX6_fill_13 rfl ?_
    refine aw_iconst C dX6_fill_14 ?_
    refine aw_call1 C dX6_fill_15 lX6_398 vX6_done (t_X6_done ⟨by omega, by omega⟩) rfl rfl rfl ⟨rfl, by decide⟩ rfl ⟨by decide, by decide⟩ (Nat.le_of_ble_eq_true rfl) ?_
    exact aw_zret C E dX6_fill_18 rfl (by omega) (by rw [qe]; exact ⟨rfl, mAct_n S1 t0 fr1 (by decide)⟩)
def bcR (mu m2 : Mem) (V : FV) (a : Int) (H : Nat → FV) (d : Int) (T : Int → Int) (r : Option Vv) : Prop := (b01 (∀ j : Int, 0 ≤ j → j < V.1 → hld (T j)) = 1 ∧ r = some (vi 1) ∧ mAct mu m2 V a H 0 (setN V d.toNat (fun j => T j))) ∨ (b01 (∀ j : Int, 0 ≤ j → j < V.1 → hld (T j)) = 0 ∧ r = some (vi 0) ∧ mAct mu m2 V a H 3 (setN V d.toNat (fun j => T j)))
theorem t_X6_becomes {mu m1 : Mem} {V : FV} {a : Int} {H : Nat → FV} {d : Int} {T : Int → Int} (S1 : mSt m1 V a H) (t0 : m1 55 0 = 0) (fr1 : mfr mu m1) (ha : 0 ≤ a ∧ a ≤ 8) (hH : ∀ j : Nat, (j : Int) < a → bV (H j)) (d0 : 0 ≤ d) (d1 : d < V.2.1) (hT : ∀ j : Int, 0 ≤ j → j < V.1 → m1 75 j.toNat = T j ∧ R32 (T j)) : Tr 1 mX6_becomes [vr 55, vi d] m1 (fun r m2 => bcR mu m2 V a H d T r) := by
  refine Tr.of (by decide +kernel) (Nat.le_of_ble_eq_true rfl) (fun K C E => ?_)
  have hV := S1.1.2.1.1
  have hn := hV.1
  have hl := hV.2.1
  have e1 := mv1 S1.1.1
  have l2 : (∀ j : Int, 0 ≤ j → j < V.1 → hld (T j)) → ∀ (m2 : Mem), mSt m2 V (min 8 (a + 1)) (psh V H) → m2 55 0 = 0 → mfr mu m2 → (∀ j : Int, 0 ≤ j → j < V.1 → m2 75 j.toNat = T j) → ∀ (k : Nat) (i : Int) (m : Mem), 0 ≤ i → i + k = V.1 → frc (fun x _ => x = 66) m2 m → cpd (m 66) (m2 66) (fun j => T ((j : Int) - 25 * d)) (25 * d) (25 * d + i) → AW K mX6_becomes (NC, 0, 0) 47 [vr 55, vi d, vi i] [] m := by
    intro hh m2 S2 t2 fr2 hT2 k
    have e1 := mv1 S2.1.1
    induction k with
    | zero =>
      intro i m q0 q1 q2 q3
      have e29 : m 55 29 = V.1 := (q2 _ _ (by decide)).trans e1
      have e : i = V.1 := by omega
      rw [e] at q3
      have S3 := mSt_cpd (u := fun j => T j) S2 (fun x y _ w => q2 x y w) d0 d1 (fun j hj => hh j (by omega) hj) q3 (fun j hj => by show T _ = T _; congr 1; omega)
      have fr3 : mfr m2 m := mfr_of q2 (fun x y w => by unfold mfK; omega)
      have t3 : m 55 0 = 0 := (q2 _ _ (by decide)).trans t2
      refine aw_iload_n C dX6_becomes_47 rfl ?_
      refine aw_aload_n C dX6_becomes_48 rfl ?_
      refine aw_getI C dX6_becomes_49 fX6_255 ⟨rfl, by decide⟩ rfl ?_
      refine aw_icmp_ge C dX6_becomes_52 (tgt := 78) (by decide) ⟨by omega, by omega⟩ ⟨by omega, by omega⟩ (fun c1 => ?_) (fun c1 => ?_)
      · refine aw_aload_n C dX6_becomes_78 rfl ?_
        refine aw_iconst C dX6_becomes_79 ?_
        refine aw_call1 C dX6_becomes_80 lX6_398 vX6_done (t_X6_done ⟨by omega, by omega⟩) rfl rfl rfl ⟨rfl, by decide⟩ rfl ⟨by decide, by decide⟩ (Nat.le_of_ble_eq_true rfl) ?_
        exact aw_zret C E dX6_becomes_83 rfl (by omega) (Or.inl ⟨b01_t hh, rfl, mAct_k S3 t3 (fr2.tr fr3)⟩)
      · exfalso; omega
    | succ k ih =>
      intro i m q0 q1 q2 q3
      have e29 : m 55 29 = V.1 := (q2 _ _ (by decide)).trans e1
      have e75 : m 75 i.toNat = T i := (q2 75 i.toNat (show ¬ (75 : Nat) = 66 by decide)).trans (hT2 i q0 (by omega))
      refine aw_iload_n C dX6_becomes_47 rfl ?_
      refine aw_aload_n C dX6_becomes_48 rfl ?_
      refine aw_getI C dX6_becomes_49 fX6_255 ⟨rfl, by decide⟩ rfl ?_
      refine aw_icmp_ge C dX6_becomes_52 (tgt := 78) (by decide) ⟨by omega, by omega⟩ ⟨by omega, by omega⟩ (fun c1 => ?_) (fun c1 => ?_)
      · exfalso; omega
      · refine aw_aload_n C dX6_becomes_55 rfl ?_
        refine aw_getS C dX6_becomes_56 fX6_47 ⟨rfl, by decide⟩ rfl rfl (srf 55 25 66 (by decide)) ?_
        refine aw_bipush C dX6_becomes_59 rfl ?_
        refine aw_iload_n C dX6_becomes_61 rfl ?_
        refine aw_imul C dX6_becomes_62 ?_
        refine aw_iload_n C dX6_becomes_63 rfl ?_
        refine aw_iadd C dX6_becomes_64 ?_
        refine aw_aload_n C dX6_becomes_65 rfl ?_
        refine aw_getS C dX6_becomes_66 fX6_74 ⟨rfl, by decide⟩ rfl rfl (srf 55 42 75 (by decide)) ?_
        refine aw_iload_n C dX6_becomes_69 rfl ?_
        refine aw_iald C dX6_becomes_70 ⟨rfl, by decide⟩ (by decide) (by omega) (by omega) ?_
        rw [e75]
        refine aw_iast C dX6_becomes_71 ⟨rfl, by decide⟩ (by decide) (by omega) (by omega) ?_
        refine aw_iinc C dX6_becomes_72 rfl ?_
        refine aw_goto C dX6_becomes_75 (tgt := 47) (by decide) ?_
        refine ih (i + 1) _ (by omega) (by omega) (q2.w rfl) (cpd_s q3 rfl (by omega) (by omega) (by omega) ?_ (by omega))
        show T _ = T _
        congr 1; omega
  have l1 : ∀ (k : Nat) (i : Int), 0 ≤ i → i + k = V.1 → (∀ j : Int, 0 ≤ j → j < i → hld (T j)) → AW K mX6_becomes (NC, 0, 0) 2 [vr 55, vi d, vi i] [] m1 := by
    intro k
    induction k with
    | zero =>
      intro i q0 q1 q2
      have hh : ∀ j : Int, 0 ≤ j → j < V.1 → hld (T j) := fun j j0 j1 => q2 j j0 (by omega)
      refine aw_iload_n C dX6_becomes_2 rfl ?_
      refine aw_aload_n C dX6_becomes_3 rfl ?_
      refine aw_getI C dX6_becomes_4 fX6_255 ⟨rfl, by decide⟩ rfl ?_
      refine aw_icmp_ge C dX6_becomes_7 (tgt := 41) (by decide) ⟨by omega, by omega⟩ ⟨by omega, by omega⟩ (fun c1 => ?_) (fun c1 => ?_)
      · refine aw_aload_n C dX6_becomes_41 rfl ?_
        refine aw_call C dX6_becomes_42 lX6_395 vX6_remembers (t_X6_remembers S1 ha hH) rfl rfl rfl ⟨rfl, by decide⟩ rfl ⟨by decide, by decide⟩ (Nat.le_of_ble_eq_true rfl) (fun r2 mu2 hq2 => ?_)
        obtain ⟨rfl, f1, S2⟩ := hq2
        have t2 : mu2 55 0 = 0 := (f1 55 0 (by unfold rmmS; omega)).trans t0
        have fr2 : mfr mu mu2 := fr1.tr (mfr_of f1 rmm_K)
        have e75 : ∀ j : Int, 0 ≤ j → j < V.1 → mu2 75 j.toNat = T j := fun j j0 j1 => (f1 _ _ (by unfold rmmS; omega)).trans (hT j j0 j1).1
        generalize mu2 = m2 at *
        show AW _ _ _ _ _ [] _
        refine aw_iconst C dX6_becomes_45 ?_
        refine aw_istore_n C dX6_becomes_46 (by decide) ?_
        exact l2 hh m2 S2 t2 fr2 e75 V.1.toNat 0 _ (by omega) (by omega) frc.rf (cpd_0 (by omega))
      · exfalso; omega
    | succ k ih =>
      intro i q0 q1 q2
      obtain ⟨eT, rT⟩ := hT i q0 (by omega)
      have k3 := b01_01 (-2000 ≤ T i ∧ T i ≤ 2000)
      have k3i : b01 (-2000 ≤ T i ∧ T i ≤ 2000) = 1 ↔ (-2000 ≤ T i ∧ T i ≤ 2000) := b01_iff
      refine aw_iload_n C dX6_becomes_2 rfl ?_
      refine aw_aload_n C dX6_becomes_3 rfl ?_
      refine aw_getI C dX6_becomes_4 fX6_255 ⟨rfl, by decide⟩ rfl ?_
      refine aw_icmp_ge C dX6_becomes_7 (tgt := 41) (by decide) ⟨by omega, by omega⟩ ⟨by omega, by omega⟩ (fun c1 => ?_) (fun c1 => ?_)
      · exfalso; omega
      · refine aw_aload_n C dX6_becomes_10 rfl ?_
        refine aw_getS C dX6_becomes_11 fX6_74 ⟨rfl, by decide⟩ rfl rfl (srf 55 42 75 (by decide)) ?_
        refine aw_iload_n C dX6_becomes_14 rfl ?_
        refine aw_iald C dX6_becomes_15 ⟨rfl, by decide⟩ (by decide) (by omega) (by omega) ?_
        rw [eT]
        refine aw_i2l C dX6_becomes_16 ⟨by omega, by omega⟩ ?_
        refine aw_ldc2 C dX6_becomes_17 kX6_247 (z := -2000) (by decide +kernel) ?_
        refine aw_ldc2 C dX6_becomes_20 kX6_249 (z := 2000) (by decide +kernel) ?_
        refine aw_callS1 C dX6_becomes_23 lX6_108 vX6_in (t_X6_in ⟨by omega, by omega⟩ ⟨by omega, by omega⟩ ⟨by omega, by omega⟩) rfl rfl rfl ⟨by decide, by decide⟩ (Nat.le_of_ble_eq_true rfl) ?_
        refine aw_if_ne C dX6_becomes_26 (tgt := 35) (by decide) ⟨by omega, by omega⟩ (fun c2 => ?_) (fun c2 => ?_)
        · refine aw_iinc C dX6_becomes_35 rfl ?_
          refine aw_goto C dX6_becomes_38 (tgt := 2) (by decide) ?_
          refine ih (i + 1) (by omega) (by omega) (fun j j0 j1 => ?_)
          by_cases e : j = i
          · rw [e]; exact k3i.mp (by omega)
          · exact q2 j j0 (by omega)
        · refine aw_aload_n C dX6_becomes_29 rfl ?_
          refine aw_iconst C dX6_becomes_30 ?_
          refine aw_call1 C dX6_becomes_31 lX6_398 vX6_done (t_X6_done ⟨by omega, by omega⟩) rfl rfl rfl ⟨rfl, by decide⟩ rfl ⟨by decide, by decide⟩ (Nat.le_of_ble_eq_true rfl) ?_
          exact aw_zret C E dX6_becomes_34 rfl (by omega) (Or.inr ⟨b01_f (fun w => by have := w i q0 (by omega); unfold hld at this; omega), rfl, mAct_n S1 t0 fr1 (by decide)⟩)
  refine aw_iconst C dX6_becomes_0 ?_
  refine aw_istore_n C dX6_becomes_1 (by decide) ?_
  exact l1 V.1.toNat 0 (by omega) (by omega) (fun j j0 j1 => by omega)
theorem t_X6_adds {mu : Mem} {V : FV} {a : Int} {H : Nat → FV} {d e t : Int} (S : mSt mu V a H) (ha : 0 ≤ a ∧ a ≤ 8) (hH : ∀ j : Nat, (j : Int) < a → bV (H j)) (hd : R32 d) (he : R32 e) (ht : R32 t) : Tr 2 mX6_adds [vr 55, vi d, vi e, vi t] mu (fun r m2 => r = some (vi (qAd V d e t).1) ∧ mAct mu m2 V a H (qAd V d e t).2 (wAd V d e t)) := by
  refine Tr.of (by decide +kernel) (Nat.le_of_ble_eq_true rfl) (fun K C E => ?_)
  have k1 := b01_01 (0 ≤ d ∧ d < V.2.1)
  have k1i : b01 (0 ≤ d ∧ d < V.2.1) = 1 ↔ (0 ≤ d ∧ d < V.2.1) := b01_iff
  have k2 := b01_01 (0 ≤ e ∧ e < V.2.1)
  have k2i : b01 (0 ≤ e ∧ e < V.2.1) = 1 ↔ (0 ≤ e ∧ e < V.2.1) := b01_iff
  have k3 := b01_01 (-3 ≤ t ∧ t ≤ 3)
  have k3i : b01 (-3 ≤ t ∧ t ≤ 3) = 1 ↔ (-3 ≤ t ∧ t ≤ 3) := b01_iff
  have k4 := b01_01 (t < -3 ∨ 3 < t)
  have k4i : b01 (t < -3 ∨ 3 < t) = 1 ↔ (t < -3 ∨ 3 < t) := b01_iff
  have loop : 0 ≤ d → d < V.2.1 → 0 ≤ e → e < V.2.1 → -3 ≤ t ∧ t ≤ 3 → ∀ (m1 : Mem), mSt m1 V a H → m1 55 0 = 0 → mfr mu m1 → ∀ (k : Nat) (i : Int) (m : Mem), 0 ≤ i → i + k = V.1 → frc (fun x _ => x = 75) m1 m → (∀ j : Int, 0 ≤ j → j < i → m 75 j.toNat = gn V d j + t * gn V e j) → AW K mX6_adds (NC, 0, 0) 50 [vr 55, vi d, vi e, vi t, vi i] [] m := by
    intro d0 d1 g0 g1 t3 m1 S1 t0 fr1 k
    have hV := S1.1.2.1.1
    have hn := hV.1
    have hl := hV.2.1
    have e1 := mv1 S1.1.1
    have rT : ∀ j : Int, R32 (gn V d j + t * gn V e j) := fun j => by
      have b1 := hV.g d j
      have b2 := hV.g e j
      have b3 := mulb (a := t) (A := 3) t3 b2
      exact ⟨by omega, by omega⟩
    have qb : qAd V d e t = if b01 (∀ j : Int, 0 ≤ j → j < V.1 → hld (gn V d j + t * gn V e j)) = 1 then (1, 0) else (0, 3) := (if_neg (by omega) : qAd V d e t = _).trans (if_neg (by omega))
    induction k with
    | zero =>
      intro i m q0 q1 q2 q3
      have e29 : m 55 29 = V.1 := (q2 _ _ (by decide)).trans e1
      have TB := t_X6_becomes (mu := mu) (d := d) (T := fun j => gn V d j + t * gn V e j) (mSt_fr S1 (fun x y w => q2 x y (by unfold kpM2 at w; omega))) ((q2 _ _ (by decide)).trans t0) (fr1.tr (mfr_of q2 (fun x y w => by unfold mfK; omega))) ha hH (by omega) (by omega) (fun j j0 j1 => ⟨q3 j j0 (by omega), rT j⟩)
      refine aw_iload C dX6_adds_50 rfl ?_
      refine aw_aload_n C dX6_adds_52 rfl ?_
      refine aw_getI C dX6_adds_53 fX6_255 ⟨rfl, by decide⟩ rfl ?_
      refine aw_icmp_ge C dX6_adds_56 (tgt := 99) (by decide) ⟨by omega, by omega⟩ ⟨by omega, by omega⟩ (fun c1 => ?_) (fun c1 => ?_)
      · refine aw_aload_n C dX6_adds_99 rfl ?_
        refine aw_iload_n C dX6_adds_100 rfl ?_
        refine aw_call C dX6_adds_101 lX6_405 vX6_becomes (TB) rfl rfl rfl ⟨rfl, by decide⟩ rfl ⟨by decide, by decide⟩ (Nat.le_of_ble_eq_true rfl) (fun r2 mu2 hq2 => ?_)
        obtain ⟨rr, hrr, hfin⟩ : ∃ z, r2 = some (vi z) ∧ (z = 0 ∨ z = 1) ∧ (z = (qAd V d e t).1 ∧ mAct mu mu2 V a H (qAd V d e t).2 (wAd V d e t)) := by
          rcases hq2 with ⟨b1, b3, b2⟩ | ⟨b1, b3, b2⟩
          · rw [qb, if_pos b1]; exact ⟨1, b3, Or.inr rfl, rfl, b2⟩
          · rw [qb, if_neg (show ¬ b01 (∀ j : Int, 0 ≤ j → j < V.1 → hld (gn V d j + t * gn V e j)) = 1 from fun w => absurd (b1.symm.trans w) (by decide))]; exact ⟨0, b3, Or.inl rfl, rfl, b2⟩
        subst hrr
        generalize mu2 = m4 at *
        show AW _ _ _ _ _ [vi rr] _
        exact aw_zret C E dX6_adds_104 rfl hfin.1 ⟨by rw [hfin.2.1], hfin.2.2⟩
      · exfalso; omega
    | succ k ih =>
      intro i m q0 q1 q2 q3
      have e29 : m 55 29 = V.1 := (q2 _ _ (by decide)).trans e1
      have eVm : mv m = V := (mSt_fr S1 (fun x y w => q2 x y (by unfold kpM2 at w; omega))).1.1
      have r1 := mnV eVm (d := d) q0 (show i < V.1 by omega) d0 d1
      have r2 := mnV eVm (d := e) q0 (show i < V.1 by omega) g0 g1
      refine aw_iload C dX6_adds_50 rfl ?_
      refine aw_aload_n C dX6_adds_52 rfl ?_
      refine aw_getI C dX6_adds_53 fX6_255 ⟨rfl, by decide⟩ rfl ?_
      refine aw_icmp_ge C dX6_adds_56 (tgt := 99) (by decide) ⟨by omega, by omega⟩ ⟨by omega, by omega⟩ (fun c1 => ?_) (fun c1 => ?_)
      · exfalso; omega
      · refine aw_aload_n C dX6_adds_59 rfl ?_
        refine aw_getS C dX6_adds_60 fX6_74 ⟨rfl, by decide⟩ rfl rfl (srf 55 42 75 (by decide)) ?_
        refine aw_iload C dX6_adds_63 rfl ?_
        refine aw_aload_n C dX6_adds_65 rfl ?_
        refine aw_getS C dX6_adds_66 fX6_47 ⟨rfl, by decide⟩ rfl rfl (srf 55 25 66 (by decide)) ?_
        refine aw_bipush C dX6_adds_69 rfl ?_
        refine aw_iload_n C dX6_adds_71 rfl ?_
        refine aw_imul C dX6_adds_72 ?_
        refine aw_iload C dX6_adds_73 rfl ?_
        refine aw_iadd C dX6_adds_75 ?_
        refine aw_iald C dX6_adds_76 ⟨rfl, by decide⟩ (by decide) (by omega) (by omega) ?_
        rw [r1]
        refine aw_iload_n C dX6_adds_77 rfl ?_
        refine aw_aload_n C dX6_adds_78 rfl ?_
        refine aw_getS C dX6_adds_79 fX6_47 ⟨rfl, by decide⟩ rfl rfl (srf 55 25 66 (by decide)) ?_
        refine aw_bipush C dX6_adds_82 rfl ?_
        refine aw_iload_n C dX6_adds_84 rfl ?_
        refine aw_imul C dX6_adds_85 ?_
        refine aw_iload C dX6_adds_86 rfl ?_
        refine aw_iadd C dX6_adds_88 ?_
        refine aw_iald C dX6_adds_89 ⟨rfl, by decide⟩ (by decide) (by omega) (by omega) ?_
        rw [r2]
        refine aw_imul C dX6_adds_90 ?_
        refine aw_iadd C dX6_adds_91 ?_
        refine aw_iast C dX6_adds_92 ⟨rfl, by decide⟩ (by decide) (by omega) (by omega) ?_
        refine aw_iinc C dX6_adds_93 rfl ?_
        refine aw_goto C dX6_adds_96 (tgt := 50) (by decide) ?_
        refine ih (i + 1) _ (by omega) (by omega) (q2.w rfl) (fun j j0 j1 => ?_)
        rw [wr_self]
        show (if j.toNat = i.toNat then _ else _) = _
        by_cases e : j = i
        · rw [e, if_pos rfl]
        · rw [if_neg (by omega)]; exact q3 j j0 (by omega)
  refine aw_aload_n C dX6_adds_0 rfl ?_
  refine aw_iconst C dX6_adds_1 ?_
  refine aw_putI C dX6_adds_2 fX6_77 ⟨rfl, by decide⟩ rfl rfl rfl ?_
  have S1 := S.t
  have fr1 := mfr.t (mu := mu)
  have t0 : wr mu 55 0 0 55 0 = 0 := by rw [wr_at, if_pos ⟨rfl, rfl⟩]
  generalize wr mu 55 0 0 = m1 at *
  have hm := S1.1
  have eV := hm.1
  have hV := hm.2.1.1
  have hn := hV.1
  have hl := hV.2.1
  have e1 := mv1 eV
  have e2 := mv2 eV
  have h3 := hm.2.2
  refine aw_aload_n C dX6_adds_5 rfl ?_
  refine aw_iload_n C dX6_adds_6 rfl ?_
  refine aw_call1 C dX6_adds_7 lX6_328 vX6_isLoad (t_X6_isLoad hm (by assumption)) rfl rfl rfl ⟨rfl, by decide⟩ rfl ⟨by decide, by decide⟩ (Nat.le_of_ble_eq_true rfl) ?_
  refine aw_if_eq C dX6_adds_10 (tgt := 21) (by decide) ⟨by omega, by omega⟩ (fun c1 => ?_) (fun c1 => ?_)
  · have qe : qAd V d e t = (0, 1) := if_pos (by omega)
    --go
    refine aw_aload_n C dX6_adds_21 rfl ?_
    refine aw_iconst C dX6_adds_22 ?_
    refine aw_call1 C dX6_adds_23 lX6_398 vX6_done (t_X6_done ⟨by omega, by omega⟩) rfl rfl rfl ⟨rfl, by decide⟩ rfl ⟨by decide, by decide⟩ (Nat.le_of_ble_eq_true rfl) ?_
    exact aw_zret C E dX6_adds_26 rfl (by omega) (by rw [qe]; exact ⟨rfl, mAct_n S1 t0 fr1 (by decide)⟩)
  · refine aw_aload_n C dX6_adds_13 rfl ?_
    refine aw_iload_n C dX6_adds_14 rfl ?_
    refine aw_call1 C dX6_adds_15 lX6_328 vX6_isLoad (t_X6_isLoad hm (by assumption)) rfl rfl rfl ⟨rfl, by decide⟩ rfl ⟨by decide, by decide⟩ (Nat.le_of_ble_eq_true rfl) ?_
    refine aw_if_ne C dX6_adds_18 (tgt := 27) (by decide) ⟨by omega, by omega⟩ (fun c2 => ?_) (fun c2 => ?_)
    · refine aw_iload_n C dX6_adds_27 rfl ?_
      refine aw_i2l C dX6_adds_28 ⟨by omega, by omega⟩ ?_
      refine aw_ldc2 C dX6_adds_29 kX6_401 (z := -3) (by decide +kernel) ?_
      refine aw_ldc2 C dX6_adds_32 kX6_403 (z := 3) (by decide +kernel) ?_
      refine aw_callS1 C dX6_adds_35 lX6_108 vX6_in (t_X6_in ⟨by omega, by omega⟩ ⟨by omega, by omega⟩ ⟨by omega, by omega⟩) rfl rfl rfl ⟨by decide, by decide⟩ (Nat.le_of_ble_eq_true rfl) ?_
      refine aw_if_ne C dX6_adds_38 (tgt := 47) (by decide) ⟨by omega, by omega⟩ (fun c3 => ?_) (fun c3 => ?_)
      · refine aw_iconst C dX6_adds_47 ?_
        refine aw_istore C dX6_adds_48 (by decide) ?_
        exact loop (by omega) (by omega) (by omega) (by omega) (by omega) m1 S1 t0 fr1 V.1.toNat 0 _ (by omega) (by omega) frc.rf (fun j j0 j1 => by omega)
      · have qe : qAd V d e t = (0, 2) := (if_neg (by omega) : qAd V d e t = _).trans (if_pos (by omega))
        --go
        refine aw_aload_n C dX6_adds_41 rfl ?_
        refine aw_iconst C dX6_adds_42 ?_
        refine aw_call1 C dX6_adds_43 lX6_398 vX6_done (t_X6_done ⟨by omega, by omega⟩) rfl rfl rfl ⟨rfl, by decide⟩ rfl ⟨by decide, by decide⟩ (Nat.le_of_ble_eq_true rfl) ?_
        exact aw_zret C E dX6_adds_46 rfl (by omega) (by rw [qe]; exact ⟨rfl, mAct_n S1 t0 fr1 (by decide)⟩)
    · have qe : qAd V d e t = (0, 1) := if_pos (by omega)
      --go
      refine aw_aload_n C dX6_adds_21 rfl ?_
      refine aw_iconst C dX6_adds_22 ?_
      refine aw_call1 C dX6_adds_23 lX6_398 vX6_done (t_X6_done ⟨by omega, by omega⟩) rfl rfl rfl ⟨rfl, by decide⟩ rfl ⟨by decide, by decide⟩ (Nat.le_of_ble_eq_true rfl) ?_
      exact aw_zret C E dX6_adds_26 rfl (by omega) (by rw [qe]; exact ⟨rfl, mAct_n S1 t0 fr1 (by decide)⟩)
theorem t_X6_shifts {mu : Mem} {V : FV} {a : Int} {H : Nat → FV} {d x y : Int} (S : mSt mu V a H) (ha : 0 ≤ a ∧ a ≤ 8) (hH : ∀ j : Nat, (j : Int) < a → bV (H j)) (hd : R32 d) (hx : R32 x) (hy : R32 y) : Tr 2 mX6_shifts [vr 55, vi d, vi x, vi y] mu (fun r m2 => r = some (vi (qSh V d x y).1) ∧ mAct mu m2 V a H (qSh V d x y).2 (wSh V d x y)) := by
  refine Tr.of (by decide +kernel) (Nat.le_of_ble_eq_true rfl) (fun K C E => ?_)
  have k1 := b01_01 (0 ≤ d ∧ d < V.2.1)
  have k1i : b01 (0 ≤ d ∧ d < V.2.1) = 1 ↔ (0 ≤ d ∧ d < V.2.1) := b01_iff
  have k2 := b01_01 (-20 ≤ x ∧ x ≤ 20)
  have k2i : b01 (-20 ≤ x ∧ x ≤ 20) = 1 ↔ (-20 ≤ x ∧ x ≤ 20) := b01_iff
  have k3 := b01_01 (-20 ≤ y ∧ y ≤ 20)
  have k3i : b01 (-20 ≤ y ∧ y ≤ 20) = 1 ↔ (-20 ≤ y ∧ y ≤ 20) := b01_iff
  have k4 := b01_01 ((x < -20 ∨ 20 < x) ∨ (y < -20 ∨ 20 < y))
  have k4i : b01 ((x < -20 ∨ 20 < x) ∨ (y < -20 ∨ 20 < y)) = 1 ↔ ((x < -20 ∨ 20 < x) ∨ (y < -20 ∨ 20 < y)) := b01_iff
  have loop : 0 ≤ d → d < V.2.1 → -20 ≤ x ∧ x ≤ 20 → -20 ≤ y ∧ y ≤ 20 → ∀ (m1 : Mem), mSt m1 V a H → m1 55 0 = 0 → mfr mu m1 → ∀ (k : Nat) (i : Int) (m : Mem), 0 ≤ i → i + k = V.1 → frc (fun x _ => x = 75) m1 m → (∀ j : Int, 0 ≤ j → j < i → m 75 j.toNat = gn V d j + x * gx V j + y * gy V j) → AW K mX6_shifts (NC, 0, 0) 56 [vr 55, vi d, vi x, vi y, vi i] [] m := by
    intro d0 d1 x20 y20 m1 S1 t0 fr1 k
    have hV := S1.1.2.1.1
    have hn := hV.1
    have hl := hV.2.1
    have e1 := mv1 S1.1.1
    have rT : ∀ j : Int, R32 (gn V d j + x * gx V j + y * gy V j) := fun j => by
      have b1 := hV.g d j
      have b2 := mulb (a := x) (A := 20) x20 (hV.x j)
      have b3 := mulb (a := y) (A := 20) y20 (hV.y j)
      exact ⟨by omega, by omega⟩
    have qb : qSh V d x y = if b01 (∀ j : Int, 0 ≤ j → j < V.1 → hld (gn V d j + x * gx V j + y * gy V j)) = 1 then (1, 0) else (0, 3) := (if_neg (by omega) : qSh V d x y = _).trans (if_neg (by omega))
    induction k with
    | zero =>
      intro i m q0 q1 q2 q3
      have e29 : m 55 29 = V.1 := (q2 _ _ (by decide)).trans e1
      have TB := t_X6_becomes (mu := mu) (d := d) (T := fun j => gn V d j + x * gx V j + y * gy V j) (mSt_fr S1 (fun x y w => q2 x y (by unfold kpM2 at w; omega))) ((q2 _ _ (by decide)).trans t0) (fr1.tr (mfr_of q2 (fun x y w => by unfold mfK; omega))) ha hH (by omega) (by omega) (fun j j0 j1 => ⟨q3 j j0 (by omega), rT j⟩)
      refine aw_iload C dX6_shifts_56 rfl ?_
      refine aw_aload_n C dX6_shifts_58 rfl ?_
      refine aw_getI C dX6_shifts_59 fX6_255 ⟨rfl, by decide⟩ rfl ?_
      refine aw_icmp_ge C dX6_shifts_62 (tgt := 110) (by decide) ⟨by omega, by omega⟩ ⟨by omega, by omega⟩ (fun c1 => ?_) (fun c1 => ?_)
      · refine aw_aload_n C dX6_shifts_110 rfl ?_
        refine aw_iload_n C dX6_shifts_111 rfl ?_
        refine aw_call C dX6_shifts_112 lX6_405 vX6_becomes (TB) rfl rfl rfl ⟨rfl, by decide⟩ rfl ⟨by decide, by decide⟩ (Nat.le_of_ble_eq_true rfl) (fun r2 mu2 hq2 => ?_)
        obtain ⟨rr, hrr, hfin⟩ : ∃ z, r2 = some (vi z) ∧ (z = 0 ∨ z = 1) ∧ (z = (qSh V d x y).1 ∧ mAct mu mu2 V a H (qSh V d x y).2 (wSh V d x y)) := by
          rcases hq2 with ⟨b1, b3, b2⟩ | ⟨b1, b3, b2⟩
          · rw [qb, if_pos b1]; exact ⟨1, b3, Or.inr rfl, rfl, b2⟩
          · rw [qb, if_neg (show ¬ b01 (∀ j : Int, 0 ≤ j → j < V.1 → hld (gn V d j + x * gx V j + y * gy V j)) = 1 from fun w => absurd (b1.symm.trans w) (by decide))]; exact ⟨0, b3, Or.inl rfl, rfl, b2⟩
        subst hrr
        generalize mu2 = m4 at *
        show AW _ _ _ _ _ [vi rr] _
        exact aw_zret C E dX6_shifts_115 rfl hfin.1 ⟨by rw [hfin.2.1], hfin.2.2⟩
      · exfalso; omega
    | succ k ih =>
      intro i m q0 q1 q2 q3
      have e29 : m 55 29 = V.1 := (q2 _ _ (by decide)).trans e1
      have eVm : mv m = V := (mSt_fr S1 (fun x y w => q2 x y (by unfold kpM2 at w; omega))).1.1
      have r1 := mnV eVm (d := d) q0 (show i < V.1 by omega) d0 d1
      have r2 := mxV eVm q0 (show i < V.1 by omega)
      have r3 := myV eVm q0 (show i < V.1 by omega)
      refine aw_iload C dX6_shifts_56 rfl ?_
      refine aw_aload_n C dX6_shifts_58 rfl ?_
      refine aw_getI C dX6_shifts_59 fX6_255 ⟨rfl, by decide⟩ rfl ?_
      refine aw_icmp_ge C dX6_shifts_62 (tgt := 110) (by decide) ⟨by omega, by omega⟩ ⟨by omega, by omega⟩ (fun c1 => ?_) (fun c1 => ?_)
      · exfalso; omega
      · refine aw_aload_n C dX6_shifts_65 rfl ?_
        refine aw_getS C dX6_shifts_66 fX6_74 ⟨rfl, by decide⟩ rfl rfl (srf 55 42 75 (by decide)) ?_
        refine aw_iload C dX6_shifts_69 rfl ?_
        refine aw_aload_n C dX6_shifts_71 rfl ?_
        refine aw_getS C dX6_shifts_72 fX6_47 ⟨rfl, by decide⟩ rfl rfl (srf 55 25 66 (by decide)) ?_
        refine aw_bipush C dX6_shifts_75 rfl ?_
        refine aw_iload_n C dX6_shifts_77 rfl ?_
        refine aw_imul C dX6_shifts_78 ?_
        refine aw_iload C dX6_shifts_79 rfl ?_
        refine aw_iadd C dX6_shifts_81 ?_
        refine aw_iald C dX6_shifts_82 ⟨rfl, by decide⟩ (by decide) (by omega) (by omega) ?_
        rw [r1]
        refine aw_iload_n C dX6_shifts_83 rfl ?_
        refine aw_aload_n C dX6_shifts_84 rfl ?_
        refine aw_getS C dX6_shifts_85 fX6_41 ⟨rfl, by decide⟩ rfl rfl (srf 55 23 64 (by decide)) ?_
        refine aw_iload C dX6_shifts_88 rfl ?_
        refine aw_iald C dX6_shifts_90 ⟨rfl, by decide⟩ (by decide) (by omega) (by omega) ?_
        rw [r2]
        refine aw_imul C dX6_shifts_91 ?_
        refine aw_iadd C dX6_shifts_92 ?_
        refine aw_iload_n C dX6_shifts_93 rfl ?_
        refine aw_aload_n C dX6_shifts_94 rfl ?_
        refine aw_getS C dX6_shifts_95 fX6_44 ⟨rfl, by decide⟩ rfl rfl (srf 55 24 65 (by decide)) ?_
        refine aw_iload C dX6_shifts_98 rfl ?_
        refine aw_iald C dX6_shifts_100 ⟨rfl, by decide⟩ (by decide) (by omega) (by omega) ?_
        rw [r3]
        refine aw_imul C dX6_shifts_101 ?_
        refine aw_iadd C dX6_shifts_102 ?_
        refine aw_iast C dX6_shifts_103 ⟨rfl, by decide⟩ (by decide) (by omega) (by omega) ?_
        refine aw_iinc C dX6_shifts_104 rfl ?_
        refine aw_goto C dX6_shifts_107 (tgt := 56) (by decide) ?_
        refine ih (i + 1) _ (by omega) (by omega) (q2.w rfl) (fun j j0 j1 => ?_)
        rw [wr_self]
        show (if j.toNat = i.toNat then _ else _) = _
        by_cases e : j = i
        · rw [e, if_pos rfl]
        · rw [if_neg (by omega)]; exact q3 j j0 (by omega)
  refine aw_aload_n C dX6_shifts_0 rfl ?_
  refine aw_iconst C dX6_shifts_1 ?_
  refine aw_putI C dX6_shifts_2 fX6_77 ⟨rfl, by decide⟩ rfl rfl rfl ?_
  have S1 := S.t
  have fr1 := mfr.t (mu := mu)
  have t0 : wr mu 55 0 0 55 0 = 0 := by rw [wr_at, if_pos ⟨rfl, rfl⟩]
  generalize wr mu 55 0 0 = m1 at *
  have hm := S1.1
  have eV := hm.1
  have hV := hm.2.1.1
  have hn := hV.1
  have hl := hV.2.1
  have e1 := mv1 eV
  have e2 := mv2 eV
  have h3 := hm.2.2
  refine aw_aload_n C dX6_shifts_5 rfl ?_
  refine aw_iload_n C dX6_shifts_6 rfl ?_
  refine aw_call1 C dX6_shifts_7 lX6_328 vX6_isLoad (t_X6_isLoad hm (by assumption)) rfl rfl rfl ⟨rfl, by decide⟩ rfl ⟨by decide, by decide⟩ (Nat.le_of_ble_eq_true rfl) ?_
  refine aw_if_ne C dX6_shifts_10 (tgt := 19) (by decide) ⟨by omega, by omega⟩ (fun c1 => ?_) (fun c1 => ?_)
  · refine aw_iload_n C dX6_shifts_19 rfl ?_
    refine aw_i2l C dX6_shifts_20 ⟨by omega, by omega⟩ ?_
    refine aw_ldc2 C dX6_shifts_21 kX6_391 (z := -20) (by decide +kernel) ?_
    refine aw_ldc2 C dX6_shifts_24 kX6_393 (z := 20) (by decide +kernel) ?_
    refine aw_callS1 C dX6_shifts_27 lX6_108 vX6_in (t_X6_in ⟨by omega, by omega⟩ ⟨by omega, by omega⟩ ⟨by omega, by omega⟩) rfl rfl rfl ⟨by decide, by decide⟩ (Nat.le_of_ble_eq_true rfl) ?_
    refine aw_if_eq C dX6_shifts_30 (tgt := 47) (by decide) ⟨by omega, by omega⟩ (fun c2 => ?_) (fun c2 => ?_)
    · have qe : qSh V d x y = (0, 2) := (if_neg (by omega) : qSh V d x y = _).trans (if_pos (by omega))
      --go
      refine aw_aload_n C dX6_shifts_47 rfl ?_
      refine aw_iconst C dX6_shifts_48 ?_
      refine aw_call1 C dX6_shifts_49 lX6_398 vX6_done (t_X6_done ⟨by omega, by omega⟩) rfl rfl rfl ⟨rfl, by decide⟩ rfl ⟨by decide, by decide⟩ (Nat.le_of_ble_eq_true rfl) ?_
      exact aw_zret C E dX6_shifts_52 rfl (by omega) (by rw [qe]; exact ⟨rfl, mAct_n S1 t0 fr1 (by decide)⟩)
    · refine aw_iload_n C dX6_shifts_33 rfl ?_
      refine aw_i2l C dX6_shifts_34 ⟨by omega, by omega⟩ ?_
      refine aw_ldc2 C dX6_shifts_35 kX6_391 (z := -20) (by decide +kernel) ?_
      refine aw_ldc2 C dX6_shifts_38 kX6_393 (z := 20) (by decide +kernel) ?_
      refine aw_callS1 C dX6_shifts_41 lX6_108 vX6_in (t_X6_in ⟨by omega, by omega⟩ ⟨by omega, by omega⟩ ⟨by omega, by omega⟩) rfl rfl rfl ⟨by decide, by decide⟩ (Nat.le_of_ble_eq_true rfl) ?_
      refine aw_if_ne C dX6_shifts_44 (tgt := 53) (by decide) ⟨by omega, by omega⟩ (fun c3 => ?_) (fun c3 => ?_)
      · refine aw_iconst C dX6_shifts_53 ?_
        refine aw_istore C dX6_shifts_54 (by decide) ?_
        exact loop (by omega) (by omega) (by omega) (by omega) m1 S1 t0 fr1 V.1.toNat 0 _ (by omega) (by omega) frc.rf (fun j j0 j1 => by omega)
      · have qe : qSh V d x y = (0, 2) := (if_neg (by omega) : qSh V d x y = _).trans (if_pos (by omega))
        --go
        refine aw_aload_n C dX6_shifts_47 rfl ?_
        refine aw_iconst C dX6_shifts_48 ?_
        refine aw_call1 C dX6_shifts_49 lX6_398 vX6_done (t_X6_done ⟨by omega, by omega⟩) rfl rfl rfl ⟨rfl, by decide⟩ rfl ⟨by decide, by decide⟩ (Nat.le_of_ble_eq_true rfl) ?_
        exact aw_zret C E dX6_shifts_52 rfl (by omega) (by rw [qe]; exact ⟨rfl, mAct_n S1 t0 fr1 (by decide)⟩)
  · have qe : qSh V d x y = (0, 1) := if_pos (by omega)
    --go
    refine aw_aload_n C dX6_shifts_13 rfl ?_
    refine aw_iconst C dX6_shifts_14 ?_
    refine aw_call1 C dX6_shifts_15 lX6_398 vX6_done (t_X6_done ⟨by omega, by omega⟩) rfl rfl rfl ⟨rfl, by decide⟩ rfl ⟨by decide, by decide⟩ (Nat.le_of_ble_eq_true rfl) ?_
    exact aw_zret C E dX6_shifts_18 rfl (by omega) (by rw [qe]; exact ⟨rfl, mAct_n S1 t0 fr1 (by decide)⟩)

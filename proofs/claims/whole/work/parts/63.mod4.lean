theorem alk_m (a b c d y0 y1 : Int) : (a - c) * y1 - (b - d) * y0 = (d * y0 - c * y1) - (b * y0 - a * y1) := by
  simp only [Int.sub_mul]
  omega
theorem alk_n (a b c d x0 x1 : Int) : (b - d) * x0 - (a - c) * x1 = (c * x1 - d * x0) - (a * x1 - b * x0) := by
  simp only [Int.sub_mul]
  omega
theorem t_X6_areAlike {mu : Mem} {V : FV} {d e : Int} (eV : mv mu = V) (hV : bV V) (hcl : clo V) (h2 : 0 ≤ d) (h3 : d < V.2.1) (h4 : 0 ≤ e) (h5 : e < V.2.1) : TrE 3 mX6_areAlike [vr 55, vi d, vi e] mu (some (vi (b01 (dfw V d e)))) mu := by
  refine Tr.of (by decide +kernel) (Nat.le_of_ble_eq_true rfl) (fun K C E => ?_)
  have hn := hV.1
  have hn3 := hcl.1
  have e1 := mv1 eV
  have ht := hV.trn 0
  have ht2 := hcl.2 0 (by omega) (by omega)
  obtain ⟨a1, a2⟩ := nxt_in (V := V) (i := 0) (by omega) (by omega)
  have p1 := hV.pa d 0
  have p2 := hV.pa e 0
  have p3 := hV.pu d 0
  have p4 := hV.pu e 0
  have bx0 := hV.x 0
  have by0 := hV.y 0
  have bx1 := hV.x (nxt V 0)
  have by1 := hV.y (nxt V 0)
  rw [← mxV eV (i := 0) (by omega) (by omega)] at bx0
  rw [← myV eV (i := 0) (by omega) (by omega)] at by0
  rw [← mxV eV a1 a2] at bx1
  rw [← myV eV a1 a2] at by1
  obtain ⟨m, hm⟩ : ∃ m, m = pcA V e 0 - pcA V d 0 := ⟨_, rfl⟩
  obtain ⟨n, hnn⟩ : ∃ n, n = pcU V e 0 - pcU V d 0 := ⟨_, rfl⟩
  have hm1 : (gn V d 0 - gn V e 0) * mu 65 (nxt V 0).toNat - (gn V d (nxt V 0) - gn V e (nxt V 0)) * mu 65 (0 : Int).toNat = m := by
    rw [hm, myV eV a1 a2, myV eV (i := 0) (by omega) (by omega)]
    exact alk_m _ _ _ _ _ _
  have hn1 : (gn V d (nxt V 0) - gn V e (nxt V 0)) * mu 64 (0 : Int).toNat - (gn V d 0 - gn V e 0) * mu 64 (nxt V 0).toNat = n := by
    rw [hnn, mxV eV a1 a2, mxV eV (i := 0) (by omega) (by omega)]
    exact alk_n _ _ _ _ _ _
  have t1 := tmod_b m (trn V 0)
  have t2 := tmod_b n (trn V 0)
  have q1 : -480000 ≤ m.tdiv (trn V 0) ∧ m.tdiv (trn V 0) ≤ 480000 := by
    have := Int.natAbs_tdiv_le_natAbs m (trn V 0)
    omega
  have q2 : -480000 ≤ n.tdiv (trn V 0) ∧ n.tdiv (trn V 0) ≤ 480000 := by
    have := Int.natAbs_tdiv_le_natAbs n (trn V 0)
    omega
  have hD : dfw V d e ↔ ((m.tmod (trn V 0) = 0 ∧ n.tmod (trn V 0) = 0) ∧ ∀ i : Int, 0 ≤ i → i < V.1 → gn V d i - gn V e i = m.tdiv (trn V 0) * gx V i + n.tdiv (trn V 0) * gy V i) := by rw [hm, hnn, tm0, tm0]; exact Iff.rfl
  rw [b01_congr hD] at E
  have loop : ∀ (v3 v4 v6 : Vv) (k : Nat) (i : Int), 0 ≤ i → i + k = V.1 → m.tmod (trn V 0) = 0 → n.tmod (trn V 0) = 0 → (∀ j : Int, 0 ≤ j → j < i → gn V d j - gn V e j = m.tdiv (trn V 0) * gx V j + n.tdiv (trn V 0) * gy V j) → AW K mX6_areAlike (NC, 0, 0) 137 [vr 55, vi d, vi e, v3, v4, vx, v6, vx, vl (m.tdiv (trn V 0)), vx, vl (n.tdiv (trn V 0)), vx, vi i] [] mu := by
    intro v3 v4 v6 k
    induction k with
    | zero =>
      intro i h0 h1 z1 z2 z3
      rw [b01_t ⟨⟨z1, z2⟩, fun j b1 b2 => z3 j b1 (by omega)⟩] at E
      refine aw_iload C dX6_areAlike_137 rfl ?_
      refine aw_aload_n C dX6_areAlike_139 rfl ?_
      refine aw_getI C dX6_areAlike_140 fX6_255 ⟨rfl, by decide⟩ rfl ?_
      refine aw_icmp_ge C dX6_areAlike_143 (tgt := 196) (by decide) ⟨by omega, by omega⟩ ⟨by omega, by omega⟩ (fun c1 => ?_) (fun c1 => ?_)
      · refine aw_iconst C dX6_areAlike_196 ?_
        exact aw_zret C E dX6_areAlike_197 rfl (by omega) ⟨rfl, rfl⟩
      · exfalso; omega
    | succ k ih =>
      intro i h0 h1 z1 z2 z3
      have n1 := hV.g d i
      have n2 := hV.g e i
      have x1 := hV.x i
      have y1 := hV.y i
      have b1 := mulb q1 x1
      have b2 := mulb q2 y1
      have fx := mxV eV h0 (show i < V.1 by omega)
      have fy := myV eV h0 (show i < V.1 by omega)
      refine aw_iload C dX6_areAlike_137 rfl ?_
      refine aw_aload_n C dX6_areAlike_139 rfl ?_
      refine aw_getI C dX6_areAlike_140 fX6_255 ⟨rfl, by decide⟩ rfl ?_
      refine aw_icmp_ge C dX6_areAlike_143 (tgt := 196) (by decide) ⟨by omega, by omega⟩ ⟨by omega, by omega⟩ (fun c1 => ?_) (fun c1 => ?_)
      · exfalso; omega
      · refine aw_aload_n C dX6_areAlike_146 rfl ?_
        refine aw_iload_n C dX6_areAlike_147 rfl ?_
        refine aw_iload C dX6_areAlike_148 rfl ?_
        refine aw_call1 C dX6_areAlike_150 lX6_331 vX6_numberOf (t_X6_numberOf eV hV (by omega) (by omega) (by omega) (by omega)) rfl rfl rfl ⟨rfl, by decide⟩ rfl ⟨by decide, by decide⟩ (Nat.le_of_ble_eq_true rfl) ?_
        refine aw_aload_n C dX6_areAlike_153 rfl ?_
        refine aw_iload_n C dX6_areAlike_154 rfl ?_
        refine aw_iload C dX6_areAlike_155 rfl ?_
        refine aw_call1 C dX6_areAlike_157 lX6_331 vX6_numberOf (t_X6_numberOf eV hV (by omega) (by omega) (by omega) (by omega)) rfl rfl rfl ⟨rfl, by decide⟩ rfl ⟨by decide, by decide⟩ (Nat.le_of_ble_eq_true rfl) ?_
        refine aw_lsub C dX6_areAlike_160 ?_
        refine aw_lload C dX6_areAlike_161 rfl ?_
        refine aw_aload_n C dX6_areAlike_163 rfl ?_
        refine aw_getS C dX6_areAlike_164 fX6_41 ⟨rfl, by decide⟩ rfl rfl (srf 55 23 64 (by decide)) ?_
        refine aw_iload C dX6_areAlike_167 rfl ?_
        refine aw_iald C dX6_areAlike_169 ⟨rfl, by decide⟩ (by decide) (by omega) (by omega) ?_
        rw [fx]
        refine aw_i2l C dX6_areAlike_170 ⟨by omega, by omega⟩ ?_
        refine aw_lmul C dX6_areAlike_171 ?_
        refine aw_lload C dX6_areAlike_172 rfl ?_
        refine aw_aload_n C dX6_areAlike_174 rfl ?_
        refine aw_getS C dX6_areAlike_175 fX6_44 ⟨rfl, by decide⟩ rfl rfl (srf 55 24 65 (by decide)) ?_
        refine aw_iload C dX6_areAlike_178 rfl ?_
        refine aw_iald C dX6_areAlike_180 ⟨rfl, by decide⟩ (by decide) (by omega) (by omega) ?_
        rw [fy]
        refine aw_i2l C dX6_areAlike_181 ⟨by omega, by omega⟩ ?_
        refine aw_lmul C dX6_areAlike_182 ?_
        refine aw_ladd C dX6_areAlike_183 ?_
        refine aw_lcmp_eq C dX6_areAlike_184 dX6_areAlike_185 (tgt := 190) (by decide) ⟨by omega, by omega⟩ ⟨by omega, by omega⟩ (fun c2 => ?_) (fun c2 => ?_)
        · refine aw_iinc C dX6_areAlike_190 rfl ?_
          refine aw_goto C dX6_areAlike_193 (tgt := 137) (by decide) ?_
          refine ih (i + 1) (by omega) (by omega) z1 z2 (fun j b1 b2 => ?_)
          rcases Int.lt_or_eq_of_le (show j ≤ i by omega) with q | q
          · exact z3 j b1 q
          · subst q; exact c2
        · refine aw_iconst C dX6_areAlike_188 ?_
          exact aw_zret C E dX6_areAlike_189 rfl (by omega) ⟨by rw [b01_f (fun q => c2 (q.2 i h0 (by omega)))], rfl⟩
  refine aw_aload_n C dX6_areAlike_0 rfl ?_
  refine aw_iconst C dX6_areAlike_1 ?_
  refine aw_call1 C dX6_areAlike_2 lX6_282 vX6_next (t_X6_next eV hV (by omega) (by omega)) rfl rfl rfl ⟨rfl, by decide⟩ rfl ⟨by decide, by decide⟩ (Nat.le_of_ble_eq_true rfl) ?_
  refine aw_istore_n C dX6_areAlike_5 (by decide) ?_
  refine aw_aload_n C dX6_areAlike_6 rfl ?_
  refine aw_iload_n C dX6_areAlike_7 rfl ?_
  refine aw_iconst C dX6_areAlike_8 ?_
  refine aw_call1 C dX6_areAlike_9 lX6_331 vX6_numberOf (t_X6_numberOf eV hV (by omega) (by omega) (by omega) (by omega)) rfl rfl rfl ⟨rfl, by decide⟩ rfl ⟨by decide, by decide⟩ (Nat.le_of_ble_eq_true rfl) ?_
  refine aw_aload_n C dX6_areAlike_12 rfl ?_
  refine aw_iload_n C dX6_areAlike_13 rfl ?_
  refine aw_iconst C dX6_areAlike_14 ?_
  refine aw_call1 C dX6_areAlike_15 lX6_331 vX6_numberOf (t_X6_numberOf eV hV (by omega) (by omega) (by omega) (by omega)) rfl rfl rfl ⟨rfl, by decide⟩ rfl ⟨by decide, by decide⟩ (Nat.le_of_ble_eq_true rfl) ?_
  refine aw_lsub C dX6_areAlike_18 ?_
  refine aw_lstore C dX6_areAlike_19 (by decide) ?_
  refine aw_aload_n C dX6_areAlike_21 rfl ?_
  refine aw_iload_n C dX6_areAlike_22 rfl ?_
  refine aw_iload_n C dX6_areAlike_23 rfl ?_
  refine aw_call1 C dX6_areAlike_24 lX6_331 vX6_numberOf (t_X6_numberOf eV hV (by omega) (by omega) (by omega) (by omega)) rfl rfl rfl ⟨rfl, by decide⟩ rfl ⟨by decide, by decide⟩ (Nat.le_of_ble_eq_true rfl) ?_
  refine aw_aload_n C dX6_areAlike_27 rfl ?_
  refine aw_iload_n C dX6_areAlike_28 rfl ?_
  refine aw_iload_n C dX6_areAlike_29 rfl ?_
  refine aw_call1 C dX6_areAlike_30 lX6_331 vX6_numberOf (t_X6_numberOf eV hV (by omega) (by omega) (by omega) (by omega)) rfl rfl rfl ⟨rfl, by decide⟩ rfl ⟨by decide, by decide⟩ (Nat.le_of_ble_eq_true rfl) ?_
  refine aw_lsub C dX6_areAlike_33 ?_
  refine aw_lstore C dX6_areAlike_34 (by decide) ?_
  refine aw_lload C dX6_areAlike_36 rfl ?_
  refine aw_aload_n C dX6_areAlike_38 rfl ?_
  refine aw_getS C dX6_areAlike_39 fX6_44 ⟨rfl, by decide⟩ rfl rfl (srf 55 24 65 (by decide)) ?_
  refine aw_iload_n C dX6_areAlike_42 rfl ?_
  refine aw_iald C dX6_areAlike_43 ⟨rfl, by decide⟩ (by decide) (by omega) (by omega) ?_
  refine aw_i2l C dX6_areAlike_44 ⟨by omega, by omega⟩ ?_
  refine aw_lmul C dX6_areAlike_45 ?_
  refine aw_lload C dX6_areAlike_46 rfl ?_
  refine aw_aload_n C dX6_areAlike_48 rfl ?_
  refine aw_getS C dX6_areAlike_49 fX6_44 ⟨rfl, by decide⟩ rfl rfl (srf 55 24 65 (by decide)) ?_
  refine aw_iconst C dX6_areAlike_52 ?_
  refine aw_iald C dX6_areAlike_53 ⟨rfl, by decide⟩ (by decide) (by omega) (by omega) ?_
  refine aw_i2l C dX6_areAlike_54 ⟨by omega, by omega⟩ ?_
  refine aw_lmul C dX6_areAlike_55 ?_
  refine aw_lsub C dX6_areAlike_56 ?_
  rw [hm1]
  refine aw_lstore C dX6_areAlike_57 (by decide) ?_
  refine aw_lload C dX6_areAlike_59 rfl ?_
  refine aw_aload_n C dX6_areAlike_61 rfl ?_
  refine aw_getS C dX6_areAlike_62 fX6_41 ⟨rfl, by decide⟩ rfl rfl (srf 55 23 64 (by decide)) ?_
  refine aw_iconst C dX6_areAlike_65 ?_
  refine aw_iald C dX6_areAlike_66 ⟨rfl, by decide⟩ (by decide) (by omega) (by omega) ?_
  refine aw_i2l C dX6_areAlike_67 ⟨by omega, by omega⟩ ?_
  refine aw_lmul C dX6_areAlike_68 ?_
  refine aw_lload C dX6_areAlike_69 rfl ?_
  refine aw_aload_n C dX6_areAlike_71 rfl ?_
  refine aw_getS C dX6_areAlike_72 fX6_41 ⟨rfl, by decide⟩ rfl rfl (srf 55 23 64 (by decide)) ?_
  refine aw_iload_n C dX6_areAlike_75 rfl ?_
  refine aw_iald C dX6_areAlike_76 ⟨rfl, by decide⟩ (by decide) (by omega) (by omega) ?_
  refine aw_i2l C dX6_areAlike_77 ⟨by omega, by omega⟩ ?_
  refine aw_lmul C dX6_areAlike_78 ?_
  refine aw_lsub C dX6_areAlike_79 ?_
  rw [hn1]
  refine aw_lstore C dX6_areAlike_80 (by decide) ?_
  refine aw_lload C dX6_areAlike_82 rfl ?_
  refine aw_aload_n C dX6_areAlike_84 rfl ?_
  refine aw_iconst C dX6_areAlike_85 ?_
  refine aw_call1 C dX6_areAlike_86 lX6_288 vX6_turn (t_X6_turn eV hV (by omega) (by omega)) rfl rfl rfl ⟨rfl, by decide⟩ rfl ⟨by decide, by decide⟩ (Nat.le_of_ble_eq_true rfl) ?_
  refine aw_i2l C dX6_areAlike_89 ⟨by omega, by omega⟩ ?_
  refine aw_lrem C dX6_areAlike_90 ⟨by omega, by omega⟩ ⟨by omega, by omega⟩ (by omega) ?_
  refine aw_lconst C dX6_areAlike_91 (v := 0) rfl ?_
  refine aw_lcmp_ne C dX6_areAlike_92 dX6_areAlike_93 (tgt := 110) (by decide) ⟨by omega, by omega⟩ ⟨by omega, by omega⟩ (fun c1 => ?_) (fun c1 => ?_)
  · have hr : ¬ (m.tmod (trn V 0) = 0 ∧ n.tmod (trn V 0) = 0) := fun q => c1 q.1
    --go
    refine aw_iconst C dX6_areAlike_110 ?_
    exact aw_zret C E dX6_areAlike_111 rfl (by omega) ⟨by rw [b01_f (fun q => hr q.1)], rfl⟩
  · refine aw_lload C dX6_areAlike_96 rfl ?_
    refine aw_aload_n C dX6_areAlike_98 rfl ?_
    refine aw_iconst C dX6_areAlike_99 ?_
    refine aw_call1 C dX6_areAlike_100 lX6_288 vX6_turn (t_X6_turn eV hV (by omega) (by omega)) rfl rfl rfl ⟨rfl, by decide⟩ rfl ⟨by decide, by decide⟩ (Nat.le_of_ble_eq_true rfl) ?_
    refine aw_i2l C dX6_areAlike_103 ⟨by omega, by omega⟩ ?_
    refine aw_lrem C dX6_areAlike_104 ⟨by omega, by omega⟩ ⟨by omega, by omega⟩ (by omega) ?_
    refine aw_lconst C dX6_areAlike_105 (v := 0) rfl ?_
    refine aw_lcmp_eq C dX6_areAlike_106 dX6_areAlike_107 (tgt := 112) (by decide) ⟨by omega, by omega⟩ ⟨by omega, by omega⟩ (fun c2 => ?_) (fun c2 => ?_)
    · refine aw_lload C dX6_areAlike_112 rfl ?_
      refine aw_aload_n C dX6_areAlike_114 rfl ?_
      refine aw_iconst C dX6_areAlike_115 ?_
      refine aw_call1 C dX6_areAlike_116 lX6_288 vX6_turn (t_X6_turn eV hV (by omega) (by omega)) rfl rfl rfl ⟨rfl, by decide⟩ rfl ⟨by decide, by decide⟩ (Nat.le_of_ble_eq_true rfl) ?_
      refine aw_i2l C dX6_areAlike_119 ⟨by omega, by omega⟩ ?_
      refine aw_ldiv C dX6_areAlike_120 ⟨by omega, by omega⟩ ⟨by omega, by omega⟩ (by omega) ?_
      refine aw_lstore C dX6_areAlike_121 (by decide) ?_
      refine aw_lload C dX6_areAlike_123 rfl ?_
      refine aw_aload_n C dX6_areAlike_125 rfl ?_
      refine aw_iconst C dX6_areAlike_126 ?_
      refine aw_call1 C dX6_areAlike_127 lX6_288 vX6_turn (t_X6_turn eV hV (by omega) (by omega)) rfl rfl rfl ⟨rfl, by decide⟩ rfl ⟨by decide, by decide⟩ (Nat.le_of_ble_eq_true rfl) ?_
      refine aw_i2l C dX6_areAlike_130 ⟨by omega, by omega⟩ ?_
      refine aw_ldiv C dX6_areAlike_131 ⟨by omega, by omega⟩ ⟨by omega, by omega⟩ (by omega) ?_
      refine aw_lstore C dX6_areAlike_132 (by decide) ?_
      refine aw_iconst C dX6_areAlike_134 ?_
      refine aw_istore C dX6_areAlike_135 (by decide) ?_
      exact loop _ _ _ V.1.toNat 0 (by omega) (by omega) c1 c2 (fun j b1 b2 => by omega)
    · have hr : ¬ (m.tmod (trn V 0) = 0 ∧ n.tmod (trn V 0) = 0) := fun q => c2 q.2
      --go
      refine aw_iconst C dX6_areAlike_110 ?_
      exact aw_zret C E dX6_areAlike_111 rfl (by omega) ⟨by rw [b01_f (fun q => hr q.1)], rfl⟩
theorem t_X6_alike {mu : Mem} {V : FV} {d e : Int} (h : mF mu V) (hd : R32 d) (he : R32 e) : TrE 4 mX6_alike [vr 55, vi d, vi e] mu (some (vi (qAl V d e).1)) (gd (wr mu 55 0 0) (qAl V d e).2) := by
  refine Tr.of (by decide +kernel) (Nat.le_of_ble_eq_true rfl) (fun K C E => ?_)
  have k1 := b01_01 (0 ≤ d ∧ d < V.2.1)
  have k1i : b01 (0 ≤ d ∧ d < V.2.1) = 1 ↔ (0 ≤ d ∧ d < V.2.1) := b01_iff
  have k2 := b01_01 (0 ≤ e ∧ e < V.2.1)
  have k2i : b01 (0 ≤ e ∧ e < V.2.1) = 1 ↔ (0 ≤ e ∧ e < V.2.1) := b01_iff
  have k4 := b01_01 (dfw V d e)
  refine aw_aload_n C dX6_alike_0 rfl ?_
  refine aw_iconst C dX6_alike_1 ?_
  refine aw_putI C dX6_alike_2 fX6_77 ⟨rfl, by decide⟩ rfl rfl rfl ?_
  have hm := h.t
  generalize wr mu 55 0 0 = m1 at *
  have eV := hm.1
  have hV := hm.2.1.1
  have hn := hV.1
  have hl := hV.2.1
  have e1 := mv1 eV
  have e2 := mv2 eV
  have h3 := hm.2.2
  refine aw_aload_n C dX6_alike_5 rfl ?_
  refine aw_iload_n C dX6_alike_6 rfl ?_
  refine aw_call1 C dX6_alike_7 lX6_328 vX6_isLoad (t_X6_isLoad hm (by assumption)) rfl rfl rfl ⟨rfl, by decide⟩ rfl ⟨by decide, by decide⟩ (Nat.le_of_ble_eq_true rfl) ?_
  refine aw_if_eq C dX6_alike_10 (tgt := 42) (by decide) ⟨by omega, by omega⟩ (fun c1 => ?_) (fun c1 => ?_)
  · have qe : qAl V d e = (-1, 1) := if_neg (fun z => by omega)
    --go
    refine aw_aload_n C dX6_alike_42 rfl ?_
    refine aw_iconst C dX6_alike_43 ?_
    refine aw_call1 C dX6_alike_44 lX6_267 vX6_refused (t_X6_refused) rfl rfl rfl ⟨rfl, by decide⟩ rfl ⟨by decide, by decide⟩ (Nat.le_of_ble_eq_true rfl) ?_
    exact aw_iret C E dX6_alike_47 rfl (by rw [qe]; exact ⟨rfl, rfl⟩)
  · refine aw_aload_n C dX6_alike_13 rfl ?_
    refine aw_iload_n C dX6_alike_14 rfl ?_
    refine aw_call1 C dX6_alike_15 lX6_328 vX6_isLoad (t_X6_isLoad hm (by assumption)) rfl rfl rfl ⟨rfl, by decide⟩ rfl ⟨by decide, by decide⟩ (Nat.le_of_ble_eq_true rfl) ?_
    refine aw_if_eq C dX6_alike_18 (tgt := 42) (by decide) ⟨by omega, by omega⟩ (fun c2 => ?_) (fun c2 => ?_)
    · have qe : qAl V d e = (-1, 1) := if_neg (fun z => by omega)
      --go
      refine aw_aload_n C dX6_alike_42 rfl ?_
      refine aw_iconst C dX6_alike_43 ?_
      refine aw_call1 C dX6_alike_44 lX6_267 vX6_refused (t_X6_refused) rfl rfl rfl ⟨rfl, by decide⟩ rfl ⟨by decide, by decide⟩ (Nat.le_of_ble_eq_true rfl) ?_
      exact aw_iret C E dX6_alike_47 rfl (by rw [qe]; exact ⟨rfl, rfl⟩)
    · have cl := hm.2.1.cl (by omega)
      have hcl := cl.1
      have hpr := cl.2
      have qe : qAl V d e = (b01 (dfw V d e), 0) := if_pos ⟨by omega, by omega⟩
      --go
      refine aw_aload_n C dX6_alike_21 rfl ?_
      refine aw_aload_n C dX6_alike_22 rfl ?_
      refine aw_iload_n C dX6_alike_23 rfl ?_
      refine aw_iload_n C dX6_alike_24 rfl ?_
      refine aw_call1 C dX6_alike_25 lX6_350 vX6_areAlike (t_X6_areAlike eV hV hcl (by omega) (by omega) (by omega) (by omega)) rfl rfl rfl ⟨rfl, by decide⟩ rfl ⟨by decide, by decide⟩ (Nat.le_of_ble_eq_true rfl) ?_
      refine aw_if_eq C dX6_alike_28 (tgt := 35) (by decide) ⟨by omega, by omega⟩ (fun c3 => ?_) (fun c3 => ?_)
      · rw [show b01 (dfw V d e) = 0 by omega] at qe
        --go
        refine aw_iconst C dX6_alike_35 ?_
        refine aw_call1 C dX6_alike_36 lX6_270 vX6_good (t_X6_good) rfl rfl rfl ⟨rfl, by decide⟩ rfl ⟨by decide, by decide⟩ (Nat.le_of_ble_eq_true rfl) ?_
        refine aw_goto C dX6_alike_39 (tgt := 47) (by decide) ?_
        exact aw_iret C E dX6_alike_47 rfl (by rw [qe]; exact ⟨rfl, rfl⟩)
      · rw [show b01 (dfw V d e) = 1 by omega] at qe
        --go
        refine aw_iconst C dX6_alike_31 ?_
        refine aw_goto C dX6_alike_32 (tgt := 36) (by decide) ?_
        refine aw_call1 C dX6_alike_36 lX6_270 vX6_good (t_X6_good) rfl rfl rfl ⟨rfl, by decide⟩ rfl ⟨by decide, by decide⟩ (Nat.le_of_ble_eq_true rfl) ?_
        refine aw_goto C dX6_alike_39 (tgt := 47) (by decide) ?_
        exact aw_iret C E dX6_alike_47 rfl (by rw [qe]; exact ⟨rfl, rfl⟩)
theorem t_X6_itself {mu : Mem} {V : FV} {i ms : Int} (eV : mv mu = V) (hV : bV V) (hcl : clo V) (h0 : 0 ≤ i) (h1 : i < V.1) (hms : -1000000 ≤ ms ∧ ms ≤ 1000000) : TrE 3 mX6_itself [vr 55, vi i, vl ms] mu (some (vl (rmS V i i ms))) mu := by
  refine Tr.of (by decide +kernel) (Nat.le_of_ble_eq_true rfl) (fun K C E => ?_)
  have hn := hV.1
  obtain ⟨a1, a2⟩ := nxt_in h0 h1
  obtain ⟨a3, a4⟩ := prv_in h0 h1
  have t1 := hV.trn i
  have t2 := hV.trn (prv V i)
  have t3 : -7200 ≤ crs V (prv V i) (nxt V i) ∧ crs V (prv V i) (nxt V i) ≤ 7200 := hV.arn i
  have p1 := hcl.2 i h0 h1
  have p2 := hcl.2 _ a3 a4
  have m1 := mulb hms t3
  have m2 := mulb t2 t1
  have m3 := Int.mul_pos p2 p1
  unfold rmS at E
  rw [if_pos rfl, Int.mul_comm (arn V i) ms] at E
  unfold arn at E
  refine aw_aload_n C dX6_itself_0 rfl ?_
  refine aw_aload_n C dX6_itself_1 rfl ?_
  refine aw_iload_n C dX6_itself_2 rfl ?_
  refine aw_call1 C dX6_itself_3 lX6_293 vX6_last (t_X6_last eV hV (by omega) (by omega)) rfl rfl rfl ⟨rfl, by decide⟩ rfl ⟨by decide, by decide⟩ (Nat.le_of_ble_eq_true rfl) ?_
  refine aw_call1 C dX6_itself_6 lX6_288 vX6_turn (t_X6_turn eV hV (by omega) (by omega)) rfl rfl rfl ⟨rfl, by decide⟩ rfl ⟨by decide, by decide⟩ (Nat.le_of_ble_eq_true rfl) ?_
  refine aw_i2l C dX6_itself_9 ⟨by omega, by omega⟩ ?_
  refine aw_aload_n C dX6_itself_10 rfl ?_
  refine aw_iload_n C dX6_itself_11 rfl ?_
  refine aw_call1 C dX6_itself_12 lX6_288 vX6_turn (t_X6_turn eV hV (by omega) (by omega)) rfl rfl rfl ⟨rfl, by decide⟩ rfl ⟨by decide, by decide⟩ (Nat.le_of_ble_eq_true rfl) ?_
  refine aw_i2l C dX6_itself_15 ⟨by omega, by omega⟩ ?_
  refine aw_lmul C dX6_itself_16 ?_
  refine aw_lstore C dX6_itself_17 (by decide) ?_
  refine aw_lload_n C dX6_itself_19 rfl ?_
  refine aw_aload_n C dX6_itself_20 rfl ?_
  refine aw_aload_n C dX6_itself_21 rfl ?_
  refine aw_iload_n C dX6_itself_22 rfl ?_
  refine aw_call1 C dX6_itself_23 lX6_293 vX6_last (t_X6_last eV hV (by omega) (by omega)) rfl rfl rfl ⟨rfl, by decide⟩ rfl ⟨by decide, by decide⟩ (Nat.le_of_ble_eq_true rfl) ?_
  refine aw_aload_n C dX6_itself_26 rfl ?_
  refine aw_iload_n C dX6_itself_27 rfl ?_
  refine aw_call1 C dX6_itself_28 lX6_282 vX6_next (t_X6_next eV hV (by omega) (by omega)) rfl rfl rfl ⟨rfl, by decide⟩ rfl ⟨by decide, by decide⟩ (Nat.le_of_ble_eq_true rfl) ?_
  refine aw_call1 C dX6_itself_31 lX6_285 vX6_crossOf (t_X6_crossOf eV hV (by omega) (by omega) (by omega) (by omega)) rfl rfl rfl ⟨rfl, by decide⟩ rfl ⟨by decide, by decide⟩ (Nat.le_of_ble_eq_true rfl) ?_
  refine aw_i2l C dX6_itself_34 ⟨by omega, by omega⟩ ?_
  refine aw_lmul C dX6_itself_35 ?_
  refine aw_lload C dX6_itself_36 rfl ?_
  refine aw_ldiv C dX6_itself_38 ⟨by omega, by omega⟩ ⟨by omega, by omega⟩ (by omega) ?_
  refine aw_lneg C dX6_itself_39 ?_
  exact aw_lret C E dX6_itself_40 rfl ⟨rfl, rfl⟩
theorem t_X6_raysMeet {mu : Mem} {V : FV} {i j ms : Int} (eV : mv mu = V) (hV : bV V) (hcl : clo V) (h0 : 0 ≤ i) (h1 : i < V.1) (h2 : 0 ≤ j) (h3 : j < V.1) (hms : -1000000 ≤ ms ∧ ms ≤ 1000000) : TrE 4 mX6_raysMeet [vr 55, vi i, vi j, vl ms] mu (some (vl (rmS V i j ms))) mu := by
  refine Tr.of (by decide +kernel) (Nat.le_of_ble_eq_true rfl) (fun K C E => ?_)
  have hn := hV.1
  obtain ⟨a1, a2⟩ := nxt_in h0 h1
  obtain ⟨a3, a4⟩ := nxt_in h2 h3
  have t1 := hV.trn i
  have t2 := hV.trn j
  have p1 := hcl.2 i h0 h1
  have p2 := hcl.2 j h2 h3
  refine aw_iload_n C dX6_raysMeet_0 rfl ?_
  refine aw_iload_n C dX6_raysMeet_1 rfl ?_
  refine aw_icmp_ne C dX6_raysMeet_2 (tgt := 12) (by decide) ⟨by omega, by omega⟩ ⟨by omega, by omega⟩ (fun c1 => ?_) (fun c1 => ?_)
  · unfold rmS at E
    rw [if_neg c1] at E
    --go
    refine aw_aload_n C dX6_raysMeet_12 rfl ?_
    refine aw_iload_n C dX6_raysMeet_13 rfl ?_
    refine aw_call1 C dX6_raysMeet_14 lX6_282 vX6_next (t_X6_next eV hV (by omega) (by omega)) rfl rfl rfl ⟨rfl, by decide⟩ rfl ⟨by decide, by decide⟩ (Nat.le_of_ble_eq_true rfl) ?_
    refine aw_iload_n C dX6_raysMeet_17 rfl ?_
    refine aw_icmp_ne C dX6_raysMeet_18 (tgt := 32) (by decide) ⟨by omega, by omega⟩ ⟨by omega, by omega⟩ (fun c2 => ?_) (fun c2 => ?_)
    · rw [if_neg c2] at E
      --go
      refine aw_aload_n C dX6_raysMeet_32 rfl ?_
      refine aw_iload_n C dX6_raysMeet_33 rfl ?_
      refine aw_call1 C dX6_raysMeet_34 lX6_282 vX6_next (t_X6_next eV hV (by omega) (by omega)) rfl rfl rfl ⟨rfl, by decide⟩ rfl ⟨by decide, by decide⟩ (Nat.le_of_ble_eq_true rfl) ?_
      refine aw_iload_n C dX6_raysMeet_37 rfl ?_
      refine aw_icmp_ne C dX6_raysMeet_38 (tgt := 52) (by decide) ⟨by omega, by omega⟩ ⟨by omega, by omega⟩ (fun c3 => ?_) (fun c3 => ?_)
      · rw [if_neg c3] at E
        --go
        refine aw_lconst C dX6_raysMeet_52 (v := 0) rfl ?_
        exact aw_lret C E dX6_raysMeet_53 rfl ⟨rfl, rfl⟩
      · rw [if_pos c3] at E
        --go
        refine aw_lload_n C dX6_raysMeet_41 rfl ?_
        refine aw_aload_n C dX6_raysMeet_42 rfl ?_
        refine aw_iload_n C dX6_raysMeet_43 rfl ?_
        refine aw_call1 C dX6_raysMeet_44 lX6_288 vX6_turn (t_X6_turn eV hV (by omega) (by omega)) rfl rfl rfl ⟨rfl, by decide⟩ rfl ⟨by decide, by decide⟩ (Nat.le_of_ble_eq_true rfl) ?_
        refine aw_i2l C dX6_raysMeet_47 ⟨by omega, by omega⟩ ?_
        refine aw_ldiv C dX6_raysMeet_48 ⟨by omega, by omega⟩ ⟨by omega, by omega⟩ (by omega) ?_
        refine aw_goto C dX6_raysMeet_49 (tgt := 53) (by decide) ?_
        exact aw_lret C E dX6_raysMeet_53 rfl ⟨rfl, rfl⟩
    · rw [if_pos c2] at E
      --go
      refine aw_lload_n C dX6_raysMeet_21 rfl ?_
      refine aw_aload_n C dX6_raysMeet_22 rfl ?_
      refine aw_iload_n C dX6_raysMeet_23 rfl ?_
      refine aw_call1 C dX6_raysMeet_24 lX6_288 vX6_turn (t_X6_turn eV hV (by omega) (by omega)) rfl rfl rfl ⟨rfl, by decide⟩ rfl ⟨by decide, by decide⟩ (Nat.le_of_ble_eq_true rfl) ?_
      refine aw_i2l C dX6_raysMeet_27 ⟨by omega, by omega⟩ ?_
      refine aw_ldiv C dX6_raysMeet_28 ⟨by omega, by omega⟩ ⟨by omega, by omega⟩ (by omega) ?_
      refine aw_goto C dX6_raysMeet_29 (tgt := 53) (by decide) ?_
      exact aw_lret C E dX6_raysMeet_53 rfl ⟨rfl, rfl⟩
  · rw [← c1] at E
    --go
    refine aw_aload_n C dX6_raysMeet_5 rfl ?_
    refine aw_iload_n C dX6_raysMeet_6 rfl ?_
    refine aw_lload_n C dX6_raysMeet_7 rfl ?_
    refine aw_call1 C dX6_raysMeet_8 lX6_353 vX6_itself (t_X6_itself eV hV hcl h0 h1 hms) rfl rfl rfl ⟨rfl, by decide⟩ rfl ⟨by decide, by decide⟩ (Nat.le_of_ble_eq_true rfl) ?_
    exact aw_lret C E dX6_raysMeet_11 rfl ⟨rfl, rfl⟩
/-! three rays alone meet a ray -/
theorem sm_pick {h : Nat → Int} {p : Nat} : ∀ n : Nat, p < n → sm h n = h p + sm (fun j => if j = p then 0 else h j) n
  | 0, hp => by omega
  | n + 1, hp => by
    show sm h n + h n = h p + (sm (fun j => if j = p then 0 else h j) n + (if n = p then 0 else h n))
    by_cases e : n = p
    · rw [if_pos e, ← e]
      have := sm_congr (h := h) (g := fun j => if j = n then 0 else h j) n (fun j hj => by show h j = if j = n then 0 else h j; rw [if_neg (by omega)])
      omega
    · rw [if_neg e]
      have := sm_pick (h := h) n (show p < n by omega)
      omega
theorem fld_sm {h : Int → Int} : ∀ n : Nat, fld (fun a j => a + h j) 0 n = sm (fun j => h j) n
  | 0 => rfl
  | n + 1 => by
    show fld (fun a j => a + h j) 0 n + h n = sm (fun j => h j) n + h n
    rw [fld_sm n]
theorem sm_three {h : Nat → Int} {p q r n : Nat} (hp : p < n) (hq : q < n) (hr : r < n) (pq : p ≠ q) (pr : p ≠ r) (qr : q ≠ r) (hz : ∀ j, j < n → j ≠ p → j ≠ q → j ≠ r → h j = 0) : sm h n = h p + h q + h r := by
  rw [sm_pick n hp, sm_pick n hq, sm_pick n hr, sm_zero n]
  · show h p + ((if q = p then 0 else h q) + ((if r = q then 0 else if r = p then 0 else h r) + 0)) = _
    rw [if_neg (Ne.symm pq), if_neg (Ne.symm qr), if_neg (Ne.symm pr)]
    omega
  · intro j hj
    show (if j = r then 0 else if j = q then 0 else if j = p then 0 else h j) = 0
    split
    · rfl
    · split
      · rfl
      · split
        · rfl
        · exact hz j hj (by assumption) (by assumption) (by assumption)
theorem lmr_sum {V : FV} (h3 : 3 ≤ V.1) {d i ms : Int} (h0 : 0 ≤ i) (h1 : i < V.1) : fld (fun a j => a + gn V d j * rmS V j i ms) 0 V.1.toNat = lmr V d i ms := by
  have n1 := nxt_in h0 h1
  have n2 := prv_in h0 h1
  have e1 : nxt V i = if i + 1 ≥ V.1 then 0 else i + 1 := rfl
  have e2 : prv V i = if i ≤ 0 then V.1 - 1 else i - 1 := rfl
  have np : nxt V (prv V i) = i := nxt_prv h0 h1
  have ne1 : prv V i ≠ i := by rw [e2]; split <;> omega
  have ne2 : nxt V i ≠ i := by rw [e1]; split <;> omega
  have ne3 : prv V i ≠ nxt V i := by rw [e1, e2]; split <;> split <;> omega
  have ne4 : nxt V (nxt V i) ≠ i := by
    have : nxt V (nxt V i) = if nxt V i + 1 ≥ V.1 then 0 else nxt V i + 1 := rfl
    rw [this, e1]
    split <;> split <;> omega
  rw [fld_sm, sm_three (p := (prv V i).toNat) (q := i.toNat) (r := (nxt V i).toNat) (by omega) (by omega) (by omega) (by omega) (by omega) (by omega)]
  · rw [show ((prv V i).toNat : Int) = prv V i by omega, show (i.toNat : Int) = i by omega, show ((nxt V i).toNat : Int) = nxt V i by omega]
    unfold lmr
    have : rmS V (nxt V i) i ms = rmS V i (nxt V i) ms := by
      unfold rmS
      rw [if_neg ne2, if_neg ne4, if_pos rfl, if_neg (Ne.symm ne2), if_pos rfl]
    rw [this]
  · intro j hj z1 z2 z3
    have y1 : (j : Int) ≠ i := by omega
    have y2 : nxt V (j : Int) ≠ i := fun w => by
      have : nxt V (j : Int) = if (j : Int) + 1 ≥ V.1 then 0 else (j : Int) + 1 := rfl
      rw [this] at w
      rw [e2] at z1
      split at w <;> split at z1 <;> omega
    have y3 : nxt V i ≠ (j : Int) := by omega
    show gn V d j * rmS V j i ms = 0
    unfold rmS
    rw [if_neg y1, if_neg y2, if_neg y3, Int.mul_zero]
theorem t_X6_touchesBy {mu : Mem} {V : FV} {d i ms : Int} (eV : mv mu = V) (hV : bV V) (hcl : clo V) (h0 : 0 ≤ i) (h1 : i < V.1) (h2 : 0 ≤ d) (h3 : d < V.2.1) (hms : -1000000 ≤ ms ∧ ms ≤ 1000000) : TrE 5 mX6_touchesBy [vr 55, vi d, vi i, vl ms] mu (some (vl (lmr V d i ms))) mu := by
  refine Tr.of (by decide +kernel) (Nat.le_of_ble_eq_true rfl) (fun K C E => ?_)
  have hn := hV.1
  have e1 := mv1 eV
  rw [← lmr_sum hcl.1 h0 h1] at E
  have loop : ∀ (k : Nat) (j a : Int), 0 ≤ j → j + k = V.1 → a = fld (fun a j => a + gn V d j * rmS V j i ms) 0 j.toNat → AW K mX6_touchesBy (NC, 0, 0) 6 [vr 55, vi d, vi i, vl ms, vx, vl a, vx, vi j] [] mu := by
    intro k
    induction k with
    | zero =>
      intro j a q0 q1 q2
      have e : j = V.1 := by omega
      rw [e] at q2
      refine aw_iload C dX6_touchesBy_6 rfl ?_
      refine aw_aload_n C dX6_touchesBy_8 rfl ?_
      refine aw_getI C dX6_touchesBy_9 fX6_255 ⟨rfl, by decide⟩ rfl ?_
      refine aw_icmp_ge C dX6_touchesBy_12 (tgt := 42) (by decide) ⟨by omega, by omega⟩ ⟨by omega, by omega⟩ (fun c1 => ?_) (fun c1 => ?_)
      · refine aw_lload C dX6_touchesBy_42 rfl ?_
        exact aw_lret C E dX6_touchesBy_44 rfl ⟨by rw [q2], rfl⟩
      · exfalso; omega
    | succ k ih =>
      intro j a q0 q1 q2
      refine aw_iload C dX6_touchesBy_6 rfl ?_
      refine aw_aload_n C dX6_touchesBy_8 rfl ?_
      refine aw_getI C dX6_touchesBy_9 fX6_255 ⟨rfl, by decide⟩ rfl ?_
      refine aw_icmp_ge C dX6_touchesBy_12 (tgt := 42) (by decide) ⟨by omega, by omega⟩ ⟨by omega, by omega⟩ (fun c1 => ?_) (fun c1 => ?_)
      · exfalso; omega
      · refine aw_lload C dX6_touchesBy_15 rfl ?_
        refine aw_aload_n C dX6_touchesBy_17 rfl ?_
        refine aw_iload_n C dX6_touchesBy_18 rfl ?_
        refine aw_iload C dX6_touchesBy_19 rfl ?_
        refine aw_call1 C dX6_touchesBy_21 lX6_331 vX6_numberOf (t_X6_numberOf eV hV (by omega) (by omega) (by omega) (by omega)) rfl rfl rfl ⟨rfl, by decide⟩ rfl ⟨by decide, by decide⟩ (Nat.le_of_ble_eq_true rfl) ?_
        refine aw_aload_n C dX6_touchesBy_24 rfl ?_
        refine aw_iload C dX6_touchesBy_25 rfl ?_
        refine aw_iload_n C dX6_touchesBy_27 rfl ?_
        refine aw_lload_n C dX6_touchesBy_28 rfl ?_
        refine aw_call1 C dX6_touchesBy_29 lX6_357 vX6_raysMeet (t_X6_raysMeet eV hV hcl (by omega) (by omega) (by omega) (by omega) hms) rfl rfl rfl ⟨rfl, by decide⟩ rfl ⟨by decide, by decide⟩ (Nat.le_of_ble_eq_true rfl) ?_
        refine aw_lmul C dX6_touchesBy_32 ?_
        refine aw_ladd C dX6_touchesBy_33 ?_
        refine aw_lstore C dX6_touchesBy_34 (by decide) ?_
        refine aw_iinc C dX6_touchesBy_36 rfl ?_
        refine aw_goto C dX6_touchesBy_39 (tgt := 6) (by decide) ?_
        exact ih (j + 1) _ (by omega) (by omega) (by rw [fld_s q0, ← q2])
  refine aw_lconst C dX6_touchesBy_0 (v := 0) rfl ?_
  refine aw_lstore C dX6_touchesBy_1 (by decide) ?_
  refine aw_iconst C dX6_touchesBy_3 ?_
  refine aw_istore C dX6_touchesBy_4 (by decide) ?_
  exact loop V.1.toNat 0 0 (by omega) (by omega) rfl
theorem t_X6_touches {mu : Mem} {V : FV} {d i : Int} (h : mF mu V) (hd : R32 d) (hi : R32 i) : TrE 6 mX6_touches [vr 55, vi d, vi i] mu (some (vl (qTo V d i).1)) (gd (wr mu 55 0 0) (qTo V d i).2) := by
  refine Tr.of (by decide +kernel) (Nat.le_of_ble_eq_true rfl) (fun K C E => ?_)
  have k1 := b01_01 (0 ≤ d ∧ d < V.2.1)
  have k1i : b01 (0 ≤ d ∧ d < V.2.1) = 1 ↔ (0 ≤ d ∧ d < V.2.1) := b01_iff
  have k2 := b01_01 (0 ≤ i ∧ i < V.1)
  have k2i : b01 (0 ≤ i ∧ i < V.1) = 1 ↔ (0 ≤ i ∧ i < V.1) := b01_iff
  refine aw_aload_n C dX6_touches_0 rfl ?_
  refine aw_iconst C dX6_touches_1 ?_
  refine aw_putI C dX6_touches_2 fX6_77 ⟨rfl, by decide⟩ rfl rfl rfl ?_
  have hm := h.t
  generalize wr mu 55 0 0 = m1 at *
  have eV := hm.1
  have hV := hm.2.1.1
  have hn := hV.1
  have hl := hV.2.1
  have e1 := mv1 eV
  have e2 := mv2 eV
  have h3 := hm.2.2
  refine aw_aload_n C dX6_touches_5 rfl ?_
  refine aw_iload_n C dX6_touches_6 rfl ?_
  refine aw_call1 C dX6_touches_7 lX6_328 vX6_isLoad (t_X6_isLoad hm (by assumption)) rfl rfl rfl ⟨rfl, by decide⟩ rfl ⟨by decide, by decide⟩ (Nat.le_of_ble_eq_true rfl) ?_
  refine aw_if_eq C dX6_touches_10 (tgt := 21) (by decide) ⟨by omega, by omega⟩ (fun c1 => ?_) (fun c1 => ?_)
  · have qe : qTo V d i = (NTH, 1) := if_neg (fun z => by omega)
    --go
    refine aw_aload_n C dX6_touches_21 rfl ?_
    refine aw_iconst C dX6_touches_22 ?_
    refine aw_call1 C dX6_touches_23 lX6_311 vX6_lost (t_X6_lost) rfl rfl rfl ⟨rfl, by decide⟩ rfl ⟨by decide, by decide⟩ (Nat.le_of_ble_eq_true rfl) ?_
    exact aw_lret C E dX6_touches_26 rfl (by rw [qe]; exact ⟨rfl, rfl⟩)
  · refine aw_aload_n C dX6_touches_13 rfl ?_
    refine aw_iload_n C dX6_touches_14 rfl ?_
    refine aw_call1 C dX6_touches_15 lX6_308 vX6_isRay (t_X6_isRay hm (by assumption)) rfl rfl rfl ⟨rfl, by decide⟩ rfl ⟨by decide, by decide⟩ (Nat.le_of_ble_eq_true rfl) ?_
    refine aw_if_ne C dX6_touches_18 (tgt := 27) (by decide) ⟨by omega, by omega⟩ (fun c2 => ?_) (fun c2 => ?_)
    · have cl := hm.2.1.cl (by omega)
      have hcl := cl.1
      have hpr := cl.2
      have mb := meas_b hcl
      have ms : (meas V = -1 ∧ msm V = 0) ∨ (meas V ≠ -1 ∧ msm V = meas V) := by unfold msm; split <;> omega
      have m0 : meas V ≠ 0 := meas_0 hcl
      --go
      refine aw_aload_n C dX6_touches_27 rfl ?_
      refine aw_call1 C dX6_touches_28 lX6_302 vX6_measureOf (t_X6_measureOf eV hV hcl) rfl rfl rfl ⟨rfl, by decide⟩ rfl ⟨by decide, by decide⟩ (Nat.le_of_ble_eq_true rfl) ?_
      refine aw_lstore_n C dX6_touches_31 (by decide) ?_
      refine aw_lload_n C dX6_touches_32 rfl ?_
      refine aw_lconst C dX6_touches_33 (v := 0) rfl ?_
      refine aw_lcmp_ne C dX6_touches_34 dX6_touches_35 (tgt := 46) (by decide) ⟨by omega, by omega⟩ ⟨by omega, by omega⟩ (fun c3 => ?_) (fun c3 => ?_)
      · have qe : qTo V d i = (lmr V d i (meas V), 0) := (if_pos ⟨by omega, by omega⟩ : qTo V d i = _).trans (if_neg (by omega))
        rw [show msm V = meas V by omega]
        have hms : -1000000 ≤ meas V ∧ meas V ≤ 1000000 := by omega
        --go
        refine aw_aload_n C dX6_touches_46 rfl ?_
        refine aw_aload_n C dX6_touches_47 rfl ?_
        refine aw_iload_n C dX6_touches_48 rfl ?_
        refine aw_iload_n C dX6_touches_49 rfl ?_
        refine aw_lload_n C dX6_touches_50 rfl ?_
        refine aw_call1 C dX6_touches_51 lX6_361 vX6_touchesBy (t_X6_touchesBy eV hV hcl (by omega) (by omega) (by omega) (by omega) hms) rfl rfl rfl ⟨rfl, by decide⟩ rfl ⟨by decide, by decide⟩ (Nat.le_of_ble_eq_true rfl) ?_
        refine aw_call1 C dX6_touches_54 lX6_315 vX6_told (t_X6_told) rfl rfl rfl ⟨rfl, by decide⟩ rfl ⟨by decide, by decide⟩ (Nat.le_of_ble_eq_true rfl) ?_
        exact aw_lret C E dX6_touches_57 rfl (by rw [qe]; exact ⟨rfl, rfl⟩)
      · have qe : qTo V d i = (NTH, 3) := (if_pos ⟨by omega, by omega⟩ : qTo V d i = _).trans (if_pos (by omega))
        --go
        refine aw_aload_n C dX6_touches_38 rfl ?_
        refine aw_iconst C dX6_touches_39 ?_
        refine aw_call1 C dX6_touches_40 lX6_311 vX6_lost (t_X6_lost) rfl rfl rfl ⟨rfl, by decide⟩ rfl ⟨by decide, by decide⟩ (Nat.le_of_ble_eq_true rfl) ?_
        refine aw_goto C dX6_touches_43 (tgt := 57) (by decide) ?_
        exact aw_lret C E dX6_touches_57 rfl (by rw [qe]; exact ⟨rfl, rfl⟩)
    · have qe : qTo V d i = (NTH, 1) := if_neg (fun z => by omega)
      --go
      refine aw_aload_n C dX6_touches_21 rfl ?_
      refine aw_iconst C dX6_touches_22 ?_
      refine aw_call1 C dX6_touches_23 lX6_311 vX6_lost (t_X6_lost) rfl rfl rfl ⟨rfl, by decide⟩ rfl ⟨by decide, by decide⟩ (Nat.le_of_ble_eq_true rfl) ?_
      exact aw_lret C E dX6_touches_26 rfl (by rw [qe]; exact ⟨rfl, rfl⟩)
theorem t_X6_rays {mu : Mem} {V : FV} {i j : Int} (h : mF mu V) (hi : R32 i) (hj : R32 j) : TrE 6 mX6_rays [vr 55, vi i, vi j] mu (some (vl (qRs V i j).1)) (gd (wr mu 55 0 0) (qRs V i j).2) := by
  refine Tr.of (by decide +kernel) (Nat.le_of_ble_eq_true rfl) (fun K C E => ?_)
  have k1 := b01_01 (0 ≤ i ∧ i < V.1)
  have k1i : b01 (0 ≤ i ∧ i < V.1) = 1 ↔ (0 ≤ i ∧ i < V.1) := b01_iff
  have k2 := b01_01 (0 ≤ j ∧ j < V.1)
  have k2i : b01 (0 ≤ j ∧ j < V.1) = 1 ↔ (0 ≤ j ∧ j < V.1) := b01_iff
  refine aw_aload_n C dX6_rays_0 rfl ?_
  refine aw_iconst C dX6_rays_1 ?_
  refine aw_putI C dX6_rays_2 fX6_77 ⟨rfl, by decide⟩ rfl rfl rfl ?_
  have hm := h.t
  generalize wr mu 55 0 0 = m1 at *
  have eV := hm.1
  have hV := hm.2.1.1
  have hn := hV.1
  have hl := hV.2.1
  have e1 := mv1 eV
  have e2 := mv2 eV
  have h3 := hm.2.2
  refine aw_aload_n C dX6_rays_5 rfl ?_
  refine aw_iload_n C dX6_rays_6 rfl ?_
  refine aw_call1 C dX6_rays_7 lX6_308 vX6_isRay (t_X6_isRay hm (by assumption)) rfl rfl rfl ⟨rfl, by decide⟩ rfl ⟨by decide, by decide⟩ (Nat.le_of_ble_eq_true rfl) ?_
  refine aw_if_eq C dX6_rays_10 (tgt := 21) (by decide) ⟨by omega, by omega⟩ (fun c1 => ?_) (fun c1 => ?_)
  · have qe : qRs V i j = (NTH, 1) := if_neg (fun z => by omega)
    --go
    refine aw_aload_n C dX6_rays_21 rfl ?_
    refine aw_iconst C dX6_rays_22 ?_
    refine aw_call1 C dX6_rays_23 lX6_311 vX6_lost (t_X6_lost) rfl rfl rfl ⟨rfl, by decide⟩ rfl ⟨by decide, by decide⟩ (Nat.le_of_ble_eq_true rfl) ?_
    exact aw_lret C E dX6_rays_26 rfl (by rw [qe]; exact ⟨rfl, rfl⟩)
  · refine aw_aload_n C dX6_rays_13 rfl ?_
    refine aw_iload_n C dX6_rays_14 rfl ?_
    refine aw_call1 C dX6_rays_15 lX6_308 vX6_isRay (t_X6_isRay hm (by assumption)) rfl rfl rfl ⟨rfl, by decide⟩ rfl ⟨by decide, by decide⟩ (Nat.le_of_ble_eq_true rfl) ?_
    refine aw_if_ne C dX6_rays_18 (tgt := 27) (by decide) ⟨by omega, by omega⟩ (fun c2 => ?_) (fun c2 => ?_)
    · have cl := hm.2.1.cl (by omega)
      have hcl := cl.1
      have hpr := cl.2
      have mb := meas_b hcl
      have ms : (meas V = -1 ∧ msm V = 0) ∨ (meas V ≠ -1 ∧ msm V = meas V) := by unfold msm; split <;> omega
      have m0 : meas V ≠ 0 := meas_0 hcl
      --go
      refine aw_aload_n C dX6_rays_27 rfl ?_
      refine aw_call1 C dX6_rays_28 lX6_302 vX6_measureOf (t_X6_measureOf eV hV hcl) rfl rfl rfl ⟨rfl, by decide⟩ rfl ⟨by decide, by decide⟩ (Nat.le_of_ble_eq_true rfl) ?_
      refine aw_lstore_n C dX6_rays_31 (by decide) ?_
      refine aw_lload_n C dX6_rays_32 rfl ?_
      refine aw_lconst C dX6_rays_33 (v := 0) rfl ?_
      refine aw_lcmp_ne C dX6_rays_34 dX6_rays_35 (tgt := 46) (by decide) ⟨by omega, by omega⟩ ⟨by omega, by omega⟩ (fun c3 => ?_) (fun c3 => ?_)
      · have qe : qRs V i j = (rmS V i j (meas V), 0) := (if_pos ⟨by omega, by omega⟩ : qRs V i j = _).trans (if_neg (by omega))
        rw [show msm V = meas V by omega]
        have hms : -1000000 ≤ meas V ∧ meas V ≤ 1000000 := by omega
        --go
        refine aw_aload_n C dX6_rays_46 rfl ?_
        refine aw_aload_n C dX6_rays_47 rfl ?_
        refine aw_iload_n C dX6_rays_48 rfl ?_
        refine aw_iload_n C dX6_rays_49 rfl ?_
        refine aw_lload_n C dX6_rays_50 rfl ?_
        refine aw_call1 C dX6_rays_51 lX6_357 vX6_raysMeet (t_X6_raysMeet eV hV hcl (by omega) (by omega) (by omega) (by omega) hms) rfl rfl rfl ⟨rfl, by decide⟩ rfl ⟨by decide, by decide⟩ (Nat.le_of_ble_eq_true rfl) ?_
        refine aw_call1 C dX6_rays_54 lX6_315 vX6_told (t_X6_told) rfl rfl rfl ⟨rfl, by decide⟩ rfl ⟨by decide, by decide⟩ (Nat.le_of_ble_eq_true rfl) ?_
        exact aw_lret C E dX6_rays_57 rfl (by rw [qe]; exact ⟨rfl, rfl⟩)
      · have qe : qRs V i j = (NTH, 3) := (if_pos ⟨by omega, by omega⟩ : qRs V i j = _).trans (if_pos (by omega))
        --go
        refine aw_aload_n C dX6_rays_38 rfl ?_
        refine aw_iconst C dX6_rays_39 ?_
        refine aw_call1 C dX6_rays_40 lX6_311 vX6_lost (t_X6_lost) rfl rfl rfl ⟨rfl, by decide⟩ rfl ⟨by decide, by decide⟩ (Nat.le_of_ble_eq_true rfl) ?_
        refine aw_goto C dX6_rays_43 (tgt := 57) (by decide) ?_
        exact aw_lret C E dX6_rays_57 rfl (by rw [qe]; exact ⟨rfl, rfl⟩)
    · have qe : qRs V i j = (NTH, 1) := if_neg (fun z => by omega)
      --go
      refine aw_aload_n C dX6_rays_21 rfl ?_
      refine aw_iconst C dX6_rays_22 ?_
      refine aw_call1 C dX6_rays_23 lX6_311 vX6_lost (t_X6_lost) rfl rfl rfl ⟨rfl, by decide⟩ rfl ⟨by decide, by decide⟩ (Nat.le_of_ble_eq_true rfl) ?_
      exact aw_lret C E dX6_rays_26 rfl (by rw [qe]; exact ⟨rfl, rfl⟩)
theorem t_X6_meets {mu : Mem} {V : FV} {d e : Int} (h : mF mu V) (hd : R32 d) (he : R32 e) : TrE 6 mX6_meets [vr 55, vi d, vi e] mu (some (vl (qMt V d e).1)) (gd (wr mu 55 0 0) (qMt V d e).2) := by
  refine Tr.of (by decide +kernel) (Nat.le_of_ble_eq_true rfl) (fun K C E => ?_)
  have k1 := b01_01 (0 ≤ d ∧ d < V.2.1)
  have k1i : b01 (0 ≤ d ∧ d < V.2.1) = 1 ↔ (0 ≤ d ∧ d < V.2.1) := b01_iff
  have k2 := b01_01 (0 ≤ e ∧ e < V.2.1)
  have k2i : b01 (0 ≤ e ∧ e < V.2.1) = 1 ↔ (0 ≤ e ∧ e < V.2.1) := b01_iff
  have loop : 0 ≤ d → d < V.2.1 → 0 ≤ e → e < V.2.1 → ∀ (m1 : Mem), mF m1 V → meas V ≠ -1 → -1000000 ≤ meas V ∧ meas V ≤ 1000000 → CR K (NC, 0, 0) mX6_meets (fun r m2 => r = some (vl (qMt V d e).1) ∧ m2 = gd m1 (qMt V d e).2) → ∀ (k : Nat) (i a : Int), 0 ≤ i → i + k = V.1 → a = fld (fun a i => a + gn V e i * lmr V d i (meas V)) 0 i.toNat → AW K mX6_meets (NC, 0, 0) 50 [vr 55, vi d, vi e, vl (meas V), vx, vl a, vx, vi i] [] m1 := by
    intro d0 d1 g0 g1 m1 hm hne hms E k
    have eV := hm.1
    have hV := hm.2.1.1
    have hn := hV.1
    have hl := hV.2.1
    have e1 := mv1 eV
    have cl := hm.2.1.cl (by omega)
    have hcl := cl.1
    have qe : qMt V d e = (fld (fun a i => a + gn V e i * lmr V d i (meas V)) 0 V.1.toNat, 0) := (if_pos ⟨⟨d0, d1⟩, g0, g1⟩ : qMt V d e = _).trans (if_neg hne)
    induction k with
    | zero =>
      intro i a h0 h1 h2
      have e : i = V.1 := by omega
      rw [e] at h2
      refine aw_iload C dX6_meets_50 rfl ?_
      refine aw_aload_n C dX6_meets_52 rfl ?_
      refine aw_getI C dX6_meets_53 fX6_255 ⟨rfl, by decide⟩ rfl ?_
      refine aw_icmp_ge C dX6_meets_56 (tgt := 86) (by decide) ⟨by omega, by omega⟩ ⟨by omega, by omega⟩ (fun c1 => ?_) (fun c1 => ?_)
      · refine aw_aload_n C dX6_meets_86 rfl ?_
        refine aw_lload C dX6_meets_87 rfl ?_
        refine aw_call1 C dX6_meets_89 lX6_315 vX6_told (t_X6_told) rfl rfl rfl ⟨rfl, by decide⟩ rfl ⟨by decide, by decide⟩ (Nat.le_of_ble_eq_true rfl) ?_
        exact aw_lret C E dX6_meets_92 rfl (by rw [qe, h2]; exact ⟨rfl, rfl⟩)
      · exfalso; omega
    | succ k ih =>
      intro i a h0 h1 h2
      refine aw_iload C dX6_meets_50 rfl ?_
      refine aw_aload_n C dX6_meets_52 rfl ?_
      refine aw_getI C dX6_meets_53 fX6_255 ⟨rfl, by decide⟩ rfl ?_
      refine aw_icmp_ge C dX6_meets_56 (tgt := 86) (by decide) ⟨by omega, by omega⟩ ⟨by omega, by omega⟩ (fun c1 => ?_) (fun c1 => ?_)
      · exfalso; omega
      · refine aw_lload C dX6_meets_59 rfl ?_
        refine aw_aload_n C dX6_meets_61 rfl ?_
        refine aw_iload_n C dX6_meets_62 rfl ?_
        refine aw_iload C dX6_meets_63 rfl ?_
        refine aw_call1 C dX6_meets_65 lX6_331 vX6_numberOf (t_X6_numberOf eV hV (by omega) (by omega) (by omega) (by omega)) rfl rfl rfl ⟨rfl, by decide⟩ rfl ⟨by decide, by decide⟩ (Nat.le_of_ble_eq_true rfl) ?_
        refine aw_aload_n C dX6_meets_68 rfl ?_
        refine aw_iload_n C dX6_meets_69 rfl ?_
        refine aw_iload C dX6_meets_70 rfl ?_
        refine aw_lload_n C dX6_meets_72 rfl ?_
        refine aw_call1 C dX6_meets_73 lX6_361 vX6_touchesBy (t_X6_touchesBy eV hV hcl (by omega) (by omega) (by omega) (by omega) hms) rfl rfl rfl ⟨rfl, by decide⟩ rfl ⟨by decide, by decide⟩ (Nat.le_of_ble_eq_true rfl) ?_
        refine aw_lmul C dX6_meets_76 ?_
        refine aw_ladd C dX6_meets_77 ?_
        refine aw_lstore C dX6_meets_78 (by decide) ?_
        refine aw_iinc C dX6_meets_80 rfl ?_
        refine aw_goto C dX6_meets_83 (tgt := 50) (by decide) ?_
        exact ih (i + 1) _ (by omega) (by omega) (by rw [fld_s h0, ← h2])
  refine aw_aload_n C dX6_meets_0 rfl ?_
  refine aw_iconst C dX6_meets_1 ?_
  refine aw_putI C dX6_meets_2 fX6_77 ⟨rfl, by decide⟩ rfl rfl rfl ?_
  have hm := h.t
  generalize wr mu 55 0 0 = m1 at *
  have eV := hm.1
  have hV := hm.2.1.1
  have hn := hV.1
  have hl := hV.2.1
  have e1 := mv1 eV
  have e2 := mv2 eV
  have h3 := hm.2.2
  refine aw_aload_n C dX6_meets_5 rfl ?_
  refine aw_iload_n C dX6_meets_6 rfl ?_
  refine aw_call1 C dX6_meets_7 lX6_328 vX6_isLoad (t_X6_isLoad hm (by assumption)) rfl rfl rfl ⟨rfl, by decide⟩ rfl ⟨by decide, by decide⟩ (Nat.le_of_ble_eq_true rfl) ?_
  refine aw_if_eq C dX6_meets_10 (tgt := 21) (by decide) ⟨by omega, by omega⟩ (fun c1 => ?_) (fun c1 => ?_)
  · have qe : qMt V d e = (NTH, 1) := if_neg (fun z => by omega)
    --go
    refine aw_aload_n C dX6_meets_21 rfl ?_
    refine aw_iconst C dX6_meets_22 ?_
    refine aw_call1 C dX6_meets_23 lX6_311 vX6_lost (t_X6_lost) rfl rfl rfl ⟨rfl, by decide⟩ rfl ⟨by decide, by decide⟩ (Nat.le_of_ble_eq_true rfl) ?_
    exact aw_lret C E dX6_meets_26 rfl (by rw [qe]; exact ⟨rfl, rfl⟩)
  · refine aw_aload_n C dX6_meets_13 rfl ?_
    refine aw_iload_n C dX6_meets_14 rfl ?_
    refine aw_call1 C dX6_meets_15 lX6_328 vX6_isLoad (t_X6_isLoad hm (by assumption)) rfl rfl rfl ⟨rfl, by decide⟩ rfl ⟨by decide, by decide⟩ (Nat.le_of_ble_eq_true rfl) ?_
    refine aw_if_ne C dX6_meets_18 (tgt := 27) (by decide) ⟨by omega, by omega⟩ (fun c2 => ?_) (fun c2 => ?_)
    · have cl := hm.2.1.cl (by omega)
      have hcl := cl.1
      have hpr := cl.2
      have mb := meas_b hcl
      have ms : (meas V = -1 ∧ msm V = 0) ∨ (meas V ≠ -1 ∧ msm V = meas V) := by unfold msm; split <;> omega
      have m0 : meas V ≠ 0 := meas_0 hcl
      --go
      refine aw_aload_n C dX6_meets_27 rfl ?_
      refine aw_call1 C dX6_meets_28 lX6_302 vX6_measureOf (t_X6_measureOf eV hV hcl) rfl rfl rfl ⟨rfl, by decide⟩ rfl ⟨by decide, by decide⟩ (Nat.le_of_ble_eq_true rfl) ?_
      refine aw_lstore_n C dX6_meets_31 (by decide) ?_
      refine aw_lload_n C dX6_meets_32 rfl ?_
      refine aw_lconst C dX6_meets_33 (v := 0) rfl ?_
      refine aw_lcmp_ne C dX6_meets_34 dX6_meets_35 (tgt := 44) (by decide) ⟨by omega, by omega⟩ ⟨by omega, by omega⟩ (fun c3 => ?_) (fun c3 => ?_)
      · rw [show msm V = meas V by omega]
        --go
        refine aw_lconst C dX6_meets_44 (v := 0) rfl ?_
        refine aw_lstore C dX6_meets_45 (by decide) ?_
        refine aw_iconst C dX6_meets_47 ?_
        refine aw_istore C dX6_meets_48 (by decide) ?_
        exact loop (by omega) (by omega) (by omega) (by omega) m1 hm (by omega) (by omega) E V.1.toNat 0 0 (by omega) (by omega) rfl
      · have qe : qMt V d e = (NTH, 3) := (if_pos ⟨by omega, by omega⟩ : qMt V d e = _).trans (if_pos (by omega))
        --go
        refine aw_aload_n C dX6_meets_38 rfl ?_
        refine aw_iconst C dX6_meets_39 ?_
        refine aw_call1 C dX6_meets_40 lX6_311 vX6_lost (t_X6_lost) rfl rfl rfl ⟨rfl, by decide⟩ rfl ⟨by decide, by decide⟩ (Nat.le_of_ble_eq_true rfl) ?_
        exact aw_lret C E dX6_meets_43 rfl (by rw [qe]; exact ⟨rfl, rfl⟩)
    · have qe : qMt V d e = (NTH, 1) := if_neg (fun z => by omega)
      --go
      refine aw_aload_n C dX6_meets_21 rfl ?_
      refine aw_iconst C dX6_meets_22 ?_
      refine aw_call1 C dX6_meets_23 lX6_311 vX6_lost (t_X6_lost) rfl rfl rfl ⟨rfl, by decide⟩ rfl ⟨by decide, by decide⟩ (Nat.le_of_ble_eq_true rfl) ?_
      exact aw_lret C E dX6_meets_26 rfl (by rw [qe]; exact ⟨rfl, rfl⟩)

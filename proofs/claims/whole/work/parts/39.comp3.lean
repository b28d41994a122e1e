theorem fst_in0 {P : Int → Prop} : ∀ (k : Nat) (i : Int), fst P 0 k i = 0 ∨ (i ≤ fst P 0 k i ∧ fst P 0 k i < i + k)
  | 0, i => Or.inl rfl
  | k + 1, i => by
    rcases Classical.em (P i) with q | q
    · rw [fst_t q]; exact Or.inr ⟨by omega, by omega⟩
    · rw [fst_f q]
      rcases fst_in0 (P := P) k (i + 1) with h | h
      · exact Or.inl h
      · exact Or.inr ⟨by omega, by omega⟩
theorem cof_in {V : FV} {x y : Int} (h : 0 < V.1) : 0 ≤ cof V x y ∧ cof V x y < V.1 := by
  unfold cof
  rcases fst_in0 (P := cin V x y) V.1.toNat 0 with q | q <;> omega
noncomputable def aFn (V : FV) (d x y w : Int) : Int := (if w = 0 then ftt V d (cof V x y) x y else trn V (cof V x y)).tdiv (Int.gcd (ftt V d (cof V x y) x y) (trn V (cof V x y)) : Int)
noncomputable def qFn (V : FV) (d x y w : Int) : Int × Int := if ¬ ((0 ≤ d ∧ d < V.2.1) ∧ 0 ≤ w ∧ w ≤ 1) then (NTH, 1) else if b01 (fra x y) = 1 then (NTH, 2) else (aFn V d x y w, 0)
theorem t_X5_function {mu : Mem} {f : Nat} {d x y w : Int} (h : cF mu f) (hd : R32 d) (hx : R32 x) (hy : R32 y) (hw : R32 w) : Tr 3 mX5_function [vr 0, vi d, vi x, vi y, vi w] mu (fun r m2 => r = some (vl (qFn (fv mu f) d x y w).1) ∧ cE mu m2 (qFn (fv mu f) d x y w).2) := by
  refine Tr.of (by decide +kernel) (Nat.le_of_ble_eq_true rfl) (fun K C E => ?_)
  have hf := h.1
  have hV := h.2.2.1
  have hn := hV.n
  have hl := hV.l
  have en0 : (fv mu f).1 = mu f 0 := rfl
  have el0 : (fv mu f).2.1 = mu f 1 := rfl
  unfold qFn at E
  have k2 := b01_01 (0 ≤ d ∧ d < mu f 1)
  have k2t : b01 (0 ≤ d ∧ d < mu f 1) = 1 → 0 ≤ d ∧ d < mu f 1 := b01_iff.mp
  have k2f : b01 (0 ≤ d ∧ d < mu f 1) = 0 → ¬ (0 ≤ d ∧ d < mu f 1) := b01_niff.mp
  have k3 := b01_01 (fra x y)
  have fin : ∀ {v90 v91 v92 v93 v94 v95 v96 : Vv} (c : Int), (c = 0 ∧ ((0 ≤ d ∧ d < mu f 1) ∧ 0 ≤ w ∧ w ≤ 1) ∧ b01 (fra x y) = 0) ∨ (c = 1 ∧ ¬ ((0 ≤ d ∧ d < mu f 1) ∧ 0 ≤ w ∧ w ≤ 1)) ∨ (c = 2 ∧ ((0 ≤ d ∧ d < mu f 1) ∧ 0 ≤ w ∧ w ≤ 1) ∧ b01 (fra x y) = 1) → AW K mX5_function (NC, 0, 0) 37 [vr 0, vi d, vi x, vi y, vi w, v90, v91, v92, v93, v94, v95, v96] [vi c, vr 0] mu := by
    rintro v90 v91 v92 v93 v94 v95 v96 c (⟨rfl, q⟩ | ⟨rfl, q⟩ | ⟨rfl, q⟩)
    · rw [if_neg (show ¬ ¬ ((0 ≤ d ∧ d < (fv mu f).2.1) ∧ 0 ≤ w ∧ w ≤ 1) from fun z => z q.1), if_neg (show ¬ b01 (fra x y) = 1 by omega)] at E
      have b0 := fra_n q.2
      have cl := h.2.2.cl (Or.inr (show 0 < (fv mu f).2.1 by omega))
      have c3 := cl.1.1
      have ci := cof_in (V := fv mu f) (x := x) (y := y) (by omega)
      have b1 := hV.ft d (cof (fv mu f) x y) b0.1 b0.2
      have b2 := hV.trn (cof (fv mu f) x y)
      have bg : (Int.gcd (ftt (fv mu f) d (cof (fv mu f) x y) x y) (trn (fv mu f) (cof (fv mu f) x y)) : Int) ≤ 28800000 := gcd_le b1 ⟨by omega, by omega⟩
      unfold aFn at E
      generalize hco : cof (fv mu f) x y = co at *
      refine aw_putI C dX5_function_37 fX5_62 ⟨rfl, by decide⟩ rfl rfl rfl ?_
      have hc : cE mu (wr mu 0 11 0) 0 := cE_w
      generalize wr mu 0 11 0 = m1 at *
      obtain ⟨e5, ev, hV1, en, el, e11⟩ := hc.all h
      refine aw_aload_n C dX5_function_40 rfl ?_
      refine aw_getI C dX5_function_41 fX5_62 ⟨rfl, by decide⟩ rfl ?_
      rw [e11]
      refine aw_if_eq C dX5_function_44 (tgt := 51) (by decide) ⟨by omega, by omega⟩ (fun c1 => ?_) (fun c1 => ?_)
      · refine aw_aload_n C dX5_function_51 rfl ?_
        refine aw_getR C dX5_function_52 fX5_43 ⟨rfl, by decide⟩ rfl e5 ?_
        refine aw_iload_n C dX5_function_55 rfl ?_
        refine aw_iload_n C dX5_function_56 rfl ?_
        refine aw_call1 C dX5_function_57 lX5_161 vX1_coneOf (t_X1_coneOf hf hV1 b0.1 b0.2) rfl rfl rfl hf.s0 rfl ⟨by decide, by decide⟩ (Nat.le_of_ble_eq_true rfl) ?_
        rw [ev, hco]
        refine aw_istore C dX5_function_60 (by decide) ?_
        refine aw_aload_n C dX5_function_62 rfl ?_
        refine aw_getR C dX5_function_63 fX5_43 ⟨rfl, by decide⟩ rfl e5 ?_
        refine aw_iload_n C dX5_function_66 rfl ?_
        refine aw_iload C dX5_function_67 rfl ?_
        refine aw_iload_n C dX5_function_69 rfl ?_
        refine aw_iload_n C dX5_function_70 rfl ?_
        refine aw_call1 C dX5_function_71 lX5_171 vX1_functionTimesTurn (t_X1_functionTimesTurn hf hV1 (by omega) (by omega) (by omega) (by omega) hx hy) rfl rfl rfl hf.s0 rfl ⟨by decide, by decide⟩ (Nat.le_of_ble_eq_true rfl) ?_
        rw [ev]
        refine aw_lstore C dX5_function_74 (by decide) ?_
        refine aw_aload_n C dX5_function_76 rfl ?_
        refine aw_getR C dX5_function_77 fX5_43 ⟨rfl, by decide⟩ rfl e5 ?_
        refine aw_iload C dX5_function_80 rfl ?_
        refine aw_call1 C dX5_function_82 lX5_138 vX1_turn (t_X1_turn hf hV1 (by omega) (by omega)) rfl rfl rfl hf.s0 rfl ⟨by decide, by decide⟩ (Nat.le_of_ble_eq_true rfl) ?_
        rw [ev]
        refine aw_i2l C dX5_function_85 ⟨by omega, by omega⟩ ?_
        refine aw_lstore C dX5_function_86 (by decide) ?_
        refine aw_lload C dX5_function_88 rfl ?_
        refine aw_lload C dX5_function_90 rfl ?_
        refine aw_callS1 C dX5_function_92 lX5_175 vX4_common (t_X4_common ⟨by omega, by omega⟩ ⟨by omega, by omega⟩) rfl rfl rfl ⟨by decide, by decide⟩ (Nat.le_of_ble_eq_true rfl) ?_
        refine aw_lstore C dX5_function_95 (by decide) ?_
        refine aw_iload C dX5_function_97 rfl ?_
        refine aw_if_ne C dX5_function_99 (tgt := 107) (by decide) ⟨by omega, by omega⟩ (fun cw => ?_) (fun cw => ?_)
        · rw [if_neg cw] at E
          --go
          refine aw_lload C dX5_function_107 rfl ?_
          refine aw_lload C dX5_function_109 rfl ?_
          refine aw_callS1 C dX5_function_111 lX5_181 vX4_by (t_X4_by ⟨by omega, by omega⟩ ⟨by omega, by omega⟩) rfl rfl rfl ⟨by decide, by decide⟩ (Nat.le_of_ble_eq_true rfl) ?_
          exact aw_lret C E dX5_function_114 rfl ⟨rfl, hc⟩
        · rw [if_pos cw] at E
          --go
          refine aw_lload C dX5_function_102 rfl ?_
          refine aw_goto C dX5_function_104 (tgt := 109) (by decide) ?_
          refine aw_lload C dX5_function_109 rfl ?_
          refine aw_callS1 C dX5_function_111 lX5_181 vX4_by (t_X4_by ⟨by omega, by omega⟩ ⟨by omega, by omega⟩) rfl rfl rfl ⟨by decide, by decide⟩ (Nat.le_of_ble_eq_true rfl) ?_
          exact aw_lret C E dX5_function_114 rfl ⟨rfl, hc⟩
      · exfalso; omega
    · rw [if_pos (show ¬ ((0 ≤ d ∧ d < (fv mu f).2.1) ∧ 0 ≤ w ∧ w ≤ 1) from q)] at E
      refine aw_putI C dX5_function_37 fX5_62 ⟨rfl, by decide⟩ rfl rfl rfl ?_
      have hc : cE mu (wr mu 0 11 1) 1 := cE_w
      generalize wr mu 0 11 1 = m1 at *
      obtain ⟨e5, ev, hV1, en, el, e11⟩ := hc.all h
      refine aw_aload_n C dX5_function_40 rfl ?_
      refine aw_getI C dX5_function_41 fX5_62 ⟨rfl, by decide⟩ rfl ?_
      rw [e11]
      refine aw_if_eq C dX5_function_44 (tgt := 51) (by decide) ⟨by omega, by omega⟩ (fun c1 => ?_) (fun c1 => ?_)
      · exfalso; omega
      · refine aw_ldc2 C dX5_function_47 kX5_130 (z := -9223372036854775808) (by decide +kernel) ?_
        exact aw_lret C E dX5_function_50 rfl ⟨rfl, hc⟩
    · rw [if_neg (show ¬ ¬ ((0 ≤ d ∧ d < (fv mu f).2.1) ∧ 0 ≤ w ∧ w ≤ 1) from fun z => z q.1), if_pos q.2] at E
      refine aw_putI C dX5_function_37 fX5_62 ⟨rfl, by decide⟩ rfl rfl rfl ?_
      have hc : cE mu (wr mu 0 11 2) 2 := cE_w
      generalize wr mu 0 11 2 = m1 at *
      obtain ⟨e5, ev, hV1, en, el, e11⟩ := hc.all h
      refine aw_aload_n C dX5_function_40 rfl ?_
      refine aw_getI C dX5_function_41 fX5_62 ⟨rfl, by decide⟩ rfl ?_
      rw [e11]
      refine aw_if_eq C dX5_function_44 (tgt := 51) (by decide) ⟨by omega, by omega⟩ (fun c1 => ?_) (fun c1 => ?_)
      · exfalso; omega
      · refine aw_ldc2 C dX5_function_47 kX5_130 (z := -9223372036854775808) (by decide +kernel) ?_
        exact aw_lret C E dX5_function_50 rfl ⟨rfl, hc⟩
  refine aw_aload_n C dX5_function_0 rfl ?_
  refine aw_aload_n C dX5_function_1 rfl ?_
  refine aw_iload_n C dX5_function_2 rfl ?_
  refine aw_call1 C dX5_function_3 lX5_165 vX5_hasLoad (t_X5_hasLoad h hd) rfl rfl rfl ⟨rfl, by decide⟩ rfl ⟨by decide, by decide⟩ (Nat.le_of_ble_eq_true rfl) ?_
  refine aw_if_eq C dX5_function_6 (tgt := 20) (by decide) ⟨by omega, by omega⟩ (fun c1 => ?_) (fun c1 => ?_)
  · refine aw_iconst C dX5_function_20 ?_
    refine aw_goto C dX5_function_21 (tgt := 37) (by decide) ?_
    first
    | exact fin 0 (Or.inl ⟨rfl, ⟨k2t (by omega), by omega, by omega⟩, by omega⟩)
    | exact fin 2 (Or.inr (Or.inr ⟨rfl, ⟨k2t (by omega), by omega, by omega⟩, by omega⟩))
    | exact fin 1 (Or.inr (Or.inl ⟨rfl, fun z => by omega⟩))
    | exact fin 1 (Or.inr (Or.inl ⟨rfl, fun z => k2f (by omega) z.1⟩))
  · refine aw_iload C dX5_function_9 rfl ?_
    refine aw_if_lt C dX5_function_11 (tgt := 20) (by decide) ⟨by omega, by omega⟩ (fun c2 => ?_) (fun c2 => ?_)
    · refine aw_iconst C dX5_function_20 ?_
      refine aw_goto C dX5_function_21 (tgt := 37) (by decide) ?_
      first
      | exact fin 0 (Or.inl ⟨rfl, ⟨k2t (by omega), by omega, by omega⟩, by omega⟩)
      | exact fin 2 (Or.inr (Or.inr ⟨rfl, ⟨k2t (by omega), by omega, by omega⟩, by omega⟩))
      | exact fin 1 (Or.inr (Or.inl ⟨rfl, fun z => by omega⟩))
      | exact fin 1 (Or.inr (Or.inl ⟨rfl, fun z => k2f (by omega) z.1⟩))
    · refine aw_iload C dX5_function_14 rfl ?_
      refine aw_iconst C dX5_function_16 ?_
      refine aw_icmp_le C dX5_function_17 (tgt := 24) (by decide) ⟨by omega, by omega⟩ ⟨by omega, by omega⟩ (fun c3 => ?_) (fun c3 => ?_)
      · refine aw_iload_n C dX5_function_24 rfl ?_
        refine aw_iload_n C dX5_function_25 rfl ?_
        refine aw_callS1 C dX5_function_26 lX5_157 vX5_isFar (t_X5_isFar hx hy) rfl rfl rfl ⟨by decide, by decide⟩ (Nat.le_of_ble_eq_true rfl) ?_
        refine aw_if_eq C dX5_function_29 (tgt := 36) (by decide) ⟨by omega, by omega⟩ (fun c4 => ?_) (fun c4 => ?_)
        · refine aw_iconst C dX5_function_36 ?_
          first
          | exact fin 0 (Or.inl ⟨rfl, ⟨k2t (by omega), by omega, by omega⟩, by omega⟩)
          | exact fin 2 (Or.inr (Or.inr ⟨rfl, ⟨k2t (by omega), by omega, by omega⟩, by omega⟩))
          | exact fin 1 (Or.inr (Or.inl ⟨rfl, fun z => by omega⟩))
          | exact fin 1 (Or.inr (Or.inl ⟨rfl, fun z => k2f (by omega) z.1⟩))
        · refine aw_iconst C dX5_function_32 ?_
          refine aw_goto C dX5_function_33 (tgt := 37) (by decide) ?_
          first
          | exact fin 0 (Or.inl ⟨rfl, ⟨k2t (by omega), by omega, by omega⟩, by omega⟩)
          | exact fin 2 (Or.inr (Or.inr ⟨rfl, ⟨k2t (by omega), by omega, by omega⟩, by omega⟩))
          | exact fin 1 (Or.inr (Or.inl ⟨rfl, fun z => by omega⟩))
          | exact fin 1 (Or.inr (Or.inl ⟨rfl, fun z => k2f (by omega) z.1⟩))
      · refine aw_iconst C dX5_function_20 ?_
        refine aw_goto C dX5_function_21 (tgt := 37) (by decide) ?_
        first
        | exact fin 0 (Or.inl ⟨rfl, ⟨k2t (by omega), by omega, by omega⟩, by omega⟩)
        | exact fin 2 (Or.inr (Or.inr ⟨rfl, ⟨k2t (by omega), by omega, by omega⟩, by omega⟩))
        | exact fin 1 (Or.inr (Or.inl ⟨rfl, fun z => by omega⟩))
        | exact fin 1 (Or.inr (Or.inl ⟨rfl, fun z => k2f (by omega) z.1⟩))
noncomputable def aPc (V : FV) (d i w : Int) : Int := if w = 0 then pcA V d i else if w = 1 then pcU V d i else b01 (pwh V d i)
noncomputable def qPc (V : FV) (d i w : Int) : Int × Int := if (0 ≤ d ∧ d < V.2.1) ∧ (0 ≤ i ∧ i < V.1) ∧ 0 ≤ w ∧ w ≤ 2 then (aPc V d i w, 0) else (NTH, 1)
theorem t_X5_piece {mu : Mem} {f : Nat} {d i w : Int} (h : cF mu f) (hd : R32 d) (hi : R32 i) (hw : R32 w) : Tr 4 mX5_piece [vr 0, vi d, vi i, vi w] mu (fun r m2 => r = some (vl (qPc (fv mu f) d i w).1) ∧ cE mu m2 (qPc (fv mu f) d i w).2) := by
  refine Tr.of (by decide +kernel) (Nat.le_of_ble_eq_true rfl) (fun K C E => ?_)
  have hf := h.1
  have hV := h.2.2.1
  have hn := hV.n
  have hl := hV.l
  have en0 : (fv mu f).1 = mu f 0 := rfl
  have el0 : (fv mu f).2.1 = mu f 1 := rfl
  unfold qPc at E
  have k2 := b01_01 (0 ≤ d ∧ d < mu f 1)
  have k2t : b01 (0 ≤ d ∧ d < mu f 1) = 1 → 0 ≤ d ∧ d < mu f 1 := b01_iff.mp
  have k2f : b01 (0 ≤ d ∧ d < mu f 1) = 0 → ¬ (0 ≤ d ∧ d < mu f 1) := b01_niff.mp
  have k1 := b01_01 (0 ≤ i ∧ i < mu f 0)
  have k1t : b01 (0 ≤ i ∧ i < mu f 0) = 1 → 0 ≤ i ∧ i < mu f 0 := b01_iff.mp
  have k1f : b01 (0 ≤ i ∧ i < mu f 0) = 0 → ¬ (0 ≤ i ∧ i < mu f 0) := b01_niff.mp
  have fin : ∀ (c : Int), (c = 0 ∧ (0 ≤ d ∧ d < mu f 1) ∧ (0 ≤ i ∧ i < mu f 0) ∧ 0 ≤ w ∧ w ≤ 2) ∨ (c = 1 ∧ ¬ ((0 ≤ d ∧ d < mu f 1) ∧ (0 ≤ i ∧ i < mu f 0) ∧ 0 ≤ w ∧ w ≤ 2)) → AW K mX5_piece (NC, 0, 0) 31 [vr 0, vi d, vi i, vi w] [vi c, vr 0] mu := by
    rintro c (⟨rfl, q⟩ | ⟨rfl, q⟩)
    · rw [if_pos (show (0 ≤ d ∧ d < (fv mu f).2.1) ∧ (0 ≤ i ∧ i < (fv mu f).1) ∧ 0 ≤ w ∧ w ≤ 2 from q)] at E
      have cl := h.2.2.cl (Or.inl (show 0 < (fv mu f).1 by omega))
      have k4 := b01_01 (pwh (fv mu f) d i)
      refine aw_putI C dX5_piece_31 fX5_62 ⟨rfl, by decide⟩ rfl rfl rfl ?_
      have hc : cE mu (wr mu 0 11 0) 0 := cE_w
      generalize wr mu 0 11 0 = m1 at *
      obtain ⟨e5, ev, hV1, en, el, e11⟩ := hc.all h
      refine aw_aload_n C dX5_piece_34 rfl ?_
      refine aw_getI C dX5_piece_35 fX5_62 ⟨rfl, by decide⟩ rfl ?_
      rw [e11]
      refine aw_if_eq C dX5_piece_38 (tgt := 45) (by decide) ⟨by omega, by omega⟩ (fun c1 => ?_) (fun c1 => ?_)
      · refine aw_iload_n C dX5_piece_45 rfl ?_
        refine aw_lsw2 C (t1 := 72) (t2 := 82) (tgt := 92) dX5_piece_46 ⟨by omega, by omega⟩ (by decide) (by decide) (by decide) (by decide) (fun cw => ?_) (fun cw => ?_) (fun cw cwb => ?_)
        · refine aw_aload_n C dX5_piece_72 rfl ?_
          refine aw_getR C dX5_piece_73 fX5_43 ⟨rfl, by decide⟩ rfl e5 ?_
          refine aw_iload_n C dX5_piece_76 rfl ?_
          refine aw_iload_n C dX5_piece_77 rfl ?_
          refine aw_call1 C dX5_piece_78 lX5_184 vX1_pieceAlong (t_X1_pieceAlong hf hV1 (by omega) (by omega) (by omega) (by omega)) rfl rfl rfl hf.s0 rfl ⟨by decide, by decide⟩ (Nat.le_of_ble_eq_true rfl) ?_
          rw [ev]
          exact aw_lret C E dX5_piece_81 rfl ⟨by rw [show w = 0 by omega]; rfl, hc⟩
        · refine aw_aload_n C dX5_piece_82 rfl ?_
          refine aw_getR C dX5_piece_83 fX5_43 ⟨rfl, by decide⟩ rfl e5 ?_
          refine aw_iload_n C dX5_piece_86 rfl ?_
          refine aw_iload_n C dX5_piece_87 rfl ?_
          refine aw_call1 C dX5_piece_88 lX5_188 vX1_pieceUp (t_X1_pieceUp hf hV1 (by omega) (by omega) (by omega) (by omega)) rfl rfl rfl hf.s0 rfl ⟨by decide, by decide⟩ (Nat.le_of_ble_eq_true rfl) ?_
          rw [ev]
          exact aw_lret C E dX5_piece_91 rfl ⟨by rw [show w = 1 by omega]; rfl, hc⟩
        · refine aw_aload_n C dX5_piece_92 rfl ?_
          refine aw_getR C dX5_piece_93 fX5_43 ⟨rfl, by decide⟩ rfl e5 ?_
          refine aw_iload_n C dX5_piece_96 rfl ?_
          refine aw_iload_n C dX5_piece_97 rfl ?_
          refine aw_call1 C dX5_piece_98 lX5_191 vX1_isPieceWhole (t_X1_isPieceWhole hf hV1 (by rw [ev]; exact cl.1) (by omega) (by omega) (by omega) (by omega)) rfl rfl rfl hf.s0 rfl ⟨by decide, by decide⟩ (Nat.le_of_ble_eq_true rfl) ?_
          rw [ev]
          refine aw_if_eq C dX5_piece_101 (tgt := 108) (by decide) ⟨by omega, by omega⟩ (fun cp => ?_) (fun cp => ?_)
          · refine aw_lconst C dX5_piece_108 (v := 0) rfl ?_
            exact aw_lret C E dX5_piece_109 rfl ⟨by rw [show w = 2 by omega]; show some (vl _) = some (vl (b01 (pwh (fv mu f) d i))); congr 2; omega, hc⟩
          · refine aw_lconst C dX5_piece_104 (v := 1) rfl ?_
            refine aw_goto C dX5_piece_105 (tgt := 109) (by decide) ?_
            exact aw_lret C E dX5_piece_109 rfl ⟨by rw [show w = 2 by omega]; show some (vl _) = some (vl (b01 (pwh (fv mu f) d i))); congr 2; omega, hc⟩
      · exfalso; omega
    · rw [if_neg (show ¬ ((0 ≤ d ∧ d < (fv mu f).2.1) ∧ (0 ≤ i ∧ i < (fv mu f).1) ∧ 0 ≤ w ∧ w ≤ 2) from q)] at E
      refine aw_putI C dX5_piece_31 fX5_62 ⟨rfl, by decide⟩ rfl rfl rfl ?_
      have hc : cE mu (wr mu 0 11 1) 1 := cE_w
      generalize wr mu 0 11 1 = m1 at *
      obtain ⟨e5, ev, hV1, en, el, e11⟩ := hc.all h
      refine aw_aload_n C dX5_piece_34 rfl ?_
      refine aw_getI C dX5_piece_35 fX5_62 ⟨rfl, by decide⟩ rfl ?_
      rw [e11]
      refine aw_if_eq C dX5_piece_38 (tgt := 45) (by decide) ⟨by omega, by omega⟩ (fun c1 => ?_) (fun c1 => ?_)
      · exfalso; omega
      · refine aw_ldc2 C dX5_piece_41 kX5_130 (z := -9223372036854775808) (by decide +kernel) ?_
        exact aw_lret C E dX5_piece_44 rfl ⟨rfl, hc⟩
  refine aw_aload_n C dX5_piece_0 rfl ?_
  refine aw_aload_n C dX5_piece_1 rfl ?_
  refine aw_iload_n C dX5_piece_2 rfl ?_
  refine aw_call1 C dX5_piece_3 lX5_165 vX5_hasLoad (t_X5_hasLoad h hd) rfl rfl rfl ⟨rfl, by decide⟩ rfl ⟨by decide, by decide⟩ (Nat.le_of_ble_eq_true rfl) ?_
  refine aw_if_eq C dX5_piece_6 (tgt := 30) (by decide) ⟨by omega, by omega⟩ (fun c1 => ?_) (fun c1 => ?_)
  · refine aw_iconst C dX5_piece_30 ?_
    first
    | exact fin 0 (Or.inl ⟨rfl, k2t (by omega), k1t (by omega), by omega, by omega⟩)
    | exact fin 1 (Or.inr ⟨rfl, fun z => by omega⟩)
    | exact fin 1 (Or.inr ⟨rfl, fun z => k2f (by omega) z.1⟩)
    | exact fin 1 (Or.inr ⟨rfl, fun z => k1f (by omega) z.2.1⟩)
  · refine aw_aload_n C dX5_piece_9 rfl ?_
    refine aw_iload_n C dX5_piece_10 rfl ?_
    refine aw_call1 C dX5_piece_11 lX5_126 vX5_hasRay (t_X5_hasRay h hi) rfl rfl rfl ⟨rfl, by decide⟩ rfl ⟨by decide, by decide⟩ (Nat.le_of_ble_eq_true rfl) ?_
    refine aw_if_eq C dX5_piece_14 (tgt := 30) (by decide) ⟨by omega, by omega⟩ (fun c2 => ?_) (fun c2 => ?_)
    · refine aw_iconst C dX5_piece_30 ?_
      first
      | exact fin 0 (Or.inl ⟨rfl, k2t (by omega), k1t (by omega), by omega, by omega⟩)
      | exact fin 1 (Or.inr ⟨rfl, fun z => by omega⟩)
      | exact fin 1 (Or.inr ⟨rfl, fun z => k2f (by omega) z.1⟩)
      | exact fin 1 (Or.inr ⟨rfl, fun z => k1f (by omega) z.2.1⟩)
    · refine aw_iload_n C dX5_piece_17 rfl ?_
      refine aw_if_lt C dX5_piece_18 (tgt := 30) (by decide) ⟨by omega, by omega⟩ (fun c3 => ?_) (fun c3 => ?_)
      · refine aw_iconst C dX5_piece_30 ?_
        first
        | exact fin 0 (Or.inl ⟨rfl, k2t (by omega), k1t (by omega), by omega, by omega⟩)
        | exact fin 1 (Or.inr ⟨rfl, fun z => by omega⟩)
        | exact fin 1 (Or.inr ⟨rfl, fun z => k2f (by omega) z.1⟩)
        | exact fin 1 (Or.inr ⟨rfl, fun z => k1f (by omega) z.2.1⟩)
      · refine aw_iload_n C dX5_piece_21 rfl ?_
        refine aw_iconst C dX5_piece_22 ?_
        refine aw_icmp_gt C dX5_piece_23 (tgt := 30) (by decide) ⟨by omega, by omega⟩ ⟨by omega, by omega⟩ (fun c4 => ?_) (fun c4 => ?_)
        · refine aw_iconst C dX5_piece_30 ?_
          first
          | exact fin 0 (Or.inl ⟨rfl, k2t (by omega), k1t (by omega), by omega, by omega⟩)
          | exact fin 1 (Or.inr ⟨rfl, fun z => by omega⟩)
          | exact fin 1 (Or.inr ⟨rfl, fun z => k2f (by omega) z.1⟩)
          | exact fin 1 (Or.inr ⟨rfl, fun z => k1f (by omega) z.2.1⟩)
        · refine aw_iconst C dX5_piece_26 ?_
          refine aw_goto C dX5_piece_27 (tgt := 31) (by decide) ?_
          first
          | exact fin 0 (Or.inl ⟨rfl, k2t (by omega), k1t (by omega), by omega, by omega⟩)
          | exact fin 1 (Or.inr ⟨rfl, fun z => by omega⟩)
          | exact fin 1 (Or.inr ⟨rfl, fun z => k2f (by omega) z.1⟩)
          | exact fin 1 (Or.inr ⟨rfl, fun z => k1f (by omega) z.2.1⟩)
noncomputable def qBr (V : FV) (d : Int) : Int × Int := if 0 ≤ d ∧ d < V.2.1 then (bts (fun i => ¬ pwh V d i) V.1.toNat, 0) else (-1, 1)
theorem t_X5_broken {mu : Mem} {f : Nat} {d : Int} (h : cF mu f) (hd : R32 d) : Tr 5 mX5_broken [vr 0, vi d] mu (fun r m2 => r = some (vi (qBr (fv mu f) d).1) ∧ cE mu m2 (qBr (fv mu f) d).2) := by
  refine Tr.of (by decide +kernel) (Nat.le_of_ble_eq_true rfl) (fun K C E => ?_)
  have hf := h.1
  have hV := h.2.2.1
  have hn := hV.n
  have hl := hV.l
  have en0 : (fv mu f).1 = mu f 0 := rfl
  have el0 : (fv mu f).2.1 = mu f 1 := rfl
  unfold qBr at E
  have k2 := b01_01 (0 ≤ d ∧ d < mu f 1)
  have k2t : b01 (0 ≤ d ∧ d < mu f 1) = 1 → 0 ≤ d ∧ d < mu f 1 := b01_iff.mp
  have k2f : b01 (0 ≤ d ∧ d < mu f 1) = 0 → ¬ (0 ≤ d ∧ d < mu f 1) := b01_niff.mp
  have fin : ∀ (c : Int), (c = 0 ∧ 0 ≤ d ∧ d < mu f 1) ∨ (c = 1 ∧ ¬ (0 ≤ d ∧ d < mu f 1)) → AW K mX5_broken (NC, 0, 0) 14 [vr 0, vi d] [vi c, vr 0] mu := by
    rintro c (⟨rfl, q⟩ | ⟨rfl, q⟩)
    · rw [if_pos (show 0 ≤ d ∧ d < (fv mu f).2.1 from q)] at E
      have cl := h.2.2.cl (Or.inr (show 0 < (fv mu f).2.1 by omega))
      refine aw_putI C dX5_broken_14 fX5_62 ⟨rfl, by decide⟩ rfl rfl rfl ?_
      have hc : cE mu (wr mu 0 11 0) 0 := cE_w
      generalize wr mu 0 11 0 = m1 at *
      obtain ⟨e5, ev, hV1, en, el, e11⟩ := hc.all h
      refine aw_aload_n C dX5_broken_17 rfl ?_
      refine aw_getI C dX5_broken_18 fX5_62 ⟨rfl, by decide⟩ rfl ?_
      rw [e11]
      refine aw_if_eq C dX5_broken_21 (tgt := 28) (by decide) ⟨by omega, by omega⟩ (fun c1 => ?_) (fun c1 => ?_)
      · refine aw_aload_n C dX5_broken_28 rfl ?_
        refine aw_getR C dX5_broken_29 fX5_43 ⟨rfl, by decide⟩ rfl e5 ?_
        refine aw_iload_n C dX5_broken_32 rfl ?_
        refine aw_call1 C dX5_broken_33 lX5_194 vX1_brokenPieces (t_X1_brokenPieces hf hV1 (by rw [ev]; exact cl.1) (by omega) (by omega)) rfl rfl rfl hf.s0 rfl ⟨by decide, by decide⟩ (Nat.le_of_ble_eq_true rfl) ?_
        try rw [ev, en]
        exact aw_iret C E dX5_broken_36 rfl ⟨rfl, hc⟩
      · exfalso; omega
    · rw [if_neg (show ¬ (0 ≤ d ∧ d < (fv mu f).2.1) from q)] at E
      refine aw_putI C dX5_broken_14 fX5_62 ⟨rfl, by decide⟩ rfl rfl rfl ?_
      have hc : cE mu (wr mu 0 11 1) 1 := cE_w
      generalize wr mu 0 11 1 = m1 at *
      obtain ⟨e5, ev, hV1, en, el, e11⟩ := hc.all h
      refine aw_aload_n C dX5_broken_17 rfl ?_
      refine aw_getI C dX5_broken_18 fX5_62 ⟨rfl, by decide⟩ rfl ?_
      rw [e11]
      refine aw_if_eq C dX5_broken_21 (tgt := 28) (by decide) ⟨by omega, by omega⟩ (fun c1 => ?_) (fun c1 => ?_)
      · exfalso; omega
      · refine aw_iconst C dX5_broken_24 ?_
        refine aw_goto C dX5_broken_25 (tgt := 36) (by decide) ?_
        exact aw_iret C E dX5_broken_36 rfl ⟨rfl, hc⟩
  refine aw_aload_n C dX5_broken_0 rfl ?_
  refine aw_aload_n C dX5_broken_1 rfl ?_
  refine aw_iload_n C dX5_broken_2 rfl ?_
  refine aw_call1 C dX5_broken_3 lX5_165 vX5_hasLoad (t_X5_hasLoad h hd) rfl rfl rfl ⟨rfl, by decide⟩ rfl ⟨by decide, by decide⟩ (Nat.le_of_ble_eq_true rfl) ?_
  refine aw_if_eq C dX5_broken_6 (tgt := 13) (by decide) ⟨by omega, by omega⟩ (fun c1 => ?_) (fun c1 => ?_)
  · refine aw_iconst C dX5_broken_13 ?_
    first
    | exact fin 0 (Or.inl ⟨rfl, k2t (by omega)⟩)
    | exact fin 1 (Or.inr ⟨rfl, k2f (by omega)⟩)
  · refine aw_iconst C dX5_broken_9 ?_
    refine aw_goto C dX5_broken_10 (tgt := 14) (by decide) ?_
    first
    | exact fin 0 (Or.inl ⟨rfl, k2t (by omega)⟩)
    | exact fin 1 (Or.inr ⟨rfl, k2f (by omega)⟩)
noncomputable def qBe (V : FV) (d : Int) : Int × Int := if 0 ≤ d ∧ d < V.2.1 then (bdS V d, 0) else (-1, 1)
theorem t_X5_bent {mu : Mem} {f : Nat} {d : Int} (h : cF mu f) (hd : R32 d) : Tr 4 mX5_bent [vr 0, vi d] mu (fun r m2 => r = some (vi (qBe (fv mu f) d).1) ∧ cE mu m2 (qBe (fv mu f) d).2) := by
  refine Tr.of (by decide +kernel) (Nat.le_of_ble_eq_true rfl) (fun K C E => ?_)
  have hf := h.1
  have hV := h.2.2.1
  have hn := hV.n
  have hl := hV.l
  have en0 : (fv mu f).1 = mu f 0 := rfl
  have el0 : (fv mu f).2.1 = mu f 1 := rfl
  unfold qBe at E
  have k2 := b01_01 (0 ≤ d ∧ d < mu f 1)
  have k2t : b01 (0 ≤ d ∧ d < mu f 1) = 1 → 0 ≤ d ∧ d < mu f 1 := b01_iff.mp
  have k2f : b01 (0 ≤ d ∧ d < mu f 1) = 0 → ¬ (0 ≤ d ∧ d < mu f 1) := b01_niff.mp
  have fin : ∀ (c : Int), (c = 0 ∧ 0 ≤ d ∧ d < mu f 1) ∨ (c = 1 ∧ ¬ (0 ≤ d ∧ d < mu f 1)) → AW K mX5_bent (NC, 0, 0) 14 [vr 0, vi d] [vi c, vr 0] mu := by
    rintro c (⟨rfl, q⟩ | ⟨rfl, q⟩)
    · rw [if_pos (show 0 ≤ d ∧ d < (fv mu f).2.1 from q)] at E
      have cl := h.2.2.cl (Or.inr (show 0 < (fv mu f).2.1 by omega))
      refine aw_putI C dX5_bent_14 fX5_62 ⟨rfl, by decide⟩ rfl rfl rfl ?_
      have hc : cE mu (wr mu 0 11 0) 0 := cE_w
      generalize wr mu 0 11 0 = m1 at *
      obtain ⟨e5, ev, hV1, en, el, e11⟩ := hc.all h
      refine aw_aload_n C dX5_bent_17 rfl ?_
      refine aw_getI C dX5_bent_18 fX5_62 ⟨rfl, by decide⟩ rfl ?_
      rw [e11]
      refine aw_if_eq C dX5_bent_21 (tgt := 28) (by decide) ⟨by omega, by omega⟩ (fun c1 => ?_) (fun c1 => ?_)
      · refine aw_aload_n C dX5_bent_28 rfl ?_
        refine aw_getR C dX5_bent_29 fX5_43 ⟨rfl, by decide⟩ rfl e5 ?_
        refine aw_iload_n C dX5_bent_32 rfl ?_
        refine aw_call1 C dX5_bent_33 lX5_197 vX1_bending (t_X1_bending hf hV1 (by omega) (by omega)) rfl rfl rfl hf.s0 rfl ⟨by decide, by decide⟩ (Nat.le_of_ble_eq_true rfl) ?_
        try rw [ev]
        exact aw_iret C E dX5_bent_36 rfl ⟨rfl, hc⟩
      · exfalso; omega
    · rw [if_neg (show ¬ (0 ≤ d ∧ d < (fv mu f).2.1) from q)] at E
      refine aw_putI C dX5_bent_14 fX5_62 ⟨rfl, by decide⟩ rfl rfl rfl ?_
      have hc : cE mu (wr mu 0 11 1) 1 := cE_w
      generalize wr mu 0 11 1 = m1 at *
      obtain ⟨e5, ev, hV1, en, el, e11⟩ := hc.all h
      refine aw_aload_n C dX5_bent_17 rfl ?_
      refine aw_getI C dX5_bent_18 fX5_62 ⟨rfl, by decide⟩ rfl ?_
      rw [e11]
      refine aw_if_eq C dX5_bent_21 (tgt := 28) (by decide) ⟨by omega, by omega⟩ (fun c1 => ?_) (fun c1 => ?_)
      · exfalso; omega
      · refine aw_iconst C dX5_bent_24 ?_
        refine aw_goto C dX5_bent_25 (tgt := 36) (by decide) ?_
        exact aw_iret C E dX5_bent_36 rfl ⟨rfl, hc⟩
  refine aw_aload_n C dX5_bent_0 rfl ?_
  refine aw_aload_n C dX5_bent_1 rfl ?_
  refine aw_iload_n C dX5_bent_2 rfl ?_
  refine aw_call1 C dX5_bent_3 lX5_165 vX5_hasLoad (t_X5_hasLoad h hd) rfl rfl rfl ⟨rfl, by decide⟩ rfl ⟨by decide, by decide⟩ (Nat.le_of_ble_eq_true rfl) ?_
  refine aw_if_eq C dX5_bent_6 (tgt := 13) (by decide) ⟨by omega, by omega⟩ (fun c1 => ?_) (fun c1 => ?_)
  · refine aw_iconst C dX5_bent_13 ?_
    first
    | exact fin 0 (Or.inl ⟨rfl, k2t (by omega)⟩)
    | exact fin 1 (Or.inr ⟨rfl, k2f (by omega)⟩)
  · refine aw_iconst C dX5_bent_9 ?_
    refine aw_goto C dX5_bent_10 (tgt := 14) (by decide) ?_
    first
    | exact fin 0 (Or.inl ⟨rfl, k2t (by omega)⟩)
    | exact fin 1 (Or.inr ⟨rfl, k2f (by omega)⟩)
noncomputable def qAl (V : FV) (d e : Int) : Int × Int := if (0 ≤ d ∧ d < V.2.1) ∧ 0 ≤ e ∧ e < V.2.1 then (b01 (dfw V d e), 0) else (-1, 1)
theorem t_X5_alike {mu : Mem} {f : Nat} {d e : Int} (h : cF mu f) (hd : R32 d) (he : R32 e) : Tr 4 mX5_alike [vr 0, vi d, vi e] mu (fun r m2 => r = some (vi (qAl (fv mu f) d e).1) ∧ cE mu m2 (qAl (fv mu f) d e).2) := by
  refine Tr.of (by decide +kernel) (Nat.le_of_ble_eq_true rfl) (fun K C E => ?_)
  have hf := h.1
  have hV := h.2.2.1
  have hn := hV.n
  have hl := hV.l
  have en0 : (fv mu f).1 = mu f 0 := rfl
  have el0 : (fv mu f).2.1 = mu f 1 := rfl
  unfold qAl at E
  have k2 := b01_01 (0 ≤ d ∧ d < mu f 1)
  have k2t : b01 (0 ≤ d ∧ d < mu f 1) = 1 → 0 ≤ d ∧ d < mu f 1 := b01_iff.mp
  have k2f : b01 (0 ≤ d ∧ d < mu f 1) = 0 → ¬ (0 ≤ d ∧ d < mu f 1) := b01_niff.mp
  have k3 := b01_01 (0 ≤ e ∧ e < mu f 1)
  have k3t : b01 (0 ≤ e ∧ e < mu f 1) = 1 → 0 ≤ e ∧ e < mu f 1 := b01_iff.mp
  have k3f : b01 (0 ≤ e ∧ e < mu f 1) = 0 → ¬ (0 ≤ e ∧ e < mu f 1) := b01_niff.mp
  have fin : ∀ (c : Int), (c = 0 ∧ (0 ≤ d ∧ d < mu f 1) ∧ 0 ≤ e ∧ e < mu f 1) ∨ (c = 1 ∧ ¬ ((0 ≤ d ∧ d < mu f 1) ∧ 0 ≤ e ∧ e < mu f 1)) → AW K mX5_alike (NC, 0, 0) 22 [vr 0, vi d, vi e] [vi c, vr 0] mu := by
    rintro c (⟨rfl, q⟩ | ⟨rfl, q⟩)
    · rw [if_pos (show (0 ≤ d ∧ d < (fv mu f).2.1) ∧ 0 ≤ e ∧ e < (fv mu f).2.1 from q)] at E
      have cl := h.2.2.cl (Or.inr (show 0 < (fv mu f).2.1 by omega))
      have k4 := b01_01 (dfw (fv mu f) d e)
      refine aw_putI C dX5_alike_22 fX5_62 ⟨rfl, by decide⟩ rfl rfl rfl ?_
      have hc : cE mu (wr mu 0 11 0) 0 := cE_w
      generalize wr mu 0 11 0 = m1 at *
      obtain ⟨e5, ev, hV1, en, el, e11⟩ := hc.all h
      refine aw_aload_n C dX5_alike_25 rfl ?_
      refine aw_getI C dX5_alike_26 fX5_62 ⟨rfl, by decide⟩ rfl ?_
      rw [e11]
      refine aw_if_eq C dX5_alike_29 (tgt := 34) (by decide) ⟨by omega, by omega⟩ (fun c1 => ?_) (fun c1 => ?_)
      · refine aw_aload_n C dX5_alike_34 rfl ?_
        refine aw_getR C dX5_alike_35 fX5_43 ⟨rfl, by decide⟩ rfl e5 ?_
        refine aw_iload_n C dX5_alike_38 rfl ?_
        refine aw_iload_n C dX5_alike_39 rfl ?_
        refine aw_call1 C dX5_alike_40 lX5_200 vX1_differWholly (t_X1_differWholly hf hV1 (by rw [ev]; exact cl.1) (by omega) (by omega) (by omega) (by omega)) rfl rfl rfl hf.s0 rfl ⟨by decide, by decide⟩ (Nat.le_of_ble_eq_true rfl) ?_
        rw [ev]
        refine aw_if_eq C dX5_alike_43 (tgt := 50) (by decide) ⟨by omega, by omega⟩ (fun c2 => ?_) (fun c2 => ?_)
        · refine aw_iconst C dX5_alike_50 ?_
          exact aw_iret C E dX5_alike_51 rfl ⟨by congr 2; show _ = b01 (dfw (fv mu f) d e); omega, hc⟩
        · refine aw_iconst C dX5_alike_46 ?_
          refine aw_goto C dX5_alike_47 (tgt := 51) (by decide) ?_
          exact aw_iret C E dX5_alike_51 rfl ⟨by congr 2; show _ = b01 (dfw (fv mu f) d e); omega, hc⟩
      · exfalso; omega
    · rw [if_neg (show ¬ ((0 ≤ d ∧ d < (fv mu f).2.1) ∧ 0 ≤ e ∧ e < (fv mu f).2.1) from q)] at E
      refine aw_putI C dX5_alike_22 fX5_62 ⟨rfl, by decide⟩ rfl rfl rfl ?_
      have hc : cE mu (wr mu 0 11 1) 1 := cE_w
      generalize wr mu 0 11 1 = m1 at *
      obtain ⟨e5, ev, hV1, en, el, e11⟩ := hc.all h
      refine aw_aload_n C dX5_alike_25 rfl ?_
      refine aw_getI C dX5_alike_26 fX5_62 ⟨rfl, by decide⟩ rfl ?_
      rw [e11]
      refine aw_if_eq C dX5_alike_29 (tgt := 34) (by decide) ⟨by omega, by omega⟩ (fun c1 => ?_) (fun c1 => ?_)
      · exfalso; omega
      · refine aw_iconst C dX5_alike_32 ?_
        exact aw_iret C E dX5_alike_33 rfl ⟨rfl, hc⟩
  refine aw_aload_n C dX5_alike_0 rfl ?_
  refine aw_aload_n C dX5_alike_1 rfl ?_
  refine aw_iload_n C dX5_alike_2 rfl ?_
  refine aw_call1 C dX5_alike_3 lX5_165 vX5_hasLoad (t_X5_hasLoad h hd) rfl rfl rfl ⟨rfl, by decide⟩ rfl ⟨by decide, by decide⟩ (Nat.le_of_ble_eq_true rfl) ?_
  refine aw_if_eq C dX5_alike_6 (tgt := 21) (by decide) ⟨by omega, by omega⟩ (fun c1 => ?_) (fun c1 => ?_)
  · refine aw_iconst C dX5_alike_21 ?_
    first
    | exact fin 0 (Or.inl ⟨rfl, k2t (by omega), k3t (by omega)⟩)
    | exact fin 1 (Or.inr ⟨rfl, fun z => k2f (by omega) z.1⟩)
    | exact fin 1 (Or.inr ⟨rfl, fun z => k3f (by omega) z.2⟩)
  · refine aw_aload_n C dX5_alike_9 rfl ?_
    refine aw_iload_n C dX5_alike_10 rfl ?_
    refine aw_call1 C dX5_alike_11 lX5_165 vX5_hasLoad (t_X5_hasLoad h he) rfl rfl rfl ⟨rfl, by decide⟩ rfl ⟨by decide, by decide⟩ (Nat.le_of_ble_eq_true rfl) ?_
    refine aw_if_eq C dX5_alike_14 (tgt := 21) (by decide) ⟨by omega, by omega⟩ (fun c2 => ?_) (fun c2 => ?_)
    · refine aw_iconst C dX5_alike_21 ?_
      first
      | exact fin 0 (Or.inl ⟨rfl, k2t (by omega), k3t (by omega)⟩)
      | exact fin 1 (Or.inr ⟨rfl, fun z => k2f (by omega) z.1⟩)
      | exact fin 1 (Or.inr ⟨rfl, fun z => k3f (by omega) z.2⟩)
    · refine aw_iconst C dX5_alike_17 ?_
      refine aw_goto C dX5_alike_18 (tgt := 22) (by decide) ?_
      first
      | exact fin 0 (Or.inl ⟨rfl, k2t (by omega), k3t (by omega)⟩)
      | exact fin 1 (Or.inr ⟨rfl, fun z => k2f (by omega) z.1⟩)
      | exact fin 1 (Or.inr ⟨rfl, fun z => k3f (by omega) z.2⟩)
noncomputable def qMt (V : FV) (d e : Int) : Int × Int := if (0 ≤ d ∧ d < V.2.1) ∧ 0 ≤ e ∧ e < V.2.1 then (if meas V = -1 then (NTH, 3) else (lms V d e (meas V), 0)) else (NTH, 1)
theorem t_X5_meets {mu : Mem} {f : Nat} {d e : Int} (h : cF mu f) (hd : R32 d) (he : R32 e) : Tr 6 mX5_meets [vr 0, vi d, vi e] mu (fun r m2 => r = some (vl (qMt (fv mu f) d e).1) ∧ cE mu m2 (qMt (fv mu f) d e).2) := by
  refine Tr.of (by decide +kernel) (Nat.le_of_ble_eq_true rfl) (fun K C E => ?_)
  have hf := h.1
  have hV := h.2.2.1
  have hn := hV.n
  have hl := hV.l
  have en0 : (fv mu f).1 = mu f 0 := rfl
  have el0 : (fv mu f).2.1 = mu f 1 := rfl
  unfold qMt at E
  have k2 := b01_01 (0 ≤ d ∧ d < mu f 1)
  have k2t : b01 (0 ≤ d ∧ d < mu f 1) = 1 → 0 ≤ d ∧ d < mu f 1 := b01_iff.mp
  have k2f : b01 (0 ≤ d ∧ d < mu f 1) = 0 → ¬ (0 ≤ d ∧ d < mu f 1) := b01_niff.mp
  have k3 := b01_01 (0 ≤ e ∧ e < mu f 1)
  have k3t : b01 (0 ≤ e ∧ e < mu f 1) = 1 → 0 ≤ e ∧ e < mu f 1 := b01_iff.mp
  have k3f : b01 (0 ≤ e ∧ e < mu f 1) = 0 → ¬ (0 ≤ e ∧ e < mu f 1) := b01_niff.mp
  have fin : ∀ {v90 v91 : Vv} (c : Int), (c = 0 ∧ (0 ≤ d ∧ d < mu f 1) ∧ 0 ≤ e ∧ e < mu f 1) ∨ (c = 1 ∧ ¬ ((0 ≤ d ∧ d < mu f 1) ∧ 0 ≤ e ∧ e < mu f 1)) → AW K mX5_meets (NC, 0, 0) 22 [vr 0, vi d, vi e, v90, v91] [vi c, vr 0] mu := by
    rintro v90 v91 c (⟨rfl, q⟩ | ⟨rfl, q⟩)
    · rw [if_pos (show (0 ≤ d ∧ d < (fv mu f).2.1) ∧ 0 ≤ e ∧ e < (fv mu f).2.1 from q)] at E
      have cl := h.2.2.cl (by have := q.1; have := q.2; omega)
      have mb := meas_b cl.1
      have m03 : (meas (fv mu f) = -1 ∧ mcd (fv mu f) = 3) ∨ (meas (fv mu f) ≠ -1 ∧ mcd (fv mu f) = 0) := by unfold mcd; split <;> omega
      refine aw_putI C dX5_meets_22 fX5_62 ⟨rfl, by decide⟩ rfl rfl rfl ?_
      have hc : cE mu (wr mu 0 11 0) 0 := cE_w
      generalize wr mu 0 11 0 = m1 at *
      obtain ⟨e5, ev, hV1, en, el, e11⟩ := hc.all h
      refine aw_aload_n C dX5_meets_25 rfl ?_
      refine aw_getI C dX5_meets_26 fX5_62 ⟨rfl, by decide⟩ rfl ?_
      rw [e11]
      refine aw_if_eq C dX5_meets_29 (tgt := 38) (by decide) ⟨by omega, by omega⟩ (fun c1 => ?_) (fun c1 => ?_)
      · refine aw_aload_n C dX5_meets_38 rfl ?_
        refine aw_call1 C dX5_meets_39 lX5_122 vX5_measured (t_X5_measured (h.e hc) (by rw [ev]; exact cl.1)) rfl rfl rfl ⟨rfl, by decide⟩ rfl ⟨by decide, by decide⟩ (Nat.le_of_ble_eq_true rfl) ?_
        rw [ev]
        have hc2 : cE mu (wr m1 0 11 (mcd (fv mu f))) (mcd (fv mu f)) := hc.w
        generalize wr m1 0 11 (mcd (fv mu f)) = m3 at *
        obtain ⟨e5, ev, hV1, en, el, e11⟩ := hc2.all h
        refine aw_lstore_n C dX5_meets_42 (by decide) ?_
        refine aw_aload_n C dX5_meets_43 rfl ?_
        refine aw_getI C dX5_meets_44 fX5_62 ⟨rfl, by decide⟩ rfl ?_
        rw [e11]
        refine aw_if_eq C dX5_meets_47 (tgt := 56) (by decide) ⟨by omega, by omega⟩ (fun cm => ?_) (fun cm => ?_)
        · rw [if_neg (show ¬ meas (fv mu f) = -1 by omega)] at E
          have mz : mcd (fv mu f) = 0 := by omega
          --go
          refine aw_aload_n C dX5_meets_56 rfl ?_
          refine aw_getR C dX5_meets_57 fX5_43 ⟨rfl, by decide⟩ rfl e5 ?_
          refine aw_iload_n C dX5_meets_60 rfl ?_
          refine aw_iload_n C dX5_meets_61 rfl ?_
          refine aw_lload_n C dX5_meets_62 rfl ?_
          refine aw_call1 C dX5_meets_63 lX5_205 vX1_loadsMeet (t_X1_loadsMeet hf hV1 (by omega) (by omega) (by omega) (by omega) ⟨by omega, by omega⟩) rfl rfl rfl hf.s0 rfl ⟨by decide, by decide⟩ (Nat.le_of_ble_eq_true rfl) ?_
          try rw [ev]
          exact aw_lret C E dX5_meets_66 rfl ⟨rfl, by rw [mz] at hc2; exact hc2⟩
        · rw [if_pos (show meas (fv mu f) = -1 by omega)] at E
          have mz : mcd (fv mu f) = 3 := by omega
          --go
          refine aw_ldc2 C dX5_meets_50 kX5_130 (z := -9223372036854775808) (by decide +kernel) ?_
          refine aw_goto C dX5_meets_53 (tgt := 66) (by decide) ?_
          try rw [ev]
          exact aw_lret C E dX5_meets_66 rfl ⟨rfl, by rw [mz] at hc2; exact hc2⟩
      · exfalso; omega
    · rw [if_neg (show ¬ ((0 ≤ d ∧ d < (fv mu f).2.1) ∧ 0 ≤ e ∧ e < (fv mu f).2.1) from q)] at E
      refine aw_putI C dX5_meets_22 fX5_62 ⟨rfl, by decide⟩ rfl rfl rfl ?_
      have hc : cE mu (wr mu 0 11 1) 1 := cE_w
      generalize wr mu 0 11 1 = m1 at *
      obtain ⟨e5, ev, hV1, en, el, e11⟩ := hc.all h
      refine aw_aload_n C dX5_meets_25 rfl ?_
      refine aw_getI C dX5_meets_26 fX5_62 ⟨rfl, by decide⟩ rfl ?_
      rw [e11]
      refine aw_if_eq C dX5_meets_29 (tgt := 38) (by decide) ⟨by omega, by omega⟩ (fun c1 => ?_) (fun c1 => ?_)
      · exfalso; omega
      · refine aw_ldc2 C dX5_meets_32 kX5_203 (z := -1) (by decide +kernel) ?_
        refine aw_goto C dX5_meets_35 (tgt := 42) (by decide) ?_
        refine aw_lstore_n C dX5_meets_42 (by decide) ?_
        refine aw_aload_n C dX5_meets_43 rfl ?_
        refine aw_getI C dX5_meets_44 fX5_62 ⟨rfl, by decide⟩ rfl ?_
        rw [e11]
        refine aw_if_eq C dX5_meets_47 (tgt := 56) (by decide) ⟨by omega, by omega⟩ (fun c2 => ?_) (fun c2 => ?_)
        · exfalso; omega
        · refine aw_ldc2 C dX5_meets_50 kX5_130 (z := -9223372036854775808) (by decide +kernel) ?_
          refine aw_goto C dX5_meets_53 (tgt := 66) (by decide) ?_
          exact aw_lret C E dX5_meets_66 rfl ⟨rfl, hc⟩
  refine aw_aload_n C dX5_meets_0 rfl ?_
  refine aw_aload_n C dX5_meets_1 rfl ?_
  refine aw_iload_n C dX5_meets_2 rfl ?_
  refine aw_call1 C dX5_meets_3 lX5_165 vX5_hasLoad (t_X5_hasLoad h hd) rfl rfl rfl ⟨rfl, by decide⟩ rfl ⟨by decide, by decide⟩ (Nat.le_of_ble_eq_true rfl) ?_
  refine aw_if_eq C dX5_meets_6 (tgt := 21) (by decide) ⟨by omega, by omega⟩ (fun c1 => ?_) (fun c1 => ?_)
  · refine aw_iconst C dX5_meets_21 ?_
    first
    | exact fin 0 (Or.inl ⟨rfl, k2t (by omega), k3t (by omega)⟩)
    | exact fin 1 (Or.inr ⟨rfl, fun z => k2f (by omega) z.1⟩)
    | exact fin 1 (Or.inr ⟨rfl, fun z => k3f (by omega) z.2⟩)
  · refine aw_aload_n C dX5_meets_9 rfl ?_
    refine aw_iload_n C dX5_meets_10 rfl ?_
    refine aw_call1 C dX5_meets_11 lX5_165 vX5_hasLoad (t_X5_hasLoad h he) rfl rfl rfl ⟨rfl, by decide⟩ rfl ⟨by decide, by decide⟩ (Nat.le_of_ble_eq_true rfl) ?_
    refine aw_if_eq C dX5_meets_14 (tgt := 21) (by decide) ⟨by omega, by omega⟩ (fun c2 => ?_) (fun c2 => ?_)
    · refine aw_iconst C dX5_meets_21 ?_
      first
      | exact fin 0 (Or.inl ⟨rfl, k2t (by omega), k3t (by omega)⟩)
      | exact fin 1 (Or.inr ⟨rfl, fun z => k2f (by omega) z.1⟩)
      | exact fin 1 (Or.inr ⟨rfl, fun z => k3f (by omega) z.2⟩)
    · refine aw_iconst C dX5_meets_17 ?_
      refine aw_goto C dX5_meets_18 (tgt := 22) (by decide) ?_
      first
      | exact fin 0 (Or.inl ⟨rfl, k2t (by omega), k3t (by omega)⟩)
      | exact fin 1 (Or.inr ⟨rfl, fun z => k2f (by omega) z.1⟩)
      | exact fin 1 (Or.inr ⟨rfl, fun z => k3f (by omega) z.2⟩)
noncomputable def qTo (V : FV) (d i : Int) : Int × Int := if (0 ≤ d ∧ d < V.2.1) ∧ 0 ≤ i ∧ i < V.1 then (if meas V = -1 then (NTH, 3) else (lmr V d i (meas V), 0)) else (NTH, 1)
theorem t_X5_touches {mu : Mem} {f : Nat} {d i : Int} (h : cF mu f) (hd : R32 d) (hi : R32 i) : Tr 5 mX5_touches [vr 0, vi d, vi i] mu (fun r m2 => r = some (vl (qTo (fv mu f) d i).1) ∧ cE mu m2 (qTo (fv mu f) d i).2) := by
  refine Tr.of (by decide +kernel) (Nat.le_of_ble_eq_true rfl) (fun K C E => ?_)
  have hf := h.1
  have hV := h.2.2.1
  have hn := hV.n
  have hl := hV.l
  have en0 : (fv mu f).1 = mu f 0 := rfl
  have el0 : (fv mu f).2.1 = mu f 1 := rfl
  unfold qTo at E
  have k2 := b01_01 (0 ≤ d ∧ d < mu f 1)
  have k2t : b01 (0 ≤ d ∧ d < mu f 1) = 1 → 0 ≤ d ∧ d < mu f 1 := b01_iff.mp
  have k2f : b01 (0 ≤ d ∧ d < mu f 1) = 0 → ¬ (0 ≤ d ∧ d < mu f 1) := b01_niff.mp
  have k3 := b01_01 (0 ≤ i ∧ i < mu f 0)
  have k3t : b01 (0 ≤ i ∧ i < mu f 0) = 1 → 0 ≤ i ∧ i < mu f 0 := b01_iff.mp
  have k3f : b01 (0 ≤ i ∧ i < mu f 0) = 0 → ¬ (0 ≤ i ∧ i < mu f 0) := b01_niff.mp
  have fin : ∀ {v90 v91 : Vv} (c : Int), (c = 0 ∧ (0 ≤ d ∧ d < mu f 1) ∧ 0 ≤ i ∧ i < mu f 0) ∨ (c = 1 ∧ ¬ ((0 ≤ d ∧ d < mu f 1) ∧ 0 ≤ i ∧ i < mu f 0)) → AW K mX5_touches (NC, 0, 0) 22 [vr 0, vi d, vi i, v90, v91] [vi c, vr 0] mu := by
    rintro v90 v91 c (⟨rfl, q⟩ | ⟨rfl, q⟩)
    · rw [if_pos (show (0 ≤ d ∧ d < (fv mu f).2.1) ∧ 0 ≤ i ∧ i < (fv mu f).1 from q)] at E
      have cl := h.2.2.cl (by have := q.1; have := q.2; omega)
      have mb := meas_b cl.1
      have m03 : (meas (fv mu f) = -1 ∧ mcd (fv mu f) = 3) ∨ (meas (fv mu f) ≠ -1 ∧ mcd (fv mu f) = 0) := by unfold mcd; split <;> omega
      refine aw_putI C dX5_touches_22 fX5_62 ⟨rfl, by decide⟩ rfl rfl rfl ?_
      have hc : cE mu (wr mu 0 11 0) 0 := cE_w
      generalize wr mu 0 11 0 = m1 at *
      obtain ⟨e5, ev, hV1, en, el, e11⟩ := hc.all h
      refine aw_aload_n C dX5_touches_25 rfl ?_
      refine aw_getI C dX5_touches_26 fX5_62 ⟨rfl, by decide⟩ rfl ?_
      rw [e11]
      refine aw_if_eq C dX5_touches_29 (tgt := 38) (by decide) ⟨by omega, by omega⟩ (fun c1 => ?_) (fun c1 => ?_)
      · refine aw_aload_n C dX5_touches_38 rfl ?_
        refine aw_call1 C dX5_touches_39 lX5_122 vX5_measured (t_X5_measured (h.e hc) (by rw [ev]; exact cl.1)) rfl rfl rfl ⟨rfl, by decide⟩ rfl ⟨by decide, by decide⟩ (Nat.le_of_ble_eq_true rfl) ?_
        rw [ev]
        have hc2 : cE mu (wr m1 0 11 (mcd (fv mu f))) (mcd (fv mu f)) := hc.w
        generalize wr m1 0 11 (mcd (fv mu f)) = m3 at *
        obtain ⟨e5, ev, hV1, en, el, e11⟩ := hc2.all h
        refine aw_lstore_n C dX5_touches_42 (by decide) ?_
        refine aw_aload_n C dX5_touches_43 rfl ?_
        refine aw_getI C dX5_touches_44 fX5_62 ⟨rfl, by decide⟩ rfl ?_
        rw [e11]
        refine aw_if_eq C dX5_touches_47 (tgt := 56) (by decide) ⟨by omega, by omega⟩ (fun cm => ?_) (fun cm => ?_)
        · rw [if_neg (show ¬ meas (fv mu f) = -1 by omega)] at E
          have mz : mcd (fv mu f) = 0 := by omega
          --go
          refine aw_aload_n C dX5_touches_56 rfl ?_
          refine aw_getR C dX5_touches_57 fX5_43 ⟨rfl, by decide⟩ rfl e5 ?_
          refine aw_iload_n C dX5_touches_60 rfl ?_
          refine aw_iload_n C dX5_touches_61 rfl ?_
          refine aw_lload_n C dX5_touches_62 rfl ?_
          refine aw_call1 C dX5_touches_63 lX5_209 vX1_loadMeetsRay (t_X1_loadMeetsRay hf hV1 (by omega) (by omega) (by omega) (by omega) ⟨by omega, by omega⟩) rfl rfl rfl hf.s0 rfl ⟨by decide, by decide⟩ (Nat.le_of_ble_eq_true rfl) ?_
          try rw [ev]
          exact aw_lret C E dX5_touches_66 rfl ⟨rfl, by rw [mz] at hc2; exact hc2⟩
        · rw [if_pos (show meas (fv mu f) = -1 by omega)] at E
          have mz : mcd (fv mu f) = 3 := by omega
          --go
          refine aw_ldc2 C dX5_touches_50 kX5_130 (z := -9223372036854775808) (by decide +kernel) ?_
          refine aw_goto C dX5_touches_53 (tgt := 66) (by decide) ?_
          try rw [ev]
          exact aw_lret C E dX5_touches_66 rfl ⟨rfl, by rw [mz] at hc2; exact hc2⟩
      · exfalso; omega
    · rw [if_neg (show ¬ ((0 ≤ d ∧ d < (fv mu f).2.1) ∧ 0 ≤ i ∧ i < (fv mu f).1) from q)] at E
      refine aw_putI C dX5_touches_22 fX5_62 ⟨rfl, by decide⟩ rfl rfl rfl ?_
      have hc : cE mu (wr mu 0 11 1) 1 := cE_w
      generalize wr mu 0 11 1 = m1 at *
      obtain ⟨e5, ev, hV1, en, el, e11⟩ := hc.all h
      refine aw_aload_n C dX5_touches_25 rfl ?_
      refine aw_getI C dX5_touches_26 fX5_62 ⟨rfl, by decide⟩ rfl ?_
      rw [e11]
      refine aw_if_eq C dX5_touches_29 (tgt := 38) (by decide) ⟨by omega, by omega⟩ (fun c1 => ?_) (fun c1 => ?_)
      · exfalso; omega
      · refine aw_ldc2 C dX5_touches_32 kX5_203 (z := -1) (by decide +kernel) ?_
        refine aw_goto C dX5_touches_35 (tgt := 42) (by decide) ?_
        refine aw_lstore_n C dX5_touches_42 (by decide) ?_
        refine aw_aload_n C dX5_touches_43 rfl ?_
        refine aw_getI C dX5_touches_44 fX5_62 ⟨rfl, by decide⟩ rfl ?_
        rw [e11]
        refine aw_if_eq C dX5_touches_47 (tgt := 56) (by decide) ⟨by omega, by omega⟩ (fun c2 => ?_) (fun c2 => ?_)
        · exfalso; omega
        · refine aw_ldc2 C dX5_touches_50 kX5_130 (z := -9223372036854775808) (by decide +kernel) ?_
          refine aw_goto C dX5_touches_53 (tgt := 66) (by decide) ?_
          exact aw_lret C E dX5_touches_66 rfl ⟨rfl, hc⟩
  refine aw_aload_n C dX5_touches_0 rfl ?_
  refine aw_aload_n C dX5_touches_1 rfl ?_
  refine aw_iload_n C dX5_touches_2 rfl ?_
  refine aw_call1 C dX5_touches_3 lX5_165 vX5_hasLoad (t_X5_hasLoad h hd) rfl rfl rfl ⟨rfl, by decide⟩ rfl ⟨by decide, by decide⟩ (Nat.le_of_ble_eq_true rfl) ?_
  refine aw_if_eq C dX5_touches_6 (tgt := 21) (by decide) ⟨by omega, by omega⟩ (fun c1 => ?_) (fun c1 => ?_)
  · refine aw_iconst C dX5_touches_21 ?_
    first
    | exact fin 0 (Or.inl ⟨rfl, k2t (by omega), k3t (by omega)⟩)
    | exact fin 1 (Or.inr ⟨rfl, fun z => k2f (by omega) z.1⟩)
    | exact fin 1 (Or.inr ⟨rfl, fun z => k3f (by omega) z.2⟩)
  · refine aw_aload_n C dX5_touches_9 rfl ?_
    refine aw_iload_n C dX5_touches_10 rfl ?_
    refine aw_call1 C dX5_touches_11 lX5_126 vX5_hasRay (t_X5_hasRay h hi) rfl rfl rfl ⟨rfl, by decide⟩ rfl ⟨by decide, by decide⟩ (Nat.le_of_ble_eq_true rfl) ?_
    refine aw_if_eq C dX5_touches_14 (tgt := 21) (by decide) ⟨by omega, by omega⟩ (fun c2 => ?_) (fun c2 => ?_)
    · refine aw_iconst C dX5_touches_21 ?_
      first
      | exact fin 0 (Or.inl ⟨rfl, k2t (by omega), k3t (by omega)⟩)
      | exact fin 1 (Or.inr ⟨rfl, fun z => k2f (by omega) z.1⟩)
      | exact fin 1 (Or.inr ⟨rfl, fun z => k3f (by omega) z.2⟩)
    · refine aw_iconst C dX5_touches_17 ?_
      refine aw_goto C dX5_touches_18 (tgt := 22) (by decide) ?_
      first
      | exact fin 0 (Or.inl ⟨rfl, k2t (by omega), k3t (by omega)⟩)
      | exact fin 1 (Or.inr ⟨rfl, fun z => k2f (by omega) z.1⟩)
      | exact fin 1 (Or.inr ⟨rfl, fun z => k3f (by omega) z.2⟩)
noncomputable def qRs (V : FV) (i j : Int) : Int × Int := if (0 ≤ i ∧ i < V.1) ∧ 0 ≤ j ∧ j < V.1 then (if meas V = -1 then (NTH, 3) else (rmS V i j (meas V), 0)) else (NTH, 1)
theorem t_X5_rays {mu : Mem} {f : Nat} {i j : Int} (h : cF mu f) (hi : R32 i) (hj : R32 j) : Tr 5 mX5_rays [vr 0, vi i, vi j] mu (fun r m2 => r = some (vl (qRs (fv mu f) i j).1) ∧ cE mu m2 (qRs (fv mu f) i j).2) := by
  refine Tr.of (by decide +kernel) (Nat.le_of_ble_eq_true rfl) (fun K C E => ?_)
  have hf := h.1
  have hV := h.2.2.1
  have hn := hV.n
  have hl := hV.l
  have en0 : (fv mu f).1 = mu f 0 := rfl
  have el0 : (fv mu f).2.1 = mu f 1 := rfl
  unfold qRs at E
  have k2 := b01_01 (0 ≤ i ∧ i < mu f 0)
  have k2t : b01 (0 ≤ i ∧ i < mu f 0) = 1 → 0 ≤ i ∧ i < mu f 0 := b01_iff.mp
  have k2f : b01 (0 ≤ i ∧ i < mu f 0) = 0 → ¬ (0 ≤ i ∧ i < mu f 0) := b01_niff.mp
  have k3 := b01_01 (0 ≤ j ∧ j < mu f 0)
  have k3t : b01 (0 ≤ j ∧ j < mu f 0) = 1 → 0 ≤ j ∧ j < mu f 0 := b01_iff.mp
  have k3f : b01 (0 ≤ j ∧ j < mu f 0) = 0 → ¬ (0 ≤ j ∧ j < mu f 0) := b01_niff.mp
  have fin : ∀ {v90 v91 : Vv} (c : Int), (c = 0 ∧ (0 ≤ i ∧ i < mu f 0) ∧ 0 ≤ j ∧ j < mu f 0) ∨ (c = 1 ∧ ¬ ((0 ≤ i ∧ i < mu f 0) ∧ 0 ≤ j ∧ j < mu f 0)) → AW K mX5_rays (NC, 0, 0) 22 [vr 0, vi i, vi j, v90, v91] [vi c, vr 0] mu := by
    rintro v90 v91 c (⟨rfl, q⟩ | ⟨rfl, q⟩)
    · rw [if_pos (show (0 ≤ i ∧ i < (fv mu f).1) ∧ 0 ≤ j ∧ j < (fv mu f).1 from q)] at E
      have cl := h.2.2.cl (by have := q.1; have := q.2; omega)
      have mb := meas_b cl.1
      have m03 : (meas (fv mu f) = -1 ∧ mcd (fv mu f) = 3) ∨ (meas (fv mu f) ≠ -1 ∧ mcd (fv mu f) = 0) := by unfold mcd; split <;> omega
      refine aw_putI C dX5_rays_22 fX5_62 ⟨rfl, by decide⟩ rfl rfl rfl ?_
      have hc : cE mu (wr mu 0 11 0) 0 := cE_w
      generalize wr mu 0 11 0 = m1 at *
      obtain ⟨e5, ev, hV1, en, el, e11⟩ := hc.all h
      refine aw_aload_n C dX5_rays_25 rfl ?_
      refine aw_getI C dX5_rays_26 fX5_62 ⟨rfl, by decide⟩ rfl ?_
      rw [e11]
      refine aw_if_eq C dX5_rays_29 (tgt := 38) (by decide) ⟨by omega, by omega⟩ (fun c1 => ?_) (fun c1 => ?_)
      · refine aw_aload_n C dX5_rays_38 rfl ?_
        refine aw_call1 C dX5_rays_39 lX5_122 vX5_measured (t_X5_measured (h.e hc) (by rw [ev]; exact cl.1)) rfl rfl rfl ⟨rfl, by decide⟩ rfl ⟨by decide, by decide⟩ (Nat.le_of_ble_eq_true rfl) ?_
        rw [ev]
        have hc2 : cE mu (wr m1 0 11 (mcd (fv mu f))) (mcd (fv mu f)) := hc.w
        generalize wr m1 0 11 (mcd (fv mu f)) = m3 at *
        obtain ⟨e5, ev, hV1, en, el, e11⟩ := hc2.all h
        refine aw_lstore_n C dX5_rays_42 (by decide) ?_
        refine aw_aload_n C dX5_rays_43 rfl ?_
        refine aw_getI C dX5_rays_44 fX5_62 ⟨rfl, by decide⟩ rfl ?_
        rw [e11]
        refine aw_if_eq C dX5_rays_47 (tgt := 56) (by decide) ⟨by omega, by omega⟩ (fun cm => ?_) (fun cm => ?_)
        · rw [if_neg (show ¬ meas (fv mu f) = -1 by omega)] at E
          have mz : mcd (fv mu f) = 0 := by omega
          --go
          refine aw_aload_n C dX5_rays_56 rfl ?_
          refine aw_getR C dX5_rays_57 fX5_43 ⟨rfl, by decide⟩ rfl e5 ?_
          refine aw_iload_n C dX5_rays_60 rfl ?_
          refine aw_iload_n C dX5_rays_61 rfl ?_
          refine aw_lload_n C dX5_rays_62 rfl ?_
          refine aw_call1 C dX5_rays_63 lX5_212 vX1_raysMeet (t_X1_raysMeet hf hV1 (by omega) (by omega) (by omega) (by omega) ⟨by omega, by omega⟩) rfl rfl rfl hf.s0 rfl ⟨by decide, by decide⟩ (Nat.le_of_ble_eq_true rfl) ?_
          try rw [ev]
          exact aw_lret C E dX5_rays_66 rfl ⟨rfl, by rw [mz] at hc2; exact hc2⟩
        · rw [if_pos (show meas (fv mu f) = -1 by omega)] at E
          have mz : mcd (fv mu f) = 3 := by omega
          --go
          refine aw_ldc2 C dX5_rays_50 kX5_130 (z := -9223372036854775808) (by decide +kernel) ?_
          refine aw_goto C dX5_rays_53 (tgt := 66) (by decide) ?_
          try rw [ev]
          exact aw_lret C E dX5_rays_66 rfl ⟨rfl, by rw [mz] at hc2; exact hc2⟩
      · exfalso; omega
    · rw [if_neg (show ¬ ((0 ≤ i ∧ i < (fv mu f).1) ∧ 0 ≤ j ∧ j < (fv mu f).1) from q)] at E
      refine aw_putI C dX5_rays_22 fX5_62 ⟨rfl, by decide⟩ rfl rfl rfl ?_
      have hc : cE mu (wr mu 0 11 1) 1 := cE_w
      generalize wr mu 0 11 1 = m1 at *
      obtain ⟨e5, ev, hV1, en, el, e11⟩ := hc.all h
      refine aw_aload_n C dX5_rays_25 rfl ?_
      refine aw_getI C dX5_rays_26 fX5_62 ⟨rfl, by decide⟩ rfl ?_
      rw [e11]
      refine aw_if_eq C dX5_rays_29 (tgt := 38) (by decide) ⟨by omega, by omega⟩ (fun c1 => ?_) (fun c1 => ?_)
      · exfalso; omega
      · refine aw_ldc2 C dX5_rays_32 kX5_203 (z := -1) (by decide +kernel) ?_
        refine aw_goto C dX5_rays_35 (tgt := 42) (by decide) ?_
        refine aw_lstore_n C dX5_rays_42 (by decide) ?_
        refine aw_aload_n C dX5_rays_43 rfl ?_
        refine aw_getI C dX5_rays_44 fX5_62 ⟨rfl, by decide⟩ rfl ?_
        rw [e11]
        refine aw_if_eq C dX5_rays_47 (tgt := 56) (by decide) ⟨by omega, by omega⟩ (fun c2 => ?_) (fun c2 => ?_)
        · exfalso; omega
        · refine aw_ldc2 C dX5_rays_50 kX5_130 (z := -9223372036854775808) (by decide +kernel) ?_
          refine aw_goto C dX5_rays_53 (tgt := 66) (by decide) ?_
          exact aw_lret C E dX5_rays_66 rfl ⟨rfl, hc⟩
  refine aw_aload_n C dX5_rays_0 rfl ?_
  refine aw_aload_n C dX5_rays_1 rfl ?_
  refine aw_iload_n C dX5_rays_2 rfl ?_
  refine aw_call1 C dX5_rays_3 lX5_126 vX5_hasRay (t_X5_hasRay h hi) rfl rfl rfl ⟨rfl, by decide⟩ rfl ⟨by decide, by decide⟩ (Nat.le_of_ble_eq_true rfl) ?_
  refine aw_if_eq C dX5_rays_6 (tgt := 21) (by decide) ⟨by omega, by omega⟩ (fun c1 => ?_) (fun c1 => ?_)
  · refine aw_iconst C dX5_rays_21 ?_
    first
    | exact fin 0 (Or.inl ⟨rfl, k2t (by omega), k3t (by omega)⟩)
    | exact fin 1 (Or.inr ⟨rfl, fun z => k2f (by omega) z.1⟩)
    | exact fin 1 (Or.inr ⟨rfl, fun z => k3f (by omega) z.2⟩)
  · refine aw_aload_n C dX5_rays_9 rfl ?_
    refine aw_iload_n C dX5_rays_10 rfl ?_
    refine aw_call1 C dX5_rays_11 lX5_126 vX5_hasRay (t_X5_hasRay h hj) rfl rfl rfl ⟨rfl, by decide⟩ rfl ⟨by decide, by decide⟩ (Nat.le_of_ble_eq_true rfl) ?_
    refine aw_if_eq C dX5_rays_14 (tgt := 21) (by decide) ⟨by omega, by omega⟩ (fun c2 => ?_) (fun c2 => ?_)
    · refine aw_iconst C dX5_rays_21 ?_
      first
      | exact fin 0 (Or.inl ⟨rfl, k2t (by omega), k3t (by omega)⟩)
      | exact fin 1 (Or.inr ⟨rfl, fun z => k2f (by omega) z.1⟩)
      | exact fin 1 (Or.inr ⟨rfl, fun z => k3f (by omega) z.2⟩)
    · refine aw_iconst C dX5_rays_17 ?_
      refine aw_goto C dX5_rays_18 (tgt := 22) (by decide) ?_
      first
      | exact fin 0 (Or.inl ⟨rfl, k2t (by omega), k3t (by omega)⟩)
      | exact fin 1 (Or.inr ⟨rfl, fun z => k2f (by omega) z.1⟩)
      | exact fin 1 (Or.inr ⟨rfl, fun z => k3f (by omega) z.2⟩)

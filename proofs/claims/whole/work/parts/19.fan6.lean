def insV (V : FV) (p : Nat) (x y : Int) (c : Nat → Int) : FV := (V.1 + 1, V.2.1, ins V.2.2.1 p x, ins V.2.2.2.1 p y, fun d j => if (d : Int) < V.2.1 then ins (V.2.2.2.2 d) p (c d) j else 0)
def remV (V : FV) (p : Nat) : FV := (V.1 - 1, V.2.1, del V.2.2.1 p, del V.2.2.2.1 p, fun d => del (V.2.2.2.2 d) p)
def setN (V : FV) (d : Nat) (h : Nat → Int) : FV := (V.1, V.2.1, V.2.2.1, V.2.2.2.1, fun d2 j => if d2 = d then (if (j : Int) < V.1 then h j else 0) else V.2.2.2.2 d2 j)
theorem cut_ins {n : Int} {A B : Nat → Int} {p : Nat} {x : Int} (hp : (p : Int) ≤ n) (h : ∀ j : Nat, (j : Int) ≤ n → B j = ins A p x j) : cut1 (n + 1) B = ins (cut1 n A) p x := by
  funext j
  unfold cut1 ins
  dsimp only
  by_cases hj : (j : Int) < n + 1
  · rw [if_pos hj, h j (by omega)]
    unfold ins
    by_cases h1 : j < p
    · rw [if_pos h1, if_pos h1, if_pos (by omega)]
    · rw [if_neg h1, if_neg h1]
      by_cases h2 : j = p
      · rw [if_pos h2, if_pos h2]
      · rw [if_neg h2, if_neg h2, if_pos (by omega)]
  · rw [if_neg hj, if_neg (by omega), if_neg (by omega), if_neg (by omega)]
theorem cut_del {n : Int} {A B : Nat → Int} {p : Nat} (hp : (p : Int) < n) (h : ∀ j : Nat, (j : Int) < n - 1 → B j = del A p j) : cut1 (n - 1) B = del (cut1 n A) p := by
  funext j
  unfold cut1 del
  dsimp only
  by_cases hj : (j : Int) < n - 1
  · rw [if_pos hj, h j hj]
    unfold del
    by_cases h1 : j < p
    · rw [if_pos h1, if_pos h1, if_pos (by omega)]
    · rw [if_neg h1, if_neg h1, if_pos (by omega)]
  · rw [if_neg hj, if_neg (by omega), if_neg (by omega)]
theorem fv_frm {mu m : Mem} {f g : Nat} (h : frm (fanS f) mu m) (hf : isF f) (hg : isF g) (hne : f ≠ g) : fv m g = fv mu g := by
  obtain ⟨t, h1, rfl⟩ := hf
  obtain ⟨u, h2, rfl⟩ := hg
  have k : ∀ a, 15 + 4 * u ≤ a → a ≤ 15 + 4 * u + 3 → m a = mu a := fun a q1 q2 => h a (by unfold fanS; omega)
  unfold fv
  rw [k _ (by omega) (by omega), k (15 + 4 * u + 1) (by omega) (by omega), k (15 + 4 * u + 2) (by omega) (by omega), k (15 + 4 * u + 3) (by omega) (by omega)]
theorem op_view {mu m m3 : Mem} {f p : Nat} {x y : Int} {c : Nat → Int} (hp : (p : Int) ≤ mu f 0) (h : opR mu m f p (mu f 0) (mu f 1) x y) (h0 : m3 f = m f) (h1 : m3 (f + 1) = m (f + 1)) (h2 : m3 (f + 2) = m (f + 2)) (h3 : ∀ d j : Nat, (d : Int) < mu f 1 → (j : Int) ≤ mu f 0 → m3 (f + 3) (24 * d + j) = if j = p then c d else m (f + 3) (24 * d + j)) : fv m3 f = insV (fv mu f) p x y c := by
  obtain ⟨o1, o2, o3, o4, -⟩ := h
  unfold fv insV
  rw [h0, h1, h2, o1, o2]
  refine congrArg _ (congrArg _ (congr (congrArg _ ?_) (congr (congrArg _ ?_) ?_)))
  · exact cut_ins hp (fun j hj => (o3 j hj).1)
  · exact cut_ins hp (fun j hj => (o3 j hj).2)
  · funext d j
    show cut2 (mu f 1) (mu f 0 + 1) (fun d j => m3 (f + 3) (24 * d + j)) d j = if (d : Int) < mu f 1 then ins (fun j => cut2 (mu f 1) (mu f 0) (fun d j => mu (f + 3) (24 * d + j)) d j) p (c d) j else 0
    by_cases hd : (d : Int) < mu f 1
    · rw [if_pos hd]
      have e := congrFun (cut_ins (A := fun j => mu (f + 3) (24 * d + j)) (B := fun j => m3 (f + 3) (24 * d + j)) (x := c d) hp (fun j hj => by
        show m3 (f + 3) (24 * d + j) = _
        rw [h3 d j hd hj]
        by_cases hj2 : j = p
        · rw [if_pos hj2]; unfold ins; rw [if_neg (by omega), if_pos hj2]
        · rw [if_neg hj2, o4 d j hd hj hj2]; unfold ins
          by_cases h9 : j < p
          · rw [if_pos h9, if_pos h9]
          · rw [if_neg h9, if_neg h9, if_neg hj2, if_neg hj2])) j
      have e1 : cut2 (mu f 1) (mu f 0 + 1) (fun d j => m3 (f + 3) (24 * d + j)) d j = cut1 (mu f 0 + 1) (fun j => m3 (f + 3) (24 * d + j)) j := by
        unfold cut2 cut1; simp [hd]
      have e2 : (fun j => cut2 (mu f 1) (mu f 0) (fun d j => mu (f + 3) (24 * d + j)) d j) = cut1 (mu f 0) (fun j => mu (f + 3) (24 * d + j)) := by
        funext q; unfold cut2 cut1; simp [hd]
      rw [e1, e2]
      exact e
    · rw [if_neg hd]
      unfold cut2
      rw [if_neg (fun q => hd q.1)]
theorem t_X4_isBeyondB {x y : Int} {mu : Mem} (rx : R64 x) (ry : R64 y) (ry2 : R64 (-y)) : TrE 0 mX4_isBeyond [vl x, vl y] mu (some (vi (b01 (x < -y ∨ y < x)))) mu := by
  have h := t_X4_isBeyond (mu := mu) rx ry ry2
  by_cases q : x < -y ∨ y < x
  · rw [if_pos q] at h; rw [b01_t q]; exact h
  · rw [if_neg q] at h; rw [b01_f q]; exact h
def okI (V W : FV) (i x y : Int) : Prop := V.1 < 24 ∧ (-60 ≤ x ∧ x ≤ 60) ∧ (-60 ≤ y ∧ y ≤ 60) ∧ ∀ d : Int, 0 ≤ d → d < V.2.1 → -2000 ≤ ftt W d i x y / trn W i ∧ ftt W d i x y / trn W i ≤ 2000
def insR (mu m2 : Mem) (f : Nat) (W : FV) (i x y : Int) (r : Option Vv) : Prop := frm (fanS f) mu m2 ∧ ((okI (fv mu f) W i x y ∧ r = some (vi (pos (fv mu f) x y)) ∧ fv m2 f = insV (fv mu f) (pos (fv mu f) x y).toNat x y (fun d => ftt W d i x y / trn W i)) ∨ (¬ okI (fv mu f) W i x y ∧ r = some (vi (-1))))
theorem t_X1_insert {f g : Nat} {mu : Mem} {i x y : Int} (hf : isF f) (hg : isF g) (hne : f ≠ g) (hV : bV (fv mu f)) (hW : bV (fv mu g)) (hc : clo (fv mu g)) (hl : mu f 1 = mu g 1) (h0 : 0 ≤ i) (h1 : i < mu g 0) (rx : R32 x) (ry : R32 y) : Tr 3 mX1_insert [vr f, vr g, vi i, vi x, vi y] mu (fun r m2 => insR mu m2 f (fv mu g) i x y r) := by
  refine Tr.of (by decide +kernel) (Nat.le_of_ble_eq_true rfl) (fun K C E => ?_)
  have hn := hV.n
  have hl1 := hV.l
  have bx := b01_01 (x < -60 ∨ 60 < x)
  have by' := b01_01 (y < -60 ∨ 60 < y)
  have ix := @b01_iff (x < -60 ∨ 60 < x)
  have iy := @b01_iff (y < -60 ∨ 60 < y)
  have jx := @b01_niff (x < -60 ∨ 60 < x)
  have jy := @b01_niff (y < -60 ∨ 60 < y)
  have ht := hW.trn i
  have ht2 := hc.2 i h0 h1
  have hp : 0 ≤ pos (fv mu f) x y ∧ pos (fv mu f) x y ≤ mu f 0 := pos_in (V := fv mu f) hn.1 x y
  have main : ∀ (m1 : Mem), mu f 0 < 24 → (-60 ≤ x ∧ x ≤ 60) → (-60 ≤ y ∧ y ≤ 60) → opR mu m1 f (pos (fv mu f) x y).toNat (mu f 0) (mu f 1) x y → ∀ (k : Nat) (d : Int) (m : Mem) (v7 v8 : Vv), 0 ≤ d → d + k = mu f 1 → m f = m1 f → m (f + 1) = m1 (f + 1) → m (f + 2) = m1 (f + 2) → (∀ d2 j : Nat, j < 24 → m (f + 3) (24 * d2 + j) = if j = (pos (fv mu f) x y).toNat ∧ (d2 : Int) < d then ftt (fv mu g) d2 i x y / trn (fv mu g) i else m1 (f + 3) (24 * d2 + j)) → frm (fanS f) mu m → (∀ q : Int, 0 ≤ q → q < d → -2000 ≤ ftt (fv mu g) q i x y / trn (fv mu g) i ∧ ftt (fv mu g) q i x y / trn (fv mu g) i ≤ 2000) → AW K mX1_insert (NC, 0, 0) 46 [vr f, vr g, vi i, vi x, vi y, vi (pos (fv mu f) x y), vi d, v7, v8] [] m := by
    intro m1 a1 a2 a3 a4 k
    induction k with
    | zero =>
      intro d m v7 v8 q0 q1 q2 q3 q4 q5 q6 q7
      have e : d = mu f 1 := by omega
      subst e
      have e1 : m f 1 = mu f 1 := by rw [q2]; exact a4.2.1
      have hview := op_view (c := fun d => ftt (fv mu g) d i x y / trn (fv mu g) i) (by omega) a4 q2 q3 q4 (fun d j hd hj => by
        rw [q5 d j (by omega)]
        by_cases hj2 : j = (pos (fv mu f) x y).toNat
        · rw [if_pos ⟨hj2, hd⟩, if_pos hj2]
        · rw [if_neg (fun q => hj2 q.1), if_neg hj2])
      refine aw_iload C dX1_insert_46 rfl ?_
      refine aw_aload_n C dX1_insert_48 rfl ?_
      refine aw_getI C dX1_insert_49 fX1_25 hf.s0 rfl ?_
      rw [e1]
      refine aw_icmp_ge C dX1_insert_52 (tgt := 103) (by decide) ⟨by omega, by omega⟩ ⟨by omega, by omega⟩ (fun c1 => ?_) (fun c1 => ?_)
      · refine aw_iload C dX1_insert_103 rfl ?_
        exact aw_iret C E dX1_insert_105 rfl ⟨q6, Or.inl ⟨⟨a1, a2, a3, q7⟩, rfl, hview⟩⟩
      · exfalso; omega
    | succ k ih =>
      intro d m v7 v8 q0 q1 q2 q3 q4 q5 q6 q7
      have e1 : m f 1 = mu f 1 := by rw [q2]; exact a4.2.1
      have eg : fv m g = fv mu g := fv_frm q6 hf hg hne
      have eg0 : m g 0 = mu g 0 := congrArg (fun V : FV => V.1) eg
      have eg1 : m g 1 = mu g 1 := congrArg (fun V : FV => V.2.1) eg
      have b1 := hW.ft d i a2 a3
      have b2 : -28800000 ≤ ftt (fv mu g) d i x y / trn (fv mu g) i ∧ ftt (fv mu g) d i x y / trn (fv mu g) i ≤ 28800000 := by
        have q1 := Int.ediv_le_ediv ht2 b1.2
        have q2 := Int.ediv_le_ediv ht2 b1.1
        have q3 := Int.ediv_le_self (a := 28800000) (trn (fv mu g) i) (by omega)
        have q4 : -28800000 ≤ -28800000 / trn (fv mu g) i := Int.le_ediv_of_mul_le ht2 (by
          have := Int.mul_le_mul_of_nonneg_left (show (1 : Int) ≤ trn (fv mu g) i by omega) (show (0 : Int) ≤ 28800000 by omega)
          omega)
        omega
      have hb := b01_01 (-2000 ≤ ftt (fv mu g) d i x y / trn (fv mu g) i ∧ ftt (fv mu g) d i x y / trn (fv mu g) i ≤ 2000)
      refine aw_iload C dX1_insert_46 rfl ?_
      refine aw_aload_n C dX1_insert_48 rfl ?_
      refine aw_getI C dX1_insert_49 fX1_25 hf.s0 rfl ?_
      rw [e1]
      refine aw_icmp_ge C dX1_insert_52 (tgt := 103) (by decide) ⟨by omega, by omega⟩ ⟨by omega, by omega⟩ (fun c1 => ?_) (fun c1 => ?_)
      · exfalso; omega
      · refine aw_aload_n C dX1_insert_55 rfl ?_
        refine aw_iload C dX1_insert_56 rfl ?_
        refine aw_iload_n C dX1_insert_58 rfl ?_
        refine aw_iload_n C dX1_insert_59 rfl ?_
        refine aw_iload C dX1_insert_60 rfl ?_
        refine aw_call1 C dX1_insert_62 lX1_142 vX1_functionTimesTurn (t_X1_functionTimesTurn hg (by rw [eg]; exact hW) h0 (by rw [eg0]; exact h1) q0 (by rw [eg1]; omega) rx ry) rfl rfl rfl hg.s0 rfl ⟨by decide, by decide⟩ (Nat.le_of_ble_eq_true rfl) ?_
        rw [eg]
        refine aw_aload_n C dX1_insert_65 rfl ?_
        refine aw_iload_n C dX1_insert_66 rfl ?_
        refine aw_call1 C dX1_insert_67 lX1_55 vX1_turn (t_X1_turn hg (by rw [eg]; exact hW) h0 (by rw [eg0]; exact h1)) rfl rfl rfl hg.s0 rfl ⟨by decide, by decide⟩ (Nat.le_of_ble_eq_true rfl) ?_
        rw [eg]
        refine aw_i2l C dX1_insert_70 ⟨by omega, by omega⟩ ?_
        refine aw_callS1 C dX1_insert_71 lX1_146 vX4_floorBy (t_X4_floorBy ⟨by omega, by omega⟩ ⟨by omega, by omega⟩ ht2) rfl rfl rfl ⟨by decide, by decide⟩ (Nat.le_of_ble_eq_true rfl) ?_
        refine aw_lstore C dX1_insert_74 (by decide) ?_
        refine aw_lload C dX1_insert_76 rfl ?_
        refine aw_callS1 C dX1_insert_78 lX1_132 vX1_isHeld (t_X1_isHeld ⟨by omega, by omega⟩) rfl rfl rfl ⟨by decide, by decide⟩ (Nat.le_of_ble_eq_true rfl) ?_
        refine aw_if_ne C dX1_insert_81 (tgt := 86) (by decide) ⟨by omega, by omega⟩ (fun c2 => ?_) (fun c2 => ?_)
        · refine aw_aload_n C dX1_insert_86 rfl ?_
          refine aw_iload C dX1_insert_87 rfl ?_
          refine aw_iload C dX1_insert_89 rfl ?_
          refine aw_lload C dX1_insert_91 rfl ?_
          refine aw_l2i C dX1_insert_93 ?_
          refine aw_call0 C dX1_insert_94 lX1_51 vX1_put (t_X1_put hf hp.1 (by omega) q0 (by omega)) rfl rfl rfl hf.s0 rfl ⟨by decide, by decide⟩ (Nat.le_of_ble_eq_true rfl) ?_
          refine aw_iinc C dX1_insert_97 rfl ?_
          refine aw_goto C dX1_insert_100 (tgt := 46) (by decide) ?_
          have hh := b01_iff.mp (show b01 (-2000 ≤ ftt (fv mu g) d i x y / trn (fv mu g) i ∧ ftt (fv mu g) d i x y / trn (fv mu g) i ≤ 2000) = 1 by omega)
          refine ih (d + 1) _ _ _ (by omega) (by omega) (by rw [wr_ne (by omega)]; exact q2) (by rw [wr_ne (by omega)]; exact q3) (by rw [wr_ne (by omega)]; exact q4) (fun d2 j hj => ?_) (q6.wr ⟨by omega, by omega⟩) (fun q w1 w2 => ?_)
          · rw [wr_at]
            by_cases hx : f + 3 = f + 3 ∧ 24 * d2 + j = (d * 24 + pos (fv mu f) x y).toNat
            · have e9 : (d2 : Int) = d := by omega
              rw [if_pos hx, if_pos (by omega), e9]
            · rw [if_neg hx, q5 d2 j hj]
              by_cases hy : j = (pos (fv mu f) x y).toNat ∧ (d2 : Int) < d
              · rw [if_pos hy, if_pos (by omega)]
              · rw [if_neg hy, if_neg (by omega)]
          · rcases Int.lt_or_eq_of_le (show q ≤ d by omega) with w3 | w3
            · exact q7 q w1 w3
            · rw [w3]; exact hh
        · refine aw_iconst C dX1_insert_84 ?_
          exact aw_iret C E dX1_insert_85 rfl ⟨q6, Or.inr ⟨fun q => b01_niff.mp c2 (q.2.2.2 d q0 (by show d < mu f 1; omega)), rfl⟩⟩
  have bad : ¬ okI (fv mu f) (fv mu g) i x y → insR mu mu f (fv mu g) i x y (some (vi (-1))) := fun h => ⟨frm.rf, Or.inr ⟨h, rfl⟩⟩
  refine aw_aload_n C dX1_insert_0 rfl ?_
  refine aw_getI C dX1_insert_1 fX1_21 hf.s0 rfl ?_
  refine aw_bipush C dX1_insert_4 rfl ?_
  refine aw_icmp_ge C dX1_insert_6 (tgt := 32) (by decide) ⟨by omega, by omega⟩ ⟨by omega, by omega⟩ (fun c1 => ?_) (fun c1 => ?_)
  · have hr : ¬ okI (fv mu f) (fv mu g) i x y := fun q => by have : mu f 0 < 24 := q.1; omega
    --go
    refine aw_iconst C dX1_insert_32 ?_
    exact aw_iret C E dX1_insert_33 rfl (bad hr)
  · refine aw_iload_n C dX1_insert_9 rfl ?_
    refine aw_i2l C dX1_insert_10 ⟨by omega, by omega⟩ ?_
    refine aw_ldc2 C dX1_insert_11 kX1_136 (z := 60) (by decide +kernel) ?_
    refine aw_callS1 C dX1_insert_14 lX1_138 vX4_isBeyond (t_X4_isBeyondB ⟨by omega, by omega⟩ ⟨by omega, by omega⟩ ⟨by omega, by omega⟩) rfl rfl rfl ⟨by decide, by decide⟩ (Nat.le_of_ble_eq_true rfl) ?_
    refine aw_if_ne C dX1_insert_17 (tgt := 32) (by decide) ⟨by omega, by omega⟩ (fun c2 => ?_) (fun c2 => ?_)
    · have hr : ¬ okI (fv mu f) (fv mu g) i x y := fun q => by have w := q.2.1; have := ix.mp (by omega); omega
      --go
      refine aw_iconst C dX1_insert_32 ?_
      exact aw_iret C E dX1_insert_33 rfl (bad hr)
    · refine aw_iload C dX1_insert_20 rfl ?_
      refine aw_i2l C dX1_insert_22 ⟨by omega, by omega⟩ ?_
      refine aw_ldc2 C dX1_insert_23 kX1_136 (z := 60) (by decide +kernel) ?_
      refine aw_callS1 C dX1_insert_26 lX1_138 vX4_isBeyond (t_X4_isBeyondB ⟨by omega, by omega⟩ ⟨by omega, by omega⟩ ⟨by omega, by omega⟩) rfl rfl rfl ⟨by decide, by decide⟩ (Nat.le_of_ble_eq_true rfl) ?_
      refine aw_if_eq C dX1_insert_29 (tgt := 34) (by decide) ⟨by omega, by omega⟩ (fun c3 => ?_) (fun c3 => ?_)
      · have w1 := jx.mp (by omega)
        have w2 := jy.mp (by omega)
        --go
        refine aw_aload_n C dX1_insert_34 rfl ?_
        refine aw_iload_n C dX1_insert_35 rfl ?_
        refine aw_iload C dX1_insert_36 rfl ?_
        refine aw_call C dX1_insert_38 lX1_44 vX1_open (t_X1_open hf hV (by omega) (by omega) (by omega)) rfl rfl rfl hf.s0 rfl ⟨by decide, by decide⟩ (Nat.le_of_ble_eq_true rfl) (fun r4 mu4 hq4 => ?_)
        obtain ⟨rfl, hq⟩ := hq4
        show AW _ _ _ _ _ (vi (pos (fv mu f) x y) :: _) _
        refine aw_istore C dX1_insert_41 (by decide) ?_
        refine aw_iconst C dX1_insert_43 ?_
        refine aw_istore C dX1_insert_44 (by decide) ?_
        exact main _ (by omega) (by omega) (by omega) hq (mu f 1).toNat 0 _ _ _ (by omega) (by omega) rfl rfl rfl (fun d2 j _ => by rw [if_neg (by omega)]) hq.2.2.2.2 (fun q w1 w2 => by omega)
      · have hr : ¬ okI (fv mu f) (fv mu g) i x y := fun q => by have w := q.2.2.1; have := iy.mp (by omega); omega
        --go
        refine aw_iconst C dX1_insert_32 ?_
        exact aw_iret C E dX1_insert_33 rfl (bad hr)
theorem t_X1_remove {f : Nat} {mu : Mem} {i : Int} (hf : isF f) (hV : bV (fv mu f)) (h0 : 0 ≤ i) (h1 : i < mu f 0) : Tr 2 mX1_remove [vr f, vi i] mu (fun r m2 => r = none ∧ frm (fanS f) mu m2 ∧ fv m2 f = remV (fv mu f) i.toNat) := by
  refine Tr.of (by decide +kernel) (Nat.le_of_ble_eq_true rfl) (fun K C E => ?_)
  have hn := hV.n
  have hl := hV.l
  have loop : ∀ (k : Nat) (c : Int) (m : Mem), i ≤ c → c + 1 + k = mu f 0 → m f = mu f → (∀ j : Nat, m (f + 1) j = (if i ≤ j ∧ (j : Int) < c then mu (f + 1) (j + 1) else mu (f + 1) j) ∧ m (f + 2) j = if i ≤ j ∧ (j : Int) < c then mu (f + 2) (j + 1) else mu (f + 2) j) → (∀ d j : Nat, (d : Int) < mu f 1 → j < 24 → m (f + 3) (24 * d + j) = if i ≤ j ∧ (j : Int) < c then mu (f + 3) (24 * d + (j + 1)) else mu (f + 3) (24 * d + j)) → frm (fanS f) mu m → AW K mX1_remove (NC, 0, 0) 2 [vr f, vi i, vi c] [] m := by
    intro k
    induction k with
    | zero =>
      intro c m q0 q1 q3 q4 q5 q6
      have e0 : m f 0 = mu f 0 := by rw [q3]
      have hin : ∀ (j : Nat) (A B : Nat → Int), B j = (if i ≤ j ∧ (j : Int) < c then A (j + 1) else A j) → (j : Int) < mu f 0 - 1 → B j = del A i.toNat j := by
        intro j A B e hj
        rw [e]
        unfold del
        by_cases h9 : j < i.toNat
        · rw [if_neg (by omega), if_pos h9]
        · rw [if_pos (by omega), if_neg h9]
      refine aw_iload_n C dX1_remove_2 rfl ?_
      refine aw_iconst C dX1_remove_3 ?_
      refine aw_iadd C dX1_remove_4 ?_
      refine aw_aload_n C dX1_remove_5 rfl ?_
      refine aw_getI C dX1_remove_6 fX1_21 hf.s0 rfl ?_
      rw [e0]
      refine aw_icmp_ge C dX1_remove_9 (tgt := 26) (by decide) ⟨by omega, by omega⟩ ⟨by omega, by omega⟩ (fun c1 => ?_) (fun c1 => ?_)
      · refine aw_aload_n C dX1_remove_26 rfl ?_
        refine aw_dup_a C dX1_remove_27 ?_
        refine aw_getI C dX1_remove_28 fX1_21 hf.s0 rfl ?_
        refine aw_iconst C dX1_remove_31 ?_
        refine aw_isub C dX1_remove_32 ?_
        refine aw_putI C dX1_remove_33 fX1_21 hf.s0 rfl rfl rfl ?_
        refine aw_vret C E dX1_remove_36 rfl ⟨rfl, q6.wr ⟨by omega, by omega⟩, ?_⟩
        unfold fv remV
        rw [wr_ne (show f + 1 ≠ f by omega), wr_ne (show f + 2 ≠ f by omega), wr_ne (show f + 3 ≠ f by omega), wr_at, wr_at, if_pos ⟨rfl, rfl⟩, if_neg (by omega), q3]
        refine congrArg _ (congrArg _ (congr (congrArg _ ?_) (congr (congrArg _ ?_) ?_)))
        · exact cut_del (by omega) (fun j hj => hin j _ _ (q4 j).1 hj)
        · exact cut_del (by omega) (fun j hj => hin j _ _ (q4 j).2 hj)
        · funext d j
          show cut2 (mu f 1) (mu f 0 - 1) (fun d j => m (f + 3) (24 * d + j)) d j = del (fun j => cut2 (mu f 1) (mu f 0) (fun d j => mu (f + 3) (24 * d + j)) d j) i.toNat j
          by_cases hd : (d : Int) < mu f 1
          · have e := congrFun (cut_del (n := mu f 0) (p := i.toNat) (A := fun j => mu (f + 3) (24 * d + j)) (B := fun j => m (f + 3) (24 * d + j)) (by omega) (fun j hj => hin j (fun j => mu (f + 3) (24 * d + j)) (fun j => m (f + 3) (24 * d + j)) (q5 d j hd (by omega)) hj)) j
            have e1 : cut2 (mu f 1) (mu f 0 - 1) (fun d j => m (f + 3) (24 * d + j)) d j = cut1 (mu f 0 - 1) (fun j => m (f + 3) (24 * d + j)) j := by
              unfold cut2 cut1; simp [hd]
            have e2 : (fun j => cut2 (mu f 1) (mu f 0) (fun d j => mu (f + 3) (24 * d + j)) d j) = cut1 (mu f 0) (fun j => mu (f + 3) (24 * d + j)) := by
              funext q; unfold cut2 cut1; simp [hd]
            rw [e1, e2]
            exact e
          · have z : ∀ j, cut2 (mu f 1) (mu f 0) (fun d j => mu (f + 3) (24 * d + j)) d j = 0 := fun j => by unfold cut2; rw [if_neg (fun q => hd q.1)]
            unfold del
            dsimp only
            rw [z, z]
            unfold cut2
            rw [if_neg (fun q => hd q.1)]
            split <;> rfl
      · exfalso; omega
    | succ k ih =>
      intro c m q0 q1 q3 q4 q5 q6
      have e0 : m f 0 = mu f 0 := by rw [q3]
      have e1 : m f 1 = mu f 1 := by rw [q3]
      refine aw_iload_n C dX1_remove_2 rfl ?_
      refine aw_iconst C dX1_remove_3 ?_
      refine aw_iadd C dX1_remove_4 ?_
      refine aw_aload_n C dX1_remove_5 rfl ?_
      refine aw_getI C dX1_remove_6 fX1_21 hf.s0 rfl ?_
      rw [e0]
      refine aw_icmp_ge C dX1_remove_9 (tgt := 26) (by decide) ⟨by omega, by omega⟩ ⟨by omega, by omega⟩ (fun c1 => ?_) (fun c1 => ?_)
      · exfalso; omega
      · refine aw_aload_n C dX1_remove_12 rfl ?_
        refine aw_iload_n C dX1_remove_13 rfl ?_
        refine aw_iconst C dX1_remove_14 ?_
        refine aw_iadd C dX1_remove_15 ?_
        refine aw_iload_n C dX1_remove_16 rfl ?_
        refine aw_call C dX1_remove_17 lX1_149 vX1_move (t_X1_move (a := c + 1) (b := c) hf (by omega) (by omega) (by omega) (by omega) (by rw [e1]; exact hl)) rfl rfl rfl hf.s0 rfl ⟨by decide, by decide⟩ (Nat.le_of_ble_eq_true rfl) (fun r2 mu2 hq2 => ?_)
        obtain ⟨rfl, hq⟩ := hq2
        show AW _ _ _ _ _ [] _
        rw [e1] at hq
        refine aw_iinc C dX1_remove_20 rfl ?_
        refine aw_goto C dX1_remove_23 (tgt := 2) (by decide) ?_
        obtain ⟨z1, z2, z3, z4, z5⟩ := hq
        refine ih (c + 1) _ (by omega) (by omega) (z1.trans q3) (fun j => ?_) (fun d j hd hj => ?_) (q6.tr z5)
        · rw [z2, z3]
          refine ⟨?_, ?_⟩
          · by_cases a1 : j = c.toNat
            · rw [if_pos a1, (q4 _).1, if_neg (by omega), if_pos (by omega)]
              congr 1; omega
            · rw [if_neg a1, (q4 _).1]
              by_cases a2 : i ≤ j ∧ (j : Int) < c
              · rw [if_pos a2, if_pos (by omega)]
              · rw [if_neg a2, if_neg (by omega)]
          · by_cases a1 : j = c.toNat
            · rw [if_pos a1, (q4 _).2, if_neg (by omega), if_pos (by omega)]
              congr 1; omega
            · rw [if_neg a1, (q4 _).2]
              by_cases a2 : i ≤ j ∧ (j : Int) < c
              · rw [if_pos a2, if_pos (by omega)]
              · rw [if_neg a2, if_neg (by omega)]
        · rw [z4 d j hj]
          by_cases a1 : j = c.toNat
          · rw [if_pos ⟨a1, hd⟩, q5 d _ hd (by omega), if_neg (by omega), if_pos (by omega)]
            congr 1; omega
          · rw [if_neg (fun q => a1 q.1), q5 d j hd hj]
            by_cases a2 : i ≤ j ∧ (j : Int) < c
            · rw [if_pos a2, if_pos (by omega)]
            · rw [if_neg a2, if_neg (by omega)]
  refine aw_iload_n C dX1_remove_0 rfl ?_
  refine aw_istore_n C dX1_remove_1 (by decide) ?_
  exact loop (mu f 0 - 1 - i).toNat i mu (by omega) (by omega) rfl (fun j => ⟨by rw [if_neg (by omega)], by rw [if_neg (by omega)]⟩) (fun d j _ _ => by rw [if_neg (by omega)]) frm.rf

def frm (P : Nat → Prop) (mu m2 : Mem) : Prop := ∀ a, ¬ P a → m2 a = mu a
def fanS (f : Nat) : Nat → Prop := fun a => f ≤ a ∧ a ≤ f + 3
theorem frm.rf {P : Nat → Prop} {mu : Mem} : frm P mu mu := fun _ _ => rfl
theorem frm.tr {P : Nat → Prop} {mu m2 m3 : Mem} (h1 : frm P mu m2) (h2 : frm P m2 m3) : frm P mu m3 := fun a h => (h2 a h).trans (h1 a h)
theorem frm.mono {P Q : Nat → Prop} {mu m2 : Mem} (h : frm P mu m2) (hPQ : ∀ a, P a → Q a) : frm Q mu m2 := fun a h2 => h a (fun q => h2 (hPQ a q))
theorem frm.wr {P : Nat → Prop} {mu m2 : Mem} {k j : Nat} {v : Int} (h : frm P mu m2) (hk : P k) : frm P mu (Jvm.Pilot.@@N@@.wr m2 k j v) := fun a ha => by
  have q : a ≠ k := fun e => ha (e.symm ▸ hk)
  rw [wr_ne q]
  exact h a ha
theorem t_X1_xm {f : Nat} {mu : Mem} {i : Int} (hf : isF f) (h0 : 0 ≤ i) (h1 : i < 24) : TrE 0 mX1_x [vr f, vi i] mu (some (vi (mu (f + 1) i.toNat))) mu := by
  refine Tr.of (by decide +kernel) (Nat.le_of_ble_eq_true rfl) (fun K C E => ?_)
  refine aw_iload_n C dX1_x_0 rfl ?_
  refine aw_if_lt C dX1_x_1 (tgt := 19) (by decide) ⟨by omega, by omega⟩ (fun c1 => ?_) (fun c1 => ?_)
  · exfalso; omega
  · refine aw_iload_n C dX1_x_4 rfl ?_
    refine aw_bipush C dX1_x_5 rfl ?_
    refine aw_icmp_ge C dX1_x_7 (tgt := 19) (by decide) ⟨by omega, by omega⟩ ⟨by omega, by omega⟩ (fun c2 => ?_) (fun c2 => ?_)
    · exfalso; omega
    · refine aw_aload_n C dX1_x_10 rfl ?_
      refine aw_getS C dX1_x_11 fX1_11 hf.s0 rfl rfl hf.x ?_
      refine aw_iload_n C dX1_x_14 rfl ?_
      refine aw_iald C dX1_x_15 hf.s1 (by decide) (by omega) (by omega) ?_
      refine aw_goto C dX1_x_16 (tgt := 20) (by decide) ?_
      exact aw_iret C E dX1_x_20 rfl ⟨rfl, rfl⟩
theorem t_X1_ym {f : Nat} {mu : Mem} {i : Int} (hf : isF f) (h0 : 0 ≤ i) (h1 : i < 24) : TrE 0 mX1_y [vr f, vi i] mu (some (vi (mu (f + 2) i.toNat))) mu := by
  refine Tr.of (by decide +kernel) (Nat.le_of_ble_eq_true rfl) (fun K C E => ?_)
  refine aw_iload_n C dX1_y_0 rfl ?_
  refine aw_if_lt C dX1_y_1 (tgt := 19) (by decide) ⟨by omega, by omega⟩ (fun c1 => ?_) (fun c1 => ?_)
  · exfalso; omega
  · refine aw_iload_n C dX1_y_4 rfl ?_
    refine aw_bipush C dX1_y_5 rfl ?_
    refine aw_icmp_ge C dX1_y_7 (tgt := 19) (by decide) ⟨by omega, by omega⟩ ⟨by omega, by omega⟩ (fun c2 => ?_) (fun c2 => ?_)
    · exfalso; omega
    · refine aw_aload_n C dX1_y_10 rfl ?_
      refine aw_getS C dX1_y_11 fX1_15 hf.s0 rfl rfl hf.y ?_
      refine aw_iload_n C dX1_y_14 rfl ?_
      refine aw_iald C dX1_y_15 hf.s2 (by decide) (by omega) (by omega) ?_
      refine aw_goto C dX1_y_16 (tgt := 20) (by decide) ?_
      exact aw_iret C E dX1_y_20 rfl ⟨rfl, rfl⟩
theorem t_X1_nm {f : Nat} {mu : Mem} {d i : Int} (hf : isF f) (h0 : 0 ≤ i) (h1 : i < 24) (h2 : 0 ≤ d) (h3 : d < 6) : TrE 0 mX1_number [vr f, vi d, vi i] mu (some (vi (mu (f + 3) (d * 24 + i).toNat))) mu := by
  refine Tr.of (by decide +kernel) (Nat.le_of_ble_eq_true rfl) (fun K C E => ?_)
  refine aw_iload_n C dX1_number_0 rfl ?_
  refine aw_bipush C dX1_number_1 rfl ?_
  refine aw_imul C dX1_number_3 ?_
  refine aw_iload_n C dX1_number_4 rfl ?_
  refine aw_iadd C dX1_number_5 ?_
  refine aw_istore_n C dX1_number_6 (by decide) ?_
  refine aw_iload_n C dX1_number_7 rfl ?_
  refine aw_if_lt C dX1_number_8 (tgt := 29) (by decide) ⟨by omega, by omega⟩ (fun c1 => ?_) (fun c1 => ?_)
  · exfalso; omega
  · refine aw_iload_n C dX1_number_11 rfl ?_
    refine aw_aload_n C dX1_number_12 rfl ?_
    refine aw_getS C dX1_number_13 fX1_18 hf.s0 rfl rfl hf.n ?_
    refine aw_alen C dX1_number_16 hf.s3 (by decide) ?_
    refine aw_icmp_ge C dX1_number_17 (tgt := 29) (by decide) ⟨by omega, by omega⟩ ⟨by omega, by omega⟩ (fun c2 => ?_) (fun c2 => ?_)
    · exfalso; omega
    · refine aw_aload_n C dX1_number_20 rfl ?_
      refine aw_getS C dX1_number_21 fX1_18 hf.s0 rfl rfl hf.n ?_
      refine aw_iload_n C dX1_number_24 rfl ?_
      refine aw_iald C dX1_number_25 hf.s3 (by decide) (by omega) (by omega) ?_
      refine aw_goto C dX1_number_26 (tgt := 30) (by decide) ?_
      exact aw_iret C E dX1_number_30 rfl ⟨rfl, rfl⟩
/-- a ray's place taken over by another's -/
def mvR (mu m2 : Mem) (f a b : Nat) (l : Int) : Prop := m2 f = mu f ∧ (∀ j, m2 (f + 1) j = if j = b then mu (f + 1) a else mu (f + 1) j) ∧ (∀ j, m2 (f + 2) j = if j = b then mu (f + 2) a else mu (f + 2) j) ∧ (∀ d j : Nat, j < 24 → m2 (f + 3) (24 * d + j) = if j = b ∧ (d : Int) < l then mu (f + 3) (24 * d + a) else mu (f + 3) (24 * d + j)) ∧ frm (fanS f) mu m2
theorem t_X1_move {f : Nat} {mu : Mem} {a b : Int} (hf : isF f) (h0 : 0 ≤ a) (h1 : a < 24) (h2 : 0 ≤ b) (h3 : b < 24) (hl : 0 ≤ mu f 1 ∧ mu f 1 ≤ 6) : Tr 1 mX1_move [vr f, vi a, vi b] mu (fun r m2 => r = none ∧ mvR mu m2 f a.toNat b.toNat (mu f 1)) := by
  refine Tr.of (by decide +kernel) (Nat.le_of_ble_eq_true rfl) (fun K C E => ?_)
  have loop : ∀ (k : Nat) (d : Int) (m : Mem), 0 ≤ d → d + k = mu f 1 → mvR mu m f a.toNat b.toNat d → AW K mX1_move (NC, 0, 0) 47 [vr f, vi a, vi b, vi d] [] m := by
    intro k
    induction k with
    | zero =>
      intro d m q0 q1 q2
      have e : d = mu f 1 := by omega
      subst e
      have e1 : m f 1 = mu f 1 := by rw [q2.1]
      refine aw_iload_n C dX1_move_47 rfl ?_
      refine aw_aload_n C dX1_move_48 rfl ?_
      refine aw_getI C dX1_move_49 fX1_25 hf.s0 rfl ?_
      rw [e1]
      refine aw_icmp_ge C dX1_move_52 (tgt := 73) (by decide) ⟨by omega, by omega⟩ ⟨by omega, by omega⟩ (fun c1 => ?_) (fun c1 => ?_)
      · exact aw_vret C E dX1_move_73 rfl ⟨rfl, q2⟩
      · exfalso; omega
    | succ k ih =>
      intro d m q0 q1 q2
      have e1 : m f 1 = mu f 1 := by rw [q2.1]
      refine aw_iload_n C dX1_move_47 rfl ?_
      refine aw_aload_n C dX1_move_48 rfl ?_
      refine aw_getI C dX1_move_49 fX1_25 hf.s0 rfl ?_
      rw [e1]
      refine aw_icmp_ge C dX1_move_52 (tgt := 73) (by decide) ⟨by omega, by omega⟩ ⟨by omega, by omega⟩ (fun c1 => ?_) (fun c1 => ?_)
      · exfalso; omega
      · refine aw_aload_n C dX1_move_55 rfl ?_
        refine aw_iload_n C dX1_move_56 rfl ?_
        refine aw_iload_n C dX1_move_57 rfl ?_
        refine aw_aload_n C dX1_move_58 rfl ?_
        refine aw_iload_n C dX1_move_59 rfl ?_
        refine aw_iload_n C dX1_move_60 rfl ?_
        refine aw_call1 C dX1_move_61 lX1_108 vX1_number (t_X1_nm hf h0 h1 q0 (by omega)) rfl rfl rfl hf.s0 rfl ⟨by decide, by decide⟩ (Nat.le_of_ble_eq_true rfl) ?_
        refine aw_call0 C dX1_move_64 lX1_51 vX1_put (t_X1_put hf h2 h3 q0 (by omega)) rfl rfl rfl hf.s0 rfl ⟨by decide, by decide⟩ (Nat.le_of_ble_eq_true rfl) ?_
        refine aw_iinc C dX1_move_67 rfl ?_
        refine aw_goto C dX1_move_70 (tgt := 47) (by decide) ?_
        refine ih (d + 1) _ (by omega) (by omega) ?_
        obtain ⟨z1, z2, z3, z4, z5⟩ := q2
        refine ⟨by rw [wr_ne (by omega)]; exact z1, fun j => by rw [wr_ne (by omega)]; exact z2 j, fun j => by rw [wr_ne (by omega)]; exact z3 j, fun d2 j hj => ?_, z5.wr ⟨by omega, by omega⟩⟩
        rw [wr_at]
        have r1 := z4 d.toNat a.toNat (by omega)
        rw [show 24 * d.toNat + a.toNat = (d * 24 + a).toNat by omega] at r1
        by_cases hx : f + 3 = f + 3 ∧ 24 * d2 + j = (d * 24 + b).toNat
        · rw [if_pos hx, r1, if_neg (by omega), if_pos (by omega)]
          congr 1; omega
        · rw [if_neg hx, z4 d2 j hj]
          by_cases hy : j = b.toNat ∧ (d2 : Int) < d
          · rw [if_pos hy, if_pos (by omega)]
          · rw [if_neg hy, if_neg (by omega)]
  refine aw_iload_n C dX1_move_0 rfl ?_
  refine aw_if_lt C dX1_move_1 (tgt := 20) (by decide) ⟨by omega, by omega⟩ (fun c1 => ?_) (fun c1 => ?_)
  · exfalso; omega
  · refine aw_iload_n C dX1_move_4 rfl ?_
    refine aw_if_lt C dX1_move_5 (tgt := 20) (by decide) ⟨by omega, by omega⟩ (fun c2 => ?_) (fun c2 => ?_)
    · exfalso; omega
    · refine aw_iload_n C dX1_move_8 rfl ?_
      refine aw_bipush C dX1_move_9 rfl ?_
      refine aw_icmp_ge C dX1_move_11 (tgt := 20) (by decide) ⟨by omega, by omega⟩ ⟨by omega, by omega⟩ (fun c3 => ?_) (fun c3 => ?_)
      · exfalso; omega
      · refine aw_iload_n C dX1_move_14 rfl ?_
        refine aw_bipush C dX1_move_15 rfl ?_
        refine aw_icmp_lt C dX1_move_17 (tgt := 21) (by decide) ⟨by omega, by omega⟩ ⟨by omega, by omega⟩ (fun c4 => ?_) (fun c4 => ?_)
        · refine aw_aload_n C dX1_move_21 rfl ?_
          refine aw_getS C dX1_move_22 fX1_11 hf.s0 rfl rfl hf.x ?_
          refine aw_iload_n C dX1_move_25 rfl ?_
          refine aw_aload_n C dX1_move_26 rfl ?_
          refine aw_getS C dX1_move_27 fX1_11 hf.s0 rfl rfl hf.x ?_
          refine aw_iload_n C dX1_move_30 rfl ?_
          refine aw_iald C dX1_move_31 hf.s1 (by decide) (by omega) (by omega) ?_
          refine aw_iast C dX1_move_32 hf.s1 (by decide) (by omega) (by omega) ?_
          refine aw_aload_n C dX1_move_33 rfl ?_
          refine aw_getS C dX1_move_34 fX1_15 hf.s0 rfl rfl hf.y ?_
          refine aw_iload_n C dX1_move_37 rfl ?_
          refine aw_aload_n C dX1_move_38 rfl ?_
          refine aw_getS C dX1_move_39 fX1_15 hf.s0 rfl rfl hf.y ?_
          refine aw_iload_n C dX1_move_42 rfl ?_
          refine aw_iald C dX1_move_43 hf.s2 (by decide) (by omega) (by omega) ?_
          refine aw_iast C dX1_move_44 hf.s2 (by decide) (by omega) (by omega) ?_
          refine aw_iconst C dX1_move_45 ?_
          refine aw_istore_n C dX1_move_46 (by decide) ?_
          refine loop (mu f 1).toNat 0 _ (by omega) (by omega) ⟨by rw [wr_ne (by omega), wr_ne (by omega)], fun j => ?_, fun j => ?_, fun d j hj => ?_, (frm.rf.wr ⟨by omega, by omega⟩).wr ⟨by omega, by omega⟩⟩
          · rw [wr_ne (by omega), wr_at]; simp
          · rw [wr_at, wr_ne (show f + 2 ≠ f + 1 by omega)]; simp
          · rw [wr_ne (by omega), wr_ne (by omega), if_neg (by omega)]
        · exfalso; omega
def ins (A : Nat → Int) (p : Nat) (v : Int) : Nat → Int := fun j => if j < p then A j else if j = p then v else A (j - 1)
def del (A : Nat → Int) (p : Nat) : Nat → Int := fun j => if j < p then A j else A (j + 1)
noncomputable def pos (V : FV) (x y : Int) : Int := fst (fun i => ¬ cbf (gx V i) (gy V i) x y) V.1 V.1.toNat 0
theorem fst_in {P : Int → Prop} {z : Int} : ∀ (k : Nat) (i : Int), i + k = z → i ≤ fst P z k i ∧ fst P z k i ≤ z
  | 0, i, h => by show i ≤ z ∧ z ≤ z; omega
  | k + 1, i, h => by
    rcases Classical.em (P i) with q | q
    · rw [fst_t q]; omega
    · rw [fst_f q]; have := fst_in (P := P) (z := z) k (i + 1) (by omega); omega
theorem pos_in {V : FV} (h : 0 ≤ V.1) (x y : Int) : 0 ≤ pos V x y ∧ pos V x y ≤ V.1 := fst_in _ _ (by omega)
/-- room made for a ray at p -/
def opR (mu m2 : Mem) (f p : Nat) (n l x y : Int) : Prop := m2 f 0 = n + 1 ∧ m2 f 1 = l ∧ (∀ j : Nat, (j : Int) ≤ n → m2 (f + 1) j = ins (mu (f + 1)) p x j ∧ m2 (f + 2) j = ins (mu (f + 2)) p y j) ∧ (∀ d j : Nat, (d : Int) < l → (j : Int) ≤ n → j ≠ p → m2 (f + 3) (24 * d + j) = ins (fun q => mu (f + 3) (24 * d + q)) p 0 j) ∧ frm (fanS f) mu m2
theorem t_X1_open {f : Nat} {mu : Mem} {x y : Int} (hf : isF f) (hV : bV (fv mu f)) (hn : mu f 0 < 24) (hx : -60 ≤ x ∧ x ≤ 60) (hy : -60 ≤ y ∧ y ≤ 60) : Tr 2 mX1_open [vr f, vi x, vi y] mu (fun r m2 => r = some (vi (pos (fv mu f) x y)) ∧ opR mu m2 f (pos (fv mu f) x y).toNat (mu f 0) (mu f 1) x y) := by
  refine Tr.of (by decide +kernel) (Nat.le_of_ble_eq_true rfl) (fun K C E => ?_)
  have hn1 := hV.n
  have hl := hV.l
  have hp : 0 ≤ pos (fv mu f) x y ∧ pos (fv mu f) x y ≤ mu f 0 := pos_in (V := fv mu f) hn1.1 x y
  generalize hpe : pos (fv mu f) x y = p at *
  have loop2 : ∀ (k : Nat) (c : Int) (m : Mem), p + k = c → c ≤ mu f 0 → m f = mu f → (∀ j : Nat, m (f + 1) j = (if c < j ∧ (j : Int) ≤ mu f 0 then mu (f + 1) (j - 1) else mu (f + 1) j) ∧ m (f + 2) j = if c < j ∧ (j : Int) ≤ mu f 0 then mu (f + 2) (j - 1) else mu (f + 2) j) → (∀ d j : Nat, (d : Int) < mu f 1 → j < 24 → m (f + 3) (24 * d + j) = if c < j ∧ (j : Int) ≤ mu f 0 then mu (f + 3) (24 * d + (j - 1)) else mu (f + 3) (24 * d + j)) → frm (fanS f) mu m → AW K mX1_open (NC, 0, 0) 57 [vr f, vi x, vi y, vi p, vi c] [] m := by
    intro k
    induction k with
    | zero =>
      intro c m q1 q2 q3 q4 q5 q6
      have e : c = p := by omega
      subst e
      have e0 : m f 0 = mu f 0 := by rw [q3]
      refine aw_iload C dX1_open_57 rfl ?_
      refine aw_iload_n C dX1_open_59 rfl ?_
      refine aw_icmp_le C dX1_open_60 (tgt := 79) (by decide) ⟨by omega, by omega⟩ ⟨by omega, by omega⟩ (fun c1 => ?_) (fun c1 => ?_)
      · refine aw_aload_n C dX1_open_79 rfl ?_
        refine aw_getS C dX1_open_80 fX1_11 hf.s0 rfl rfl hf.x ?_
        refine aw_iload_n C dX1_open_83 rfl ?_
        refine aw_iload_n C dX1_open_84 rfl ?_
        refine aw_iast C dX1_open_85 hf.s1 (by decide) (by omega) (by omega) ?_
        refine aw_aload_n C dX1_open_86 rfl ?_
        refine aw_getS C dX1_open_87 fX1_15 hf.s0 rfl rfl hf.y ?_
        refine aw_iload_n C dX1_open_90 rfl ?_
        refine aw_iload_n C dX1_open_91 rfl ?_
        refine aw_iast C dX1_open_92 hf.s2 (by decide) (by omega) (by omega) ?_
        refine aw_aload_n C dX1_open_93 rfl ?_
        refine aw_dup_a C dX1_open_94 ?_
        refine aw_getI C dX1_open_95 fX1_21 hf.s0 rfl ?_
        refine aw_iconst C dX1_open_98 ?_
        refine aw_iadd C dX1_open_99 ?_
        refine aw_putI C dX1_open_100 fX1_21 hf.s0 rfl rfl rfl ?_
        refine aw_iload_n C dX1_open_103 rfl ?_
        refine aw_iret C E dX1_open_104 rfl ⟨rfl, ⟨by rw [wr_at, if_pos ⟨rfl, rfl⟩, wr_ne (by omega), wr_ne (by omega), e0], by rw [wr_at, if_neg (by omega), wr_ne (by omega), wr_ne (by omega), q3], fun j hj => ⟨?_, ?_⟩, fun d j hd hj hne => ?_, ((q6.wr ⟨by omega, by omega⟩).wr ⟨by omega, by omega⟩).wr ⟨by omega, by omega⟩⟩⟩
        · rw [wr_ne (by omega), wr_ne (by omega), wr_at]
          unfold ins
          by_cases a1 : j = c.toNat
          · rw [if_pos ⟨rfl, a1⟩, if_neg (by omega), if_pos a1]
          · rw [if_neg (fun q => a1 q.2), (q4 j).1]
            by_cases a2 : j < c.toNat
            · rw [if_neg (by omega), if_pos a2]
            · rw [if_pos (by omega), if_neg a2, if_neg a1]
        · rw [wr_ne (by omega), wr_at]
          unfold ins
          by_cases a1 : j = c.toNat
          · rw [if_pos ⟨rfl, a1⟩, if_neg (by omega), if_pos a1]
          · rw [if_neg (fun q => a1 q.2), wr_ne (by omega), (q4 j).2]
            by_cases a2 : j < c.toNat
            · rw [if_neg (by omega), if_pos a2]
            · rw [if_pos (by omega), if_neg a2, if_neg a1]
        · rw [wr_ne (by omega), wr_ne (by omega), wr_ne (by omega), q5 d j hd (by omega)]
          unfold ins
          by_cases a2 : j < c.toNat
          · rw [if_neg (by omega), if_pos a2]
          · rw [if_pos (by omega), if_neg a2, if_neg hne]
      · exfalso; omega
    | succ k ih =>
      intro c m q1 q2 q3 q4 q5 q6
      have e0 : m f 1 = mu f 1 := by rw [q3]
      refine aw_iload C dX1_open_57 rfl ?_
      refine aw_iload_n C dX1_open_59 rfl ?_
      refine aw_icmp_le C dX1_open_60 (tgt := 79) (by decide) ⟨by omega, by omega⟩ ⟨by omega, by omega⟩ (fun c1 => ?_) (fun c1 => ?_)
      · exfalso; omega
      · refine aw_aload_n C dX1_open_63 rfl ?_
        refine aw_iload C dX1_open_64 rfl ?_
        refine aw_iconst C dX1_open_66 ?_
        refine aw_isub C dX1_open_67 ?_
        refine aw_iload C dX1_open_68 rfl ?_
        refine aw_call C dX1_open_70 lX1_149 vX1_move (t_X1_move (a := c - 1) (b := c) hf (by omega) (by omega) (by omega) (by omega) (by rw [e0]; exact hl)) rfl rfl rfl hf.s0 rfl ⟨by decide, by decide⟩ (Nat.le_of_ble_eq_true rfl) (fun r2 mu2 hq2 => ?_)
        obtain ⟨rfl, hq⟩ := hq2
        show AW _ _ _ _ _ [] _
        rw [e0] at hq
        refine aw_iinc C dX1_open_73 rfl ?_
        refine aw_goto C dX1_open_76 (tgt := 57) (by decide) ?_
        obtain ⟨z1, z2, z3, z4, z5⟩ := hq
        refine ih (c + -1) _ (by omega) (by omega) (z1.trans q3) (fun j => ?_) (fun d j hd hj => ?_) (q6.tr z5)
        · rw [z2, z3]
          refine ⟨?_, ?_⟩
          · by_cases a1 : j = c.toNat
            · rw [if_pos a1, (q4 _).1, if_neg (by omega), if_pos (by omega)]
              congr 1; omega
            · rw [if_neg a1, (q4 _).1]
              by_cases a2 : c < j ∧ (j : Int) ≤ mu f 0
              · rw [if_pos a2, if_pos (by omega)]
              · rw [if_neg a2, if_neg (by omega)]
          · by_cases a1 : j = c.toNat
            · rw [if_pos a1, (q4 _).2, if_neg (by omega), if_pos (by omega)]
              congr 1; omega
            · rw [if_neg a1, (q4 _).2]
              by_cases a2 : c < j ∧ (j : Int) ≤ mu f 0
              · rw [if_pos a2, if_pos (by omega)]
              · rw [if_neg a2, if_neg (by omega)]
        · rw [z4 d j hj]
          by_cases a1 : j = c.toNat
          · rw [if_pos ⟨a1, hd⟩, q5 d _ hd (by omega), if_neg (by omega), if_pos (by omega)]
            congr 1; omega
          · rw [if_neg (fun q => a1 q.1), q5 d j hd hj]
            by_cases a2 : c < j ∧ (j : Int) ≤ mu f 0
            · rw [if_pos a2, if_pos (by omega)]
            · rw [if_neg a2, if_neg (by omega)]
  have loop : ∀ (k : Nat) (i : Int) (v4 : Vv), 0 ≤ i → i + k = mu f 0 → pos (fv mu f) x y = fst (fun i => ¬ cbf (gx (fv mu f) i) (gy (fv mu f) i) x y) (mu f 0) k i → AW K mX1_open (NC, 0, 0) 2 [vr f, vi x, vi y, vi i, v4] [] mu := by
    intro k
    induction k with
    | zero =>
      intro i v4 q0 q1 q2
      have e : i = p := by rw [← hpe, q2]; show i = mu f 0; omega
      subst e
      refine aw_iload_n C dX1_open_2 rfl ?_
      refine aw_aload_n C dX1_open_3 rfl ?_
      refine aw_getI C dX1_open_4 fX1_21 hf.s0 rfl ?_
      refine aw_icmp_ge C dX1_open_7 (tgt := 34) (by decide) ⟨by omega, by omega⟩ ⟨by omega, by omega⟩ (fun c1 => ?_) (fun c1 => ?_)
      · refine aw_aload_n C dX1_open_34 rfl ?_
        refine aw_getI C dX1_open_35 fX1_21 hf.s0 rfl ?_
        refine aw_bipush C dX1_open_38 rfl ?_
        refine aw_icmp_ge C dX1_open_40 (tgt := 49) (by decide) ⟨by omega, by omega⟩ ⟨by omega, by omega⟩ (fun c2 => ?_) (fun c2 => ?_)
        · exfalso; omega
        · refine aw_iload_n C dX1_open_43 rfl ?_
          refine aw_bipush C dX1_open_44 rfl ?_
          refine aw_icmp_lt C dX1_open_46 (tgt := 51) (by decide) ⟨by omega, by omega⟩ ⟨by omega, by omega⟩ (fun c3 => ?_) (fun c3 => ?_)
          · refine aw_aload_n C dX1_open_51 rfl ?_
            refine aw_getI C dX1_open_52 fX1_21 hf.s0 rfl ?_
            refine aw_istore C dX1_open_55 (by decide) ?_
            exact loop2 (mu f 0 - i).toNat (mu f 0) mu (by omega) (by omega) rfl (fun j => ⟨by rw [if_neg (by omega)], by rw [if_neg (by omega)]⟩) (fun d j _ _ => by rw [if_neg (by omega)]) frm.rf
          · exfalso; omega
      · exfalso; omega
    | succ k ih =>
      intro i v4 q0 q1 q2
      have x1 := hV.x i
      have y1 := hV.y i
      have hb := b01_01 (cbf (gx (fv mu f) i) (gy (fv mu f) i) x y)
      refine aw_iload_n C dX1_open_2 rfl ?_
      refine aw_aload_n C dX1_open_3 rfl ?_
      refine aw_getI C dX1_open_4 fX1_21 hf.s0 rfl ?_
      refine aw_icmp_ge C dX1_open_7 (tgt := 34) (by decide) ⟨by omega, by omega⟩ ⟨by omega, by omega⟩ (fun c1 => ?_) (fun c1 => ?_)
      · exfalso; omega
      · refine aw_aload_n C dX1_open_10 rfl ?_
        refine aw_iload_n C dX1_open_11 rfl ?_
        refine aw_call1 C dX1_open_12 lX1_65 vX1_x (t_X1_x hf hV (by omega) (by omega)) rfl rfl rfl hf.s0 rfl ⟨by decide, by decide⟩ (Nat.le_of_ble_eq_true rfl) ?_
        refine aw_aload_n C dX1_open_15 rfl ?_
        refine aw_iload_n C dX1_open_16 rfl ?_
        refine aw_call1 C dX1_open_17 lX1_68 vX1_y (t_X1_y hf hV (by omega) (by omega)) rfl rfl rfl hf.s0 rfl ⟨by decide, by decide⟩ (Nat.le_of_ble_eq_true rfl) ?_
        refine aw_iload_n C dX1_open_20 rfl ?_
        refine aw_iload_n C dX1_open_21 rfl ?_
        refine aw_callS1 C dX1_open_22 lX1_153 vX1_comesBefore (t_X1_comesBefore x1 y1 hx hy) rfl rfl rfl ⟨by decide, by decide⟩ (Nat.le_of_ble_eq_true rfl) ?_
        refine aw_if_eq C dX1_open_25 (tgt := 34) (by decide) ⟨by omega, by omega⟩ (fun c2 => ?_) (fun c2 => ?_)
        · have e : i = p := by rw [← hpe, q2, fst_t (b01_niff.mp (by omega))]
          subst e
          --go
          refine aw_aload_n C dX1_open_34 rfl ?_
          refine aw_getI C dX1_open_35 fX1_21 hf.s0 rfl ?_
          refine aw_bipush C dX1_open_38 rfl ?_
          refine aw_icmp_ge C dX1_open_40 (tgt := 49) (by decide) ⟨by omega, by omega⟩ ⟨by omega, by omega⟩ (fun c3 => ?_) (fun c3 => ?_)
          · exfalso; omega
          · refine aw_iload_n C dX1_open_43 rfl ?_
            refine aw_bipush C dX1_open_44 rfl ?_
            refine aw_icmp_lt C dX1_open_46 (tgt := 51) (by decide) ⟨by omega, by omega⟩ ⟨by omega, by omega⟩ (fun c4 => ?_) (fun c4 => ?_)
            · refine aw_aload_n C dX1_open_51 rfl ?_
              refine aw_getI C dX1_open_52 fX1_21 hf.s0 rfl ?_
              refine aw_istore C dX1_open_55 (by decide) ?_
              exact loop2 (mu f 0 - i).toNat (mu f 0) mu (by omega) (by omega) rfl (fun j => ⟨by rw [if_neg (by omega)], by rw [if_neg (by omega)]⟩) (fun d j _ _ => by rw [if_neg (by omega)]) frm.rf
            · exfalso; omega
        · refine aw_iinc C dX1_open_28 rfl ?_
          refine aw_goto C dX1_open_31 (tgt := 2) (by decide) ?_
          exact ih (i + 1) _ (by omega) (by omega) (by rw [q2, fst_f (fun q => q (b01_iff.mp (by omega)))])
  refine aw_iconst C dX1_open_0 ?_
  refine aw_istore_n C dX1_open_1 (by decide) ?_
  exact loop (mu f 0).toNat 0 _ (by omega) (by omega) rfl

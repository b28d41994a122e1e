def ftt (V : FV) (d i x y : Int) : Int := (x * gy V (nxt V i) - y * gx V (nxt V i)) * gn V d i + (gx V i * y - gy V i * x) * gn V d (nxt V i)
def pcA (V : FV) (d i : Int) : Int := gn V d (nxt V i) * gy V i - gn V d i * gy V (nxt V i)
def pcU (V : FV) (d i : Int) : Int := gn V d i * gx V (nxt V i) - gn V d (nxt V i) * gx V i
def pwh (V : FV) (d i : Int) : Prop := pcA V d i % trn V i = 0 ∧ pcU V d i % trn V i = 0
def bdm (V : FV) (d i : Int) : Int := gn V d (prv V i) * trn V i + gn V d (nxt V i) * trn V (prv V i) - gn V d i * arn V i
def bdS (V : FV) (d : Int) : Int := fld (fun a i => min a (if bdm V d i > 0 then 2 else if bdm V d i = 0 then 1 else 0)) 2 V.1.toNat
def dfw (V : FV) (d e : Int) : Prop := ((pcA V e 0 - pcA V d 0) % trn V 0 = 0 ∧ (pcU V e 0 - pcU V d 0) % trn V 0 = 0) ∧ ∀ i : Int, 0 ≤ i → i < V.1 → gn V d i - gn V e i = (pcA V e 0 - pcA V d 0).tdiv (trn V 0) * gx V i + (pcU V e 0 - pcU V d 0).tdiv (trn V 0) * gy V i
def rmS (V : FV) (i j ms : Int) : Int := if i = j then -((arn V i * ms).tdiv (trn V (prv V i) * trn V i)) else if nxt V i = j then ms.tdiv (trn V i) else if nxt V j = i then ms.tdiv (trn V j) else 0
def lmr (V : FV) (d i ms : Int) : Int := gn V d (prv V i) * rmS V (prv V i) i ms + gn V d i * rmS V i i ms + gn V d (nxt V i) * rmS V i (nxt V i) ms
def lms (V : FV) (d e ms : Int) : Int := fld (fun a i => a + gn V e i * lmr V d i ms) 0 V.1.toNat
def hlf (x y : Int) : Prop := y > 0 ∨ (y = 0 ∧ x > 0)
def cbf (a b c d : Int) : Prop := (hlf a b ∧ ¬ hlf c d) ∨ ((hlf a b ↔ hlf c d) ∧ a * d - b * c > 0)
theorem bV.pa {V : FV} (h : bV V) (d i : Int) : -240000 ≤ pcA V d i ∧ pcA V d i ≤ 240000 := by
  have h1 := mulb (h.g d (nxt V i)) (h.y i)
  have h2 := mulb (h.g d i) (h.y (nxt V i))
  unfold pcA
  omega
theorem bV.pu {V : FV} (h : bV V) (d i : Int) : -240000 ≤ pcU V d i ∧ pcU V d i ≤ 240000 := by
  have h1 := mulb (h.g d i) (h.x (nxt V i))
  have h2 := mulb (h.g d (nxt V i)) (h.x i)
  unfold pcU
  omega
theorem bV.ft {V : FV} (h : bV V) (d i : Int) {x y : Int} (hx : -60 ≤ x ∧ x ≤ 60) (hy : -60 ≤ y ∧ y ≤ 60) : -28800000 ≤ ftt V d i x y ∧ ftt V d i x y ≤ 28800000 := by
  have a1 := mulb hx (h.y (nxt V i))
  have a2 := mulb hy (h.x (nxt V i))
  have a3 := mulb (h.x i) hy
  have a4 := mulb (h.y i) hx
  have h1 := mulb (a := x * gy V (nxt V i) - y * gx V (nxt V i)) (A := 7200) ⟨by omega, by omega⟩ (h.g d i)
  have h2 := mulb (a := gx V i * y - gy V i * x) (A := 7200) ⟨by omega, by omega⟩ (h.g d (nxt V i))
  unfold ftt
  omega
theorem bV.bd {V : FV} (h : bV V) (d i : Int) : -43200000 ≤ bdm V d i ∧ bdm V d i ≤ 43200000 := by
  have h1 := mulb (h.g d (prv V i)) (h.trn i)
  have h2 := mulb (h.g d (nxt V i)) (h.trn (prv V i))
  have h3 := mulb (h.g d i) (h.arn i)
  unfold bdm
  omega
theorem t_X1_functionTimesTurn {f : Nat} {mu : Mem} {d i x y : Int} (hf : isF f) (hV : bV (fv mu f)) (h0 : 0 ≤ i) (h1 : i < mu f 0) (h2 : 0 ≤ d) (h3 : d < mu f 1) (hx : R32 x) (hy : R32 y) : TrE 1 mX1_functionTimesTurn [vr f, vi d, vi i, vi x, vi y] mu (some (vl (ftt (fv mu f) d i x y))) mu := by
  refine Tr.of (by decide +kernel) (Nat.le_of_ble_eq_true rfl) (fun K C E => ?_)
  have hn := hV.n
  obtain ⟨a1, a2⟩ : 0 ≤ nxt (fv mu f) i ∧ nxt (fv mu f) i < mu f 0 := nxt_in h0 h1
  have x1 := hV.x i
  have x2 := hV.x (nxt (fv mu f) i)
  have y1 := hV.y i
  have y2 := hV.y (nxt (fv mu f) i)
  have n1 := hV.g d i
  have n2 := hV.g d (nxt (fv mu f) i)
  refine aw_aload_n C dX1_functionTimesTurn_0 rfl ?_
  refine aw_iload_n C dX1_functionTimesTurn_1 rfl ?_
  refine aw_call1 C dX1_functionTimesTurn_2 lX1_59 vX1_behind (t_X1_behind hf hV (by omega) (by omega)) rfl rfl rfl hf.s0 rfl ⟨by decide, by decide⟩ (Nat.le_of_ble_eq_true rfl) ?_
  refine aw_istore C dX1_functionTimesTurn_5 (by decide) ?_
  refine aw_iload_n C dX1_functionTimesTurn_7 rfl ?_
  refine aw_i2l C dX1_functionTimesTurn_8 ⟨by omega, by omega⟩ ?_
  refine aw_aload_n C dX1_functionTimesTurn_9 rfl ?_
  refine aw_iload C dX1_functionTimesTurn_10 rfl ?_
  refine aw_call1 C dX1_functionTimesTurn_12 lX1_68 vX1_y (t_X1_y hf hV (by omega) (by omega)) rfl rfl rfl hf.s0 rfl ⟨by decide, by decide⟩ (Nat.le_of_ble_eq_true rfl) ?_
  refine aw_i2l C dX1_functionTimesTurn_15 ⟨by omega, by omega⟩ ?_
  refine aw_lmul C dX1_functionTimesTurn_16 ?_
  refine aw_iload C dX1_functionTimesTurn_17 rfl ?_
  refine aw_i2l C dX1_functionTimesTurn_19 ⟨by omega, by omega⟩ ?_
  refine aw_aload_n C dX1_functionTimesTurn_20 rfl ?_
  refine aw_iload C dX1_functionTimesTurn_21 rfl ?_
  refine aw_call1 C dX1_functionTimesTurn_23 lX1_65 vX1_x (t_X1_x hf hV (by omega) (by omega)) rfl rfl rfl hf.s0 rfl ⟨by decide, by decide⟩ (Nat.le_of_ble_eq_true rfl) ?_
  refine aw_i2l C dX1_functionTimesTurn_26 ⟨by omega, by omega⟩ ?_
  refine aw_lmul C dX1_functionTimesTurn_27 ?_
  refine aw_lsub C dX1_functionTimesTurn_28 ?_
  refine aw_lstore C dX1_functionTimesTurn_29 (by decide) ?_
  refine aw_aload_n C dX1_functionTimesTurn_31 rfl ?_
  refine aw_iload_n C dX1_functionTimesTurn_32 rfl ?_
  refine aw_call1 C dX1_functionTimesTurn_33 lX1_65 vX1_x (t_X1_x hf hV (by omega) (by omega)) rfl rfl rfl hf.s0 rfl ⟨by decide, by decide⟩ (Nat.le_of_ble_eq_true rfl) ?_
  refine aw_i2l C dX1_functionTimesTurn_36 ⟨by omega, by omega⟩ ?_
  refine aw_iload C dX1_functionTimesTurn_37 rfl ?_
  refine aw_i2l C dX1_functionTimesTurn_39 ⟨by omega, by omega⟩ ?_
  refine aw_lmul C dX1_functionTimesTurn_40 ?_
  refine aw_aload_n C dX1_functionTimesTurn_41 rfl ?_
  refine aw_iload_n C dX1_functionTimesTurn_42 rfl ?_
  refine aw_call1 C dX1_functionTimesTurn_43 lX1_68 vX1_y (t_X1_y hf hV (by omega) (by omega)) rfl rfl rfl hf.s0 rfl ⟨by decide, by decide⟩ (Nat.le_of_ble_eq_true rfl) ?_
  refine aw_i2l C dX1_functionTimesTurn_46 ⟨by omega, by omega⟩ ?_
  refine aw_iload_n C dX1_functionTimesTurn_47 rfl ?_
  refine aw_i2l C dX1_functionTimesTurn_48 ⟨by omega, by omega⟩ ?_
  refine aw_lmul C dX1_functionTimesTurn_49 ?_
  refine aw_lsub C dX1_functionTimesTurn_50 ?_
  refine aw_lstore C dX1_functionTimesTurn_51 (by decide) ?_
  refine aw_lload C dX1_functionTimesTurn_53 rfl ?_
  refine aw_aload_n C dX1_functionTimesTurn_55 rfl ?_
  refine aw_iload_n C dX1_functionTimesTurn_56 rfl ?_
  refine aw_iload_n C dX1_functionTimesTurn_57 rfl ?_
  refine aw_call1 C dX1_functionTimesTurn_58 lX1_108 vX1_number (t_X1_number hf hV (by omega) (by omega) (by omega) (by omega)) rfl rfl rfl hf.s0 rfl ⟨by decide, by decide⟩ (Nat.le_of_ble_eq_true rfl) ?_
  refine aw_i2l C dX1_functionTimesTurn_61 ⟨by omega, by omega⟩ ?_
  refine aw_lmul C dX1_functionTimesTurn_62 ?_
  refine aw_lload C dX1_functionTimesTurn_63 rfl ?_
  refine aw_aload_n C dX1_functionTimesTurn_65 rfl ?_
  refine aw_iload_n C dX1_functionTimesTurn_66 rfl ?_
  refine aw_iload C dX1_functionTimesTurn_67 rfl ?_
  refine aw_call1 C dX1_functionTimesTurn_69 lX1_108 vX1_number (t_X1_number hf hV (by omega) (by omega) (by omega) (by omega)) rfl rfl rfl hf.s0 rfl ⟨by decide, by decide⟩ (Nat.le_of_ble_eq_true rfl) ?_
  refine aw_i2l C dX1_functionTimesTurn_72 ⟨by omega, by omega⟩ ?_
  refine aw_lmul C dX1_functionTimesTurn_73 ?_
  refine aw_ladd C dX1_functionTimesTurn_74 ?_
  exact aw_lret C E dX1_functionTimesTurn_75 rfl ⟨rfl, rfl⟩
theorem t_X1_pieceAlong {f : Nat} {mu : Mem} {d i : Int} (hf : isF f) (hV : bV (fv mu f)) (h0 : 0 ≤ i) (h1 : i < mu f 0) (h2 : 0 ≤ d) (h3 : d < mu f 1) : TrE 1 mX1_pieceAlong [vr f, vi d, vi i] mu (some (vl (pcA (fv mu f) d i))) mu := by
  refine Tr.of (by decide +kernel) (Nat.le_of_ble_eq_true rfl) (fun K C E => ?_)
  have hn := hV.n
  obtain ⟨a1, a2⟩ : 0 ≤ nxt (fv mu f) i ∧ nxt (fv mu f) i < mu f 0 := nxt_in h0 h1
  have y1 := hV.y i
  have y2 := hV.y (nxt (fv mu f) i)
  have n1 := hV.g d i
  have n2 := hV.g d (nxt (fv mu f) i)
  refine aw_aload_n C dX1_pieceAlong_0 rfl ?_
  refine aw_iload_n C dX1_pieceAlong_1 rfl ?_
  refine aw_call1 C dX1_pieceAlong_2 lX1_59 vX1_behind (t_X1_behind hf hV (by omega) (by omega)) rfl rfl rfl hf.s0 rfl ⟨by decide, by decide⟩ (Nat.le_of_ble_eq_true rfl) ?_
  refine aw_istore_n C dX1_pieceAlong_5 (by decide) ?_
  refine aw_aload_n C dX1_pieceAlong_6 rfl ?_
  refine aw_iload_n C dX1_pieceAlong_7 rfl ?_
  refine aw_iload_n C dX1_pieceAlong_8 rfl ?_
  refine aw_call1 C dX1_pieceAlong_9 lX1_108 vX1_number (t_X1_number hf hV (by omega) (by omega) (by omega) (by omega)) rfl rfl rfl hf.s0 rfl ⟨by decide, by decide⟩ (Nat.le_of_ble_eq_true rfl) ?_
  refine aw_i2l C dX1_pieceAlong_12 ⟨by omega, by omega⟩ ?_
  refine aw_aload_n C dX1_pieceAlong_13 rfl ?_
  refine aw_iload_n C dX1_pieceAlong_14 rfl ?_
  refine aw_call1 C dX1_pieceAlong_15 lX1_68 vX1_y (t_X1_y hf hV (by omega) (by omega)) rfl rfl rfl hf.s0 rfl ⟨by decide, by decide⟩ (Nat.le_of_ble_eq_true rfl) ?_
  refine aw_i2l C dX1_pieceAlong_18 ⟨by omega, by omega⟩ ?_
  refine aw_lmul C dX1_pieceAlong_19 ?_
  refine aw_aload_n C dX1_pieceAlong_20 rfl ?_
  refine aw_iload_n C dX1_pieceAlong_21 rfl ?_
  refine aw_iload_n C dX1_pieceAlong_22 rfl ?_
  refine aw_call1 C dX1_pieceAlong_23 lX1_108 vX1_number (t_X1_number hf hV (by omega) (by omega) (by omega) (by omega)) rfl rfl rfl hf.s0 rfl ⟨by decide, by decide⟩ (Nat.le_of_ble_eq_true rfl) ?_
  refine aw_i2l C dX1_pieceAlong_26 ⟨by omega, by omega⟩ ?_
  refine aw_aload_n C dX1_pieceAlong_27 rfl ?_
  refine aw_iload_n C dX1_pieceAlong_28 rfl ?_
  refine aw_call1 C dX1_pieceAlong_29 lX1_68 vX1_y (t_X1_y hf hV (by omega) (by omega)) rfl rfl rfl hf.s0 rfl ⟨by decide, by decide⟩ (Nat.le_of_ble_eq_true rfl) ?_
  refine aw_i2l C dX1_pieceAlong_32 ⟨by omega, by omega⟩ ?_
  refine aw_lmul C dX1_pieceAlong_33 ?_
  refine aw_lsub C dX1_pieceAlong_34 ?_
  exact aw_lret C E dX1_pieceAlong_35 rfl ⟨rfl, rfl⟩
theorem t_X1_pieceUp {f : Nat} {mu : Mem} {d i : Int} (hf : isF f) (hV : bV (fv mu f)) (h0 : 0 ≤ i) (h1 : i < mu f 0) (h2 : 0 ≤ d) (h3 : d < mu f 1) : TrE 1 mX1_pieceUp [vr f, vi d, vi i] mu (some (vl (pcU (fv mu f) d i))) mu := by
  refine Tr.of (by decide +kernel) (Nat.le_of_ble_eq_true rfl) (fun K C E => ?_)
  have hn := hV.n
  obtain ⟨a1, a2⟩ : 0 ≤ nxt (fv mu f) i ∧ nxt (fv mu f) i < mu f 0 := nxt_in h0 h1
  have x1 := hV.x i
  have x2 := hV.x (nxt (fv mu f) i)
  have n1 := hV.g d i
  have n2 := hV.g d (nxt (fv mu f) i)
  refine aw_aload_n C dX1_pieceUp_0 rfl ?_
  refine aw_iload_n C dX1_pieceUp_1 rfl ?_
  refine aw_call1 C dX1_pieceUp_2 lX1_59 vX1_behind (t_X1_behind hf hV (by omega) (by omega)) rfl rfl rfl hf.s0 rfl ⟨by decide, by decide⟩ (Nat.le_of_ble_eq_true rfl) ?_
  refine aw_istore_n C dX1_pieceUp_5 (by decide) ?_
  refine aw_aload_n C dX1_pieceUp_6 rfl ?_
  refine aw_iload_n C dX1_pieceUp_7 rfl ?_
  refine aw_iload_n C dX1_pieceUp_8 rfl ?_
  refine aw_call1 C dX1_pieceUp_9 lX1_108 vX1_number (t_X1_number hf hV (by omega) (by omega) (by omega) (by omega)) rfl rfl rfl hf.s0 rfl ⟨by decide, by decide⟩ (Nat.le_of_ble_eq_true rfl) ?_
  refine aw_i2l C dX1_pieceUp_12 ⟨by omega, by omega⟩ ?_
  refine aw_aload_n C dX1_pieceUp_13 rfl ?_
  refine aw_iload_n C dX1_pieceUp_14 rfl ?_
  refine aw_call1 C dX1_pieceUp_15 lX1_65 vX1_x (t_X1_x hf hV (by omega) (by omega)) rfl rfl rfl hf.s0 rfl ⟨by decide, by decide⟩ (Nat.le_of_ble_eq_true rfl) ?_
  refine aw_i2l C dX1_pieceUp_18 ⟨by omega, by omega⟩ ?_
  refine aw_lmul C dX1_pieceUp_19 ?_
  refine aw_aload_n C dX1_pieceUp_20 rfl ?_
  refine aw_iload_n C dX1_pieceUp_21 rfl ?_
  refine aw_iload_n C dX1_pieceUp_22 rfl ?_
  refine aw_call1 C dX1_pieceUp_23 lX1_108 vX1_number (t_X1_number hf hV (by omega) (by omega) (by omega) (by omega)) rfl rfl rfl hf.s0 rfl ⟨by decide, by decide⟩ (Nat.le_of_ble_eq_true rfl) ?_
  refine aw_i2l C dX1_pieceUp_26 ⟨by omega, by omega⟩ ?_
  refine aw_aload_n C dX1_pieceUp_27 rfl ?_
  refine aw_iload_n C dX1_pieceUp_28 rfl ?_
  refine aw_call1 C dX1_pieceUp_29 lX1_65 vX1_x (t_X1_x hf hV (by omega) (by omega)) rfl rfl rfl hf.s0 rfl ⟨by decide, by decide⟩ (Nat.le_of_ble_eq_true rfl) ?_
  refine aw_i2l C dX1_pieceUp_32 ⟨by omega, by omega⟩ ?_
  refine aw_lmul C dX1_pieceUp_33 ?_
  refine aw_lsub C dX1_pieceUp_34 ?_
  exact aw_lret C E dX1_pieceUp_35 rfl ⟨rfl, rfl⟩
theorem t_X1_isPieceWhole {f : Nat} {mu : Mem} {d i : Int} (hf : isF f) (hV : bV (fv mu f)) (hc : clo (fv mu f)) (h0 : 0 ≤ i) (h1 : i < mu f 0) (h2 : 0 ≤ d) (h3 : d < mu f 1) : TrE 3 mX1_isPieceWhole [vr f, vi d, vi i] mu (some (vi (b01 (pwh (fv mu f) d i)))) mu := by
  refine Tr.of (by decide +kernel) (Nat.le_of_ble_eq_true rfl) (fun K C E => ?_)
  have hn := hV.n
  have ht := hV.trn i
  have ht2 := hc.2 i h0 h1
  have pa := hV.pa d i
  have pu := hV.pu d i
  have e1 := Int.emod_nonneg (pcA (fv mu f) d i) (show trn (fv mu f) i ≠ 0 by omega)
  have e2 := Int.emod_lt_of_pos (pcA (fv mu f) d i) ht2
  have e3 := Int.emod_nonneg (pcU (fv mu f) d i) (show trn (fv mu f) i ≠ 0 by omega)
  have e4 := Int.emod_lt_of_pos (pcU (fv mu f) d i) ht2
  refine aw_aload_n C dX1_isPieceWhole_0 rfl ?_
  refine aw_iload_n C dX1_isPieceWhole_1 rfl ?_
  refine aw_call1 C dX1_isPieceWhole_2 lX1_55 vX1_turn (t_X1_turn hf hV (by omega) (by omega)) rfl rfl rfl hf.s0 rfl ⟨by decide, by decide⟩ (Nat.le_of_ble_eq_true rfl) ?_
  refine aw_istore_n C dX1_isPieceWhole_5 (by decide) ?_
  refine aw_aload_n C dX1_isPieceWhole_6 rfl ?_
  refine aw_iload_n C dX1_isPieceWhole_7 rfl ?_
  refine aw_iload_n C dX1_isPieceWhole_8 rfl ?_
  refine aw_call1 C dX1_isPieceWhole_9 lX1_111 vX1_pieceAlong (t_X1_pieceAlong hf hV (by omega) (by omega) (by omega) (by omega)) rfl rfl rfl hf.s0 rfl ⟨by decide, by decide⟩ (Nat.le_of_ble_eq_true rfl) ?_
  refine aw_iload_n C dX1_isPieceWhole_12 rfl ?_
  refine aw_i2l C dX1_isPieceWhole_13 ⟨by omega, by omega⟩ ?_
  refine aw_callS1 C dX1_isPieceWhole_14 lX1_83 vX4_rest (t_X4_rest ⟨by omega, by omega⟩ ⟨by omega, by omega⟩ (by omega)) rfl rfl rfl ⟨by decide, by decide⟩ (Nat.le_of_ble_eq_true rfl) ?_
  refine aw_lconst C dX1_isPieceWhole_17 (v := 0) rfl ?_
  refine aw_lcmp_ne C dX1_isPieceWhole_18 dX1_isPieceWhole_19 (tgt := 42) (by decide) ⟨by omega, by omega⟩ ⟨by omega, by omega⟩ (fun c1 => ?_) (fun c1 => ?_)
  · have hr : b01 (pwh (fv mu f) d i) = 0 := b01_f (fun q => c1 q.1)
    --go
    refine aw_iconst C dX1_isPieceWhole_42 ?_
    exact aw_zret C E dX1_isPieceWhole_43 rfl (by omega) ⟨by rw [hr], rfl⟩
  · refine aw_aload_n C dX1_isPieceWhole_22 rfl ?_
    refine aw_iload_n C dX1_isPieceWhole_23 rfl ?_
    refine aw_iload_n C dX1_isPieceWhole_24 rfl ?_
    refine aw_call1 C dX1_isPieceWhole_25 lX1_115 vX1_pieceUp (t_X1_pieceUp hf hV (by omega) (by omega) (by omega) (by omega)) rfl rfl rfl hf.s0 rfl ⟨by decide, by decide⟩ (Nat.le_of_ble_eq_true rfl) ?_
    refine aw_iload_n C dX1_isPieceWhole_28 rfl ?_
    refine aw_i2l C dX1_isPieceWhole_29 ⟨by omega, by omega⟩ ?_
    refine aw_callS1 C dX1_isPieceWhole_30 lX1_83 vX4_rest (t_X4_rest ⟨by omega, by omega⟩ ⟨by omega, by omega⟩ (by omega)) rfl rfl rfl ⟨by decide, by decide⟩ (Nat.le_of_ble_eq_true rfl) ?_
    refine aw_lconst C dX1_isPieceWhole_33 (v := 0) rfl ?_
    refine aw_lcmp_ne C dX1_isPieceWhole_34 dX1_isPieceWhole_35 (tgt := 42) (by decide) ⟨by omega, by omega⟩ ⟨by omega, by omega⟩ (fun c2 => ?_) (fun c2 => ?_)
    · have hr : b01 (pwh (fv mu f) d i) = 0 := b01_f (fun q => c2 q.2)
      --go
      refine aw_iconst C dX1_isPieceWhole_42 ?_
      exact aw_zret C E dX1_isPieceWhole_43 rfl (by omega) ⟨by rw [hr], rfl⟩
    · have hr : b01 (pwh (fv mu f) d i) = 1 := b01_t ⟨c1, c2⟩
      --go
      refine aw_iconst C dX1_isPieceWhole_38 ?_
      refine aw_goto C dX1_isPieceWhole_39 (tgt := 43) (by decide) ?_
      exact aw_zret C E dX1_isPieceWhole_43 rfl (by omega) ⟨by rw [hr], rfl⟩
theorem t_X1_brokenPieces {f : Nat} {mu : Mem} {d : Int} (hf : isF f) (hV : bV (fv mu f)) (hc : clo (fv mu f)) (h2 : 0 ≤ d) (h3 : d < mu f 1) : TrE 4 mX1_brokenPieces [vr f, vi d] mu (some (vi (bts (fun i => ¬ pwh (fv mu f) d i) (mu f 0).toNat))) mu := by
  refine Tr.of (by decide +kernel) (Nat.le_of_ble_eq_true rfl) (fun K C E => ?_)
  have hn := hV.n
  have loop : ∀ (k : Nat) (i a : Int), 0 ≤ i → i + k = mu f 0 → a = bts (fun i => ¬ pwh (fv mu f) d i) i.toNat → AW K mX1_brokenPieces (NC, 0, 0) 4 [vr f, vi d, vi a, vi i] [] mu := by
    intro k
    induction k with
    | zero =>
      intro i a h0 h1 h2
      have e : i = mu f 0 := by omega
      subst e
      refine aw_iload_n C dX1_brokenPieces_4 rfl ?_
      refine aw_aload_n C dX1_brokenPieces_5 rfl ?_
      refine aw_getI C dX1_brokenPieces_6 fX1_21 hf.s0 rfl ?_
      refine aw_icmp_ge C dX1_brokenPieces_9 (tgt := 37) (by decide) ⟨by omega, by omega⟩ ⟨by omega, by omega⟩ (fun c1 => ?_) (fun c1 => ?_)
      · refine aw_iload_n C dX1_brokenPieces_37 rfl ?_
        exact aw_iret C E dX1_brokenPieces_38 rfl ⟨by rw [h2], rfl⟩
      · exfalso; omega
    | succ k ih =>
      intro i a h0 h1 h2
      have hb := b01_01 (pwh (fv mu f) d i)
      refine aw_iload_n C dX1_brokenPieces_4 rfl ?_
      refine aw_aload_n C dX1_brokenPieces_5 rfl ?_
      refine aw_getI C dX1_brokenPieces_6 fX1_21 hf.s0 rfl ?_
      refine aw_icmp_ge C dX1_brokenPieces_9 (tgt := 37) (by decide) ⟨by omega, by omega⟩ ⟨by omega, by omega⟩ (fun c1 => ?_) (fun c1 => ?_)
      · exfalso; omega
      · refine aw_iload_n C dX1_brokenPieces_12 rfl ?_
        refine aw_aload_n C dX1_brokenPieces_13 rfl ?_
        refine aw_iload_n C dX1_brokenPieces_14 rfl ?_
        refine aw_iload_n C dX1_brokenPieces_15 rfl ?_
        refine aw_call1 C dX1_brokenPieces_16 lX1_118 vX1_isPieceWhole (t_X1_isPieceWhole hf hV hc (by omega) (by omega) (by omega) (by omega)) rfl rfl rfl hf.s0 rfl ⟨by decide, by decide⟩ (Nat.le_of_ble_eq_true rfl) ?_
        refine aw_if_eq C dX1_brokenPieces_19 (tgt := 26) (by decide) ⟨by omega, by omega⟩ (fun c2 => ?_) (fun c2 => ?_)
        · have hb : b01 (¬ pwh (fv mu f) d i) = 1 := b01_t (b01_niff.mp (by omega))
          --go
          refine aw_iconst C dX1_brokenPieces_26 ?_
          refine aw_iload_n C dX1_brokenPieces_27 rfl ?_
          refine aw_ishl C dX1_brokenPieces_28 ?_
          refine aw_ior C dX1_brokenPieces_29 ?_
          refine aw_istore_n C dX1_brokenPieces_30 (by decide) ?_
          refine aw_iinc C dX1_brokenPieces_31 rfl ?_
          refine aw_goto C dX1_brokenPieces_34 (tgt := 4) (by decide) ?_
          exact ih (i + 1) _ (by omega) (by omega) (by unfold bts; rw [fld_s h0]; unfold bts at h2; rw [← h2]; first | rw [if_pos hb]; rfl | rw [if_neg hb]; rfl)
        · have hb : ¬ b01 (¬ pwh (fv mu f) d i) = 1 := fun q => b01_iff.mp q (b01_iff.mp (by omega))
          --go
          refine aw_iconst C dX1_brokenPieces_22 ?_
          refine aw_goto C dX1_brokenPieces_23 (tgt := 29) (by decide) ?_
          refine aw_ior C dX1_brokenPieces_29 ?_
          refine aw_istore_n C dX1_brokenPieces_30 (by decide) ?_
          refine aw_iinc C dX1_brokenPieces_31 rfl ?_
          refine aw_goto C dX1_brokenPieces_34 (tgt := 4) (by decide) ?_
          exact ih (i + 1) _ (by omega) (by omega) (by unfold bts; rw [fld_s h0]; unfold bts at h2; rw [← h2]; first | rw [if_pos hb]; rfl | rw [if_neg hb]; rfl)
  refine aw_iconst C dX1_brokenPieces_0 ?_
  refine aw_istore_n C dX1_brokenPieces_1 (by decide) ?_
  refine aw_iconst C dX1_brokenPieces_2 ?_
  refine aw_istore_n C dX1_brokenPieces_3 (by decide) ?_
  exact loop (mu f 0).toNat 0 0 (by omega) (by omega) rfl
theorem t_X1_bending {f : Nat} {mu : Mem} {d : Int} (hf : isF f) (hV : bV (fv mu f)) (h2 : 0 ≤ d) (h3 : d < mu f 1) : TrE 3 mX1_bending [vr f, vi d] mu (some (vi (bdS (fv mu f) d))) mu := by
  refine Tr.of (by decide +kernel) (Nat.le_of_ble_eq_true rfl) (fun K C E => ?_)
  have hn := hV.n
  have loop : ∀ (k : Nat) (i a : Int) (v4 v5 : Vv), 0 ≤ i → i + k = mu f 0 → 0 ≤ a ∧ a ≤ 2 → a = fld (fun a i => min a (if bdm (fv mu f) d i > 0 then 2 else if bdm (fv mu f) d i = 0 then 1 else 0)) 2 i.toNat → AW K mX1_bending (NC, 0, 0) 4 [vr f, vi d, vi a, vi i, v4, v5] [] mu := by
    intro k
    induction k with
    | zero =>
      intro i a v4 v5 h0 h1 hb h2
      have e : i = mu f 0 := by omega
      subst e
      refine aw_iload_n C dX1_bending_4 rfl ?_
      refine aw_aload_n C dX1_bending_5 rfl ?_
      refine aw_getI C dX1_bending_6 fX1_21 hf.s0 rfl ?_
      refine aw_icmp_ge C dX1_bending_9 (tgt := 104) (by decide) ⟨by omega, by omega⟩ ⟨by omega, by omega⟩ (fun c1 => ?_) (fun c1 => ?_)
      · refine aw_iload_n C dX1_bending_104 rfl ?_
        exact aw_iret C E dX1_bending_105 rfl ⟨by rw [h2]; rfl, rfl⟩
      · exfalso; omega
    | succ k ih =>
      intro i a v4 v5 h0 h1 hb h2
      obtain ⟨a1, a2⟩ : 0 ≤ nxt (fv mu f) i ∧ nxt (fv mu f) i < mu f 0 := nxt_in h0 (show i < mu f 0 by omega)
      obtain ⟨a3, a4⟩ : 0 ≤ prv (fv mu f) i ∧ prv (fv mu f) i < mu f 0 := prv_in h0 (show i < mu f 0 by omega)
      have n1 := hV.g d i
      have n2 := hV.g d (nxt (fv mu f) i)
      have n3 := hV.g d (prv (fv mu f) i)
      have t1 := hV.trn i
      have t2 := hV.trn (prv (fv mu f) i)
      have t3 := hV.arn i
      have hm := hV.bd d i
      have hm2 : gn (fv mu f) d (prv (fv mu f) i) * trn (fv mu f) i + gn (fv mu f) d (nxt (fv mu f) i) * trn (fv mu f) (prv (fv mu f) i) - gn (fv mu f) d i * arn (fv mu f) i = bdm (fv mu f) d i := rfl
      refine aw_iload_n C dX1_bending_4 rfl ?_
      refine aw_aload_n C dX1_bending_5 rfl ?_
      refine aw_getI C dX1_bending_6 fX1_21 hf.s0 rfl ?_
      refine aw_icmp_ge C dX1_bending_9 (tgt := 104) (by decide) ⟨by omega, by omega⟩ ⟨by omega, by omega⟩ (fun c1 => ?_) (fun c1 => ?_)
      · exfalso; omega
      · refine aw_aload_n C dX1_bending_12 rfl ?_
        refine aw_iload_n C dX1_bending_13 rfl ?_
        refine aw_aload_n C dX1_bending_14 rfl ?_
        refine aw_iload_n C dX1_bending_15 rfl ?_
        refine aw_call1 C dX1_bending_16 lX1_71 vX1_ahead (t_X1_ahead hf hV (by omega) (by omega)) rfl rfl rfl hf.s0 rfl ⟨by decide, by decide⟩ (Nat.le_of_ble_eq_true rfl) ?_
        refine aw_call1 C dX1_bending_19 lX1_108 vX1_number (t_X1_number hf hV (by omega) (by omega) (by omega) (by omega)) rfl rfl rfl hf.s0 rfl ⟨by decide, by decide⟩ (Nat.le_of_ble_eq_true rfl) ?_
        refine aw_i2l C dX1_bending_22 ⟨by omega, by omega⟩ ?_
        refine aw_aload_n C dX1_bending_23 rfl ?_
        refine aw_iload_n C dX1_bending_24 rfl ?_
        refine aw_call1 C dX1_bending_25 lX1_55 vX1_turn (t_X1_turn hf hV (by omega) (by omega)) rfl rfl rfl hf.s0 rfl ⟨by decide, by decide⟩ (Nat.le_of_ble_eq_true rfl) ?_
        refine aw_i2l C dX1_bending_28 ⟨by omega, by omega⟩ ?_
        refine aw_lmul C dX1_bending_29 ?_
        refine aw_aload_n C dX1_bending_30 rfl ?_
        refine aw_iload_n C dX1_bending_31 rfl ?_
        refine aw_aload_n C dX1_bending_32 rfl ?_
        refine aw_iload_n C dX1_bending_33 rfl ?_
        refine aw_call1 C dX1_bending_34 lX1_59 vX1_behind (t_X1_behind hf hV (by omega) (by omega)) rfl rfl rfl hf.s0 rfl ⟨by decide, by decide⟩ (Nat.le_of_ble_eq_true rfl) ?_
        refine aw_call1 C dX1_bending_37 lX1_108 vX1_number (t_X1_number hf hV (by omega) (by omega) (by omega) (by omega)) rfl rfl rfl hf.s0 rfl ⟨by decide, by decide⟩ (Nat.le_of_ble_eq_true rfl) ?_
        refine aw_i2l C dX1_bending_40 ⟨by omega, by omega⟩ ?_
        refine aw_aload_n C dX1_bending_41 rfl ?_
        refine aw_aload_n C dX1_bending_42 rfl ?_
        refine aw_iload_n C dX1_bending_43 rfl ?_
        refine aw_call1 C dX1_bending_44 lX1_71 vX1_ahead (t_X1_ahead hf hV (by omega) (by omega)) rfl rfl rfl hf.s0 rfl ⟨by decide, by decide⟩ (Nat.le_of_ble_eq_true rfl) ?_
        refine aw_call1 C dX1_bending_47 lX1_55 vX1_turn (t_X1_turn hf hV (by omega) (by omega)) rfl rfl rfl hf.s0 rfl ⟨by decide, by decide⟩ (Nat.le_of_ble_eq_true rfl) ?_
        refine aw_i2l C dX1_bending_50 ⟨by omega, by omega⟩ ?_
        refine aw_lmul C dX1_bending_51 ?_
        refine aw_ladd C dX1_bending_52 ?_
        refine aw_aload_n C dX1_bending_53 rfl ?_
        refine aw_iload_n C dX1_bending_54 rfl ?_
        refine aw_iload_n C dX1_bending_55 rfl ?_
        refine aw_call1 C dX1_bending_56 lX1_108 vX1_number (t_X1_number hf hV (by omega) (by omega) (by omega) (by omega)) rfl rfl rfl hf.s0 rfl ⟨by decide, by decide⟩ (Nat.le_of_ble_eq_true rfl) ?_
        refine aw_i2l C dX1_bending_59 ⟨by omega, by omega⟩ ?_
        refine aw_aload_n C dX1_bending_60 rfl ?_
        refine aw_iload_n C dX1_bending_61 rfl ?_
        refine aw_call1 C dX1_bending_62 lX1_98 vX1_turnAround (t_X1_turnAround hf hV (by omega) (by omega)) rfl rfl rfl hf.s0 rfl ⟨by decide, by decide⟩ (Nat.le_of_ble_eq_true rfl) ?_
        refine aw_i2l C dX1_bending_65 ⟨by omega, by omega⟩ ?_
        refine aw_lmul C dX1_bending_66 ?_
        refine aw_lsub C dX1_bending_67 ?_
        rw [hm2]
        refine aw_lstore C dX1_bending_68 (by decide) ?_
        refine aw_iload_n C dX1_bending_70 rfl ?_
        refine aw_lload C dX1_bending_71 rfl ?_
        refine aw_lconst C dX1_bending_73 (v := 0) rfl ?_
        refine aw_lcmp_le C dX1_bending_74 dX1_bending_75 (tgt := 82) (by decide) ⟨by omega, by omega⟩ ⟨by omega, by omega⟩ (fun c2 => ?_) (fun c2 => ?_)
        · refine aw_lload C dX1_bending_82 rfl ?_
          refine aw_lconst C dX1_bending_84 (v := 0) rfl ?_
          refine aw_lcmp_ne C dX1_bending_85 dX1_bending_86 (tgt := 93) (by decide) ⟨by omega, by omega⟩ ⟨by omega, by omega⟩ (fun c3 => ?_) (fun c3 => ?_)
          · refine aw_iconst C dX1_bending_93 ?_
            refine aw_callS1 C dX1_bending_94 lX1_122 vJ9_min_7cf53 (t_J9_min_7cf53 ⟨by omega, by omega⟩ ⟨by omega, by omega⟩) rfl rfl rfl ⟨by decide, by decide⟩ (Nat.le_of_ble_eq_true rfl) ?_
            refine aw_istore_n C dX1_bending_97 (by decide) ?_
            refine aw_iinc C dX1_bending_98 rfl ?_
            refine aw_goto C dX1_bending_101 (tgt := 4) (by decide) ?_
            exact ih (i + 1) _ _ _ (by omega) (by omega) (by omega) (by rw [fld_s h0, ← h2]; first | rw [if_pos (by omega)] | rw [if_neg (by omega), if_pos (by omega)] | rw [if_neg (by omega), if_neg (by omega)])
          · refine aw_iconst C dX1_bending_89 ?_
            refine aw_goto C dX1_bending_90 (tgt := 94) (by decide) ?_
            refine aw_callS1 C dX1_bending_94 lX1_122 vJ9_min_7cf53 (t_J9_min_7cf53 ⟨by omega, by omega⟩ ⟨by omega, by omega⟩) rfl rfl rfl ⟨by decide, by decide⟩ (Nat.le_of_ble_eq_true rfl) ?_
            refine aw_istore_n C dX1_bending_97 (by decide) ?_
            refine aw_iinc C dX1_bending_98 rfl ?_
            refine aw_goto C dX1_bending_101 (tgt := 4) (by decide) ?_
            exact ih (i + 1) _ _ _ (by omega) (by omega) (by omega) (by rw [fld_s h0, ← h2]; first | rw [if_pos (by omega)] | rw [if_neg (by omega), if_pos (by omega)] | rw [if_neg (by omega), if_neg (by omega)])
        · refine aw_iconst C dX1_bending_78 ?_
          refine aw_goto C dX1_bending_79 (tgt := 94) (by decide) ?_
          refine aw_callS1 C dX1_bending_94 lX1_122 vJ9_min_7cf53 (t_J9_min_7cf53 ⟨by omega, by omega⟩ ⟨by omega, by omega⟩) rfl rfl rfl ⟨by decide, by decide⟩ (Nat.le_of_ble_eq_true rfl) ?_
          refine aw_istore_n C dX1_bending_97 (by decide) ?_
          refine aw_iinc C dX1_bending_98 rfl ?_
          refine aw_goto C dX1_bending_101 (tgt := 4) (by decide) ?_
          exact ih (i + 1) _ _ _ (by omega) (by omega) (by omega) (by rw [fld_s h0, ← h2]; first | rw [if_pos (by omega)] | rw [if_neg (by omega), if_pos (by omega)] | rw [if_neg (by omega), if_neg (by omega)])
  refine aw_iconst C dX1_bending_0 ?_
  refine aw_istore_n C dX1_bending_1 (by decide) ?_
  refine aw_iconst C dX1_bending_2 ?_
  refine aw_istore_n C dX1_bending_3 (by decide) ?_
  exact loop (mu f 0).toNat 0 2 _ _ (by omega) (by omega) (by omega) rfl
theorem t_X1_differWholly {f : Nat} {mu : Mem} {d e : Int} (hf : isF f) (hV : bV (fv mu f)) (hc : clo (fv mu f)) (h2 : 0 ≤ d) (h3 : d < mu f 1) (h4 : 0 ≤ e) (h5 : e < mu f 1) : TrE 3 mX1_differWholly [vr f, vi d, vi e] mu (some (vi (b01 (dfw (fv mu f) d e)))) mu := by
  refine Tr.of (by decide +kernel) (Nat.le_of_ble_eq_true rfl) (fun K C E => ?_)
  have hn := hV.n
  have hn3 : 3 ≤ mu f 0 := hc.1
  have ht := hV.trn 0
  have ht2 := hc.2 0 (by omega) (show (0 : Int) < mu f 0 by omega)
  have p1 := hV.pa d 0
  have p2 := hV.pa e 0
  have p3 := hV.pu d 0
  have p4 := hV.pu e 0
  obtain ⟨m, hm⟩ : ∃ m, m = pcA (fv mu f) e 0 - pcA (fv mu f) d 0 := ⟨_, rfl⟩
  obtain ⟨n, hnn⟩ : ∃ n, n = pcU (fv mu f) e 0 - pcU (fv mu f) d 0 := ⟨_, rfl⟩
  have e1 := Int.emod_nonneg m (show trn (fv mu f) 0 ≠ 0 by omega)
  have e2 := Int.emod_lt_of_pos m ht2
  have e3 := Int.emod_nonneg n (show trn (fv mu f) 0 ≠ 0 by omega)
  have e4 := Int.emod_lt_of_pos n ht2
  have q1 : -480000 ≤ m.tdiv (trn (fv mu f) 0) ∧ m.tdiv (trn (fv mu f) 0) ≤ 480000 := by
    have := Int.natAbs_tdiv_le_natAbs m (trn (fv mu f) 0)
    omega
  have q2 : -480000 ≤ n.tdiv (trn (fv mu f) 0) ∧ n.tdiv (trn (fv mu f) 0) ≤ 480000 := by
    have := Int.natAbs_tdiv_le_natAbs n (trn (fv mu f) 0)
    omega
  have hD : dfw (fv mu f) d e ↔ ((m % trn (fv mu f) 0 = 0 ∧ n % trn (fv mu f) 0 = 0) ∧ ∀ i : Int, 0 ≤ i → i < mu f 0 → gn (fv mu f) d i - gn (fv mu f) e i = m.tdiv (trn (fv mu f) 0) * gx (fv mu f) i + n.tdiv (trn (fv mu f) 0) * gy (fv mu f) i) := by rw [hm, hnn]; exact Iff.rfl
  rw [b01_congr hD] at E
  have loop : ∀ (k : Nat) (i : Int), 0 ≤ i → i + k = mu f 0 → m % trn (fv mu f) 0 = 0 → n % trn (fv mu f) 0 = 0 → (∀ j : Int, 0 ≤ j → j < i → gn (fv mu f) d j - gn (fv mu f) e j = m.tdiv (trn (fv mu f) 0) * gx (fv mu f) j + n.tdiv (trn (fv mu f) 0) * gy (fv mu f) j) → AW K mX1_differWholly (NC, 0, 0) 83 [vr f, vi d, vi e, vi (trn (fv mu f) 0), vl (m.tdiv (trn (fv mu f) 0)), vx, vl (n.tdiv (trn (fv mu f) 0)), vx, vi i] [] mu := by
    intro k
    induction k with
    | zero =>
      intro i h0 h1 z1 z2 z3
      rw [b01_t ⟨⟨z1, z2⟩, fun j b1 b2 => z3 j b1 (by omega)⟩] at E
      refine aw_iload C dX1_differWholly_83 rfl ?_
      refine aw_aload_n C dX1_differWholly_85 rfl ?_
      refine aw_getI C dX1_differWholly_86 fX1_21 hf.s0 rfl ?_
      refine aw_icmp_ge C dX1_differWholly_89 (tgt := 141) (by decide) ⟨by omega, by omega⟩ ⟨by omega, by omega⟩ (fun c1 => ?_) (fun c1 => ?_)
      · refine aw_iconst C dX1_differWholly_141 ?_
        exact aw_zret C E dX1_differWholly_142 rfl (by omega) ⟨rfl, rfl⟩
      · exfalso; omega
    | succ k ih =>
      intro i h0 h1 z1 z2 z3
      have n1 := hV.g d i
      have n2 := hV.g e i
      have x1 := hV.x i
      have y1 := hV.y i
      have b1 := mulb q1 x1
      have b2 := mulb q2 y1
      refine aw_iload C dX1_differWholly_83 rfl ?_
      refine aw_aload_n C dX1_differWholly_85 rfl ?_
      refine aw_getI C dX1_differWholly_86 fX1_21 hf.s0 rfl ?_
      refine aw_icmp_ge C dX1_differWholly_89 (tgt := 141) (by decide) ⟨by omega, by omega⟩ ⟨by omega, by omega⟩ (fun c1 => ?_) (fun c1 => ?_)
      · exfalso; omega
      · refine aw_aload_n C dX1_differWholly_92 rfl ?_
        refine aw_iload_n C dX1_differWholly_93 rfl ?_
        refine aw_iload C dX1_differWholly_94 rfl ?_
        refine aw_call1 C dX1_differWholly_96 lX1_108 vX1_number (t_X1_number hf hV (by omega) (by omega) (by omega) (by omega)) rfl rfl rfl hf.s0 rfl ⟨by decide, by decide⟩ (Nat.le_of_ble_eq_true rfl) ?_
        refine aw_aload_n C dX1_differWholly_99 rfl ?_
        refine aw_iload_n C dX1_differWholly_100 rfl ?_
        refine aw_iload C dX1_differWholly_101 rfl ?_
        refine aw_call1 C dX1_differWholly_103 lX1_108 vX1_number (t_X1_number hf hV (by omega) (by omega) (by omega) (by omega)) rfl rfl rfl hf.s0 rfl ⟨by decide, by decide⟩ (Nat.le_of_ble_eq_true rfl) ?_
        refine aw_isub C dX1_differWholly_106 ?_
        refine aw_i2l C dX1_differWholly_107 ⟨by omega, by omega⟩ ?_
        refine aw_lload C dX1_differWholly_108 rfl ?_
        refine aw_aload_n C dX1_differWholly_110 rfl ?_
        refine aw_iload C dX1_differWholly_111 rfl ?_
        refine aw_call1 C dX1_differWholly_113 lX1_65 vX1_x (t_X1_x hf hV (by omega) (by omega)) rfl rfl rfl hf.s0 rfl ⟨by decide, by decide⟩ (Nat.le_of_ble_eq_true rfl) ?_
        refine aw_i2l C dX1_differWholly_116 ⟨by omega, by omega⟩ ?_
        refine aw_lmul C dX1_differWholly_117 ?_
        refine aw_lload C dX1_differWholly_118 rfl ?_
        refine aw_aload_n C dX1_differWholly_120 rfl ?_
        refine aw_iload C dX1_differWholly_121 rfl ?_
        refine aw_call1 C dX1_differWholly_123 lX1_68 vX1_y (t_X1_y hf hV (by omega) (by omega)) rfl rfl rfl hf.s0 rfl ⟨by decide, by decide⟩ (Nat.le_of_ble_eq_true rfl) ?_
        refine aw_i2l C dX1_differWholly_126 ⟨by omega, by omega⟩ ?_
        refine aw_lmul C dX1_differWholly_127 ?_
        refine aw_ladd C dX1_differWholly_128 ?_
        refine aw_lcmp_eq C dX1_differWholly_129 dX1_differWholly_130 (tgt := 135) (by decide) ⟨by omega, by omega⟩ ⟨by omega, by omega⟩ (fun c2 => ?_) (fun c2 => ?_)
        · refine aw_iinc C dX1_differWholly_135 rfl ?_
          refine aw_goto C dX1_differWholly_138 (tgt := 83) (by decide) ?_
          refine ih (i + 1) (by omega) (by omega) z1 z2 (fun j b1 b2 => ?_)
          rcases Int.lt_or_eq_of_le (show j ≤ i by omega) with q | q
          · exact z3 j b1 q
          · subst q; exact c2
        · refine aw_iconst C dX1_differWholly_133 ?_
          exact aw_zret C E dX1_differWholly_134 rfl (by omega) ⟨by rw [b01_f (fun q => c2 (q.2 i h0 (by omega)))], rfl⟩
  refine aw_aload_n C dX1_differWholly_0 rfl ?_
  refine aw_iconst C dX1_differWholly_1 ?_
  refine aw_call1 C dX1_differWholly_2 lX1_55 vX1_turn (t_X1_turn hf hV (by omega) (by omega)) rfl rfl rfl hf.s0 rfl ⟨by decide, by decide⟩ (Nat.le_of_ble_eq_true rfl) ?_
  refine aw_istore_n C dX1_differWholly_5 (by decide) ?_
  refine aw_aload_n C dX1_differWholly_6 rfl ?_
  refine aw_iload_n C dX1_differWholly_7 rfl ?_
  refine aw_iconst C dX1_differWholly_8 ?_
  refine aw_call1 C dX1_differWholly_9 lX1_111 vX1_pieceAlong (t_X1_pieceAlong hf hV (by omega) (by omega) (by omega) (by omega)) rfl rfl rfl hf.s0 rfl ⟨by decide, by decide⟩ (Nat.le_of_ble_eq_true rfl) ?_
  refine aw_aload_n C dX1_differWholly_12 rfl ?_
  refine aw_iload_n C dX1_differWholly_13 rfl ?_
  refine aw_iconst C dX1_differWholly_14 ?_
  refine aw_call1 C dX1_differWholly_15 lX1_111 vX1_pieceAlong (t_X1_pieceAlong hf hV (by omega) (by omega) (by omega) (by omega)) rfl rfl rfl hf.s0 rfl ⟨by decide, by decide⟩ (Nat.le_of_ble_eq_true rfl) ?_
  refine aw_lsub C dX1_differWholly_18 ?_
  rw [← hm]
  refine aw_lstore C dX1_differWholly_19 (by decide) ?_
  refine aw_aload_n C dX1_differWholly_21 rfl ?_
  refine aw_iload_n C dX1_differWholly_22 rfl ?_
  refine aw_iconst C dX1_differWholly_23 ?_
  refine aw_call1 C dX1_differWholly_24 lX1_115 vX1_pieceUp (t_X1_pieceUp hf hV (by omega) (by omega) (by omega) (by omega)) rfl rfl rfl hf.s0 rfl ⟨by decide, by decide⟩ (Nat.le_of_ble_eq_true rfl) ?_
  refine aw_aload_n C dX1_differWholly_27 rfl ?_
  refine aw_iload_n C dX1_differWholly_28 rfl ?_
  refine aw_iconst C dX1_differWholly_29 ?_
  refine aw_call1 C dX1_differWholly_30 lX1_115 vX1_pieceUp (t_X1_pieceUp hf hV (by omega) (by omega) (by omega) (by omega)) rfl rfl rfl hf.s0 rfl ⟨by decide, by decide⟩ (Nat.le_of_ble_eq_true rfl) ?_
  refine aw_lsub C dX1_differWholly_33 ?_
  rw [← hnn]
  refine aw_lstore C dX1_differWholly_34 (by decide) ?_
  refine aw_lload C dX1_differWholly_36 rfl ?_
  refine aw_iload_n C dX1_differWholly_38 rfl ?_
  refine aw_i2l C dX1_differWholly_39 ⟨by omega, by omega⟩ ?_
  refine aw_callS1 C dX1_differWholly_40 lX1_83 vX4_rest (t_X4_rest ⟨by omega, by omega⟩ ⟨by omega, by omega⟩ (by omega)) rfl rfl rfl ⟨by decide, by decide⟩ (Nat.le_of_ble_eq_true rfl) ?_
  refine aw_lconst C dX1_differWholly_43 (v := 0) rfl ?_
  refine aw_lcmp_ne C dX1_differWholly_44 dX1_differWholly_45 (tgt := 60) (by decide) ⟨by omega, by omega⟩ ⟨by omega, by omega⟩ (fun c1 => ?_) (fun c1 => ?_)
  · have hr : ¬ (m % trn (fv mu f) 0 = 0 ∧ n % trn (fv mu f) 0 = 0) := fun q => c1 q.1
    --go
    refine aw_iconst C dX1_differWholly_60 ?_
    exact aw_zret C E dX1_differWholly_61 rfl (by omega) ⟨by rw [b01_f (fun q => hr q.1)], rfl⟩
  · refine aw_lload C dX1_differWholly_48 rfl ?_
    refine aw_iload_n C dX1_differWholly_50 rfl ?_
    refine aw_i2l C dX1_differWholly_51 ⟨by omega, by omega⟩ ?_
    refine aw_callS1 C dX1_differWholly_52 lX1_83 vX4_rest (t_X4_rest ⟨by omega, by omega⟩ ⟨by omega, by omega⟩ (by omega)) rfl rfl rfl ⟨by decide, by decide⟩ (Nat.le_of_ble_eq_true rfl) ?_
    refine aw_lconst C dX1_differWholly_55 (v := 0) rfl ?_
    refine aw_lcmp_eq C dX1_differWholly_56 dX1_differWholly_57 (tgt := 62) (by decide) ⟨by omega, by omega⟩ ⟨by omega, by omega⟩ (fun c2 => ?_) (fun c2 => ?_)
    · refine aw_lload C dX1_differWholly_62 rfl ?_
      refine aw_iload_n C dX1_differWholly_64 rfl ?_
      refine aw_i2l C dX1_differWholly_65 ⟨by omega, by omega⟩ ?_
      refine aw_callS1 C dX1_differWholly_66 lX1_79 vX4_by (t_X4_by ⟨by omega, by omega⟩ ⟨by omega, by omega⟩) rfl rfl rfl ⟨by decide, by decide⟩ (Nat.le_of_ble_eq_true rfl) ?_
      refine aw_lstore C dX1_differWholly_69 (by decide) ?_
      refine aw_lload C dX1_differWholly_71 rfl ?_
      refine aw_iload_n C dX1_differWholly_73 rfl ?_
      refine aw_i2l C dX1_differWholly_74 ⟨by omega, by omega⟩ ?_
      refine aw_callS1 C dX1_differWholly_75 lX1_79 vX4_by (t_X4_by ⟨by omega, by omega⟩ ⟨by omega, by omega⟩) rfl rfl rfl ⟨by decide, by decide⟩ (Nat.le_of_ble_eq_true rfl) ?_
      refine aw_lstore C dX1_differWholly_78 (by decide) ?_
      refine aw_iconst C dX1_differWholly_80 ?_
      refine aw_istore C dX1_differWholly_81 (by decide) ?_
      exact loop (mu f 0).toNat 0 (by omega) (by omega) c1 c2 (fun j b1 b2 => by omega)
    · have hr : ¬ (m % trn (fv mu f) 0 = 0 ∧ n % trn (fv mu f) 0 = 0) := fun q => c2 q.2
      --go
      refine aw_iconst C dX1_differWholly_60 ?_
      exact aw_zret C E dX1_differWholly_61 rfl (by omega) ⟨by rw [b01_f (fun q => hr q.1)], rfl⟩
theorem t_X1_raysMeet {f : Nat} {mu : Mem} {i j ms : Int} (hf : isF f) (hV : bV (fv mu f)) (h0 : 0 ≤ i) (h1 : i < mu f 0) (h2 : 0 ≤ j) (h3 : j < mu f 0) (hms : -1000000 ≤ ms ∧ ms ≤ 1000000) : TrE 3 mX1_raysMeet [vr f, vi i, vi j, vl ms] mu (some (vl (rmS (fv mu f) i j ms))) mu := by
  refine Tr.of (by decide +kernel) (Nat.le_of_ble_eq_true rfl) (fun K C E => ?_)
  have hn := hV.n
  obtain ⟨a1, a2⟩ : 0 ≤ nxt (fv mu f) i ∧ nxt (fv mu f) i < mu f 0 := nxt_in h0 h1
  obtain ⟨a5, a6⟩ : 0 ≤ nxt (fv mu f) j ∧ nxt (fv mu f) j < mu f 0 := nxt_in h2 h3
  obtain ⟨a3, a4⟩ : 0 ≤ prv (fv mu f) i ∧ prv (fv mu f) i < mu f 0 := prv_in h0 h1
  have t1 := hV.trn i
  have t2 := hV.trn (prv (fv mu f) i)
  have t3 := hV.arn i
  have t4 := hV.trn j
  have m1 := mulb t3 hms
  have m2 := mulb t2 t1
  unfold rmS at E
  refine aw_iload_n C dX1_raysMeet_0 rfl ?_
  refine aw_iload_n C dX1_raysMeet_1 rfl ?_
  refine aw_icmp_ne C dX1_raysMeet_2 (tgt := 35) (by decide) ⟨by omega, by omega⟩ ⟨by omega, by omega⟩ (fun c1 => ?_) (fun c1 => ?_)
  · rw [if_neg c1] at E
    --go
    refine aw_aload_n C dX1_raysMeet_35 rfl ?_
    refine aw_iload_n C dX1_raysMeet_36 rfl ?_
    refine aw_call1 C dX1_raysMeet_37 lX1_59 vX1_behind (t_X1_behind hf hV (by omega) (by omega)) rfl rfl rfl hf.s0 rfl ⟨by decide, by decide⟩ (Nat.le_of_ble_eq_true rfl) ?_
    refine aw_iload_n C dX1_raysMeet_40 rfl ?_
    refine aw_icmp_ne C dX1_raysMeet_41 (tgt := 55) (by decide) ⟨by omega, by omega⟩ ⟨by omega, by omega⟩ (fun c2 => ?_) (fun c2 => ?_)
    · rw [if_neg c2] at E
      --go
      refine aw_aload_n C dX1_raysMeet_55 rfl ?_
      refine aw_iload_n C dX1_raysMeet_56 rfl ?_
      refine aw_call1 C dX1_raysMeet_57 lX1_59 vX1_behind (t_X1_behind hf hV (by omega) (by omega)) rfl rfl rfl hf.s0 rfl ⟨by decide, by decide⟩ (Nat.le_of_ble_eq_true rfl) ?_
      refine aw_iload_n C dX1_raysMeet_60 rfl ?_
      refine aw_icmp_ne C dX1_raysMeet_61 (tgt := 77) (by decide) ⟨by omega, by omega⟩ ⟨by omega, by omega⟩ (fun c3 => ?_) (fun c3 => ?_)
      · rw [if_neg c3] at E
        --go
        refine aw_lconst C dX1_raysMeet_77 (v := 0) rfl ?_
        exact aw_lret C E dX1_raysMeet_78 rfl ⟨rfl, rfl⟩
      · rw [if_pos c3] at E
        --go
        refine aw_lload_n C dX1_raysMeet_64 rfl ?_
        refine aw_aload_n C dX1_raysMeet_65 rfl ?_
        refine aw_iload_n C dX1_raysMeet_66 rfl ?_
        refine aw_call1 C dX1_raysMeet_67 lX1_55 vX1_turn (t_X1_turn hf hV (by omega) (by omega)) rfl rfl rfl hf.s0 rfl ⟨by decide, by decide⟩ (Nat.le_of_ble_eq_true rfl) ?_
        refine aw_i2l C dX1_raysMeet_70 ⟨by omega, by omega⟩ ?_
        refine aw_callS1 C dX1_raysMeet_71 lX1_79 vX4_by (t_X4_by ⟨by omega, by omega⟩ ⟨by omega, by omega⟩) rfl rfl rfl ⟨by decide, by decide⟩ (Nat.le_of_ble_eq_true rfl) ?_
        refine aw_goto C dX1_raysMeet_74 (tgt := 78) (by decide) ?_
        exact aw_lret C E dX1_raysMeet_78 rfl ⟨rfl, rfl⟩
    · rw [if_pos c2] at E
      --go
      refine aw_lload_n C dX1_raysMeet_44 rfl ?_
      refine aw_aload_n C dX1_raysMeet_45 rfl ?_
      refine aw_iload_n C dX1_raysMeet_46 rfl ?_
      refine aw_call1 C dX1_raysMeet_47 lX1_55 vX1_turn (t_X1_turn hf hV (by omega) (by omega)) rfl rfl rfl hf.s0 rfl ⟨by decide, by decide⟩ (Nat.le_of_ble_eq_true rfl) ?_
      refine aw_i2l C dX1_raysMeet_50 ⟨by omega, by omega⟩ ?_
      refine aw_callS1 C dX1_raysMeet_51 lX1_79 vX4_by (t_X4_by ⟨by omega, by omega⟩ ⟨by omega, by omega⟩) rfl rfl rfl ⟨by decide, by decide⟩ (Nat.le_of_ble_eq_true rfl) ?_
      exact aw_lret C E dX1_raysMeet_54 rfl ⟨rfl, rfl⟩
  · rw [if_pos c1] at E
    --go
    refine aw_aload_n C dX1_raysMeet_5 rfl ?_
    refine aw_iload_n C dX1_raysMeet_6 rfl ?_
    refine aw_call1 C dX1_raysMeet_7 lX1_98 vX1_turnAround (t_X1_turnAround hf hV (by omega) (by omega)) rfl rfl rfl hf.s0 rfl ⟨by decide, by decide⟩ (Nat.le_of_ble_eq_true rfl) ?_
    refine aw_i2l C dX1_raysMeet_10 ⟨by omega, by omega⟩ ?_
    refine aw_lload_n C dX1_raysMeet_11 rfl ?_
    refine aw_lmul C dX1_raysMeet_12 ?_
    refine aw_aload_n C dX1_raysMeet_13 rfl ?_
    refine aw_aload_n C dX1_raysMeet_14 rfl ?_
    refine aw_iload_n C dX1_raysMeet_15 rfl ?_
    refine aw_call1 C dX1_raysMeet_16 lX1_71 vX1_ahead (t_X1_ahead hf hV (by omega) (by omega)) rfl rfl rfl hf.s0 rfl ⟨by decide, by decide⟩ (Nat.le_of_ble_eq_true rfl) ?_
    refine aw_call1 C dX1_raysMeet_19 lX1_55 vX1_turn (t_X1_turn hf hV (by omega) (by omega)) rfl rfl rfl hf.s0 rfl ⟨by decide, by decide⟩ (Nat.le_of_ble_eq_true rfl) ?_
    refine aw_i2l C dX1_raysMeet_22 ⟨by omega, by omega⟩ ?_
    refine aw_aload_n C dX1_raysMeet_23 rfl ?_
    refine aw_iload_n C dX1_raysMeet_24 rfl ?_
    refine aw_call1 C dX1_raysMeet_25 lX1_55 vX1_turn (t_X1_turn hf hV (by omega) (by omega)) rfl rfl rfl hf.s0 rfl ⟨by decide, by decide⟩ (Nat.le_of_ble_eq_true rfl) ?_
    refine aw_i2l C dX1_raysMeet_28 ⟨by omega, by omega⟩ ?_
    refine aw_lmul C dX1_raysMeet_29 ?_
    refine aw_callS1 C dX1_raysMeet_30 lX1_79 vX4_by (t_X4_by ⟨by omega, by omega⟩ ⟨by omega, by omega⟩) rfl rfl rfl ⟨by decide, by decide⟩ (Nat.le_of_ble_eq_true rfl) ?_
    refine aw_lneg C dX1_raysMeet_33 ?_
    exact aw_lret C E dX1_raysMeet_34 rfl ⟨rfl, rfl⟩
theorem t_X1_loadMeetsRay {f : Nat} {mu : Mem} {d i ms : Int} (hf : isF f) (hV : bV (fv mu f)) (h0 : 0 ≤ i) (h1 : i < mu f 0) (h2 : 0 ≤ d) (h3 : d < mu f 1) (hms : -1000000 ≤ ms ∧ ms ≤ 1000000) : TrE 4 mX1_loadMeetsRay [vr f, vi d, vi i, vl ms] mu (some (vl (lmr (fv mu f) d i ms))) mu := by
  refine Tr.of (by decide +kernel) (Nat.le_of_ble_eq_true rfl) (fun K C E => ?_)
  have hn := hV.n
  obtain ⟨a1, a2⟩ : 0 ≤ nxt (fv mu f) i ∧ nxt (fv mu f) i < mu f 0 := nxt_in h0 h1
  obtain ⟨a3, a4⟩ : 0 ≤ prv (fv mu f) i ∧ prv (fv mu f) i < mu f 0 := prv_in h0 h1
  have n1 := hV.g d i
  have n2 := hV.g d (nxt (fv mu f) i)
  have n3 := hV.g d (prv (fv mu f) i)
  refine aw_aload_n C dX1_loadMeetsRay_0 rfl ?_
  refine aw_iload_n C dX1_loadMeetsRay_1 rfl ?_
  refine aw_call1 C dX1_loadMeetsRay_2 lX1_71 vX1_ahead (t_X1_ahead hf hV (by omega) (by omega)) rfl rfl rfl hf.s0 rfl ⟨by decide, by decide⟩ (Nat.le_of_ble_eq_true rfl) ?_
  refine aw_istore C dX1_loadMeetsRay_5 (by decide) ?_
  refine aw_aload_n C dX1_loadMeetsRay_7 rfl ?_
  refine aw_iload_n C dX1_loadMeetsRay_8 rfl ?_
  refine aw_call1 C dX1_loadMeetsRay_9 lX1_59 vX1_behind (t_X1_behind hf hV (by omega) (by omega)) rfl rfl rfl hf.s0 rfl ⟨by decide, by decide⟩ (Nat.le_of_ble_eq_true rfl) ?_
  refine aw_istore C dX1_loadMeetsRay_12 (by decide) ?_
  refine aw_aload_n C dX1_loadMeetsRay_14 rfl ?_
  refine aw_iload_n C dX1_loadMeetsRay_15 rfl ?_
  refine aw_iload C dX1_loadMeetsRay_16 rfl ?_
  refine aw_call1 C dX1_loadMeetsRay_18 lX1_108 vX1_number (t_X1_number hf hV (by omega) (by omega) (by omega) (by omega)) rfl rfl rfl hf.s0 rfl ⟨by decide, by decide⟩ (Nat.le_of_ble_eq_true rfl) ?_
  refine aw_i2l C dX1_loadMeetsRay_21 ⟨by omega, by omega⟩ ?_
  refine aw_aload_n C dX1_loadMeetsRay_22 rfl ?_
  refine aw_iload C dX1_loadMeetsRay_23 rfl ?_
  refine aw_iload_n C dX1_loadMeetsRay_25 rfl ?_
  refine aw_lload_n C dX1_loadMeetsRay_26 rfl ?_
  refine aw_call1 C dX1_loadMeetsRay_27 lX1_125 vX1_raysMeet (t_X1_raysMeet hf hV (by omega) (by omega) (by omega) (by omega) hms) rfl rfl rfl hf.s0 rfl ⟨by decide, by decide⟩ (Nat.le_of_ble_eq_true rfl) ?_
  refine aw_lmul C dX1_loadMeetsRay_30 ?_
  refine aw_aload_n C dX1_loadMeetsRay_31 rfl ?_
  refine aw_iload_n C dX1_loadMeetsRay_32 rfl ?_
  refine aw_iload_n C dX1_loadMeetsRay_33 rfl ?_
  refine aw_call1 C dX1_loadMeetsRay_34 lX1_108 vX1_number (t_X1_number hf hV (by omega) (by omega) (by omega) (by omega)) rfl rfl rfl hf.s0 rfl ⟨by decide, by decide⟩ (Nat.le_of_ble_eq_true rfl) ?_
  refine aw_i2l C dX1_loadMeetsRay_37 ⟨by omega, by omega⟩ ?_
  refine aw_aload_n C dX1_loadMeetsRay_38 rfl ?_
  refine aw_iload_n C dX1_loadMeetsRay_39 rfl ?_
  refine aw_iload_n C dX1_loadMeetsRay_40 rfl ?_
  refine aw_lload_n C dX1_loadMeetsRay_41 rfl ?_
  refine aw_call1 C dX1_loadMeetsRay_42 lX1_125 vX1_raysMeet (t_X1_raysMeet hf hV (by omega) (by omega) (by omega) (by omega) hms) rfl rfl rfl hf.s0 rfl ⟨by decide, by decide⟩ (Nat.le_of_ble_eq_true rfl) ?_
  refine aw_lmul C dX1_loadMeetsRay_45 ?_
  refine aw_ladd C dX1_loadMeetsRay_46 ?_
  refine aw_aload_n C dX1_loadMeetsRay_47 rfl ?_
  refine aw_iload_n C dX1_loadMeetsRay_48 rfl ?_
  refine aw_iload C dX1_loadMeetsRay_49 rfl ?_
  refine aw_call1 C dX1_loadMeetsRay_51 lX1_108 vX1_number (t_X1_number hf hV (by omega) (by omega) (by omega) (by omega)) rfl rfl rfl hf.s0 rfl ⟨by decide, by decide⟩ (Nat.le_of_ble_eq_true rfl) ?_
  refine aw_i2l C dX1_loadMeetsRay_54 ⟨by omega, by omega⟩ ?_
  refine aw_aload_n C dX1_loadMeetsRay_55 rfl ?_
  refine aw_iload_n C dX1_loadMeetsRay_56 rfl ?_
  refine aw_iload C dX1_loadMeetsRay_57 rfl ?_
  refine aw_lload_n C dX1_loadMeetsRay_59 rfl ?_
  refine aw_call1 C dX1_loadMeetsRay_60 lX1_125 vX1_raysMeet (t_X1_raysMeet hf hV (by omega) (by omega) (by omega) (by omega) hms) rfl rfl rfl hf.s0 rfl ⟨by decide, by decide⟩ (Nat.le_of_ble_eq_true rfl) ?_
  refine aw_lmul C dX1_loadMeetsRay_63 ?_
  refine aw_ladd C dX1_loadMeetsRay_64 ?_
  exact aw_lret C E dX1_loadMeetsRay_65 rfl ⟨rfl, rfl⟩
theorem t_X1_loadsMeet {f : Nat} {mu : Mem} {d e ms : Int} (hf : isF f) (hV : bV (fv mu f)) (h2 : 0 ≤ d) (h3 : d < mu f 1) (h4 : 0 ≤ e) (h5 : e < mu f 1) (hms : -1000000 ≤ ms ∧ ms ≤ 1000000) : TrE 5 mX1_loadsMeet [vr f, vi d, vi e, vl ms] mu (some (vl (lms (fv mu f) d e ms))) mu := by
  refine Tr.of (by decide +kernel) (Nat.le_of_ble_eq_true rfl) (fun K C E => ?_)
  have hn := hV.n
  have loop : ∀ (k : Nat) (i a : Int), 0 ≤ i → i + k = mu f 0 → a = fld (fun a i => a + gn (fv mu f) e i * lmr (fv mu f) d i ms) 0 i.toNat → AW K mX1_loadsMeet (NC, 0, 0) 6 [vr f, vi d, vi e, vl ms, vx, vl a, vx, vi i] [] mu := by
    intro k
    induction k with
    | zero =>
      intro i a h0 h1 hq
      have e : i = mu f 0 := by omega
      subst e
      refine aw_iload C dX1_loadsMeet_6 rfl ?_
      refine aw_aload_n C dX1_loadsMeet_8 rfl ?_
      refine aw_getI C dX1_loadsMeet_9 fX1_21 hf.s0 rfl ?_
      refine aw_icmp_ge C dX1_loadsMeet_12 (tgt := 43) (by decide) ⟨by omega, by omega⟩ ⟨by omega, by omega⟩ (fun c1 => ?_) (fun c1 => ?_)
      · refine aw_lload C dX1_loadsMeet_43 rfl ?_
        exact aw_lret C E dX1_loadsMeet_45 rfl ⟨by rw [hq]; rfl, rfl⟩
      · exfalso; omega
    | succ k ih =>
      intro i a h0 h1 hq
      have n1 := hV.g e i
      refine aw_iload C dX1_loadsMeet_6 rfl ?_
      refine aw_aload_n C dX1_loadsMeet_8 rfl ?_
      refine aw_getI C dX1_loadsMeet_9 fX1_21 hf.s0 rfl ?_
      refine aw_icmp_ge C dX1_loadsMeet_12 (tgt := 43) (by decide) ⟨by omega, by omega⟩ ⟨by omega, by omega⟩ (fun c1 => ?_) (fun c1 => ?_)
      · exfalso; omega
      · refine aw_lload C dX1_loadsMeet_15 rfl ?_
        refine aw_aload_n C dX1_loadsMeet_17 rfl ?_
        refine aw_iload_n C dX1_loadsMeet_18 rfl ?_
        refine aw_iload C dX1_loadsMeet_19 rfl ?_
        refine aw_call1 C dX1_loadsMeet_21 lX1_108 vX1_number (t_X1_number hf hV (by omega) (by omega) (by omega) (by omega)) rfl rfl rfl hf.s0 rfl ⟨by decide, by decide⟩ (Nat.le_of_ble_eq_true rfl) ?_
        refine aw_i2l C dX1_loadsMeet_24 ⟨by omega, by omega⟩ ?_
        refine aw_aload_n C dX1_loadsMeet_25 rfl ?_
        refine aw_iload_n C dX1_loadsMeet_26 rfl ?_
        refine aw_iload C dX1_loadsMeet_27 rfl ?_
        refine aw_lload_n C dX1_loadsMeet_29 rfl ?_
        refine aw_call1 C dX1_loadsMeet_30 lX1_129 vX1_loadMeetsRay (t_X1_loadMeetsRay hf hV (by omega) (by omega) (by omega) (by omega) hms) rfl rfl rfl hf.s0 rfl ⟨by decide, by decide⟩ (Nat.le_of_ble_eq_true rfl) ?_
        refine aw_lmul C dX1_loadsMeet_33 ?_
        refine aw_ladd C dX1_loadsMeet_34 ?_
        refine aw_lstore C dX1_loadsMeet_35 (by decide) ?_
        refine aw_iinc C dX1_loadsMeet_37 rfl ?_
        refine aw_goto C dX1_loadsMeet_40 (tgt := 6) (by decide) ?_
        exact ih (i + 1) _ (by omega) (by omega) (by rw [fld_s h0, ← hq])
  refine aw_lconst C dX1_loadsMeet_0 (v := 0) rfl ?_
  refine aw_lstore C dX1_loadsMeet_1 (by decide) ?_
  refine aw_iconst C dX1_loadsMeet_3 ?_
  refine aw_istore C dX1_loadsMeet_4 (by decide) ?_
  exact loop (mu f 0).toNat 0 0 (by omega) (by omega) rfl
theorem t_X1_isHeld {v : Int} {mu : Mem} (hv : R62 v) : TrE 1 mX1_isHeld [vl v] mu (some (vi (b01 (-2000 ≤ v ∧ v ≤ 2000)))) mu := by
  refine Tr.of (by decide +kernel) (Nat.le_of_ble_eq_true rfl) (fun K C E => ?_)
  unfold R62 at hv
  have h01 : (if v < -2000 ∨ 2000 < v then (1 : Int) else 0) = 0 ∨ (if v < -2000 ∨ 2000 < v then (1 : Int) else 0) = 1 := by split <;> omega
  by_cases h : v < -2000 ∨ 2000 < v
  · rw [b01_f (by omega)] at E
    have e : (if v < -2000 ∨ 2000 < v then (1 : Int) else 0) = 1 := if_pos h
    refine aw_lload_n C dX1_isHeld_0 rfl ?_
    refine aw_ldc2 C dX1_isHeld_1 kX1_157 (z := 2000) (by decide +kernel) ?_
    refine aw_callS1 C dX1_isHeld_4 lX1_138 vX4_isBeyond (t_X4_isBeyond ⟨by omega, by omega⟩ ⟨by omega, by omega⟩ ⟨by omega, by omega⟩) rfl rfl rfl ⟨by decide, by decide⟩ (Nat.le_of_ble_eq_true rfl) ?_
    refine aw_if_ne C dX1_isHeld_7 (tgt := 14) (by decide) ⟨by omega, by omega⟩ (fun c1 => ?_) (fun c1 => ?_)
    · refine aw_iconst C dX1_isHeld_14 ?_
      exact aw_zret C E dX1_isHeld_15 rfl (by omega) ⟨rfl, rfl⟩
    · exfalso; omega
  · rw [b01_t (by omega)] at E
    have e : (if v < -2000 ∨ 2000 < v then (1 : Int) else 0) = 0 := if_neg h
    refine aw_lload_n C dX1_isHeld_0 rfl ?_
    refine aw_ldc2 C dX1_isHeld_1 kX1_157 (z := 2000) (by decide +kernel) ?_
    refine aw_callS1 C dX1_isHeld_4 lX1_138 vX4_isBeyond (t_X4_isBeyond ⟨by omega, by omega⟩ ⟨by omega, by omega⟩ ⟨by omega, by omega⟩) rfl rfl rfl ⟨by decide, by decide⟩ (Nat.le_of_ble_eq_true rfl) ?_
    refine aw_if_ne C dX1_isHeld_7 (tgt := 14) (by decide) ⟨by omega, by omega⟩ (fun c1 => ?_) (fun c1 => ?_)
    · exfalso; omega
    · refine aw_iconst C dX1_isHeld_10 ?_
      refine aw_goto C dX1_isHeld_11 (tgt := 15) (by decide) ?_
      exact aw_zret C E dX1_isHeld_15 rfl (by omega) ⟨rfl, rfl⟩
theorem t_X1_isInFirstHalf {x y : Int} {mu : Mem} (hx : R32 x) (hy : R32 y) : TrE 0 mX1_isInFirstHalf [vi x, vi y] mu (some (vi (b01 (hlf x y)))) mu := by
  refine Tr.of (by decide +kernel) (Nat.le_of_ble_eq_true rfl) (fun K C E => ?_)
  have hh : hlf x y ↔ (y > 0 ∨ (y = 0 ∧ x > 0)) := Iff.rfl
  rw [b01_congr hh] at E
  refine aw_iload_n C dX1_isInFirstHalf_0 rfl ?_
  refine aw_if_gt C dX1_isInFirstHalf_1 (tgt := 12) (by decide) ⟨by omega, by omega⟩ (fun c1 => ?_) (fun c1 => ?_)
  · rw [b01_t (by omega)] at E
    --go
    refine aw_iconst C dX1_isInFirstHalf_12 ?_
    refine aw_goto C dX1_isInFirstHalf_13 (tgt := 17) (by decide) ?_
    exact aw_zret C E dX1_isInFirstHalf_17 rfl (by omega) ⟨rfl, rfl⟩
  · refine aw_iload_n C dX1_isInFirstHalf_4 rfl ?_
    refine aw_if_ne C dX1_isInFirstHalf_5 (tgt := 16) (by decide) ⟨by omega, by omega⟩ (fun c2 => ?_) (fun c2 => ?_)
    · rw [b01_f (by omega)] at E
      --go
      refine aw_iconst C dX1_isInFirstHalf_16 ?_
      exact aw_zret C E dX1_isInFirstHalf_17 rfl (by omega) ⟨rfl, rfl⟩
    · refine aw_iload_n C dX1_isInFirstHalf_8 rfl ?_
      refine aw_if_le C dX1_isInFirstHalf_9 (tgt := 16) (by decide) ⟨by omega, by omega⟩ (fun c3 => ?_) (fun c3 => ?_)
      · rw [b01_f (by omega)] at E
        --go
        refine aw_iconst C dX1_isInFirstHalf_16 ?_
        exact aw_zret C E dX1_isInFirstHalf_17 rfl (by omega) ⟨rfl, rfl⟩
      · rw [b01_t (by omega)] at E
        --go
        refine aw_iconst C dX1_isInFirstHalf_12 ?_
        refine aw_goto C dX1_isInFirstHalf_13 (tgt := 17) (by decide) ?_
        exact aw_zret C E dX1_isInFirstHalf_17 rfl (by omega) ⟨rfl, rfl⟩
theorem t_X1_comesBefore {a b c d : Int} {mu : Mem} (ha : -60 ≤ a ∧ a ≤ 60) (hb : -60 ≤ b ∧ b ≤ 60) (hc : -60 ≤ c ∧ c ≤ 60) (hd : -60 ≤ d ∧ d ≤ 60) : TrE 1 mX1_comesBefore [vi a, vi b, vi c, vi d] mu (some (vi (b01 (cbf a b c d)))) mu := by
  refine Tr.of (by decide +kernel) (Nat.le_of_ble_eq_true rfl) (fun K C E => ?_)
  have m1 := mulb ha hd
  have m2 := mulb hb hc
  have z1 := b01_01 (hlf a b)
  have z2 := b01_01 (hlf c d)
  have i1 := @b01_iff (hlf a b)
  have i2 := @b01_iff (hlf c d)
  have i3 := @b01_niff (hlf a b)
  have i4 := @b01_niff (hlf c d)
  refine aw_iload_n C dX1_comesBefore_0 rfl ?_
  refine aw_iload_n C dX1_comesBefore_1 rfl ?_
  refine aw_callS1 C dX1_comesBefore_2 lX1_159 vX1_isInFirstHalf (t_X1_isInFirstHalf ⟨by omega, by omega⟩ ⟨by omega, by omega⟩) rfl rfl rfl ⟨by decide, by decide⟩ (Nat.le_of_ble_eq_true rfl) ?_
  refine aw_istore C dX1_comesBefore_5 (by decide) ?_
  refine aw_iload C dX1_comesBefore_7 rfl ?_
  refine aw_iload_n C dX1_comesBefore_9 rfl ?_
  refine aw_iload_n C dX1_comesBefore_10 rfl ?_
  refine aw_callS1 C dX1_comesBefore_11 lX1_159 vX1_isInFirstHalf (t_X1_isInFirstHalf ⟨by omega, by omega⟩ ⟨by omega, by omega⟩) rfl rfl rfl ⟨by decide, by decide⟩ (Nat.le_of_ble_eq_true rfl) ?_
  refine aw_icmp_eq C dX1_comesBefore_14 (tgt := 20) (by decide) ⟨by omega, by omega⟩ ⟨by omega, by omega⟩ (fun c1 => ?_) (fun c1 => ?_)
  · refine aw_iload_n C dX1_comesBefore_20 rfl ?_
    refine aw_iload_n C dX1_comesBefore_21 rfl ?_
    refine aw_imul C dX1_comesBefore_22 ?_
    refine aw_iload_n C dX1_comesBefore_23 rfl ?_
    refine aw_iload_n C dX1_comesBefore_24 rfl ?_
    refine aw_imul C dX1_comesBefore_25 ?_
    refine aw_isub C dX1_comesBefore_26 ?_
    refine aw_if_le C dX1_comesBefore_27 (tgt := 34) (by decide) ⟨by omega, by omega⟩ (fun c2 => ?_) (fun c2 => ?_)
    · have hr : b01 (cbf a b c d) = 0 := by
        refine b01_f (fun q => ?_)
        rcases q with q | q
        · have := i1.mpr q.1; have := i4.mpr q.2; omega
        · have := q.2; omega
      --go
      refine aw_iconst C dX1_comesBefore_34 ?_
      exact aw_zret C E dX1_comesBefore_35 rfl (by omega) ⟨by rw [hr], rfl⟩
    · have hr : b01 (cbf a b c d) = 1 := by
        refine b01_t (Or.inr ⟨?_, by omega⟩)
        rw [← i1, ← i2]; omega
      --go
      refine aw_iconst C dX1_comesBefore_30 ?_
      refine aw_goto C dX1_comesBefore_31 (tgt := 35) (by decide) ?_
      exact aw_zret C E dX1_comesBefore_35 rfl (by omega) ⟨by rw [hr], rfl⟩
  · have hr : b01 (cbf a b c d) = b01 (hlf a b) := by
      rcases z1 with z1 | z1
      · rw [z1]; refine b01_f (fun q => ?_)
        rcases q with q | q
        · exact i3.mp z1 q.1
        · exact i3.mp z1 (q.1.mpr (i2.mp (by omega)))
      · rw [z1]; exact b01_t (Or.inl ⟨i1.mp z1, i4.mp (by omega)⟩)
    --go
    refine aw_iload C dX1_comesBefore_17 rfl ?_
    exact aw_zret C E dX1_comesBefore_19 rfl (by omega) ⟨by rw [hr], rfl⟩

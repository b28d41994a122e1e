/-! the reference's rays with all rows of numbers -/
def mv6 (mu : Mem) : FV := (mu 55 29, 6, cut1 (mu 55 29) (mu 64), cut1 (mu 55 29) (mu 65), cut2 6 (mu 55 29) (fun d j => mu 66 (25 * d + j)))
def rsV (l : Int) (W : FV) : FV := (W.1, l, W.2.2.1, W.2.2.2.1, fun d j => if (d : Int) < l then W.2.2.2.2 d j else 0)
theorem mv_rs {mu : Mem} (h : mu 55 30 ≤ 6) : mv mu = rsV (mu 55 30) (mv6 mu) := by
  unfold mv rsV mv6
  refine congrArg _ (congrArg _ (congrArg _ (congrArg _ ?_)))
  funext d j
  show cut2 (mu 55 30) (mu 55 29) (fun d j => mu 66 (25 * d + j)) d j = if (d : Int) < mu 55 30 then cut2 6 (mu 55 29) (fun d j => mu 66 (25 * d + j)) d j else 0
  unfold cut2
  by_cases e : (d : Int) < mu 55 30
  · rw [if_pos e]
    by_cases e2 : (j : Int) < mu 55 29
    · rw [if_pos ⟨e, e2⟩, if_pos ⟨by omega, e2⟩]
    · rw [if_neg (fun w => e2 w.2), if_neg (fun w => e2 w.2)]
  · rw [if_neg e, if_neg (fun w => e w.1)]
theorem rs_ins {l : Int} {W : FV} {p : Nat} {x y : Int} {c c2 : Nat → Int} (h6 : W.2.1 = 6) (hl : l ≤ 6) (hc : ∀ d : Nat, (d : Int) < l → c d = c2 d) : rsV l (insV W p x y c) = insV (rsV l W) p x y c2 := by
  unfold rsV insV
  refine congrArg _ (congrArg _ (congrArg _ (congrArg _ ?_)))
  funext d j
  show (if (d : Int) < l then (if (d : Int) < W.2.1 then ins (W.2.2.2.2 d) p (c d) j else 0) else 0) = if (d : Int) < l then ins (fun j => if (d : Int) < l then W.2.2.2.2 d j else 0) p (c2 d) j else 0
  by_cases e : (d : Int) < l
  · rw [if_pos e, if_pos e, if_pos (by omega), hc d e]
    congr 1
    funext q
    rw [if_pos e]
  · rw [if_neg e, if_neg e]
theorem rs_rem {l : Int} {W : FV} {p : Nat} : rsV l (remV W p) = remV (rsV l W) p := by
  unfold rsV remV
  refine congrArg _ (congrArg _ (congrArg _ (congrArg _ ?_)))
  funext d j
  show (if (d : Int) < l then del (W.2.2.2.2 d) p j else 0) = del (fun j => if (d : Int) < l then W.2.2.2.2 d j else 0) p j
  unfold del
  split
  · split <;> rfl
  · split <;> rfl
def tkV (W : FV) (q : Int) : FV := (q, 6, cut1 q W.2.2.1, cut1 q W.2.2.2.1, cut2 6 q W.2.2.2.2)
theorem ins_cut {X : Nat → Int} {q : Int} (h : 0 ≤ q) : ins (cut1 q X) q.toNat (X q.toNat) = cut1 (q + 1) X := by
  funext j
  unfold ins cut1
  by_cases e : j < q.toNat
  · rw [if_pos e, if_pos (by omega), if_pos (by omega)]
  · rw [if_neg e]
    by_cases e2 : j = q.toNat
    · rw [if_pos e2, if_pos (by omega), e2]
    · rw [if_neg e2, if_neg (by omega), if_neg (by omega)]
theorem tk_s {W : FV} {q : Int} {c : Nat → Int} (h : 0 ≤ q) (hc : ∀ d : Nat, d < 6 → c d = W.2.2.2.2 d q.toNat) : insV (tkV W q) q.toNat (gx W q) (gy W q) c = tkV W (q + 1) := by
  unfold insV tkV
  show (q + 1, (6 : Int), ins (cut1 q W.2.2.1) q.toNat (W.2.2.1 q.toNat), ins (cut1 q W.2.2.2.1) q.toNat (W.2.2.2.1 q.toNat), _) = _
  rw [ins_cut h, ins_cut h]
  refine congrArg _ (congrArg _ (congrArg _ (congrArg _ ?_)))
  funext d j
  show (if (d : Int) < 6 then ins (cut2 6 q W.2.2.2.2 d) q.toNat (c d) j else 0) = cut2 6 (q + 1) W.2.2.2.2 d j
  by_cases e : (d : Int) < 6
  · have e1 : cut2 6 q W.2.2.2.2 d = cut1 q (W.2.2.2.2 d) := funext fun j => by
      unfold cut2 cut1
      by_cases e2 : (j : Int) < q
      · rw [if_pos ⟨e, e2⟩, if_pos e2]
      · rw [if_neg (fun w => e2 w.2), if_neg e2]
    rw [if_pos e, e1, hc d (by omega), ins_cut h]
    unfold cut2 cut1
    by_cases e2 : (j : Int) < q + 1
    · rw [if_pos e2, if_pos ⟨e, e2⟩]
    · rw [if_neg e2, if_neg (fun w => e2 w.2)]
  · rw [if_neg e]
    unfold cut2
    rw [if_neg (fun w => e w.1)]
/-- nothing stands beyond -/
def cW (W : FV) : Prop := W.2.1 = 6 ∧ (∀ j : Nat, W.1 ≤ (j : Int) → W.2.2.1 j = 0 ∧ W.2.2.2.1 j = 0) ∧ ∀ d j : Nat, 6 ≤ (d : Int) ∨ W.1 ≤ (j : Int) → W.2.2.2.2 d j = 0
theorem tk_all {W : FV} (h : cW W) : tkV W W.1 = W := by
  obtain ⟨h1, h2, h3⟩ := h
  obtain ⟨n, l, X, Y, N⟩ := W
  dsimp only at h1 h2 h3
  subst h1
  unfold tkV
  dsimp only
  have e1 : cut1 n X = X := funext fun j => by
    unfold cut1
    by_cases e : (j : Int) < n
    · rw [if_pos e]
    · rw [if_neg e, (h2 j (by omega)).1]
  have e2 : cut1 n Y = Y := funext fun j => by
    unfold cut1
    by_cases e : (j : Int) < n
    · rw [if_pos e]
    · rw [if_neg e, (h2 j (by omega)).2]
  have e3 : cut2 6 n N = N := funext fun d => funext fun j => by
    unfold cut2
    by_cases e : (d : Int) < 6 ∧ (j : Int) < n
    · rw [if_pos e]
    · rw [if_neg e, h3 d j (by omega)]
  rw [e1, e2, e3]
theorem cW_mv (mu : Mem) : cW (mv6 mu) := by
  refine ⟨rfl, fun j hj => ⟨?_, ?_⟩, fun d j hj => ?_⟩
  · show cut1 (mu 55 29) (mu 64) j = 0
    have hj : mu 55 29 ≤ (j : Int) := hj
    unfold cut1; rw [if_neg (by omega)]
  · show cut1 (mu 55 29) (mu 65) j = 0
    have hj : mu 55 29 ≤ (j : Int) := hj
    unfold cut1; rw [if_neg (by omega)]
  · show cut2 6 (mu 55 29) (fun d j => mu 66 (25 * d + j)) d j = 0
    have hj : 6 ≤ (d : Int) ∨ mu 55 29 ≤ (j : Int) := hj
    unfold cut2; rw [if_neg (by omega)]
theorem cW_rem {W : FV} (h : cW W) {p : Int} (p0 : 0 ≤ p) (p1 : p < W.1) : cW (remV W p.toNat) := by
  obtain ⟨h1, h2, h3⟩ := h
  refine ⟨h1, fun j hj => ⟨?_, ?_⟩, fun d j hj => ?_⟩
  · have hj : W.1 - 1 ≤ (j : Int) := hj
    show del W.2.2.1 p.toNat j = 0
    unfold del
    rw [if_neg (by omega)]; exact (h2 _ (by omega)).1
  · have hj : W.1 - 1 ≤ (j : Int) := hj
    show del W.2.2.2.1 p.toNat j = 0
    unfold del
    rw [if_neg (by omega)]; exact (h2 _ (by omega)).2
  · have hj : 6 ≤ (d : Int) ∨ W.1 - 1 ≤ (j : Int) := hj
    show del (W.2.2.2.2 d) p.toNat j = 0
    unfold del
    split
    · exact h3 d j (by omega)
    · exact h3 d (j + 1) (by omega)
theorem tk_bp {W : FV} (hs : srt W) {q : Int} (q0 : 0 ≤ q) (q1 : q < W.1) : bp (tkV W q) (gx W q) (gy W q) q.toNat = q := by
  cases hk : q.toNat with
  | zero => show (0 : Int) = q; omega
  | succ k =>
    have ek : (k : Int) = q - 1 := by omega
    have e1 : gx (tkV W q) k = gx W (q - 1) := by
      show cut1 q W.2.2.1 (k : Int).toNat = W.2.2.1 (q - 1).toNat
      unfold cut1
      rw [if_pos (by omega), show (k : Int).toNat = (q - 1).toNat by omega]
    have e2 : gy (tkV W q) k = gy W (q - 1) := by
      show cut1 q W.2.2.2.1 (k : Int).toNat = W.2.2.2.1 (q - 1).toNat
      unfold cut1
      rw [if_pos (by omega), show (k : Int).toNat = (q - 1).toNat by omega]
    show (if b01 (cbf (gx W q) (gy W q) (gx (tkV W q) k) (gy (tkV W q) k)) = 1 then bp (tkV W q) (gx W q) (gy W q) k else (k : Int) + 1) = q
    rw [e1, e2, if_neg (fun w => cbf_as (hs (q - 1) q (by omega) (by omega) q1) (b01_iff.mp w))]
    omega
theorem gn_rem {V : FV} {p j : Int} {d : Int} (hp : 0 ≤ p) (hj : 0 ≤ j) : gn (remV V p.toNat) d j = gn V d (sg p j) := by
  show del (V.2.2.2.2 d.toNat) p.toNat j.toNat = V.2.2.2.2 d.toNat (sg p j).toNat
  unfold del sg
  by_cases e : j < p
  · rw [if_pos (by omega), if_pos e]
  · rw [if_neg (by omega), if_neg e, show (j + 1).toNat = j.toNat + 1 by omega]
theorem ins_cg {W : FV} {p : Nat} {x y : Int} {c c2 : Nat → Int} (hc : ∀ d : Nat, (d : Int) < W.2.1 → c d = c2 d) : insV W p x y c = insV W p x y c2 := by
  unfold insV
  refine congrArg _ (congrArg _ (congrArg _ (congrArg _ ?_)))
  funext d j
  by_cases e : (d : Int) < W.2.1
  · rw [if_pos e, if_pos e, hc d e]
  · rw [if_neg e, if_neg e]
def bgS : Nat → Nat → Prop := fun a b => (a = 55 ∧ (b = 31 ∨ b = 33)) ∨ (67 ≤ a ∧ a ≤ 70)
theorem lyS_b : ∀ a b, lyS a b → bgS a b := fun a b h => by unfold lyS at h; unfold bgS; omega
theorem sv_fr {mu m : Mem} (h1 : m 55 31 = mu 55 31) (h : ∀ x y, 67 ≤ x → x ≤ 69 → m x y = mu x y) : sv m = sv mu := by
  unfold sv
  rw [h1, show m 67 = mu 67 from funext fun y => h 67 y (by decide) (by decide), show m 68 = mu 68 from funext fun y => h 68 y (by decide) (by decide), show m 69 = mu 69 from funext fun y => h 69 y (by decide) (by decide)]
theorem t_X6_laysOwn {mu : Mem} {W : FV} {i : Int} (eS : sv mu = W) (hW : bW W) (h24 : W.1 < 24) (i0 : 0 ≤ i) (i1 : i < 25) (hx : -60 ≤ mu 64 i.toNat ∧ mu 64 i.toNat ≤ 60) (hy : -60 ≤ mu 65 i.toNat ∧ mu 65 i.toNat ≤ 60) (hc : ∀ d : Nat, d < 6 → hld (mu 66 (25 * d + i.toNat))) (hr : mu 55 33 = 1) : Tr 3 mX6_laysOwn [vr 55, vi i] mu (fun r m2 => r = none ∧ frc bgS mu m2 ∧ sv m2 = insV W (bp W (mu 64 i.toNat) (mu 65 i.toNat) W.1.toNat).toNat (mu 64 i.toNat) (mu 65 i.toNat) (fun d => mu 66 (25 * d + i.toNat)) ∧ m2 55 33 = 1) := by
  refine Tr.of (by decide +kernel) (Nat.le_of_ble_eq_true rfl) (fun K C E => ?_)
  have loop : ∀ (k : Nat) (d : Int) (m : Mem), 0 ≤ d → d + k = 6 → frc (fun a _ => a = 70) mu m → (∀ e : Nat, (e : Int) < d → m 70 e = mu 66 (25 * e + i.toNat)) → AW K mX6_laysOwn (NC, 0, 0) 2 [vr 55, vi i, vi d] [] m := by
    intro k
    induction k with
    | zero =>
      intro d m q0 q1 q2 q3
      have e64 : m 64 i.toNat = mu 64 i.toNat := q2 _ _ (show ¬ (64 : Nat) = 70 by decide)
      have e65 : m 65 i.toNat = mu 65 i.toNat := q2 _ _ (show ¬ (65 : Nat) = 70 by decide)
      have es : sv m = W := (sv_fr (q2 _ _ (by decide)) (fun x y _ _ => q2 x y (by omega))).trans eS
      have er : m 55 33 = 1 := (q2 _ _ (by decide)).trans hr
      have hc70 : ∀ d : Nat, d < 6 → m 70 d = mu 66 (25 * d + i.toNat) := fun d hd => q3 d (by omega)
      refine aw_iload_n C dX6_laysOwn_2 rfl ?_
      refine aw_bipush C dX6_laysOwn_3 rfl ?_
      refine aw_icmp_ge C dX6_laysOwn_5 (tgt := 31) (by decide) ⟨by omega, by omega⟩ ⟨by omega, by omega⟩ (fun c1 => ?_) (fun c1 => ?_)
      · refine aw_aload_n C dX6_laysOwn_31 rfl ?_
        refine aw_aload_n C dX6_laysOwn_32 rfl ?_
        refine aw_getS C dX6_laysOwn_33 fX6_41 ⟨rfl, by decide⟩ rfl rfl (srf 55 23 64 (by decide)) ?_
        refine aw_iload_n C dX6_laysOwn_36 rfl ?_
        refine aw_iald C dX6_laysOwn_37 ⟨rfl, by decide⟩ (by decide) (by omega) (by omega) ?_
        rw [e64]
        refine aw_aload_n C dX6_laysOwn_38 rfl ?_
        refine aw_getS C dX6_laysOwn_39 fX6_44 ⟨rfl, by decide⟩ rfl rfl (srf 55 24 65 (by decide)) ?_
        refine aw_iload_n C dX6_laysOwn_42 rfl ?_
        refine aw_iald C dX6_laysOwn_43 ⟨rfl, by decide⟩ (by decide) (by omega) (by omega) ?_
        rw [e65]
        refine aw_call C dX6_laysOwn_44 lX6_251 vX6_lays (t_X6_lays es hW ⟨by omega, by omega⟩ ⟨by omega, by omega⟩ (fun d hd => by rw [hc70 d hd]; have := hc d hd; unfold hld at this; exact ⟨by omega, by omega⟩) (Or.inr er)) rfl rfl rfl ⟨rfl, by decide⟩ rfl ⟨by decide, by decide⟩ (Nat.le_of_ble_eq_true rfl) (fun r2 mu2 hq2 => ?_)
        obtain ⟨rfl, f1, f2⟩ := hq2
        have fin : frc bgS mu mu2 ∧ sv mu2 = insV W (bp W (mu 64 i.toNat) (mu 65 i.toNat) W.1.toNat).toNat (mu 64 i.toNat) (mu 65 i.toNat) (fun d => mu 66 (25 * d + i.toNat)) ∧ mu2 55 33 = 1 := by
          refine ⟨(q2.mono (fun a b w => by unfold bgS; omega)).tr (f1.mono lyS_b), ?_⟩
          rcases f2 with ⟨z, -, -⟩ | ⟨z, z1, z2⟩
          · exact absurd ⟨by omega, hx, hy⟩ z
          · rw [z1, z2, er, b01_t (fun d hd => by rw [hc70 d hd]; exact hc d hd)]
            refine ⟨ins_cg (fun d hd => ?_), rfl⟩
            have l6 : W.2.1 = 6 := by rw [← eS]; rfl
            exact hc70 d (by omega)
        generalize mu2 = m3 at *
        show AW _ _ _ _ _ [] _
        exact aw_vret C E dX6_laysOwn_47 rfl ⟨rfl, fin⟩
      · exfalso; omega
    | succ k ih =>
      intro d m q0 q1 q2 q3
      have e66 : m 66 (25 * d + i).toNat = mu 66 (25 * d.toNat + i.toNat) := by
        rw [q2 66 _ (show ¬ (66 : Nat) = 70 by decide)]; congr 1; omega
      refine aw_iload_n C dX6_laysOwn_2 rfl ?_
      refine aw_bipush C dX6_laysOwn_3 rfl ?_
      refine aw_icmp_ge C dX6_laysOwn_5 (tgt := 31) (by decide) ⟨by omega, by omega⟩ ⟨by omega, by omega⟩ (fun c1 => ?_) (fun c1 => ?_)
      · exfalso; omega
      · refine aw_aload_n C dX6_laysOwn_8 rfl ?_
        refine aw_getS C dX6_laysOwn_9 fX6_59 ⟨rfl, by decide⟩ rfl rfl (srf 55 34 70 (by decide)) ?_
        refine aw_iload_n C dX6_laysOwn_12 rfl ?_
        refine aw_aload_n C dX6_laysOwn_13 rfl ?_
        refine aw_getS C dX6_laysOwn_14 fX6_47 ⟨rfl, by decide⟩ rfl rfl (srf 55 25 66 (by decide)) ?_
        refine aw_bipush C dX6_laysOwn_17 rfl ?_
        refine aw_iload_n C dX6_laysOwn_19 rfl ?_
        refine aw_imul C dX6_laysOwn_20 ?_
        refine aw_iload_n C dX6_laysOwn_21 rfl ?_
        refine aw_iadd C dX6_laysOwn_22 ?_
        refine aw_iald C dX6_laysOwn_23 ⟨rfl, by decide⟩ (by decide) (by omega) (by omega) ?_
        rw [e66]
        refine aw_iast C dX6_laysOwn_24 ⟨rfl, by decide⟩ (by decide) (by omega) (by omega) ?_
        refine aw_iinc C dX6_laysOwn_25 rfl ?_
        refine aw_goto C dX6_laysOwn_28 (tgt := 2) (by decide) ?_
        refine ih (d + 1) _ (by omega) (by omega) (q2.w rfl) (fun e he => ?_)
        rw [wr_at]
        by_cases e1 : e = d.toNat
        · rw [if_pos ⟨rfl, e1⟩, e1]
        · rw [if_neg (fun w => e1 w.2)]; exact q3 e (by omega)
  refine aw_iconst C dX6_laysOwn_0 ?_
  refine aw_istore_n C dX6_laysOwn_1 (by decide) ?_
  exact loop 6 0 mu (by omega) (by omega) frc.rf (fun e he => by omega)
theorem t_X6_begins {mu : Mem} {W : FV} {but : Int} (hs : srt (mv6 mu)) (hb : bW (mv6 mu)) (hN : nB mu) (hW : (but = -1 ∧ W = mv6 mu) ∨ (0 ≤ but ∧ but < mu 55 29 ∧ W = remV (mv6 mu) but.toNat)) : Tr 4 mX6_begins [vr 55, vi but] mu (fun r m2 => r = none ∧ frc bgS mu m2 ∧ sv m2 = W ∧ m2 55 33 = 1) := by
  refine Tr.of (by decide +kernel) (Nat.le_of_ble_eq_true rfl) (fun K C E => ?_)
  have n29 : (mv6 mu).1 = mu 55 29 := rfl
  have hn := hb.1
  have sW : srt W := by
    rcases hW with ⟨-, rfl⟩ | ⟨w1, w2, rfl⟩
    · exact hs
    · exact srt_rem hs w1 (by omega)
  have kW : cW W := by
    rcases hW with ⟨-, rfl⟩ | ⟨w1, w2, rfl⟩
    · exact cW_mv mu
    · exact cW_rem (cW_mv mu) w1 (by omega)
  have nW : W.1 = (if but = -1 then mu 55 29 else mu 55 29 - 1) := by
    rcases hW with ⟨w, rfl⟩ | ⟨w1, w2, rfl⟩
    · rw [if_pos w]; rfl
    · rw [if_neg (by omega)]; rfl
  have tkb : ∀ q : Int, 0 ≤ q → q ≤ 24 → bW (tkV W q) := fun q q0 q1 => by
    have c0 : ∀ (n : Int) (A : Nat → Int), (∀ i, -60 ≤ A i ∧ A i ≤ 60) → ∀ i, -60 ≤ cut1 n A i ∧ cut1 n A i ≤ 60 := fun n A hA i => by
      unfold cut1
      split
      · exact hA i
      · omega
    have bx : (∀ i, -60 ≤ W.2.2.1 i ∧ W.2.2.1 i ≤ 60) ∧ ∀ i, -60 ≤ W.2.2.2.1 i ∧ W.2.2.2.1 i ≤ 60 := by
      rcases hW with ⟨-, rfl⟩ | ⟨-, -, rfl⟩
      · exact hb.2
      · refine ⟨fun i => ?_, fun i => ?_⟩
        · show -60 ≤ del (mv6 mu).2.2.1 but.toNat i ∧ del (mv6 mu).2.2.1 but.toNat i ≤ 60
          unfold del
          split
          · exact hb.2.1 _
          · exact hb.2.1 _
        · show -60 ≤ del (mv6 mu).2.2.2.1 but.toNat i ∧ del (mv6 mu).2.2.2.1 but.toNat i ≤ 60
          unfold del
          split
          · exact hb.2.2 _
          · exact hb.2.2 _
    exact ⟨⟨q0, q1⟩, c0 _ _ bx.1, c0 _ _ bx.2⟩
  have mem : ∀ i q : Int, 0 ≤ i → i < mu 55 29 → 0 ≤ q → i ≠ but → ((but = -1 ∧ q = i) ∨ (0 ≤ but ∧ ((i ≤ but ∧ q = i) ∨ (but < i ∧ q = i - 1)))) → gx W q = mu 64 i.toNat ∧ gy W q = mu 65 i.toNat ∧ ∀ d : Nat, d < 6 → W.2.2.2.2 d q.toNat = mu 66 (25 * d + i.toNat) := fun i q i0 i1 q0 hne hq => by
    have g0 : gx (mv6 mu) i = mu 64 i.toNat := cut1_at i0 i1
    have g1 : gy (mv6 mu) i = mu 65 i.toNat := cut1_at i0 i1
    have g2 : ∀ d : Nat, d < 6 → gn (mv6 mu) d i = mu 66 (25 * d + i.toNat) := fun d hd => by
      show cut2 6 (mu 55 29) (fun d j => mu 66 (25 * d + j)) (d : Int).toNat i.toNat = _
      unfold cut2
      rw [if_pos (by omega)]
      rfl
    rcases hW with ⟨w, rfl⟩ | ⟨w1, w2, rfl⟩
    · have : q = i := by omega
      rw [this]
      exact ⟨g0, g1, fun d hd => g2 d hd⟩
    · have e : sg but q = i := by unfold sg; split <;> omega
      refine ⟨?_, ?_, fun d hd => ?_⟩
      · rw [gx_rem w1 q0, e]; exact g0
      · rw [gy_rem w1 q0, e]; exact g1
      · have := gn_rem (V := mv6 mu) (d := (d : Int)) w1 q0
        rw [e, g2 d hd] at this
        exact this
  have loop : ∀ (k : Nat) (i q : Int) (m : Mem), 0 ≤ i → i + k = mu 55 29 → 0 ≤ q → ((but = -1 ∧ q = i) ∨ (0 ≤ but ∧ ((i ≤ but ∧ q = i) ∨ (but < i ∧ q = i - 1)))) → frc bgS mu m → sv m = tkV W q → m 55 33 = 1 → AW K mX6_begins (NC, 0, 0) 12 [vr 55, vi but, vi i] [] m := by
    intro k
    induction k with
    | zero =>
      intro i q m q0 q1 q2 q3 q4 q5 q6
      have e29 : m 55 29 = mu 55 29 := q4 _ _ (by unfold bgS; omega)
      have eq : q = W.1 := by rw [nW]; split <;> omega
      rw [eq, tk_all kW] at q5
      refine aw_iload_n C dX6_begins_12 rfl ?_
      refine aw_aload_n C dX6_begins_13 rfl ?_
      refine aw_getI C dX6_begins_14 fX6_255 ⟨rfl, by decide⟩ rfl ?_
      refine aw_icmp_ge C dX6_begins_17 (tgt := 36) (by decide) ⟨by omega, by omega⟩ ⟨by omega, by omega⟩ (fun c1 => ?_) (fun c1 => ?_)
      · exact aw_vret C E dX6_begins_36 rfl ⟨rfl, q4, q5, q6⟩
      · exfalso; omega
    | succ k ih =>
      intro i q m q0 q1 q2 q3 q4 q5 q6
      have e29 : m 55 29 = mu 55 29 := q4 _ _ (by unfold bgS; omega)
      have e64 : m 64 i.toNat = mu 64 i.toNat := q4 _ _ (by unfold bgS; omega)
      have e65 : m 65 i.toNat = mu 65 i.toNat := q4 _ _ (by unfold bgS; omega)
      have e66 : ∀ d : Nat, m 66 (25 * d + i.toNat) = mu 66 (25 * d + i.toNat) := fun d => q4 _ _ (by unfold bgS; omega)
      have q24 : q ≤ 23 := by omega
      have qW : but ≠ i → q < W.1 := fun w => by rw [nW]; split <;> omega
      have g64 : -60 ≤ mu 64 i.toNat ∧ mu 64 i.toNat ≤ 60 := by
        have := hb.2.1 i.toNat
        rw [show (mv6 mu).2.2.1 i.toNat = mu 64 i.toNat from cut1_at q0 (by omega)] at this
        exact this
      have g65 : -60 ≤ mu 65 i.toNat ∧ mu 65 i.toNat ≤ 60 := by
        have := hb.2.2 i.toNat
        rw [show (mv6 mu).2.2.2.1 i.toNat = mu 65 i.toNat from cut1_at q0 (by omega)] at this
        exact this
      refine aw_iload_n C dX6_begins_12 rfl ?_
      refine aw_aload_n C dX6_begins_13 rfl ?_
      refine aw_getI C dX6_begins_14 fX6_255 ⟨rfl, by decide⟩ rfl ?_
      refine aw_icmp_ge C dX6_begins_17 (tgt := 36) (by decide) ⟨by omega, by omega⟩ ⟨by omega, by omega⟩ (fun c1 => ?_) (fun c1 => ?_)
      · exfalso; omega
      · refine aw_iload_n C dX6_begins_20 rfl ?_
        refine aw_iload_n C dX6_begins_21 rfl ?_
        refine aw_icmp_eq C dX6_begins_22 (tgt := 30) (by decide) ⟨by omega, by omega⟩ ⟨by omega, by omega⟩ (fun cb => ?_) (fun cb => ?_)
        · --go
          refine aw_iinc C dX6_begins_30 rfl ?_
          refine aw_goto C dX6_begins_33 (tgt := 12) (by decide) ?_
          exact ih (i + 1) q m (by omega) (by omega) q2 (by omega) q4 q5 q6
        · refine aw_aload_n C dX6_begins_25 rfl ?_
          refine aw_iload_n C dX6_begins_26 rfl ?_
          refine aw_call C dX6_begins_27 lX6_258 vX6_laysOwn (t_X6_laysOwn q5 (tkb q q2 (by omega)) (show q < 24 by omega) q0 (by omega) (by rw [e64]; exact g64) (by rw [e65]; exact g65) (fun d hd => by rw [e66]; exact hN d i.toNat hd (by omega)) q6) rfl rfl rfl ⟨rfl, by decide⟩ rfl ⟨by decide, by decide⟩ (Nat.le_of_ble_eq_true rfl) (fun r2 mu2 hq2 => ?_)
          obtain ⟨rfl, f1, f2, f3⟩ := hq2
          obtain ⟨h1, h2, h3⟩ := mem i q q0 (by omega) q2 cb q3
          have q7 : sv mu2 = tkV W (q + 1) := by
            rw [f2, e64, e65, ← h1, ← h2, show (tkV W q).1.toNat = q.toNat from rfl, tk_bp sW q2 (qW (fun w => cb w.symm))]
            exact tk_s q2 (fun d hd => by rw [e66, h3 d hd])
          generalize mu2 = m3 at *
          show AW _ _ _ _ _ [] _
          refine aw_iinc C dX6_begins_30 rfl ?_
          refine aw_goto C dX6_begins_33 (tgt := 12) (by decide) ?_
          exact ih (i + 1) (q + 1) _ (by omega) (by omega) (by omega) (by omega) (q4.tr f1) q7 f3
  refine aw_aload_n C dX6_begins_0 rfl ?_
  refine aw_iconst C dX6_begins_1 ?_
  refine aw_putI C dX6_begins_2 fX6_224 ⟨rfl, by decide⟩ rfl rfl rfl ?_
  refine aw_aload_n C dX6_begins_5 rfl ?_
  refine aw_iconst C dX6_begins_6 ?_
  refine aw_putZ C dX6_begins_7 fX6_239 ⟨rfl, by decide⟩ rfl rfl rfl (by omega) ?_
  refine aw_iconst C dX6_begins_10 ?_
  refine aw_istore_n C dX6_begins_11 (by decide) ?_
  refine loop (mu 55 29).toNat 0 0 _ (by omega) (by omega) (by omega) (by omega) ((frc.rf.w (Or.inl ⟨rfl, Or.inl rfl⟩)).w (Or.inl ⟨rfl, Or.inr rfl⟩)) ?_ (by rw [wr_at, if_pos ⟨rfl, rfl⟩])
  have e31 : wr (wr mu 55 31 0) 55 33 1 55 31 = 0 := by rw [wr_at, if_neg (by decide), wr_at, if_pos ⟨rfl, rfl⟩]
  unfold sv tkV
  rw [e31, cut1_0, cut1_0, cut1_0, cut1_0]
  refine congrArg _ (congrArg _ (congrArg _ (congrArg _ ?_)))
  funext d j
  unfold cut2
  rw [if_neg (by omega), if_neg (by omega)]
def hdS : Nat → Nat → Prop := fun a b => (a = 55 ∧ b = 29) ∨ (64 ≤ a ∧ a ≤ 66)
def hdd (mu m : Mem) (x n : Int) : Prop := cpd (m 64) (mu 64) (mu 67) 0 x ∧ cpd (m 65) (mu 65) (mu 68) 0 x ∧ cpd (m 66) (mu 66) (mu 69) 0 n ∧ m 55 29 = mu 55 31 ∧ frc hdS mu m
theorem t_X6_holds {mu : Mem} (hn : 0 ≤ mu 55 31 ∧ mu 55 31 ≤ 24) : Tr 0 mX6_holds [vr 55] mu (fun r m2 => r = none ∧ frc hdS mu m2 ∧ mv6 m2 = sv mu) := by
  refine Tr.of (by decide +kernel) (Nat.le_of_ble_eq_true rfl) (fun K C E => ?_)
  have l2 : ∀ (k : Nat) (i : Int) (m : Mem), 0 ≤ i → i + k = 150 → hdd mu m 25 i → AW K mX6_holds (NC, 0, 0) 48 [vr 55, vi i] [] m := by
    intro k
    induction k with
    | zero =>
      intro i m q0 q1 q2
      have e : i = 150 := by omega
      rw [e] at q2
      obtain ⟨y1, y2, y3, y4, y5⟩ := q2
      have fin : mv6 m = sv mu := by
        unfold mv6 sv
        rw [y4, cut1_eq (A := m 64) (B := mu 67) (fun j hj => y1.in_ (by omega)), cut1_eq (A := m 65) (B := mu 68) (fun j hj => y2.in_ (by omega)), cut2_eq (A := fun d j => m 66 (25 * d + j)) (B := fun d j => mu 69 (25 * d + j)) (fun d j hd hj => y3.in_ (by omega))]
      refine aw_iload_n C dX6_holds_48 rfl ?_
      refine aw_sipush C dX6_holds_49 rfl ?_
      refine aw_icmp_ge C dX6_holds_52 (tgt := 73) (by decide) ⟨by omega, by omega⟩ ⟨by omega, by omega⟩ (fun c1 => ?_) (fun c1 => ?_)
      · exact aw_vret C E dX6_holds_73 rfl ⟨rfl, y5, fin⟩
      · exfalso; omega
    | succ k ih =>
      intro i m q0 q1 q2
      obtain ⟨y1, y2, y3, y4, y5⟩ := q2
      have f69 : m 69 i.toNat = mu 69 i.toNat := y5 _ _ (by unfold hdS; omega)
      refine aw_iload_n C dX6_holds_48 rfl ?_
      refine aw_sipush C dX6_holds_49 rfl ?_
      refine aw_icmp_ge C dX6_holds_52 (tgt := 73) (by decide) ⟨by omega, by omega⟩ ⟨by omega, by omega⟩ (fun c1 => ?_) (fun c1 => ?_)
      · exfalso; omega
      · refine aw_aload_n C dX6_holds_55 rfl ?_
        refine aw_getS C dX6_holds_56 fX6_47 ⟨rfl, by decide⟩ rfl rfl (srf 55 25 66 (by decide)) ?_
        refine aw_iload_n C dX6_holds_59 rfl ?_
        refine aw_aload_n C dX6_holds_60 rfl ?_
        refine aw_getS C dX6_holds_61 fX6_56 ⟨rfl, by decide⟩ rfl rfl (srf 55 28 69 (by decide)) ?_
        refine aw_iload_n C dX6_holds_64 rfl ?_
        refine aw_iald C dX6_holds_65 ⟨rfl, by decide⟩ (by decide) (by omega) (by omega) ?_
        rw [f69]
        refine aw_iast C dX6_holds_66 ⟨rfl, by decide⟩ (by decide) (by omega) (by omega) ?_
        refine aw_iinc C dX6_holds_67 rfl ?_
        refine aw_goto C dX6_holds_70 (tgt := 48) (by decide) ?_
        exact ih (i + 1) _ (by omega) (by omega) ⟨by rw [wr_ne (by decide)]; exact y1, by rw [wr_ne (by decide)]; exact y2, cpd_s y3 rfl (by omega) (by omega) (by omega) rfl (by omega), by rw [wr_ne (by decide)]; exact y4, y5.w (Or.inr ⟨by decide, by decide⟩)⟩
  have l1 : ∀ (k : Nat) (i : Int) (m : Mem), 0 ≤ i → i + k = 25 → hdd mu m i 0 → AW K mX6_holds (NC, 0, 0) 10 [vr 55, vi i] [] m := by
    intro k
    induction k with
    | zero =>
      intro i m q0 q1 q2
      have e : i = 25 := by omega
      rw [e] at q2
      refine aw_iload_n C dX6_holds_10 rfl ?_
      refine aw_bipush C dX6_holds_11 rfl ?_
      refine aw_icmp_ge C dX6_holds_13 (tgt := 46) (by decide) ⟨by omega, by omega⟩ ⟨by omega, by omega⟩ (fun c1 => ?_) (fun c1 => ?_)
      · refine aw_iconst C dX6_holds_46 ?_
        refine aw_istore_n C dX6_holds_47 (by decide) ?_
        exact l2 150 0 m (by omega) (by omega) q2
      · exfalso; omega
    | succ k ih =>
      intro i m q0 q1 q2
      obtain ⟨y1, y2, y3, y4, y5⟩ := q2
      have f67 : m 67 i.toNat = mu 67 i.toNat := y5 _ _ (by unfold hdS; omega)
      have f68 : ∀ p v, wr m 64 p v 68 i.toNat = mu 68 i.toNat := fun p v => by rw [wr_ne (by decide)]; exact y5 _ _ (by unfold hdS; omega)
      refine aw_iload_n C dX6_holds_10 rfl ?_
      refine aw_bipush C dX6_holds_11 rfl ?_
      refine aw_icmp_ge C dX6_holds_13 (tgt := 46) (by decide) ⟨by omega, by omega⟩ ⟨by omega, by omega⟩ (fun c1 => ?_) (fun c1 => ?_)
      · exfalso; omega
      · refine aw_aload_n C dX6_holds_16 rfl ?_
        refine aw_getS C dX6_holds_17 fX6_41 ⟨rfl, by decide⟩ rfl rfl (srf 55 23 64 (by decide)) ?_
        refine aw_iload_n C dX6_holds_20 rfl ?_
        refine aw_aload_n C dX6_holds_21 rfl ?_
        refine aw_getS C dX6_holds_22 fX6_50 ⟨rfl, by decide⟩ rfl rfl (srf 55 26 67 (by decide)) ?_
        refine aw_iload_n C dX6_holds_25 rfl ?_
        refine aw_iald C dX6_holds_26 ⟨rfl, by decide⟩ (by decide) (by omega) (by omega) ?_
        rw [f67]
        refine aw_iast C dX6_holds_27 ⟨rfl, by decide⟩ (by decide) (by omega) (by omega) ?_
        refine aw_aload_n C dX6_holds_28 rfl ?_
        refine aw_getS C dX6_holds_29 fX6_44 ⟨rfl, by decide⟩ rfl rfl (srf 55 24 65 (by decide)) ?_
        refine aw_iload_n C dX6_holds_32 rfl ?_
        refine aw_aload_n C dX6_holds_33 rfl ?_
        refine aw_getS C dX6_holds_34 fX6_53 ⟨rfl, by decide⟩ rfl rfl (srf 55 27 68 (by decide)) ?_
        refine aw_iload_n C dX6_holds_37 rfl ?_
        refine aw_iald C dX6_holds_38 ⟨rfl, by decide⟩ (by decide) (by omega) (by omega) ?_
        rw [f68]
        refine aw_iast C dX6_holds_39 ⟨rfl, by decide⟩ (by decide) (by omega) (by omega) ?_
        refine aw_iinc C dX6_holds_40 rfl ?_
        refine aw_goto C dX6_holds_43 (tgt := 10) (by decide) ?_
        refine ih (i + 1) _ (by omega) (by omega) ⟨?_, cpd_s y2 (wr_ne (by decide)) (by omega) (by omega) (by omega) rfl (by omega), by rw [wr_ne (by decide), wr_ne (by decide)]; exact y3, by rw [wr_ne (by decide), wr_ne (by decide)]; exact y4, (y5.w (Or.inr ⟨by decide, by decide⟩)).w (Or.inr ⟨by decide, by decide⟩)⟩
        rw [wr_ne (by decide)]
        exact cpd_s y1 rfl (by omega) (by omega) (by omega) rfl (by omega)
  refine aw_aload_n C dX6_holds_0 rfl ?_
  refine aw_aload_n C dX6_holds_1 rfl ?_
  refine aw_getI C dX6_holds_2 fX6_224 ⟨rfl, by decide⟩ rfl ?_
  refine aw_putI C dX6_holds_5 fX6_255 ⟨rfl, by decide⟩ rfl rfl rfl ?_
  refine aw_iconst C dX6_holds_8 ?_
  refine aw_istore_n C dX6_holds_9 (by decide) ?_
  exact l1 25 0 _ (by omega) (by omega) ⟨by rw [wr_ne (by decide)]; exact cpd_0 (by omega), by rw [wr_ne (by decide)]; exact cpd_0 (by omega), by rw [wr_ne (by decide)]; exact cpd_0 (by omega), by rw [wr_at, if_pos ⟨rfl, rfl⟩], frc.rf.w (Or.inl ⟨rfl, rfl⟩)⟩

/-! what the reference remembers -/
def pmv (mu : Mem) (t : Nat) : FV := (mu 71 t, mu 55 30, cut1 (mu 71 t) (fun i => mu 72 (25 * t + i)), cut1 (mu 71 t) (fun i => mu 73 (25 * t + i)), cut2 (mu 55 30) (mu 71 t) (fun d i => mu 74 (150 * t + (25 * d + i))))
theorem cut1_eq {n : Int} {A B : Nat → Int} (h : ∀ j : Nat, (j : Int) < n → A j = B j) : cut1 n A = cut1 n B := by
  funext j
  unfold cut1
  by_cases q : (j : Int) < n
  · rw [if_pos q, if_pos q, h j q]
  · rw [if_neg q, if_neg q]
theorem cut2_eq {l n : Int} {A B : Nat → Nat → Int} (h : ∀ d j : Nat, (d : Int) < l → (j : Int) < n → A d j = B d j) : cut2 l n A = cut2 l n B := by
  funext d j
  unfold cut2
  by_cases q : (d : Int) < l ∧ (j : Int) < n
  · rw [if_pos q, if_pos q, h d j q.1 q.2]
  · rw [if_neg q, if_neg q]
theorem pmv_eq {m mu : Mem} {t s : Nat} (h71 : m 71 t = mu 71 s) (hl : m 55 30 = mu 55 30) (hn : mu 71 s ≤ 24) (hl6 : mu 55 30 ≤ 6) (h72 : ∀ i, i < 25 → m 72 (25 * t + i) = mu 72 (25 * s + i)) (h73 : ∀ i, i < 25 → m 73 (25 * t + i) = mu 73 (25 * s + i)) (h74 : ∀ i, i < 150 → m 74 (150 * t + i) = mu 74 (150 * s + i)) : pmv m t = pmv mu s := by
  unfold pmv
  rw [h71, hl]
  rw [cut1_eq (A := fun i => m 72 (25 * t + i)) (B := fun i => mu 72 (25 * s + i)) (fun j hj => h72 j (by omega)), cut1_eq (A := fun i => m 73 (25 * t + i)) (B := fun i => mu 73 (25 * s + i)) (fun j hj => h73 j (by omega)), cut2_eq (A := fun d i => m 74 (150 * t + (25 * d + i))) (B := fun d i => mu 74 (150 * s + (25 * d + i))) (fun d j hd hj => h74 _ (by omega))]
theorem pmv_mv {m mu : Mem} {t : Nat} (h71 : m 71 t = mu 55 29) (hl : m 55 30 = mu 55 30) (hn : mu 55 29 ≤ 24) (hl6 : mu 55 30 ≤ 6) (h72 : ∀ i, i < 25 → m 72 (25 * t + i) = mu 64 i) (h73 : ∀ i, i < 25 → m 73 (25 * t + i) = mu 65 i) (h74 : ∀ i, i < 150 → m 74 (150 * t + i) = mu 66 i) : pmv m t = mv mu := by
  unfold pmv mv
  rw [h71, hl]
  rw [cut1_eq (A := fun i => m 72 (25 * t + i)) (B := mu 64) (fun j hj => h72 j (by omega)), cut1_eq (A := fun i => m 73 (25 * t + i)) (B := mu 65) (fun j hj => h73 j (by omega)), cut2_eq (A := fun d i => m 74 (150 * t + (25 * d + i))) (B := fun d j => mu 66 (25 * d + j)) (fun d j hd hj => h74 _ (by omega))]
theorem mv_pmv {m mu : Mem} {t : Nat} (h71 : m 55 29 = mu 71 t) (hl : m 55 30 = mu 55 30) (hn : mu 71 t ≤ 24) (hl6 : mu 55 30 ≤ 6) (h72 : ∀ i, i < 25 → m 64 i = mu 72 (25 * t + i)) (h73 : ∀ i, i < 25 → m 65 i = mu 73 (25 * t + i)) (h74 : ∀ i, i < 150 → m 66 i = mu 74 (150 * t + i)) : mv m = pmv mu t := by
  unfold pmv mv
  rw [h71, hl]
  rw [cut1_eq (B := fun i => mu 72 (25 * t + i)) (A := m 64) (fun j hj => h72 j (by omega)), cut1_eq (B := fun i => mu 73 (25 * t + i)) (A := m 65) (fun j hj => h73 j (by omega)), cut2_eq (B := fun d i => mu 74 (150 * t + (25 * d + i))) (A := fun d j => m 66 (25 * d + j)) (fun d j hd hj => h74 _ (by omega))]
/-- numbers are held, also those of loads that are not there -/
def nB (mu : Mem) : Prop := ∀ d i : Nat, d < 6 → (i : Int) < mu 55 29 → hld (mu 66 (25 * d + i))
def pB (mu : Mem) (t : Nat) : Prop := ∀ d i : Nat, d < 6 → (i : Int) < mu 71 t → hld (mu 74 (150 * t + (25 * d + i)))
def mSt (mu : Mem) (V : FV) (a : Int) (H : Nat → FV) : Prop := mF mu V ∧ mu 55 39 = a ∧ (∀ j : Nat, (j : Int) < a → pmv mu (a - 1 - j).toNat = H j) ∧ nB mu ∧ ∀ j : Nat, (j : Int) < a → pB mu (a - 1 - j).toNat
theorem pB_eq {m mu : Mem} {t s : Nat} (h : pB mu s) (h71 : m 71 t = mu 71 s) (hn : mu 71 s ≤ 24) (h74 : ∀ i, i < 150 → m 74 (150 * t + i) = mu 74 (150 * s + i)) : pB m t := fun d i hd hi => by
  rw [h71] at hi
  rw [h74 _ (by omega)]
  exact h d i hd hi
theorem pB_mv {m mu : Mem} {t : Nat} (h : nB mu) (h71 : m 71 t = mu 55 29) (hn : mu 55 29 ≤ 24) (h74 : ∀ i, i < 150 → m 74 (150 * t + i) = mu 66 i) : pB m t := fun d i hd hi => by
  rw [h71] at hi
  rw [h74 _ (by omega)]
  exact h d i hd hi
theorem nB_pB {m mu : Mem} {t : Nat} (h : pB mu t) (h71 : m 55 29 = mu 71 t) (hn : mu 71 t ≤ 24) (h74 : ∀ i, i < 150 → m 66 i = mu 74 (150 * t + i)) : nB m := fun d i hd hi => by
  rw [h71] at hi
  rw [h74 _ (by omega)]
  exact h d i hd hi
/-- a piece of a row laid anew -/
def cpd (A B g : Nat → Int) (lo hi : Int) : Prop := ∀ j : Nat, A j = if lo ≤ (j : Int) ∧ (j : Int) < hi then g j else B j
theorem cpd_0 {B g : Nat → Int} {lo hi : Int} (h : hi ≤ lo) : cpd B B g lo hi := fun j => by rw [if_neg (by omega)]
theorem cpd_s {A B g : Nat → Int} {lo hi h2 v : Int} {m : Mem} {c p : Nat} (h : cpd A B g lo hi) (hA : m c = A) (hlo : lo ≤ hi) (h0 : 0 ≤ lo) (hp : (p : Int) = hi) (hv : v = g p) (he : h2 = hi + 1) : cpd (wr m c p v c) B g lo h2 := by
  intro j
  rw [wr_self, hA]
  show (if j = p then v else A j) = _
  by_cases q : j = p
  · rw [if_pos q, if_pos (by omega), q]; exact hv
  · rw [if_neg q, h j]
    by_cases w : lo ≤ (j : Int) ∧ (j : Int) < hi
    · rw [if_pos w, if_pos (by omega)]
    · rw [if_neg w, if_neg (by omega)]
theorem cpd.out {A B g : Nat → Int} {lo hi : Int} (h : cpd A B g lo hi) {j : Nat} (hj : ¬ (lo ≤ (j : Int) ∧ (j : Int) < hi)) : A j = B j := by rw [h j, if_neg hj]
theorem cpd.in_ {A B g : Nat → Int} {lo hi : Int} (h : cpd A B g lo hi) {j : Nat} (hj : lo ≤ (j : Int) ∧ (j : Int) < hi) : A j = g j := by rw [h j, if_pos hj]
def rmmS : Nat → Nat → Prop := fun a b => (a = 55 ∧ b = 39) ∨ (71 ≤ a ∧ a ≤ 74)
theorem rmmS.f {mu m : Mem} {V : FV} (h : mF mu V) (hf : frc rmmS mu m) : mF m V := by
  have e1 : m 55 29 = mu 55 29 := hf _ _ (by unfold rmmS; omega)
  have e2 : m 55 30 = mu 55 30 := hf _ _ (by unfold rmmS; omega)
  have e6 : m 55 32 = mu 55 32 := hf _ _ (by unfold rmmS; omega)
  have e3 : m 64 = mu 64 := funext fun b => hf _ _ (by unfold rmmS; omega)
  have e4 : m 65 = mu 65 := funext fun b => hf _ _ (by unfold rmmS; omega)
  have e5 : m 66 = mu 66 := funext fun b => hf _ _ (by unfold rmmS; omega)
  refine ⟨?_, h.2.1, by rw [e6]; exact h.2.2⟩
  rw [← h.1]
  unfold mv
  rw [e1, e2, e3, e4, e5]
/-- the rows shifted by one, so many of them -/
def shf (mu m : Mem) (b x n : Int) : Prop := cpd (m 71) (mu 71) (fun j => mu 71 (j + 1)) 0 b ∧ cpd (m 72) (mu 72) (fun j => mu 72 (j + 25)) 0 x ∧ cpd (m 73) (mu 73) (fun j => mu 73 (j + 25)) 0 x ∧ cpd (m 74) (mu 74) (fun j => mu 74 (j + 150)) 0 n ∧ m 55 39 = 7 ∧ frc rmmS mu m
/-- the standing fan laid into a row -/
def lyd (mu m : Mem) (a : Int) (x n : Int) : Prop := cpd (m 71) (mu 71) (fun _ => mu 55 29) a (a + 1) ∧ cpd (m 72) (mu 72) (fun j => mu 64 (j - 25 * a.toNat)) (25 * a) (25 * a + x) ∧ cpd (m 73) (mu 73) (fun j => mu 65 (j - 25 * a.toNat)) (25 * a) (25 * a + x) ∧ cpd (m 74) (mu 74) (fun j => mu 66 (j - 150 * a.toNat)) (150 * a) (150 * a + n) ∧ m 55 39 = a ∧ frc rmmS mu m
theorem rmm_fin {mu m1 m2 : Mem} {V : FV} {a b : Int} {H : Nat → FV} (S : mSt mu V a H) (ha : 0 ≤ a ∧ a ≤ 8) (hH : ∀ j : Nat, (j : Int) < a → bV (H j)) (h1 : (a < 8 ∧ b = a ∧ m1 = mu) ∨ (a = 8 ∧ b = 7 ∧ shf mu m1 7 175 1050)) (h2 : lyd m1 m2 b 25 150) : frc rmmS mu (wr m2 55 39 (b + 1)) ∧ mSt (wr m2 55 39 (b + 1)) V (min 8 (a + 1)) (psh V H) := by
  obtain ⟨sF, s2, s3, s4, s5⟩ := S
  have hf1 : frc rmmS mu m1 := by
    rcases h1 with ⟨-, -, rfl⟩ | ⟨-, -, q⟩
    · exact frc.rf
    · exact q.2.2.2.2.2
  obtain ⟨y1, y2, y3, y4, y5, y6⟩ := h2
  have hf2 : frc rmmS mu (wr m2 55 39 (b + 1)) := (hf1.tr y6).w (Or.inl ⟨rfl, rfl⟩)
  have el : wr m2 55 39 (b + 1) 55 30 = mu 55 30 := hf2 _ _ (by unfold rmmS; omega)
  have el1 : m1 55 30 = mu 55 30 := hf1 _ _ (by unfold rmmS; omega)
  have gv := sF.2.1.1
  have nn : mu 55 29 ≤ 24 := by rw [mv1 sF.1]; exact gv.1.2
  have nl : mu 55 30 ≤ 6 := by rw [mv2 sF.1]; exact gv.2.1.2
  have e71 : wr m2 55 39 (b + 1) 71 = m2 71 := wr_ne (by decide)
  have e72 : wr m2 55 39 (b + 1) 72 = m2 72 := wr_ne (by decide)
  have e73 : wr m2 55 39 (b + 1) 73 = m2 73 := wr_ne (by decide)
  have e74 : wr m2 55 39 (b + 1) 74 = m2 74 := wr_ne (by decide)
  have b0 : 0 ≤ b ∧ b ≤ 7 := by rcases h1 with ⟨z1, z2, -⟩ | ⟨z1, z2, -⟩ <;> omega
  have c29 : m1 55 29 = mu 55 29 := hf1 _ _ (by unfold rmmS; omega)
  have c64 : m1 64 = mu 64 := funext fun q => hf1 _ _ (by unfold rmmS; omega)
  have c65 : m1 65 = mu 65 := funext fun q => hf1 _ _ (by unfold rmmS; omega)
  have c66 : m1 66 = mu 66 := funext fun q => hf1 _ _ (by unfold rmmS; omega)
  have t71 : wr m2 55 39 (b + 1) 71 b.toNat = mu 55 29 := by rw [e71, y1.in_ (by omega)]; exact c29
  have t74 : ∀ i, i < 150 → wr m2 55 39 (b + 1) 74 (150 * b.toNat + i) = mu 66 i := fun i hi => by rw [e74, y4.in_ (by omega), c66]; congr 1; omega
  have top : pmv (wr m2 55 39 (b + 1)) b.toNat = V := by
    rw [← sF.1]
    refine pmv_mv t71 el nn nl (fun i hi => ?_) (fun i hi => ?_) t74
    · rw [e72, y2.in_ (by omega), c64]; congr 1; omega
    · rw [e73, y3.in_ (by omega), c65]; congr 1; omega
  have topB : pB (wr m2 55 39 (b + 1)) b.toNat := pB_mv s4 t71 nn t74
  have low : ∀ t s : Nat, (t : Int) < b → (m1 71 t = mu 71 s) → mu 71 s ≤ 24 → (∀ i, i < 25 → m1 72 (25 * t + i) = mu 72 (25 * s + i)) → (∀ i, i < 25 → m1 73 (25 * t + i) = mu 73 (25 * s + i)) → (∀ i, i < 150 → m1 74 (150 * t + i) = mu 74 (150 * s + i)) → pmv (wr m2 55 39 (b + 1)) t = pmv mu s ∧ (pB mu s → pB (wr m2 55 39 (b + 1)) t) := fun t s ht g1 g2 g3 g4 g5 => by
    have u71 : wr m2 55 39 (b + 1) 71 t = mu 71 s := by rw [e71, y1.out (by omega), g1]
    have u74 : ∀ i, i < 150 → wr m2 55 39 (b + 1) 74 (150 * t + i) = mu 74 (150 * s + i) := fun i hi => by rw [e74, y4.out (by omega), g5 i hi]
    refine ⟨pmv_eq u71 el g2 nl (fun i hi => ?_) (fun i hi => ?_) u74, fun hB => pB_eq hB u71 g2 u74⟩
    · rw [e72, y2.out (by omega), g3 i hi]
    · rw [e73, y3.out (by omega), g4 i hi]
  have hm : ∀ j : Nat, (j : Int) < a → mu 71 (a - 1 - j).toNat ≤ 24 := fun j hj => by
    have := congrArg (fun z : FV => z.1) (s3 j hj)
    have : mu 71 (a - 1 - j).toNat = (H j).1 := this
    rw [this]
    exact (hH j hj).1.2
  have nb2 : nB (wr m2 55 39 (b + 1)) := fun d i hd hi => by
    rw [show wr m2 55 39 (b + 1) 55 29 = mu 55 29 from hf2 _ _ (by unfold rmmS; omega)] at hi
    rw [show wr m2 55 39 (b + 1) 66 (25 * d + i) = mu 66 (25 * d + i) from hf2 _ _ (by unfold rmmS; omega)]
    exact s4 d i hd hi
  have all : ∀ j : Nat, (j : Int) < min 8 (a + 1) → pmv (wr m2 55 39 (b + 1)) (min 8 (a + 1) - 1 - j).toNat = psh V H j ∧ pB (wr m2 55 39 (b + 1)) (min 8 (a + 1) - 1 - j).toNat := fun j hj => by
    unfold psh
    by_cases j0 : j = 0
    · rw [if_pos j0, show (min 8 (a + 1) - 1 - (j : Int)).toNat = b.toNat by rcases h1 with ⟨z1, z2, -⟩ | ⟨z1, z2, -⟩ <;> omega]
      exact ⟨top, topB⟩
    · rw [if_neg j0, ← s3 (j - 1) (by omega)]
      have hm1 := hm (j - 1) (by omega)
      have hb1 := s5 (j - 1) (by omega)
      rcases h1 with ⟨q1, q2, rfl⟩ | ⟨q1, q2, q3⟩
      · rw [show (min 8 (a + 1) - 1 - (j : Int)).toNat = (a - 1 - ((j - 1 : Nat) : Int)).toNat by omega]
        have := low _ _ (by omega) rfl hm1 (fun _ _ => rfl) (fun _ _ => rfl) (fun _ _ => rfl)
        exact ⟨this.1, this.2 hb1⟩
      · obtain ⟨z1, z2, z3, z4, -, -⟩ := q3
        obtain ⟨t, ht⟩ : ∃ t, t = (min 8 (a + 1) - 1 - (j : Int)).toNat := ⟨_, rfl⟩
        have hs : (a - 1 - ((j - 1 : Nat) : Int)).toNat = t + 1 := by omega
        rw [← ht, hs]
        rw [hs] at hm1 hb1
        have := low t (t + 1) (by omega) (by rw [z1.in_ (by omega)]) hm1 (fun i hi => by rw [z2.in_ (by omega)]; congr 1; omega) (fun i hi => by rw [z3.in_ (by omega)]; congr 1; omega) (fun i hi => by rw [z4.in_ (by omega)]; congr 1; omega)
        exact ⟨this.1, this.2 hb1⟩
  refine ⟨hf2, rmmS.f sF hf2, ?_, fun j hj => (all j hj).1, nb2, fun j hj => (all j hj).2⟩
  rw [wr_at, if_pos ⟨rfl, rfl⟩]
  rcases h1 with ⟨z1, z2, -⟩ | ⟨z1, z2, -⟩ <;> omega
theorem t_X6_remembers {mu : Mem} {V : FV} {a : Int} {H : Nat → FV} (S : mSt mu V a H) (ha : 0 ≤ a ∧ a ≤ 8) (hH : ∀ j : Nat, (j : Int) < a → bV (H j)) : Tr 0 mX6_remembers [vr 55] mu (fun r m2 => r = none ∧ frc rmmS mu m2 ∧ mSt m2 V (min 8 (a + 1)) (psh V H)) := by
  refine Tr.of (by decide +kernel) (Nat.le_of_ble_eq_true rfl) (fun K C E => ?_)
  have ea := S.2.1
  have second : ∀ (m1 : Mem) (b : Int) (v1 v2 : Vv), ((a < 8 ∧ b = a ∧ m1 = mu) ∨ (a = 8 ∧ b = 7 ∧ shf mu m1 7 175 1050)) → AW K mX6_remembers (NC, 0, 0) 152 [vr 55, v1, v2] [] m1 := by
    intro m1 b v1 v2 h1
    have eb : m1 55 39 = b := by
      rcases h1 with ⟨-, q, rfl⟩ | ⟨-, q, w⟩
      · rw [ea, q]
      · rw [w.2.2.2.2.1, q]
    have b0 : 0 ≤ b ∧ b ≤ 7 := by rcases h1 with ⟨z1, z2, -⟩ | ⟨z1, z2, -⟩ <;> omega
    have l2 : ∀ (k : Nat) (i : Int) (m : Mem), 0 ≤ i → i + k = 150 → lyd m1 m b 25 i → AW K mX6_remembers (NC, 0, 0) 221 [vr 55, vi i, v2] [] m := by
      intro k
      induction k with
      | zero =>
        intro i m q0 q1 q2
        have e : i = 150 := by omega
        rw [e] at q2
        have e39 := q2.2.2.2.2.1
        obtain ⟨w1, w2⟩ := rmm_fin S ha hH h1 q2
        rw [← e39] at w1 w2
        refine aw_iload_n C dX6_remembers_221 rfl ?_
        refine aw_sipush C dX6_remembers_222 rfl ?_
        refine aw_icmp_ge C dX6_remembers_225 (tgt := 255) (by decide) ⟨by omega, by omega⟩ ⟨by omega, by omega⟩ (fun c1 => ?_) (fun c1 => ?_)
        · refine aw_aload_n C dX6_remembers_255 rfl ?_
          refine aw_dup_a C dX6_remembers_256 ?_
          refine aw_getI C dX6_remembers_257 fX6_261 ⟨rfl, by decide⟩ rfl ?_
          refine aw_iconst C dX6_remembers_260 ?_
          refine aw_iadd C dX6_remembers_261 ?_
          refine aw_putI C dX6_remembers_262 fX6_261 ⟨rfl, by decide⟩ rfl rfl rfl ?_
          exact aw_vret C E dX6_remembers_265 rfl ⟨rfl, w1, w2⟩
        · exfalso; omega
      | succ k ih =>
        intro i m q0 q1 q2
        obtain ⟨y1, y2, y3, y4, y5, y6⟩ := q2
        have f66 : m 66 i.toNat = m1 66 i.toNat := y6 _ _ (by unfold rmmS; omega)
        refine aw_iload_n C dX6_remembers_221 rfl ?_
        refine aw_sipush C dX6_remembers_222 rfl ?_
        refine aw_icmp_ge C dX6_remembers_225 (tgt := 255) (by decide) ⟨by omega, by omega⟩ ⟨by omega, by omega⟩ (fun c1 => ?_) (fun c1 => ?_)
        · exfalso; omega
        · refine aw_aload_n C dX6_remembers_228 rfl ?_
          refine aw_getS C dX6_remembers_229 fX6_71 ⟨rfl, by decide⟩ rfl rfl (srf 55 38 74 (by decide)) ?_
          refine aw_sipush C dX6_remembers_232 rfl ?_
          refine aw_aload_n C dX6_remembers_235 rfl ?_
          refine aw_getI C dX6_remembers_236 fX6_261 ⟨rfl, by decide⟩ rfl ?_
          rw [y5]
          refine aw_imul C dX6_remembers_239 ?_
          refine aw_iload_n C dX6_remembers_240 rfl ?_
          refine aw_iadd C dX6_remembers_241 ?_
          refine aw_aload_n C dX6_remembers_242 rfl ?_
          refine aw_getS C dX6_remembers_243 fX6_47 ⟨rfl, by decide⟩ rfl rfl (srf 55 25 66 (by decide)) ?_
          refine aw_iload_n C dX6_remembers_246 rfl ?_
          refine aw_iald C dX6_remembers_247 ⟨rfl, by decide⟩ (by decide) (by omega) (by omega) ?_
          rw [f66]
          refine aw_iast C dX6_remembers_248 ⟨rfl, by decide⟩ (by decide) (by omega) (by omega) ?_
          refine aw_iinc C dX6_remembers_249 rfl ?_
          refine aw_goto C dX6_remembers_252 (tgt := 221) (by decide) ?_
          refine ih (i + 1) _ (by omega) (by omega) ⟨by rw [wr_ne (by decide)]; exact y1, by rw [wr_ne (by decide)]; exact y2, by rw [wr_ne (by decide)]; exact y3, cpd_s y4 rfl (by omega) (by omega) (by omega) ?_ (by omega), by rw [wr_ne (by decide)]; exact y5, y6.w (Or.inr ⟨by decide, by decide⟩)⟩
          show _ = m1 66 _
          congr 1; omega
    have l1 : ∀ (k : Nat) (i : Int) (m : Mem), 0 ≤ i → i + k = 25 → lyd m1 m b i 0 → AW K mX6_remembers (NC, 0, 0) 167 [vr 55, vi i, v2] [] m := by
      intro k
      induction k with
      | zero =>
        intro i m q0 q1 q2
        have e : i = 25 := by omega
        rw [e] at q2
        refine aw_iload_n C dX6_remembers_167 rfl ?_
        refine aw_bipush C dX6_remembers_168 rfl ?_
        refine aw_icmp_ge C dX6_remembers_170 (tgt := 219) (by decide) ⟨by omega, by omega⟩ ⟨by omega, by omega⟩ (fun c1 => ?_) (fun c1 => ?_)
        · refine aw_iconst C dX6_remembers_219 ?_
          refine aw_istore_n C dX6_remembers_220 (by decide) ?_
          exact l2 150 0 m (by omega) (by omega) q2
        · exfalso; omega
      | succ k ih =>
        intro i m q0 q1 q2
        obtain ⟨y1, y2, y3, y4, y5, y6⟩ := q2
        have f64 : m 64 i.toNat = m1 64 i.toNat := y6 _ _ (by unfold rmmS; omega)
        have f65 : ∀ p v, wr m 72 p v 65 i.toNat = m1 65 i.toNat := fun p v => by rw [wr_ne (by decide)]; exact y6 _ _ (by unfold rmmS; omega)
        have f39 : ∀ p v, wr m 72 p v 55 39 = b := fun p v => by rw [wr_ne (by decide)]; exact y5
        refine aw_iload_n C dX6_remembers_167 rfl ?_
        refine aw_bipush C dX6_remembers_168 rfl ?_
        refine aw_icmp_ge C dX6_remembers_170 (tgt := 219) (by decide) ⟨by omega, by omega⟩ ⟨by omega, by omega⟩ (fun c1 => ?_) (fun c1 => ?_)
        · exfalso; omega
        · refine aw_aload_n C dX6_remembers_173 rfl ?_
          refine aw_getS C dX6_remembers_174 fX6_65 ⟨rfl, by decide⟩ rfl rfl (srf 55 36 72 (by decide)) ?_
          refine aw_bipush C dX6_remembers_177 rfl ?_
          refine aw_aload_n C dX6_remembers_179 rfl ?_
          refine aw_getI C dX6_remembers_180 fX6_261 ⟨rfl, by decide⟩ rfl ?_
          rw [y5]
          refine aw_imul C dX6_remembers_183 ?_
          refine aw_iload_n C dX6_remembers_184 rfl ?_
          refine aw_iadd C dX6_remembers_185 ?_
          refine aw_aload_n C dX6_remembers_186 rfl ?_
          refine aw_getS C dX6_remembers_187 fX6_41 ⟨rfl, by decide⟩ rfl rfl (srf 55 23 64 (by decide)) ?_
          refine aw_iload_n C dX6_remembers_190 rfl ?_
          refine aw_iald C dX6_remembers_191 ⟨rfl, by decide⟩ (by decide) (by omega) (by omega) ?_
          rw [f64]
          refine aw_iast C dX6_remembers_192 ⟨rfl, by decide⟩ (by decide) (by omega) (by omega) ?_
          refine aw_aload_n C dX6_remembers_193 rfl ?_
          refine aw_getS C dX6_remembers_194 fX6_68 ⟨rfl, by decide⟩ rfl rfl (srf 55 37 73 (by decide)) ?_
          refine aw_bipush C dX6_remembers_197 rfl ?_
          refine aw_aload_n C dX6_remembers_199 rfl ?_
          refine aw_getI C dX6_remembers_200 fX6_261 ⟨rfl, by decide⟩ rfl ?_
          rw [f39]
          refine aw_imul C dX6_remembers_203 ?_
          refine aw_iload_n C dX6_remembers_204 rfl ?_
          refine aw_iadd C dX6_remembers_205 ?_
          refine aw_aload_n C dX6_remembers_206 rfl ?_
          refine aw_getS C dX6_remembers_207 fX6_44 ⟨rfl, by decide⟩ rfl rfl (srf 55 24 65 (by decide)) ?_
          refine aw_iload_n C dX6_remembers_210 rfl ?_
          refine aw_iald C dX6_remembers_211 ⟨rfl, by decide⟩ (by decide) (by omega) (by omega) ?_
          rw [f65]
          refine aw_iast C dX6_remembers_212 ⟨rfl, by decide⟩ (by decide) (by omega) (by omega) ?_
          refine aw_iinc C dX6_remembers_213 rfl ?_
          refine aw_goto C dX6_remembers_216 (tgt := 167) (by decide) ?_
          refine ih (i + 1) _ (by omega) (by omega) ⟨by rw [wr_ne (by decide), wr_ne (by decide)]; exact y1, ?_, cpd_s y3 (wr_ne (by decide)) (by omega) (by omega) (by omega) ?_ (by omega), by rw [wr_ne (by decide), wr_ne (by decide)]; exact y4, by rw [wr_ne (by decide), wr_ne (by decide)]; exact y5, (y6.w (Or.inr ⟨by decide, by decide⟩)).w (Or.inr ⟨by decide, by decide⟩)⟩
          · rw [wr_ne (by decide)]
            refine cpd_s y2 rfl (by omega) (by omega) (by omega) ?_ (by omega)
            show _ = m1 64 _
            congr 1; omega
          · show _ = m1 65 _
            congr 1; omega
    refine aw_aload_n C dX6_remembers_152 rfl ?_
    refine aw_getS C dX6_remembers_153 fX6_62 ⟨rfl, by decide⟩ rfl rfl (srf 55 35 71 (by decide)) ?_
    refine aw_aload_n C dX6_remembers_156 rfl ?_
    refine aw_getI C dX6_remembers_157 fX6_261 ⟨rfl, by decide⟩ rfl ?_
    rw [eb]
    refine aw_aload_n C dX6_remembers_160 rfl ?_
    refine aw_getI C dX6_remembers_161 fX6_255 ⟨rfl, by decide⟩ rfl ?_
    refine aw_iast C dX6_remembers_164 ⟨rfl, by decide⟩ (by decide) (by omega) (by omega) ?_
    refine aw_iconst C dX6_remembers_165 ?_
    refine aw_istore_n C dX6_remembers_166 (by decide) ?_
    refine l1 25 0 _ (by omega) (by omega) ⟨cpd_s (lo := b) (hi := b) (cpd_0 (by omega)) rfl (by omega) (by omega) (by omega) rfl (by omega), by rw [wr_ne (by decide)]; exact cpd_0 (by omega), by rw [wr_ne (by decide)]; exact cpd_0 (by omega), by rw [wr_ne (by decide)]; exact cpd_0 (by omega), by rw [wr_ne (by decide)]; exact eb, frc.rf.w (Or.inr ⟨by decide, by decide⟩)⟩
  have sh3 : ∀ (b : Int) (w2 : ∀ (m : Mem) (v2 : Vv), shf mu m (b + 1) (25 * (b + 1)) (150 * (b + 1)) → AW K mX6_remembers (NC, 0, 0) 21 [vr 55, vi (b + 1), v2] [] m), 0 ≤ b → b < 7 → ∀ (k : Nat) (i : Int) (m : Mem), 0 ≤ i → i + k = 150 → shf mu m (b + 1) (25 * (b + 1)) (150 * b + i) → AW K mX6_remembers (NC, 0, 0) 107 [vr 55, vi b, vi i] [] m := by
    intro b w2 b0 b1 k
    induction k with
    | zero =>
      intro i m q0 q1 q2
      have e : i = 150 := by omega
      rw [e, show 150 * b + 150 = 150 * (b + 1) by omega] at q2
      refine aw_iload_n C dX6_remembers_107 rfl ?_
      refine aw_sipush C dX6_remembers_108 rfl ?_
      refine aw_icmp_ge C dX6_remembers_111 (tgt := 146) (by decide) ⟨by omega, by omega⟩ ⟨by omega, by omega⟩ (fun c1 => ?_) (fun c1 => ?_)
      · refine aw_iinc C dX6_remembers_146 rfl ?_
        refine aw_goto C dX6_remembers_149 (tgt := 21) (by decide) ?_
        exact w2 m _ q2
      · exfalso; omega
    | succ k ih =>
      intro i m q0 q1 q2
      obtain ⟨y1, y2, y3, y4, y5, y6⟩ := q2
      refine aw_iload_n C dX6_remembers_107 rfl ?_
      refine aw_sipush C dX6_remembers_108 rfl ?_
      refine aw_icmp_ge C dX6_remembers_111 (tgt := 146) (by decide) ⟨by omega, by omega⟩ ⟨by omega, by omega⟩ (fun c1 => ?_) (fun c1 => ?_)
      · exfalso; omega
      · refine aw_aload_n C dX6_remembers_114 rfl ?_
        refine aw_getS C dX6_remembers_115 fX6_71 ⟨rfl, by decide⟩ rfl rfl (srf 55 38 74 (by decide)) ?_
        refine aw_sipush C dX6_remembers_118 rfl ?_
        refine aw_iload_n C dX6_remembers_121 rfl ?_
        refine aw_imul C dX6_remembers_122 ?_
        refine aw_iload_n C dX6_remembers_123 rfl ?_
        refine aw_iadd C dX6_remembers_124 ?_
        refine aw_aload_n C dX6_remembers_125 rfl ?_
        refine aw_getS C dX6_remembers_126 fX6_71 ⟨rfl, by decide⟩ rfl rfl (srf 55 38 74 (by decide)) ?_
        refine aw_sipush C dX6_remembers_129 rfl ?_
        refine aw_iload_n C dX6_remembers_132 rfl ?_
        refine aw_iconst C dX6_remembers_133 ?_
        refine aw_iadd C dX6_remembers_134 ?_
        refine aw_imul C dX6_remembers_135 ?_
        refine aw_iload_n C dX6_remembers_136 rfl ?_
        refine aw_iadd C dX6_remembers_137 ?_
        refine aw_iald C dX6_remembers_138 ⟨rfl, by decide⟩ (by decide) (by omega) (by omega) ?_
        refine aw_iast C dX6_remembers_139 ⟨rfl, by decide⟩ (by decide) (by omega) (by omega) ?_
        refine aw_iinc C dX6_remembers_140 rfl ?_
        refine aw_goto C dX6_remembers_143 (tgt := 107) (by decide) ?_
        refine ih (i + 1) _ (by omega) (by omega) ⟨by rw [wr_ne (by decide)]; exact y1, by rw [wr_ne (by decide)]; exact y2, by rw [wr_ne (by decide)]; exact y3, cpd_s y4 rfl (by omega) (by omega) (by omega) ?_ (by omega), by rw [wr_ne (by decide)]; exact y5, y6.w (Or.inr ⟨by decide, by decide⟩)⟩
        rw [y4.out (by omega)]
        show _ = mu 74 _
        congr 1; omega
  have sh2 : ∀ (b : Int) (w2 : ∀ (m : Mem) (v2 : Vv), shf mu m (b + 1) (25 * (b + 1)) (150 * (b + 1)) → AW K mX6_remembers (NC, 0, 0) 21 [vr 55, vi (b + 1), v2] [] m), 0 ≤ b → b < 7 → ∀ (k : Nat) (i : Int) (m : Mem), 0 ≤ i → i + k = 25 → shf mu m (b + 1) (25 * b + i) (150 * b) → AW K mX6_remembers (NC, 0, 0) 45 [vr 55, vi b, vi i] [] m := by
    intro b w2 b0 b1 k
    induction k with
    | zero =>
      intro i m q0 q1 q2
      have e : i = 25 := by omega
      rw [e, show 25 * b + 25 = 25 * (b + 1) by omega, show 150 * b = 150 * b + 0 by omega] at q2
      refine aw_iload_n C dX6_remembers_45 rfl ?_
      refine aw_bipush C dX6_remembers_46 rfl ?_
      refine aw_icmp_ge C dX6_remembers_48 (tgt := 105) (by decide) ⟨by omega, by omega⟩ ⟨by omega, by omega⟩ (fun c1 => ?_) (fun c1 => ?_)
      · refine aw_iconst C dX6_remembers_105 ?_
        refine aw_istore_n C dX6_remembers_106 (by decide) ?_
        exact sh3 b w2 b0 b1 150 0 m (by omega) (by omega) q2
      · exfalso; omega
    | succ k ih =>
      intro i m q0 q1 q2
      obtain ⟨y1, y2, y3, y4, y5, y6⟩ := q2
      refine aw_iload_n C dX6_remembers_45 rfl ?_
      refine aw_bipush C dX6_remembers_46 rfl ?_
      refine aw_icmp_ge C dX6_remembers_48 (tgt := 105) (by decide) ⟨by omega, by omega⟩ ⟨by omega, by omega⟩ (fun c1 => ?_) (fun c1 => ?_)
      · exfalso; omega
      · refine aw_aload_n C dX6_remembers_51 rfl ?_
        refine aw_getS C dX6_remembers_52 fX6_65 ⟨rfl, by decide⟩ rfl rfl (srf 55 36 72 (by decide)) ?_
        refine aw_bipush C dX6_remembers_55 rfl ?_
        refine aw_iload_n C dX6_remembers_57 rfl ?_
        refine aw_imul C dX6_remembers_58 ?_
        refine aw_iload_n C dX6_remembers_59 rfl ?_
        refine aw_iadd C dX6_remembers_60 ?_
        refine aw_aload_n C dX6_remembers_61 rfl ?_
        refine aw_getS C dX6_remembers_62 fX6_65 ⟨rfl, by decide⟩ rfl rfl (srf 55 36 72 (by decide)) ?_
        refine aw_bipush C dX6_remembers_65 rfl ?_
        refine aw_iload_n C dX6_remembers_67 rfl ?_
        refine aw_iconst C dX6_remembers_68 ?_
        refine aw_iadd C dX6_remembers_69 ?_
        refine aw_imul C dX6_remembers_70 ?_
        refine aw_iload_n C dX6_remembers_71 rfl ?_
        refine aw_iadd C dX6_remembers_72 ?_
        refine aw_iald C dX6_remembers_73 ⟨rfl, by decide⟩ (by decide) (by omega) (by omega) ?_
        refine aw_iast C dX6_remembers_74 ⟨rfl, by decide⟩ (by decide) (by omega) (by omega) ?_
        refine aw_aload_n C dX6_remembers_75 rfl ?_
        refine aw_getS C dX6_remembers_76 fX6_68 ⟨rfl, by decide⟩ rfl rfl (srf 55 37 73 (by decide)) ?_
        refine aw_bipush C dX6_remembers_79 rfl ?_
        refine aw_iload_n C dX6_remembers_81 rfl ?_
        refine aw_imul C dX6_remembers_82 ?_
        refine aw_iload_n C dX6_remembers_83 rfl ?_
        refine aw_iadd C dX6_remembers_84 ?_
        refine aw_aload_n C dX6_remembers_85 rfl ?_
        refine aw_getS C dX6_remembers_86 fX6_68 ⟨rfl, by decide⟩ rfl rfl (srf 55 37 73 (by decide)) ?_
        refine aw_bipush C dX6_remembers_89 rfl ?_
        refine aw_iload_n C dX6_remembers_91 rfl ?_
        refine aw_iconst C dX6_remembers_92 ?_
        refine aw_iadd C dX6_remembers_93 ?_
        refine aw_imul C dX6_remembers_94 ?_
        refine aw_iload_n C dX6_remembers_95 rfl ?_
        refine aw_iadd C dX6_remembers_96 ?_
        refine aw_iald C dX6_remembers_97 ⟨rfl, by decide⟩ (by decide) (by omega) (by omega) ?_
        refine aw_iast C dX6_remembers_98 ⟨rfl, by decide⟩ (by decide) (by omega) (by omega) ?_
        refine aw_iinc C dX6_remembers_99 rfl ?_
        refine aw_goto C dX6_remembers_102 (tgt := 45) (by decide) ?_
        refine ih (i + 1) _ (by omega) (by omega) ⟨by rw [wr_ne (by decide), wr_ne (by decide)]; exact y1, ?_, cpd_s y3 (wr_ne (by decide)) (by omega) (by omega) (by omega) ?_ (by omega), by rw [wr_ne (by decide), wr_ne (by decide)]; exact y4, by rw [wr_ne (by decide), wr_ne (by decide)]; exact y5, (y6.w (Or.inr ⟨by decide, by decide⟩)).w (Or.inr ⟨by decide, by decide⟩)⟩
        · rw [wr_ne (by decide)]
          refine cpd_s y2 rfl (by omega) (by omega) (by omega) ?_ (by omega)
          rw [y2.out (by omega)]
          show _ = mu 72 _
          congr 1; omega
        · rw [wr_ne (by decide), y3.out (by omega)]
          show _ = mu 73 _
          congr 1; omega
  have sh1 : a = 8 → ∀ (k : Nat) (b : Int) (m : Mem) (v2 : Vv), 0 ≤ b → b + k = 7 → shf mu m b (25 * b) (150 * b) → AW K mX6_remembers (NC, 0, 0) 21 [vr 55, vi b, v2] [] m := by
    intro a8 k
    induction k with
    | zero =>
      intro b m v2 q0 q1 q2
      have e : b = 7 := by omega
      have e39 := q2.2.2.2.2.1
      refine aw_iload_n C dX6_remembers_21 rfl ?_
      refine aw_aload_n C dX6_remembers_22 rfl ?_
      refine aw_getI C dX6_remembers_23 fX6_261 ⟨rfl, by decide⟩ rfl ?_
      rw [e39]
      refine aw_icmp_ge C dX6_remembers_26 (tgt := 152) (by decide) ⟨by omega, by omega⟩ ⟨by omega, by omega⟩ (fun c1 => ?_) (fun c1 => ?_)
      · exact second m 7 _ _ (Or.inr ⟨a8, rfl, by rw [e] at q2; exact q2⟩)
      · exfalso; omega
    | succ k ih =>
      intro b m v2 q0 q1 q2
      obtain ⟨y1, y2, y3, y4, y5, y6⟩ := q2
      refine aw_iload_n C dX6_remembers_21 rfl ?_
      refine aw_aload_n C dX6_remembers_22 rfl ?_
      refine aw_getI C dX6_remembers_23 fX6_261 ⟨rfl, by decide⟩ rfl ?_
      rw [y5]
      refine aw_icmp_ge C dX6_remembers_26 (tgt := 152) (by decide) ⟨by omega, by omega⟩ ⟨by omega, by omega⟩ (fun c1 => ?_) (fun c1 => ?_)
      · exfalso; omega
      · refine aw_aload_n C dX6_remembers_29 rfl ?_
        refine aw_getS C dX6_remembers_30 fX6_62 ⟨rfl, by decide⟩ rfl rfl (srf 55 35 71 (by decide)) ?_
        refine aw_iload_n C dX6_remembers_33 rfl ?_
        refine aw_aload_n C dX6_remembers_34 rfl ?_
        refine aw_getS C dX6_remembers_35 fX6_62 ⟨rfl, by decide⟩ rfl rfl (srf 55 35 71 (by decide)) ?_
        refine aw_iload_n C dX6_remembers_38 rfl ?_
        refine aw_iconst C dX6_remembers_39 ?_
        refine aw_iadd C dX6_remembers_40 ?_
        refine aw_iald C dX6_remembers_41 ⟨rfl, by decide⟩ (by decide) (by omega) (by omega) ?_
        refine aw_iast C dX6_remembers_42 ⟨rfl, by decide⟩ (by decide) (by omega) (by omega) ?_
        refine aw_iconst C dX6_remembers_43 ?_
        refine aw_istore_n C dX6_remembers_44 (by decide) ?_
        refine sh2 b (fun m v2 hs => ih (b + 1) m v2 (by omega) (by omega) hs) q0 (by omega) 25 0 _ (by omega) (by omega) ⟨cpd_s y1 rfl (by omega) (by omega) (by omega) ?_ (by omega), by rw [wr_ne (by decide), Int.add_zero]; exact y2, by rw [wr_ne (by decide), Int.add_zero]; exact y3, by rw [wr_ne (by decide)]; exact y4, by rw [wr_ne (by decide)]; exact y5, y6.w (Or.inr ⟨by decide, by decide⟩)⟩
        rw [y1.out (by omega)]
        show _ = mu 71 _
        congr 1; omega
  refine aw_aload_n C dX6_remembers_0 rfl ?_
  refine aw_getI C dX6_remembers_1 fX6_261 ⟨rfl, by decide⟩ rfl ?_
  rw [ea]
  refine aw_bipush C dX6_remembers_4 rfl ?_
  refine aw_icmp_ne C dX6_remembers_6 (tgt := 152) (by decide) ⟨by omega, by omega⟩ ⟨by omega, by omega⟩ (fun c1 => ?_) (fun c1 => ?_)
  · exact second mu a _ _ (Or.inl ⟨by omega, rfl, rfl⟩)
  · refine aw_aload_n C dX6_remembers_9 rfl ?_
    refine aw_dup_a C dX6_remembers_10 ?_
    refine aw_getI C dX6_remembers_11 fX6_261 ⟨rfl, by decide⟩ rfl ?_
    rw [ea]
    refine aw_iconst C dX6_remembers_14 ?_
    refine aw_isub C dX6_remembers_15 ?_
    refine aw_putI C dX6_remembers_16 fX6_261 ⟨rfl, by decide⟩ rfl rfl rfl ?_
    refine aw_iconst C dX6_remembers_19 ?_
    refine aw_istore_n C dX6_remembers_20 (by decide) ?_
    refine sh1 (by omega) 7 0 _ _ (by omega) (by omega) ⟨by rw [wr_ne (by decide)]; exact cpd_0 (by omega), by rw [wr_ne (by decide)]; exact cpd_0 (by omega), by rw [wr_ne (by decide)]; exact cpd_0 (by omega), by rw [wr_ne (by decide)]; exact cpd_0 (by omega), by rw [wr_at, if_pos ⟨rfl, rfl⟩]; omega, frc.rf.w (Or.inl ⟨rfl, rfl⟩)⟩

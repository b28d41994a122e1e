/-! lines, and the sheet that they lay -/
theorem t_X6_lays0 {mu : Mem} {W : FV} {x y : Int} (eS : sv mu = W) (hW : bW W) (hx : R32 x) (hy : R32 y) (hc : ∀ d : Nat, d < 6 → R32 (mu 70 d)) : Tr 2 mX6_lays [vr 55, vi x, vi y] mu (fun r m2 => r = none ∧ layR mu m2 W x y) := by
  refine Tr.of (by decide +kernel) (Nat.le_of_ble_eq_true rfl) (fun K C E => ?_)
  have n31 : mu 55 31 = W.1 := congrArg (fun z : FV => z.1) eS
  have hn := hW.1
  have bad : ¬ inL W x y → layR mu (wr mu 55 33 0) W x y := fun hi => by
    refine ⟨frc.rf.w (Or.inl ⟨rfl, Or.inr rfl⟩), Or.inl ⟨hi, ?_, by rw [wr_at, if_pos ⟨rfl, rfl⟩]⟩⟩
    rw [← eS]
    unfold sv
    rw [show wr mu 55 33 0 55 31 = mu 55 31 by rw [wr_at, if_neg (by decide)], wr_ne (by decide), wr_ne (by decide), wr_ne (by decide)]
  have fx : ∀ k : Int, 0 ≤ k → k < W.1 → mu 67 k.toNat = gx W k := fun k k0 k1 => by
    rw [← eS]; exact (cut1_at (n := mu 55 31) k0 (by omega)).symm
  have fy : ∀ k : Int, 0 ≤ k → k < W.1 → mu 68 k.toNat = gy W k := fun k k0 k1 => by
    rw [← eS]; exact (cut1_at (n := mu 55 31) k0 (by omega)).symm
  have last : inL W x y → ∀ (p : Int), p = bp W x y W.1.toNat → 0 ≤ p → p ≤ W.1 → ∀ (m1 : Mem), mvd mu m1 p W.1 → ∀ (q : Nat) (d h : Int) (m : Mem), 0 ≤ d → d + q = 6 → frc lyS mu m → m 55 31 = W.1 → m 55 33 = h → (h = if b01 (∀ e : Nat, (e : Int) < d → hld (mu 70 e)) = 1 then mu 55 33 else 0) → m 67 = wr m1 67 p.toNat x 67 → m 68 = wr m1 68 p.toNat y 68 → (∀ e j : Nat, e < 6 → j < 25 → m 69 (25 * e + j) = if (j : Int) = p ∧ (e : Int) < d then mu 70 e else m1 69 (25 * e + j)) → AW K mX6_lays (NC, 0, 0) 169 [vr 55, vi x, vi y, vi p, vi d] [] m := by
    intro hin p hp p0 p1 m1 hmv q
    have i24 := hin.1
    induction q with
    | zero =>
      intro d h m q0 q1 q2 q3 q4 q5 q6 q7 q8
      have e : d = 6 := by omega
      subst e
      have hv : sv (wr m 55 31 (W.1 + 1)) = insV (sv mu) p.toNat x y (fun d => mu 70 d) := by
        have w7 : wr m 55 31 (W.1 + 1) 67 = m 67 := wr_ne (by decide)
        have w8 : wr m 55 31 (W.1 + 1) 68 = m 68 := wr_ne (by decide)
        have w9 : wr m 55 31 (W.1 + 1) 69 = m 69 := wr_ne (by decide)
        obtain ⟨z1, z2, z3, z4⟩ := hmv
        refine lay_view ?_ (by omega) (fun j hj => ?_) (fun j hj => ?_) (fun d j hd hj => ?_)
        · rw [wr_at, if_pos ⟨rfl, rfl⟩, n31]
        · rw [w7, q6, wr_self]
          show (if j = p.toNat then x else m1 67 j) = ins (mu 67) p.toNat x j
          unfold ins
          by_cases e1 : j < p.toNat
          · rw [if_neg (by omega), if_pos e1, z1.out (by omega)]
          · rw [if_neg e1]
            by_cases e2 : j = p.toNat
            · rw [if_pos e2, if_pos e2]
            · rw [if_neg e2, if_neg e2, z1.in_ (by omega)]
        · rw [w8, q7, wr_self]
          show (if j = p.toNat then y else m1 68 j) = ins (mu 68) p.toNat y j
          unfold ins
          by_cases e1 : j < p.toNat
          · rw [if_neg (by omega), if_pos e1, z2.out (by omega)]
          · rw [if_neg e1]
            by_cases e2 : j = p.toNat
            · rw [if_pos e2, if_pos e2]
            · rw [if_neg e2, if_neg e2, z2.in_ (by omega)]
        · rw [w9, q8 d j hd (by omega)]
          unfold ins
          by_cases e1 : j < p.toNat
          · rw [if_neg (by omega), if_pos e1, z3 d j hd (by omega), if_neg (by omega)]
          · rw [if_neg e1]
            by_cases e2 : j = p.toNat
            · rw [if_pos (by omega), if_pos e2]
            · rw [if_neg (by omega), if_neg e2, z3 d j hd (by omega), if_pos (by omega)]
              congr 1; omega
      rw [eS] at hv
      have fin : layR mu (wr m 55 31 (W.1 + 1)) W x y := by
        refine ⟨q2.w (Or.inl ⟨rfl, Or.inl rfl⟩), Or.inr ⟨hin, by rw [← hp]; exact hv, ?_⟩⟩
        rw [wr_at, if_neg (by decide), q4, q5, b01_congr (show (∀ e : Nat, (e : Int) < 6 → hld (mu 70 e)) ↔ ∀ d : Nat, d < 6 → hld (mu 70 d) from ⟨fun w d hd => w d (by omega), fun w d hd => w d (by omega)⟩)]
      refine aw_iload C dX6_lays_169 rfl ?_
      refine aw_bipush C dX6_lays_171 rfl ?_
      refine aw_icmp_ge C dX6_lays_173 (tgt := 226) (by decide) ⟨by omega, by omega⟩ ⟨by omega, by omega⟩ (fun c1 => ?_) (fun c1 => ?_)
      · refine aw_aload_n C dX6_lays_226 rfl ?_
        refine aw_dup_a C dX6_lays_227 ?_
        refine aw_getI C dX6_lays_228 fX6_224 ⟨rfl, by decide⟩ rfl ?_
        rw [q3]
        refine aw_iconst C dX6_lays_231 ?_
        refine aw_iadd C dX6_lays_232 ?_
        refine aw_putI C dX6_lays_233 fX6_224 ⟨rfl, by decide⟩ rfl rfl rfl ?_
        exact aw_vret C E dX6_lays_236 rfl ⟨rfl, fin⟩
      · exfalso; omega
    | succ q ih =>
      intro d h m q0 q1 q2 q3 q4 q5 q6 q7 q8
      have e70 : m 70 d.toNat = mu 70 d.toNat := q2 _ _ (by unfold lyS; omega)
      have e70b : ∀ v, wr m 69 (25 * d + p).toNat v 70 d.toNat = mu 70 d.toNat := fun v => by rw [wr_ne (by decide)]; exact e70
      have r70 := hc d.toNat (by omega)
      have k1 := b01_01 (-2000 ≤ mu 70 d.toNat ∧ mu 70 d.toNat ≤ 2000)
      have k1i : b01 (-2000 ≤ mu 70 d.toNat ∧ mu 70 d.toNat ≤ 2000) = 1 ↔ (-2000 ≤ mu 70 d.toNat ∧ mu 70 d.toNat ≤ 2000) := b01_iff
      have step : ∀ (h2 : Int) (m2 : Mem), (∀ a b, ¬ (a = 55 ∧ b = 33) → m2 a b = wr m 69 (25 * d + p).toNat (mu 70 d.toNat) a b) → m2 55 33 = h2 → (h2 = if b01 (∀ e : Nat, (e : Int) < d + 1 → hld (mu 70 e)) = 1 then mu 55 33 else 0) → AW K mX6_lays (NC, 0, 0) 169 [vr 55, vi x, vi y, vi p, vi (d + 1)] [] m2 := fun h2 m2 g1 g2 g3 => by
        refine ih (d + 1) h2 m2 (by omega) (by omega) (fun a b hab => ?_) ?_ g2 g3 ?_ ?_ (fun e j he hj => ?_)
        · unfold lyS at hab
          rw [g1 a b (by omega), wr_ne (by omega)]
          exact q2 a b (by unfold lyS; omega)
        · rw [g1 55 31 (by decide), wr_ne (by decide)]; exact q3
        · funext b; rw [g1 67 b (by omega), wr_ne (by decide), q6]
        · funext b; rw [g1 68 b (by omega), wr_ne (by decide), q7]
        · rw [g1 69 _ (by omega), wr_at]
          by_cases e1 : 25 * e + j = (25 * d + p).toNat
          · rw [if_pos ⟨rfl, e1⟩, if_pos (by omega)]
            congr 1; omega
          · rw [if_neg (fun w => e1 w.2), q8 e j he hj]
            by_cases e2 : (j : Int) = p ∧ (e : Int) < d
            · rw [if_pos e2, if_pos (by omega)]
            · rw [if_neg e2, if_neg (by omega)]
      have ball : ∀ b : Prop, (∀ e : Nat, (e : Int) < d + 1 → hld (mu 70 e)) ↔ ((∀ e : Nat, (e : Int) < d → hld (mu 70 e)) ∧ (-2000 ≤ mu 70 d.toNat ∧ mu 70 d.toNat ≤ 2000)) := fun _ => ⟨fun w => ⟨fun e he => w e (by omega), w d.toNat (by omega)⟩, fun w e he => by
        by_cases e1 : (e : Int) = d
        · have : e = d.toNat := by omega
          rw [this]; exact w.2
        · exact w.1 e (by omega)⟩
      have ball := ball True
      refine aw_iload C dX6_lays_169 rfl ?_
      refine aw_bipush C dX6_lays_171 rfl ?_
      refine aw_icmp_ge C dX6_lays_173 (tgt := 226) (by decide) ⟨by omega, by omega⟩ ⟨by omega, by omega⟩ (fun c1 => ?_) (fun c1 => ?_)
      · exfalso; omega
      · refine aw_aload_n C dX6_lays_176 rfl ?_
        refine aw_getS C dX6_lays_177 fX6_56 ⟨rfl, by decide⟩ rfl rfl (srf 55 28 69 (by decide)) ?_
        refine aw_bipush C dX6_lays_180 rfl ?_
        refine aw_iload C dX6_lays_182 rfl ?_
        refine aw_imul C dX6_lays_184 ?_
        refine aw_iload_n C dX6_lays_185 rfl ?_
        refine aw_iadd C dX6_lays_186 ?_
        refine aw_aload_n C dX6_lays_187 rfl ?_
        refine aw_getS C dX6_lays_188 fX6_59 ⟨rfl, by decide⟩ rfl rfl (srf 55 34 70 (by decide)) ?_
        refine aw_iload C dX6_lays_191 rfl ?_
        refine aw_iald C dX6_lays_193 ⟨rfl, by decide⟩ (by decide) (by omega) (by omega) ?_
        rw [e70]
        refine aw_iast C dX6_lays_194 ⟨rfl, by decide⟩ (by decide) (by omega) (by omega) ?_
        refine aw_aload_n C dX6_lays_195 rfl ?_
        refine aw_getS C dX6_lays_196 fX6_59 ⟨rfl, by decide⟩ rfl rfl (srf 55 34 70 (by decide)) ?_
        refine aw_iload C dX6_lays_199 rfl ?_
        refine aw_iald C dX6_lays_201 ⟨rfl, by decide⟩ (by decide) (by omega) (by omega) ?_
        rw [e70b]
        refine aw_i2l C dX6_lays_202 ⟨by omega, by omega⟩ ?_
        refine aw_ldc2 C dX6_lays_203 kX6_247 (z := -2000) (by decide +kernel) ?_
        refine aw_ldc2 C dX6_lays_206 kX6_249 (z := 2000) (by decide +kernel) ?_
        refine aw_callS1 C dX6_lays_209 lX6_108 vX6_in (t_X6_in ⟨by omega, by omega⟩ ⟨by omega, by omega⟩ ⟨by omega, by omega⟩) rfl rfl rfl ⟨by decide, by decide⟩ (Nat.le_of_ble_eq_true rfl) ?_
        refine aw_if_ne C dX6_lays_212 (tgt := 220) (by decide) ⟨by omega, by omega⟩ (fun c2 => ?_) (fun c2 => ?_)
        · --go
          refine aw_iinc C dX6_lays_220 rfl ?_
          refine aw_goto C dX6_lays_223 (tgt := 169) (by decide) ?_
          exact step h _ (fun a b _ => rfl) (by rw [wr_ne (by decide)]; exact q4) (by rw [q5, b01_congr ball]; by_cases w : (∀ e : Nat, (e : Int) < d → hld (mu 70 e)); rw [b01_t w, b01_t ⟨w, k1i.mp (by omega)⟩]; rw [b01_f w, b01_f (fun z => w z.1)])
        · --go
          refine aw_aload_n C dX6_lays_215 rfl ?_
          refine aw_iconst C dX6_lays_216 ?_
          refine aw_putZ C dX6_lays_217 fX6_239 ⟨rfl, by decide⟩ rfl rfl rfl (by omega) ?_
          refine aw_iinc C dX6_lays_220 rfl ?_
          refine aw_goto C dX6_lays_223 (tgt := 169) (by decide) ?_
          exact step 0 _ (fun a b hab => by rw [wr_at, if_neg hab]) (by rw [wr_at, if_pos ⟨rfl, rfl⟩]) (by rw [b01_congr ball, b01_f (fun z => by have := k1i.mpr z.2; omega)]; rfl)
  have loop : inL W x y → ∀ (q : Nat) (k : Int) (m : Mem) (v4 : Vv), k = (q : Int) → k ≤ W.1 → bp W x y W.1.toNat = bp W x y k.toNat → mvd mu m k W.1 → AW K mX6_lays (NC, 0, 0) 48 [vr 55, vi x, vi y, vi k, v4] [] m := by
    intro hin q
    have i24 := hin.1
    have fin : ∀ (k : Int) (m : Mem) (v4 : Vv), 0 ≤ k → k ≤ W.1 → bp W x y W.1.toNat = k → mvd mu m k W.1 → AW K mX6_lays (NC, 0, 0) 152 [vr 55, vi x, vi y, vi k, v4] [] m := fun k m v4 k0 k1 hk hmv => by
      have z4 := hmv.2.2.2
      refine aw_aload_n C dX6_lays_152 rfl ?_
      refine aw_getS C dX6_lays_153 fX6_50 ⟨rfl, by decide⟩ rfl rfl (srf 55 26 67 (by decide)) ?_
      refine aw_iload_n C dX6_lays_156 rfl ?_
      refine aw_iload_n C dX6_lays_157 rfl ?_
      refine aw_iast C dX6_lays_158 ⟨rfl, by decide⟩ (by decide) (by omega) (by omega) ?_
      refine aw_aload_n C dX6_lays_159 rfl ?_
      refine aw_getS C dX6_lays_160 fX6_53 ⟨rfl, by decide⟩ rfl rfl (srf 55 27 68 (by decide)) ?_
      refine aw_iload_n C dX6_lays_163 rfl ?_
      refine aw_iload_n C dX6_lays_164 rfl ?_
      refine aw_iast C dX6_lays_165 ⟨rfl, by decide⟩ (by decide) (by omega) (by omega) ?_
      refine aw_iconst C dX6_lays_166 ?_
      refine aw_istore C dX6_lays_167 (by decide) ?_
      refine last hin k hk.symm k0 k1 m hmv 6 0 (mu 55 33) _ (by omega) (by omega) (fun a b hab => ?_) ?_ ?_ ?_ ?_ ?_ (fun e j he hj => ?_)
      · unfold lyS at hab
        rw [wr_ne (by omega), wr_ne (by omega)]
        exact z4 a b (by omega)
      · rw [wr_ne (by decide), wr_ne (by decide), z4 55 31 (by omega)]; exact n31
      · rw [wr_ne (by decide), wr_ne (by decide), z4 55 33 (by omega)]
      · rw [b01_t (fun e he => by omega)]; rfl
      · rw [wr_ne (by decide)]
      · rw [wr_self, wr_self, wr_ne (by decide)]
      · rw [wr_ne (by decide), wr_ne (by decide), if_neg (by omega)]
    induction q with
    | zero =>
      intro k m v4 q0 q1 q2 q3
      have e : k = 0 := by omega
      subst e
      refine aw_iload_n C dX6_lays_48 rfl ?_
      refine aw_if_le C dX6_lays_49 (tgt := 152) (by decide) ⟨by omega, by omega⟩ (fun c1 => ?_) (fun c1 => ?_)
      · exact fin 0 m _ (by omega) (by omega) (by rw [q2]; rfl) q3
      · exfalso; omega
    | succ q ih =>
      intro k m v4 q0 q1 q2 q3
      have z4 := q3.2.2.2
      have g1 : m 67 (k - 1).toNat = gx W (k - 1) := by rw [q3.1.out (by omega)]; exact fx (k - 1) (by omega) (by omega)
      have g2 : m 68 (k - 1).toNat = gy W (k - 1) := by rw [q3.2.1.out (by omega)]; exact fy (k - 1) (by omega) (by omega)
      have b1 : -60 ≤ gx W (k - 1) ∧ gx W (k - 1) ≤ 60 := hW.2.1 _
      have b2 : -60 ≤ gy W (k - 1) ∧ gy W (k - 1) ≤ 60 := hW.2.2 _
      have m1 := mulb (A := 60) hin.2.1 b2
      have m2 := mulb (A := 60) hin.2.2 b1
      have kb := b01_01 (cbf x y (gx W (k - 1)) (gy W (k - 1)))
      have eb : bp W x y k.toNat = if b01 (cbf x y (gx W (k - 1)) (gy W (k - 1))) = 1 then bp W x y (k - 1).toNat else k := by
        rw [show k.toNat = (k - 1).toNat + 1 by omega]
        show (if b01 (cbf x y (gx W ((k - 1).toNat : Int)) (gy W ((k - 1).toNat : Int))) = 1 then bp W x y (k - 1).toNat else ((k - 1).toNat : Int) + 1) = _
        rw [show ((k - 1).toNat : Int) = k - 1 by omega, show k - 1 + 1 = k by omega]
      have inner : b01 (cbf x y (gx W (k - 1)) (gy W (k - 1))) = 1 → ∀ (s : Nat) (d : Int) (m2 : Mem), 0 ≤ d → d + s = 6 → cpd (m2 67) (mu 67) (fun j => mu 67 (j - 1)) k (W.1 + 1) → cpd (m2 68) (mu 68) (fun j => mu 68 (j - 1)) k (W.1 + 1) → frc (fun a _ => 67 ≤ a ∧ a ≤ 69) mu m2 → (∀ e j : Nat, e < 6 → j < 25 → m2 69 (25 * e + j) = if (k < (j : Int) ∨ ((j : Int) = k ∧ (e : Int) < d)) ∧ (j : Int) ≤ W.1 then mu 69 (25 * e + j - 1) else mu 69 (25 * e + j)) → AW K mX6_lays (NC, 0, 0) 107 [vr 55, vi x, vi y, vi k, vi d] [] m2 := by
        intro hcb s
        induction s with
        | zero =>
          intro d m2 w0 w1 w2 w3 w4 w5
          refine aw_iload C dX6_lays_107 rfl ?_
          refine aw_bipush C dX6_lays_109 rfl ?_
          refine aw_icmp_ge C dX6_lays_111 (tgt := 146) (by decide) ⟨by omega, by omega⟩ ⟨by omega, by omega⟩ (fun c1 => ?_) (fun c1 => ?_)
          · refine aw_iinc C dX6_lays_146 rfl ?_
            refine aw_goto C dX6_lays_149 (tgt := 48) (by decide) ?_
            refine ih (k + -1) m2 _ (by omega) (by omega) (by rw [q2, eb, if_pos hcb, show k + -1 = k - 1 by omega]) ⟨by rw [show k + -1 + 1 = k by omega]; exact w2, by rw [show k + -1 + 1 = k by omega]; exact w3, fun e j he hj => ?_, w4⟩
            rw [w5 e j he hj]
            by_cases e1 : k + -1 < (j : Int) ∧ (j : Int) ≤ W.1
            · rw [if_pos e1, if_pos (by omega)]
            · rw [if_neg e1, if_neg (by omega)]
          · exfalso; omega
        | succ s ihs =>
          intro d m2 w0 w1 w2 w3 w4 w5
          have r69 : m2 69 (25 * d + k - 1).toNat = mu 69 (25 * d + k - 1).toNat := by
            have := w5 d.toNat (k - 1).toNat (by omega) (by omega)
            rw [if_neg (by omega), show 25 * d.toNat + (k - 1).toNat = (25 * d + k - 1).toNat by omega] at this
            exact this
          refine aw_iload C dX6_lays_107 rfl ?_
          refine aw_bipush C dX6_lays_109 rfl ?_
          refine aw_icmp_ge C dX6_lays_111 (tgt := 146) (by decide) ⟨by omega, by omega⟩ ⟨by omega, by omega⟩ (fun c1 => ?_) (fun c1 => ?_)
          · exfalso; omega
          · refine aw_aload_n C dX6_lays_114 rfl ?_
            refine aw_getS C dX6_lays_115 fX6_56 ⟨rfl, by decide⟩ rfl rfl (srf 55 28 69 (by decide)) ?_
            refine aw_bipush C dX6_lays_118 rfl ?_
            refine aw_iload C dX6_lays_120 rfl ?_
            refine aw_imul C dX6_lays_122 ?_
            refine aw_iload_n C dX6_lays_123 rfl ?_
            refine aw_iadd C dX6_lays_124 ?_
            refine aw_aload_n C dX6_lays_125 rfl ?_
            refine aw_getS C dX6_lays_126 fX6_56 ⟨rfl, by decide⟩ rfl rfl (srf 55 28 69 (by decide)) ?_
            refine aw_bipush C dX6_lays_129 rfl ?_
            refine aw_iload C dX6_lays_131 rfl ?_
            refine aw_imul C dX6_lays_133 ?_
            refine aw_iload_n C dX6_lays_134 rfl ?_
            refine aw_iadd C dX6_lays_135 ?_
            refine aw_iconst C dX6_lays_136 ?_
            refine aw_isub C dX6_lays_137 ?_
            refine aw_iald C dX6_lays_138 ⟨rfl, by decide⟩ (by decide) (by omega) (by omega) ?_
            rw [r69]
            refine aw_iast C dX6_lays_139 ⟨rfl, by decide⟩ (by decide) (by omega) (by omega) ?_
            refine aw_iinc C dX6_lays_140 rfl ?_
            refine aw_goto C dX6_lays_143 (tgt := 107) (by decide) ?_
            refine ihs (d + 1) _ (by omega) (by omega) (by rw [wr_ne (by decide)]; exact w2) (by rw [wr_ne (by decide)]; exact w3) (w4.w ⟨by decide, by decide⟩) (fun e j he hj => ?_)
            rw [wr_at]
            by_cases e1 : 25 * e + j = (25 * d + k).toNat
            · rw [if_pos ⟨rfl, e1⟩, if_pos (by omega)]
              congr 1; omega
            · rw [if_neg (fun w => e1 w.2), w5 e j he hj]
              by_cases e2 : (k < (j : Int) ∨ ((j : Int) = k ∧ (e : Int) < d)) ∧ (j : Int) ≤ W.1
              · rw [if_pos e2, if_pos (by omega)]
              · rw [if_neg e2, if_neg (by omega)]
      have f67 : ∀ v, wr m 67 k.toNat v 68 (k - 1).toNat = gy W (k - 1) := fun v => by rw [wr_ne (by decide)]; exact g2
      refine aw_iload_n C dX6_lays_48 rfl ?_
      refine aw_if_le C dX6_lays_49 (tgt := 152) (by decide) ⟨by omega, by omega⟩ (fun c1 => ?_) (fun c1 => ?_)
      · exfalso; omega
      · refine aw_iload_n C dX6_lays_52 rfl ?_
        refine aw_iload_n C dX6_lays_53 rfl ?_
        refine aw_aload_n C dX6_lays_54 rfl ?_
        refine aw_getS C dX6_lays_55 fX6_50 ⟨rfl, by decide⟩ rfl rfl (srf 55 26 67 (by decide)) ?_
        refine aw_iload_n C dX6_lays_58 rfl ?_
        refine aw_iconst C dX6_lays_59 ?_
        refine aw_isub C dX6_lays_60 ?_
        refine aw_iald C dX6_lays_61 ⟨rfl, by decide⟩ (by decide) (by omega) (by omega) ?_
        rw [g1]
        refine aw_aload_n C dX6_lays_62 rfl ?_
        refine aw_getS C dX6_lays_63 fX6_53 ⟨rfl, by decide⟩ rfl rfl (srf 55 27 68 (by decide)) ?_
        refine aw_iload_n C dX6_lays_66 rfl ?_
        refine aw_iconst C dX6_lays_67 ?_
        refine aw_isub C dX6_lays_68 ?_
        refine aw_iald C dX6_lays_69 ⟨rfl, by decide⟩ (by decide) (by omega) (by omega) ?_
        rw [g2]
        refine aw_callS1 C dX6_lays_70 lX6_243 vX6_isAhead (t_X6_isAhead hx hy ⟨by omega, by omega⟩ ⟨by omega, by omega⟩ ⟨by omega, by omega⟩) rfl rfl rfl ⟨by decide, by decide⟩ (Nat.le_of_ble_eq_true rfl) ?_
        refine aw_if_eq C dX6_lays_73 (tgt := 152) (by decide) ⟨by omega, by omega⟩ (fun c2 => ?_) (fun c2 => ?_)
        · --go
          exact fin k m _ (by omega) (by omega) (by rw [q2, eb, if_neg (by omega)]) q3
        · refine aw_aload_n C dX6_lays_76 rfl ?_
          refine aw_getS C dX6_lays_77 fX6_50 ⟨rfl, by decide⟩ rfl rfl (srf 55 26 67 (by decide)) ?_
          refine aw_iload_n C dX6_lays_80 rfl ?_
          refine aw_aload_n C dX6_lays_81 rfl ?_
          refine aw_getS C dX6_lays_82 fX6_50 ⟨rfl, by decide⟩ rfl rfl (srf 55 26 67 (by decide)) ?_
          refine aw_iload_n C dX6_lays_85 rfl ?_
          refine aw_iconst C dX6_lays_86 ?_
          refine aw_isub C dX6_lays_87 ?_
          refine aw_iald C dX6_lays_88 ⟨rfl, by decide⟩ (by decide) (by omega) (by omega) ?_
          rw [g1]
          refine aw_iast C dX6_lays_89 ⟨rfl, by decide⟩ (by decide) (by omega) (by omega) ?_
          refine aw_aload_n C dX6_lays_90 rfl ?_
          refine aw_getS C dX6_lays_91 fX6_53 ⟨rfl, by decide⟩ rfl rfl (srf 55 27 68 (by decide)) ?_
          refine aw_iload_n C dX6_lays_94 rfl ?_
          refine aw_aload_n C dX6_lays_95 rfl ?_
          refine aw_getS C dX6_lays_96 fX6_53 ⟨rfl, by decide⟩ rfl rfl (srf 55 27 68 (by decide)) ?_
          refine aw_iload_n C dX6_lays_99 rfl ?_
          refine aw_iconst C dX6_lays_100 ?_
          refine aw_isub C dX6_lays_101 ?_
          refine aw_iald C dX6_lays_102 ⟨rfl, by decide⟩ (by decide) (by omega) (by omega) ?_
          rw [f67]
          refine aw_iast C dX6_lays_103 ⟨rfl, by decide⟩ (by decide) (by omega) (by omega) ?_
          refine aw_iconst C dX6_lays_104 ?_
          refine aw_istore C dX6_lays_105 (by decide) ?_
          refine inner (by omega) 6 0 _ (by omega) (by omega) ?_ ?_ ((z4.w ⟨by decide, by decide⟩).w ⟨by decide, by decide⟩) (fun e j he hj => ?_)
          · rw [wr_ne (by decide)]
            refine cpd_lo q3.1 rfl (by omega) (by omega) ?_ (by omega)
            rw [← fx (k - 1) (by omega) (by omega)]
            show mu 67 _ = mu 67 _
            congr 1; omega
          · refine cpd_lo q3.2.1 (wr_ne (by decide)) (by omega) (by omega) ?_ (by omega)
            rw [← fy (k - 1) (by omega) (by omega)]
            show mu 68 _ = mu 68 _
            congr 1; omega
          · rw [wr_ne (by decide), wr_ne (by decide), q3.2.2.1 e j he hj]
            by_cases e1 : k < (j : Int) ∧ (j : Int) ≤ W.1
            · rw [if_pos e1, if_pos (by omega)]
            · rw [if_neg e1, if_neg (by omega)]
  have k1 := b01_01 (-60 ≤ x ∧ x ≤ 60)
  have k1i : b01 (-60 ≤ x ∧ x ≤ 60) = 1 ↔ (-60 ≤ x ∧ x ≤ 60) := b01_iff
  have k2 := b01_01 (-60 ≤ y ∧ y ≤ 60)
  have k2i : b01 (-60 ≤ y ∧ y ≤ 60) = 1 ↔ (-60 ≤ y ∧ y ≤ 60) := b01_iff
  refine aw_aload_n C dX6_lays_0 rfl ?_
  refine aw_getI C dX6_lays_1 fX6_224 ⟨rfl, by decide⟩ rfl ?_
  refine aw_bipush C dX6_lays_4 rfl ?_
  refine aw_icmp_eq C dX6_lays_6 (tgt := 37) (by decide) ⟨by omega, by omega⟩ ⟨by omega, by omega⟩ (fun c1 => ?_) (fun c1 => ?_)
  · have hbd := bad (fun w => w.1 (by omega))
    --go
    refine aw_aload_n C dX6_lays_37 rfl ?_
    refine aw_iconst C dX6_lays_38 ?_
    refine aw_putZ C dX6_lays_39 fX6_239 ⟨rfl, by decide⟩ rfl rfl rfl (by omega) ?_
    exact aw_vret C E dX6_lays_42 rfl ⟨rfl, hbd⟩
  · refine aw_iload_n C dX6_lays_9 rfl ?_
    refine aw_i2l C dX6_lays_10 ⟨by omega, by omega⟩ ?_
    refine aw_ldc2 C dX6_lays_11 kX6_235 (z := -60) (by decide +kernel) ?_
    refine aw_ldc2 C dX6_lays_14 kX6_237 (z := 60) (by decide +kernel) ?_
    refine aw_callS1 C dX6_lays_17 lX6_108 vX6_in (t_X6_in ⟨by omega, by omega⟩ ⟨by omega, by omega⟩ ⟨by omega, by omega⟩) rfl rfl rfl ⟨by decide, by decide⟩ (Nat.le_of_ble_eq_true rfl) ?_
    refine aw_if_eq C dX6_lays_20 (tgt := 37) (by decide) ⟨by omega, by omega⟩ (fun c2 => ?_) (fun c2 => ?_)
    · have hbd := bad (fun w => by have := w.2.1; omega)
      --go
      refine aw_aload_n C dX6_lays_37 rfl ?_
      refine aw_iconst C dX6_lays_38 ?_
      refine aw_putZ C dX6_lays_39 fX6_239 ⟨rfl, by decide⟩ rfl rfl rfl (by omega) ?_
      exact aw_vret C E dX6_lays_42 rfl ⟨rfl, hbd⟩
    · refine aw_iload_n C dX6_lays_23 rfl ?_
      refine aw_i2l C dX6_lays_24 ⟨by omega, by omega⟩ ?_
      refine aw_ldc2 C dX6_lays_25 kX6_235 (z := -60) (by decide +kernel) ?_
      refine aw_ldc2 C dX6_lays_28 kX6_237 (z := 60) (by decide +kernel) ?_
      refine aw_callS1 C dX6_lays_31 lX6_108 vX6_in (t_X6_in ⟨by omega, by omega⟩ ⟨by omega, by omega⟩ ⟨by omega, by omega⟩) rfl rfl rfl ⟨by decide, by decide⟩ (Nat.le_of_ble_eq_true rfl) ?_
      refine aw_if_ne C dX6_lays_34 (tgt := 43) (by decide) ⟨by omega, by omega⟩ (fun c3 => ?_) (fun c3 => ?_)
      · refine aw_aload_n C dX6_lays_43 rfl ?_
        refine aw_getI C dX6_lays_44 fX6_224 ⟨rfl, by decide⟩ rfl ?_
        rw [n31]
        refine aw_istore_n C dX6_lays_47 (by decide) ?_
        exact loop ⟨by omega, k1i.mp (by omega), k2i.mp (by omega)⟩ W.1.toNat W.1 mu _ (by omega) (by omega) rfl ⟨cpd_0 (by omega), cpd_0 (by omega), fun d j hd hj => by rw [if_neg (by omega)], frc.rf⟩
      · have hbd := bad (fun w => by have := w.2.2; omega)
        --go
        refine aw_aload_n C dX6_lays_37 rfl ?_
        refine aw_iconst C dX6_lays_38 ?_
        refine aw_putZ C dX6_lays_39 fX6_239 ⟨rfl, by decide⟩ rfl rfl rfl (by omega) ?_
        exact aw_vret C E dX6_lays_42 rfl ⟨rfl, hbd⟩
theorem tB_nm {D : PD} {t : TK} {n : Int} (hi : tI n t) (h : fNew D t = 0) : 0 ≤ t.2.1 ∧ t.2.1 < 1073741824 := by
  unfold fNew at h
  by_cases w : b01 (isNm t) = 0
  · rw [if_pos w] at h; omega
  · exact hi.1.2.1 (b01_iff.mp (show b01 (isNm t) = 1 by have := b01_01 (isNm t); omega)).1
theorem rRy_b {A : Nat → Int} {n : Int} {D : PD} {t : TK} (hD : bD D) (hi : tI n t) : bD (rRy A n D t).2.2 := by
  unfold rRy rR1 rR2 rR3 rR4
  have i1 : tI n (tok A n t.2.2.2) := tok_i hi.2.2.1 hi.2.2.2.1
  generalize tok A n t.2.2.2 = t1 at *
  have i2 : tI n (tok A n t1.2.2.2) := tok_i i1.2.2.1 i1.2.2.2.1
  generalize tok A n t1.2.2.2 = t2 at *
  have i3 : tI n (tok A n t2.2.2.2) := tok_i i2.2.2.1 i2.2.2.2.1
  generalize tok A n t2.2.2.2 = t3 at *
  have i4 : tI n (fI1 A n t3) := fI1_i i3
  have i5 : tI n (tok A n (fI1 A n t3).2.2.2) := tok_i i4.2.2.1 i4.2.2.2.1
  generalize tok A n (fI1 A n t3).2.2.2 = t5 at *
  split
  · exact hD
  · rename_i q0
    split
    · exact hD
    · rename_i q1
      split
      · exact hD
      · split
        · exact hD
        · rename_i q3
          split
          · exact hD
          · rename_i q4
            split
            · exact hD
            · exact bD_addR hD (by omega) (fIv_b i3 (Classical.not_not.mp q3)) (fIv_b i5 (Classical.not_not.mp q4)) (tB_nm i1 (Classical.not_not.mp q1))
theorem rL_b {A : Nat → Int} {n : Int} {D : PD} {t : TK} (hD : bD D) (hi : tI n t) (h : (rL A n D t).1 = 0) : bD (rL A n D t).2.2 := by
  have i1 : tI n (tok A n t.2.2.2) := tok_i hi.2.2.1 hi.2.2.2.1
  unfold rL rL1 at h ⊢
  generalize tok A n t.2.2.2 = t1 at *
  by_cases q0 : 6 ≤ D.2.1
  · rw [if_pos q0]; exact hD
  rw [if_neg q0] at h ⊢
  by_cases q1 : fNew D t1 ≠ 0
  · rw [if_pos q1]; exact hD
  rw [if_neg q1] at h ⊢
  have h2 := pPt_b 13 0 (fun _ => 0) t1 i1 (fun _ => ⟨by decide, by decide⟩) h
  exact bD_addL hD (by omega) (tB_nm i1 (Classical.not_not.mp q1)) (fun r _ => h2 r)
theorem rLn_b {A : Nat → Int} {n : Int} {D : PD} {t : TK} (hD : bD D) (hi : tI n t) (h : (rLn A n D t).1 = 0) : bD (rLn A n D t).2.2 := by
  unfold rLn at h ⊢
  by_cases c1 : t.1 ≠ 1
  · rw [if_pos c1]; exact hD
  rw [if_neg c1] at h ⊢
  by_cases c2 : t.2.1 = 18489
  · rw [if_pos c2]; exact rRy_b hD hi
  rw [if_neg c2] at h ⊢
  by_cases c3 : t.2.1 = 408612
  · rw [if_pos c3] at h ⊢; exact rL_b hD hi h
  rw [if_neg c3]; exact hD
theorem t_X6_readLine {mu : Mem} {A : Nat → Int} {n : Int} {t : TK} {D : PD} (hK : rdK mu A n) (h7 : mu 55 7 = 0) (hM : MT mu t) (hi : tI n t) (hnb : nbM mu) (eD : pdM mu = D) (hD : bD D) : TrS 9 mX6_readLine (fun _ => [vr 55]) mu (fun r m2 => r = none ∧ rdP mu m2 (rLn A n D t)) := by
  refine TrS.of (by decide +kernel) (fun _ => Nat.le_of_ble_eq_true rfl) (fun K C E hX => ?_)
  obtain ⟨R, eR⟩ : ∃ R, rLn A n D t = R := ⟨_, rfl⟩
  rw [eR] at E
  unfold rLn at eR
  have k0 := b01_01 (t.1 = 1 ∧ t.2.1 = 18489)
  have k0i : b01 (t.1 = 1 ∧ t.2.1 = 18489) = 1 ↔ (t.1 = 1 ∧ t.2.1 = 18489) := b01_iff
  have k2 := b01_01 (t.1 = 1 ∧ t.2.1 = 408612)
  have k2i : b01 (t.1 = 1 ∧ t.2.1 = 408612) = 1 ↔ (t.1 = 1 ∧ t.2.1 = 408612) := b01_iff
  refine aw_aload_n C dX6_readLine_0 rfl ?_
  refine aw_ldcS C hX (i := 0) (by decide) rfl rfl dX6_readLine_1 ?_
  refine aw_callX C hX dX6_readLine_3 lX6_155 vX6_isWord (t_X6_isWord (j := 0) (by decide) h7 hM hi.1 (nm_b 0 (by decide))) rfl rfl rfl rfl ⟨rfl, by decide⟩ rfl ⟨by decide, by decide⟩ (Nat.le_of_ble_eq_true rfl) (fun r1 mu1 hq1 => ?_)
  obtain ⟨rfl, rfl⟩ := hq1
  rw [nmS_0]
  show AW _ _ _ _ _ [vi (b01 (t.1 = 1 ∧ t.2.1 = 18489))] _
  refine aw_if_eq C dX6_readLine_6 (tgt := 16) (by decide) ⟨by omega, by omega⟩ (fun c2 => ?_) (fun c2 => ?_)
  · refine aw_aload_n C dX6_readLine_16 rfl ?_
    refine aw_ldcS C hX (i := 2) (by decide) rfl rfl dX6_readLine_17 ?_
    refine aw_callX C hX dX6_readLine_19 lX6_155 vX6_isWord (t_X6_isWord (j := 2) (by decide) h7 hM hi.1 (nm_b 2 (by decide))) rfl rfl rfl rfl ⟨rfl, by decide⟩ rfl ⟨by decide, by decide⟩ (Nat.le_of_ble_eq_true rfl) (fun r3 mu3 hq3 => ?_)
    obtain ⟨rfl, rfl⟩ := hq3
    rw [nmS_2]
    show AW _ _ _ _ _ [vi (b01 (t.1 = 1 ∧ t.2.1 = 408612))] _
    refine aw_if_eq C dX6_readLine_22 (tgt := 32) (by decide) ⟨by omega, by omega⟩ (fun c4 => ?_) (fun c4 => ?_)
    · refine aw_aload_n C dX6_readLine_32 rfl ?_
      refine aw_iconst C dX6_readLine_33 ?_
      refine aw_call C dX6_readLine_34 lX6_159 vX6_flaw (t_X6_flaw0 h7 (by omega) hnb) rfl rfl rfl ⟨rfl, by decide⟩ rfl ⟨by decide, by decide⟩ (Nat.le_of_ble_eq_true rfl) (fun r5 mu5 hq5 => ?_)
      obtain ⟨rfl, g1, g2⟩ := hq5
      rw [hM.1] at g2
      have e1 : (1, t, D) = R := by
        rw [← eR]
        by_cases c1 : t.1 ≠ 1
        · rw [if_pos c1]
        · rw [if_neg c1, if_neg (fun z => by have := k0i.mpr ⟨Classical.not_not.mp c1, z⟩; omega), if_neg (fun z => by have := k2i.mpr ⟨Classical.not_not.mp c1, z⟩; omega)]
      have f1 : rdP mu mu5 R := ⟨(g1.mono f78_f).mono flS_r, Or.inr ⟨by rw [← e1]; show (1 : Int) ≠ 0; decide, by rw [← e1]; exact g2⟩⟩
      generalize mu5 = m2 at *
      show AW _ _ _ _ _ [] _
      exact aw_vret C E dX6_readLine_37 rfl ⟨rfl, f1⟩
    · refine aw_aload_n C dX6_readLine_25 rfl ?_
      refine aw_callX C hX dX6_readLine_26 lX6_215 vX6_readLoad (t_X6_readLoad hK h7 hM hi (k2i.mp (by omega)).1 hnb eD hD) rfl rfl rfl rfl ⟨rfl, by decide⟩ rfl ⟨by decide, by decide⟩ (Nat.le_of_ble_eq_true rfl) (fun r6 mu6 hq6 => ?_)
      obtain ⟨rfl, f1⟩ := hq6
      have w := k2i.mp (by omega)
      rw [if_neg (fun z => z w.1), if_neg (fun z => by have := k0i.mpr ⟨w.1, z⟩; omega), if_pos w.2] at eR
      rw [eR] at f1
      generalize mu6 = m2 at *
      show AW _ _ _ _ _ [] _
      refine aw_goto C dX6_readLine_29 (tgt := 37) (by decide) ?_
      exact aw_vret C E dX6_readLine_37 rfl ⟨rfl, f1⟩
  · refine aw_aload_n C dX6_readLine_9 rfl ?_
    refine aw_callX C hX dX6_readLine_10 lX6_212 vX6_readRay (t_X6_readRay hK h7 hM hi (k0i.mp (by omega)).1 hnb eD hD) rfl rfl rfl rfl ⟨rfl, by decide⟩ rfl ⟨by decide, by decide⟩ (Nat.le_of_ble_eq_true rfl) (fun r7 mu7 hq7 => ?_)
    obtain ⟨rfl, f1⟩ := hq7
    have w := k0i.mp (by omega)
    rw [if_neg (fun z => z w.1), if_pos w.2] at eR
    rw [eR] at f1
    generalize mu7 = m2 at *
    show AW _ _ _ _ _ [] _
    refine aw_goto C dX6_readLine_13 (tgt := 37) (by decide) ?_
    exact aw_vret C E dX6_readLine_37 rfl ⟨rfl, f1⟩
theorem gD_splt {D : PD} (h : gD D) {k : Nat} (hk : (k : Int) < D.1) : splt (bldV D.2.1 D.2.2.1 D.2.2.2.1 (fun j d => D.2.2.2.2.2.2 d j) k) (D.2.2.1 k) (D.2.2.2.1 k) (pos (bldV D.2.1 D.2.2.1 D.2.2.2.1 (fun j d => D.2.2.2.2.2.2 d j) k) (D.2.2.1 k) (D.2.2.2.1 k)) := by
  obtain ⟨s, p, m⟩ := bld_o (l := D.2.1) (x := D.2.2.1) (y := D.2.2.2.1) (c := fun j d => D.2.2.2.2.2.2 d j) k (fun i hi => h.2.1 i (by omega)) (fun i j ij hj => h.2.2 i j ij (by omega))
  have bn := bldV_n D.2.1 D.2.2.1 D.2.2.2.1 (fun j d => D.2.2.2.2.2.2 d j) k
  exact splt_of s (by rw [bn.1]; omega) (fun j j0 j1 => by
      obtain ⟨i, i0, i1, i2⟩ := m j j0 j1
      rw [i1, i2]
      exact cbf_tri (h.2.1 i (by omega)) (h.2.1 k hk) (h.2.2 i k i0 hk))
theorem t_X6_laysRead {mu : Mem} {D : PD} (eD : pdM mu = D) (hD : bD D) (gd : gD D) : Tr 3 mX6_laysRead [vr 55] mu (fun r m2 => r = none ∧ frc bgS mu m2 ∧ hW (sv m2) ∧ rsV D.2.1 (sv m2) = bldD D) := by
  refine Tr.of (by decide +kernel) (Nat.le_of_ble_eq_true rfl) (fun K C E => ?_)
  have n1 : mu 55 21 = D.1 := by rw [← eD]; rfl
  have n2 : mu 55 22 = D.2.1 := by rw [← eD]; rfl
  have hn := hD.1
  have hl := hD.2.1
  have hv : ∀ k : Nat, (k : Int) < D.1 → mu 60 k = D.2.2.1 k ∧ mu 61 k = D.2.2.2.1 k := fun k k1 => by
    rw [← eD]
    exact ⟨(cut1_at (i := (k : Int)) (by omega) (by rw [n1]; exact k1)).symm, (cut1_at (i := (k : Int)) (by omega) (by rw [n1]; exact k1)).symm⟩
  have hu : ∀ d k : Nat, (d : Int) < D.2.1 → (k : Int) < D.1 → mu 62 (12 * d + k) = D.2.2.2.2.2.2 d k := fun d k d1 k1 => by
    rw [← eD]
    show _ = cut2 (mu 55 22) 12 (fun d r => mu 62 (12 * d + r)) d k
    unfold cut2
    rw [if_pos ⟨by omega, by omega⟩]
  have outer : ∀ (q k : Nat) (m : Mem), (k : Int) + q = D.1 → frc bgS mu m → hW (sv m) → rsV D.2.1 (sv m) = bldV D.2.1 D.2.2.1 D.2.2.2.1 (fun j d => D.2.2.2.2.2.2 d j) k → ∀ v2 : Vv, AW K mX6_laysRead (NC, 0, 0) 7 [vr 55, vi (k : Int), v2] [] m := by
    intro q
    induction q with
    | zero =>
      intro k m q1 q2 q3 q4 v2
      have m21 : m 55 21 = D.1 := (q2 _ _ (by unfold bgS; omega)).trans n1
      refine aw_iload_n C dX6_laysRead_7 rfl ?_
      refine aw_aload_n C dX6_laysRead_8 rfl ?_
      refine aw_getI C dX6_laysRead_9 fX6_180 ⟨rfl, by decide⟩ rfl ?_
      refine aw_icmp_ge C dX6_laysRead_12 (tgt := 80) (by decide) ⟨by omega, by omega⟩ ⟨by omega, by omega⟩ (fun c1 => ?_) (fun c1 => ?_)
      · exact aw_vret C E dX6_laysRead_80 rfl ⟨rfl, q2, q3, by rw [q4]; unfold bldD; rw [show D.1.toNat = k by omega]⟩
      · exfalso; omega
    | succ q ih =>
      intro k m q1 q2 q3 q4 v2
      have kd : (k : Int) < D.1 := by omega
      have m21 : m 55 21 = D.1 := (q2 _ _ (by unfold bgS; omega)).trans n1
      have bn := (bldV_n D.2.1 D.2.2.1 D.2.2.2.1 (fun j d => D.2.2.2.2.2.2 d j) k).1
      rw [← q4] at bn
      have bn : (sv m).1 = k := bn
      have inner : ∀ (p : Nat) (d : Int) (m2 : Mem), 0 ≤ d → d + p = 6 → frc (fun a _ => a = 70) m m2 → (∀ e : Nat, (e : Int) < d → m2 70 e = if (e : Int) < D.2.1 then D.2.2.2.2.2.2 e k else 0) → AW K mX6_laysRead (NC, 0, 0) 17 [vr 55, vi (k : Int), vi d] [] m2 := by
        intro p
        induction p with
        | zero =>
          intro d m2 p1 p2 p3 p4
          have e6 : d = 6 := by omega
          subst e6
          have fr2 : frc bgS mu m2 := q2.tr (p3.mono (fun a b h => by unfold bgS; omega))
          have eS : sv m2 = sv m := sv_fr (p3 _ _ (by omega)) (fun x y h1 h2 => p3 x y (by omega))
          have e60 : m2 60 (k : Int).toNat = D.2.2.1 k := (fr2 _ _ (by unfold bgS; omega)).trans (hv k kd).1
          have e61 : m2 61 (k : Int).toNat = D.2.2.2.1 k := (fr2 _ _ (by unfold bgS; omega)).trans (hv k kd).2
          have bx := hD.2.2.1 k
          have by_ := hD.2.2.2.1 k
          have bn2 := hD.2.2.2.2.2.2
          have c70 : ∀ e : Nat, e < 6 → -20 ≤ m2 70 e ∧ m2 70 e ≤ 20 := fun e he => by
            rw [p4 e (by omega)]
            split
            · exact bn2 e k
            · omega
          refine aw_iload_n C dX6_laysRead_17 rfl ?_
          refine aw_bipush C dX6_laysRead_18 rfl ?_
          refine aw_icmp_ge C dX6_laysRead_20 (tgt := 58) (by decide) ⟨by omega, by omega⟩ ⟨by omega, by omega⟩ (fun c1 => ?_) (fun c1 => ?_)
          · refine aw_aload_n C dX6_laysRead_58 rfl ?_
            refine aw_aload_n C dX6_laysRead_59 rfl ?_
            refine aw_getS C dX6_laysRead_60 fX6_29 ⟨rfl, by decide⟩ rfl rfl (srf 55 17 60 (by decide)) ?_
            refine aw_iload_n C dX6_laysRead_63 rfl ?_
            refine aw_iald C dX6_laysRead_64 ⟨rfl, by decide⟩ (by decide) (by omega) (by omega) ?_
            rw [e60]
            refine aw_aload_n C dX6_laysRead_65 rfl ?_
            refine aw_getS C dX6_laysRead_66 fX6_32 ⟨rfl, by decide⟩ rfl rfl (srf 55 18 61 (by decide)) ?_
            refine aw_iload_n C dX6_laysRead_69 rfl ?_
            refine aw_iald C dX6_laysRead_70 ⟨rfl, by decide⟩ (by decide) (by omega) (by omega) ?_
            rw [e61]
            refine aw_call C dX6_laysRead_71 lX6_251 vX6_lays (t_X6_lays0 eS q3.1 ⟨by omega, by omega⟩ ⟨by omega, by omega⟩ (fun e he => ⟨by have := c70 e he; omega, by have := c70 e he; omega⟩)) rfl rfl rfl ⟨rfl, by decide⟩ rfl ⟨by decide, by decide⟩ (Nat.le_of_ble_eq_true rfl) (fun r2 mu2 hq2 => ?_)
            obtain ⟨rfl, f1, f2⟩ := hq2
            have f2 := (f2.resolve_left (fun w => w.1 ⟨by omega, ⟨by omega, by omega⟩, ⟨by omega, by omega⟩⟩)).2.1
            generalize mu2 = m3 at *
            show AW _ _ _ _ _ [] _
            refine aw_iinc C dX6_laysRead_74 rfl ?_
            refine aw_goto C dX6_laysRead_77 (tgt := 7) (by decide) ?_
            refine ih (k + 1) m3 (by omega) (fr2.tr (f1.mono lyS_b)) ?_ ?_ _
            · rw [f2, ins_cg (c2 := fun e => if (e : Int) < 6 then m2 70 e else 0) (fun d hd => by rw [q3.2.1] at hd; exact (if_pos hd).symm)]
              refine hW_ins q3 (by omega) (by omega) (by omega) (fun e => ?_)
              by_cases he : (e : Int) < 6
              · have := c70 e (by omega)
                rw [if_pos he]; unfold hld; omega
              · rw [if_neg he]; unfold hld; omega
            · have sp := gD_splt gd kd
              rw [← q4] at sp
              rw [f2, bp_pos sp, rs_ins (c2 := fun d => D.2.2.2.2.2.2 d k) q3.2.1 (by omega) (fun d hd => by rw [p4 d (by omega), if_pos hd]), q4]
              rfl
          · exfalso; omega
        | succ p ip =>
          intro d m2 p1 p2 p3 p4
          have m22 : m2 55 22 = D.2.1 := (p3 _ _ (by omega)).trans ((q2 _ _ (by unfold bgS; omega)).trans n2)
          have e62 : d < D.2.1 → m2 62 (12 * d + (k : Int)).toNat = D.2.2.2.2.2.2 d.toNat k := fun w => by
            rw [p3 _ _ (by omega), q2 _ _ (by unfold bgS; omega), show (12 * d + (k : Int)).toNat = 12 * d.toNat + k by omega]
            exact hu _ _ (by omega) kd
          have step : ∀ v : Int, (v = if d < D.2.1 then D.2.2.2.2.2.2 d.toNat k else 0) → AW K mX6_laysRead (NC, 0, 0) 17 [vr 55, vi (k : Int), vi (d + 1)] [] (wr m2 70 d.toNat v) := fun v hv => by
            refine ip (d + 1) _ (by omega) (by omega) (p3.w rfl) (fun e he => ?_)
            rw [wr_at]
            by_cases z : (e : Int) = d
            · rw [if_pos ⟨rfl, by omega⟩, hv, show d.toNat = e by omega, z]
            · rw [if_neg (by omega)]; exact p4 e (by omega)
          refine aw_iload_n C dX6_laysRead_17 rfl ?_
          refine aw_bipush C dX6_laysRead_18 rfl ?_
          refine aw_icmp_ge C dX6_laysRead_20 (tgt := 58) (by decide) ⟨by omega, by omega⟩ ⟨by omega, by omega⟩ (fun c1 => ?_) (fun c1 => ?_)
          · exfalso; omega
          · refine aw_aload_n C dX6_laysRead_23 rfl ?_
            refine aw_getS C dX6_laysRead_24 fX6_59 ⟨rfl, by decide⟩ rfl rfl (srf 55 34 70 (by decide)) ?_
            refine aw_iload_n C dX6_laysRead_27 rfl ?_
            refine aw_iload_n C dX6_laysRead_28 rfl ?_
            refine aw_aload_n C dX6_laysRead_29 rfl ?_
            refine aw_getI C dX6_laysRead_30 fX6_187 ⟨rfl, by decide⟩ rfl ?_
            refine aw_icmp_ge C dX6_laysRead_33 (tgt := 50) (by decide) ⟨by omega, by omega⟩ ⟨by omega, by omega⟩ (fun c2 => ?_) (fun c2 => ?_)
            · --go
              refine aw_iconst C dX6_laysRead_50 ?_
              refine aw_iast C dX6_laysRead_51 ⟨rfl, by decide⟩ (by decide) (by omega) (by omega) ?_
              refine aw_iinc C dX6_laysRead_52 rfl ?_
              refine aw_goto C dX6_laysRead_55 (tgt := 17) (by decide) ?_
              exact step 0 (by rw [if_neg (by omega)])
            · --go
              refine aw_aload_n C dX6_laysRead_36 rfl ?_
              refine aw_getS C dX6_laysRead_37 fX6_35 ⟨rfl, by decide⟩ rfl rfl (srf 55 19 62 (by decide)) ?_
              refine aw_bipush C dX6_laysRead_40 rfl ?_
              refine aw_iload_n C dX6_laysRead_42 rfl ?_
              refine aw_imul C dX6_laysRead_43 ?_
              refine aw_iload_n C dX6_laysRead_44 rfl ?_
              refine aw_iadd C dX6_laysRead_45 ?_
              refine aw_iald C dX6_laysRead_46 ⟨rfl, by decide⟩ (by decide) (by omega) (by omega) ?_
              refine aw_goto C dX6_laysRead_47 (tgt := 51) (by decide) ?_
              refine aw_iast C dX6_laysRead_51 ⟨rfl, by decide⟩ (by decide) (by omega) (by omega) ?_
              refine aw_iinc C dX6_laysRead_52 rfl ?_
              refine aw_goto C dX6_laysRead_55 (tgt := 17) (by decide) ?_
              exact step _ (by rw [e62 (by omega), if_pos (by omega)])
      refine aw_iload_n C dX6_laysRead_7 rfl ?_
      refine aw_aload_n C dX6_laysRead_8 rfl ?_
      refine aw_getI C dX6_laysRead_9 fX6_180 ⟨rfl, by decide⟩ rfl ?_
      refine aw_icmp_ge C dX6_laysRead_12 (tgt := 80) (by decide) ⟨by omega, by omega⟩ ⟨by omega, by omega⟩ (fun c1 => ?_) (fun c1 => ?_)
      · exfalso; omega
      · refine aw_iconst C dX6_laysRead_15 ?_
        refine aw_istore_n C dX6_laysRead_16 (by decide) ?_
        exact inner 6 0 m (by omega) (by omega) frc.rf (fun e he => by omega)
  refine aw_aload_n C dX6_laysRead_0 rfl ?_
  refine aw_iconst C dX6_laysRead_1 ?_
  refine aw_putI C dX6_laysRead_2 fX6_224 ⟨rfl, by decide⟩ rfl rfl rfl ?_
  refine aw_iconst C dX6_laysRead_5 ?_
  refine aw_istore_n C dX6_laysRead_6 (by decide) ?_
  have e0 : sv (wr mu 55 31 0) = (0, 6, fun _ => 0, fun _ => 0, fun _ _ => 0) := by
    unfold sv
    rw [show wr mu 55 31 0 55 31 = 0 by rw [wr_at, if_pos ⟨rfl, rfl⟩]]
    refine congrArg _ (congrArg _ (congr (congrArg _ ?_) (congr (congrArg _ ?_) ?_)))
    · funext j; unfold cut1; rw [if_neg (by omega)]
    · funext j; unfold cut1; rw [if_neg (by omega)]
    · funext d j; unfold cut2; rw [if_neg (by omega)]
  refine outer D.1.toNat 0 _ (by omega) (frc.rf.w (by unfold bgS; omega)) ?_ ?_ _
  · rw [e0]
    exact ⟨⟨⟨by show (0 : Int) ≤ 0; decide, by show (0 : Int) ≤ 24; decide⟩, fun _ => ⟨by show -60 ≤ (0 : Int); decide, by show (0 : Int) ≤ 60; decide⟩, fun _ => ⟨by show -60 ≤ (0 : Int); decide, by show (0 : Int) ≤ 60; decide⟩⟩, rfl, fun _ _ => by show hld 0; unfold hld; omega⟩
  · rw [e0]
    unfold rsV bldV
    refine congrArg _ (congrArg _ (congrArg _ (congrArg _ ?_)))
    funext d j
    split <;> rfl

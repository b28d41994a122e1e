/-! what holds between two calls of the law -/
def cd (c : Int) : Prop := (0 ≤ c ∧ c ≤ 5) ∧ c ≠ 4
def Iv (mu : Mem) (V : FV) (a : Int) (H : Nat → FV) : Prop := cSt mu V a H ∧ mSt mu V a H ∧ srt V ∧ (∀ j : Nat, (j : Int) < a → srt (H j)) ∧ (∀ j : Nat, mu 6 j = sby (mu 56 j) ∧ 0 ≤ mu 56 j ∧ mu 56 j < 256) ∧ (mu 1 4 = mu 55 4 ∧ 0 ≤ mu 55 4 ∧ mu 55 4 ≤ 500) ∧ (∀ d : Nat, (d : Int) < V.2.1 → mu 13 d = mu 59 d ∧ 0 ≤ mu 59 d ∧ mu 59 d < 1073741824) ∧ mu 0 9 = mu 55 7 ∧ (mu 0 11 = mu 55 1 ∧ 0 ≤ mu 55 1 ∧ mu 55 1 ≤ 5) ∧ mu 55 2 = (if mu 0 11 = 4 then mu 0 10 else -1) ∧ nbM mu
/-- what is not heeded when a memory changes between calls -/
def Ik : Nat → Nat → Prop := fun x y => (x = 0 ∧ 5 ≤ y ∧ y ≤ 11) ∨ (x = 1 ∧ y = 4) ∨ x = 6 ∨ (13 ≤ x ∧ x ≤ 54) ∨ (x = 55 ∧ (y = 1 ∨ y = 2 ∨ y = 4 ∨ y = 7 ∨ y = 9 ∨ y = 12 ∨ y = 29 ∨ y = 30 ∨ y = 32 ∨ y = 39)) ∨ x = 56 ∨ x = 59 ∨ (64 ≤ x ∧ x ≤ 66) ∨ (71 ≤ x ∧ x ≤ 74)
theorem Iv.fr {mu m : Mem} {V : FV} {a : Int} {H : Nat → FV} (I : Iv mu V a H) (h : ∀ x y, Ik x y → m x y = mu x y) : Iv m V a H := by
  obtain ⟨i1, i2, i3, i4, i5, i6, i7, i8, i9, i10, i11⟩ := I
  have k : ∀ x y, (x = 0 ∧ 5 ≤ y ∧ y ≤ 11) ∨ (x = 1 ∧ y = 4) ∨ x = 6 ∨ (13 ≤ x ∧ x ≤ 54) ∨ (x = 55 ∧ (y = 1 ∨ y = 2 ∨ y = 4 ∨ y = 7 ∨ y = 9 ∨ y = 12 ∨ y = 29 ∨ y = 30 ∨ y = 32 ∨ y = 39)) ∨ x = 56 ∨ x = 59 ∨ (64 ≤ x ∧ x ≤ 66) ∨ (71 ≤ x ∧ x ≤ 74) → m x y = mu x y := h
  refine ⟨cSt_ag i1 (fun x y w => k x y (by omega)), mSt_fr i2 (fun x y w => k x y (by unfold kpM2 at w; omega)), i3, i4, fun j => ?_, ?_, fun d hd => ?_, ?_, ?_, ?_, ?_⟩
  · rw [k 6 j (by omega), k 56 j (by omega)]; exact i5 j
  · rw [k 1 4 (by omega), k 55 4 (by omega)]; exact i6
  · rw [k 13 d (by omega), k 59 d (by omega)]; exact i7 d hd
  · rw [k 0 9 (by omega), k 55 7 (by omega)]; exact i8
  · rw [k 0 11 (by omega), k 55 1 (by omega)]; exact i9
  · rw [k 0 11 (by omega), k 0 10 (by omega), k 55 2 (by omega)]; exact i10
  · unfold nbM
    rw [k 55 12 (by omega), k 55 9 (by omega)]; exact i11
theorem Iv.t {mu : Mem} {V : FV} {a : Int} {H : Nat → FV} (I : Iv mu V a H) : Iv (wr mu 55 0 0) V a H := I.fr (fun x y w => by unfold Ik at w; rw [wr_at, if_neg (by omega)])
/-- questions -/
theorem Iv.qm {mu m1 : Mem} {V : FV} {a c : Int} {H : Nat → FV} (I : Iv mu V a H) (h1 : cE mu m1 c) : mF m1 V ∧ m1 55 39 = a := by
  have S := mSt_fr (m := m1) I.2.1 (fun x y w => h1.1 x y (fun q => by unfold kpM2 at w; unfold qS at q; omega))
  exact ⟨S.1, S.2.1⟩
theorem Iv.q {mu m1 m2 : Mem} {V : FV} {a c : Int} {H : Nat → FV} (I : Iv mu V a H) (hc : cd c) (h1 : cE mu m1 c) (h2 : mE m1 m2 c) : Iv m2 V a H := by
  obtain ⟨i1, i2, i3, i4, i5, i6, i7, i8, i9, i10, i11⟩ := I
  obtain ⟨g0, g1, g2, g3⟩ := h2
  have k : ∀ x y, ¬ ((x = 0 ∧ y = 11) ∨ (8 ≤ x ∧ x ≤ 12)) → ¬ (x = 55 ∧ (y = 0 ∨ y = 1 ∨ y = 2 ∨ y = 40 ∨ y = 41)) → m2 x y = mu x y := fun x y w1 w2 => (g0 x y w2).trans (h1.1 x y w1)
  have e11 : m2 0 11 = c := (g0 0 11 (fun w => by unfold mS at w; omega)).trans h1.2
  refine ⟨cSt_ag i1 (fun x y w => k x y (by omega) (by omega)), mSt_fr i2 (fun x y w => k x y (by unfold kpM2 at w; omega) (by unfold kpM2 at w; omega)), i3, i4, fun j => ?_, ?_, fun d hd => ?_, ?_, ?_, ?_, ?_⟩
  · rw [k 6 j (by omega) (by omega), k 56 j (by omega) (by omega)]; exact i5 j
  · rw [k 1 4 (by omega) (by omega), k 55 4 (by omega) (by omega)]; exact i6
  · rw [k 13 d (by omega) (by omega), k 59 d (by omega) (by omega)]; exact i7 d hd
  · rw [k 0 9 (by omega) (by omega), k 55 7 (by omega) (by omega)]; exact i8
  · rw [e11, g2]; exact ⟨rfl, hc.1⟩
  · rw [e11, g3, if_neg hc.2]
  · unfold nbM
    rw [k 55 12 (by omega) (by omega), k 55 9 (by omega) (by omega)]; exact i11
theorem mE_g0 {m : Mem} {c : Int} : mE m (gd (wr m 55 0 0) c) c := mE_gd frc.rf
/-- acts -/
theorem mSt.ld {mu : Mem} {V : FV} {a : Int} {H : Nat → FV} (S : mSt mu V a H) {j : Nat} (hj : (j : Int) < a) : (H j).2.1 = V.2.1 := by
  rw [← S.2.2.1 j hj, ← S.1.1]
  rfl
theorem Iv.am {mu m1 : Mem} {V : FV} {a : Int} {H : Nat → FV} (I : Iv mu V a H) (h1 : afr mu m1) : mSt m1 V a H ∧ (0 ≤ a ∧ a ≤ 8) ∧ (∀ j : Nat, (j : Int) < a → gV (H j) ∧ 0 < (H j).1) ∧ ∀ j : Nat, (j : Int) < a → bV (H j) :=
  ⟨mSt_fr I.2.1 (fun x y w => h1 x y (by unfold kpM2 at w; omega)), I.1.2.2.2.2.1, fun j hj => (I.1.2.2.2.2.2.2 j hj).2, fun j hj => (I.1.2.2.2.2.2.2 j hj).2.1.1⟩
theorem Iv.x {mu m1 m2 : Mem} {V W : FV} {a a2 c : Int} {H H2 : Nat → FV} (I : Iv mu V a H) (hc : cd c) (f1 : afr mu m1) (e1 : m1 0 11 = c) (f2 : mfr m1 m2) (e2 : m2 55 1 = c ∧ m2 55 2 = -1) (S1 : cSt m1 W a2 H2) (S2 : mSt m2 W a2 H2) (hl : W.2.1 = V.2.1) (hs : srt W) (hh : ∀ j : Nat, (j : Int) < a2 → srt (H2 j)) : Iv m2 W a2 H2 := by
  obtain ⟨i1, i2, i3, i4, i5, i6, i7, i8, i9, i10, i11⟩ := I
  have k : ∀ x y, (x = 0 ∧ (y = 9 ∨ y = 10)) ∨ (1 ≤ x ∧ x ≤ 7) ∨ x = 13 ∨ x = 56 ∨ x = 59 ∨ (x = 55 ∧ (y = 4 ∨ y = 7 ∨ y = 9 ∨ y = 12)) → m2 x y = mu x y := fun x y w => (f2 x y (by omega)).trans (f1 x y (by omega))
  have e11 : m2 0 11 = c := (f2 0 11 (by omega)).trans e1
  refine ⟨cSt_ag S1 (fun x y w => f2 x y (by omega)), S2, hs, hh, fun j => ?_, ?_, fun d hd => ?_, ?_, ?_, ?_, ?_⟩
  · rw [k 6 j (by omega), k 56 j (by omega)]; exact i5 j
  · rw [k 1 4 (by omega), k 55 4 (by omega)]; exact i6
  · rw [k 13 d (by omega), k 59 d (by omega)]; exact i7 d (by rw [← hl]; exact hd)
  · rw [k 0 9 (by omega), k 55 7 (by omega)]; exact i8
  · rw [e11, e2.1]; exact ⟨rfl, hc.1⟩
  · rw [e11, e2.2, if_neg hc.2]
  · unfold nbM
    rw [k 55 12 (by omega), k 55 9 (by omega)]; exact i11
theorem Iv.a {mu m1 m2 : Mem} {V W : FV} {a c : Int} {H : Nat → FV} (I : Iv mu V a H) (hc : cd c) (h1 : actR mu m1 V a H c W) (h2 : mAct m1 m2 V a H c W) (hs : c = 0 → srt W) : ∃ V2 a2 H2, Iv m2 V2 a2 H2 := by
  obtain ⟨e1, f1, s1, n1⟩ := h1
  obtain ⟨e2, f2, s2, n2⟩ := h2
  have ha := I.1.2.2.2.2.1
  by_cases z : c = 0
  · have S2 := s2 z
    refine ⟨W, min 8 (a + 1), psh V H, I.x hc f1 e1 f2 e2.2 (s1 z) S2 ?_ (hs z) (fun j hj => ?_)⟩
    · exact (S2.ld (j := 0) (by omega)).symm
    · unfold psh
      by_cases h0 : j = 0
      · rw [if_pos h0]; exact I.2.2.1
      · rw [if_neg h0]; exact I.2.2.2.1 (j - 1) (by omega)
  · exact ⟨V, a, H, I.x hc f1 e1 f2 e2.2 (n1 z) (n2 z) rfl I.2.2.1 I.2.2.2.1⟩
theorem qUn_c (V : FV) (a : Int) : cd (qUn V a).2 := by
  unfold qUn cd
  (repeat' split) <;> ((try dsimp only); omega)
theorem Iv.u {mu m1 m2 : Mem} {V : FV} {a : Int} {H : Nat → FV} (I : Iv mu V a H) (e1 : m1 0 11 = (qUn V a).2) (f1 : afr mu m1) (s1 : (qUn V a).2 = 0 → cSt m1 (H 0) (a - 1) (fun j => H (j + 1))) (n1 : (qUn V a).2 ≠ 0 → cSt m1 V a H) (e2 : m2 55 0 = 0 ∧ m2 55 1 = (qUn V a).2 ∧ m2 55 2 = -1) (f2 : mfr m1 m2) (s2 : (qUn V a).2 = 0 → mSt m2 (H 0) (a - 1) (fun j => H (j + 1))) (n2 : (qUn V a).2 ≠ 0 → mSt m2 V a H) : ∃ V2 a2 H2, Iv m2 V2 a2 H2 := by
  have ha := I.1.2.2.2.2.1
  by_cases z : (qUn V a).2 = 0
  · have h0 : 0 < a := by
      unfold qUn at z
      split at z
      · dsimp only at z; omega
      · split at z
        · dsimp only at z; omega
        · omega
    exact ⟨H 0, a - 1, fun j => H (j + 1), I.x (qUn_c V a) f1 e1 f2 e2.2 (s1 z) (s2 z) (I.2.1.ld (j := 0) h0) (I.2.2.2.1 0 h0) (fun j hj => I.2.2.2.1 (j + 1) (by omega))⟩
  · exact ⟨V, a, H, I.x (qUn_c V a) f1 e1 f2 e2.2 (n1 z) (n2 z) rfl I.2.2.1 I.2.2.2.1⟩
/-- a text is read -/
theorem fnP_m {mu m1 : Mem} {V : FV} {a n : Int} {H : Nat → FV} {r : Option Vv} (h : fnPost mu m1 V a H n r) : ∀ x y, x = 6 ∨ 55 ≤ x → m1 x y = mu x y := by
  rcases h with ⟨-, -, rfl⟩ | ⟨-, h, -⟩
  · exact fun x y w => by rw [wr_at, if_neg (by omega)]
  · exact h
theorem Iv.fn {mu m1 m2 : Mem} {V : FV} {a n : Int} {H : Nat → FV} {r r2 : Option Vv} (I : Iv mu V a H) (h1 : fnPost mu m1 V a H n r) (h2 : mfP m1 m2 V a H (mu 6) n r2) : r2 = r ∧ (∃ x, r = some (vi x)) ∧ ∃ V2 a2 H2, Iv m2 V2 a2 H2 := by
  obtain ⟨i1, i2, i3, i4, i5, i6, i7, i8, i9, i10, i11⟩ := I
  have fm := fnP_m h1
  have e4 : m1 55 4 = mu 1 4 := by rw [fm 55 4 (by omega)]; exact i6.1.symm
  rcases h1 with ⟨z1, rfl, rfl⟩ | ⟨z1, fr1, u1, t1, p1, t5, p5, h1⟩
  · rcases h2 with ⟨z2, rfl, rfl⟩ | ⟨z2, -⟩
    · refine ⟨rfl, ⟨_, rfl⟩, V, a, H, ?_⟩
      have I : Iv mu V a H := ⟨i1, i2, i3, i4, i5, i6, i7, i8, i9, i10, i11⟩
      exact I.q (c := 2) ⟨by omega, by omega⟩ cE_w mE_g0
    · exfalso; rw [e4] at z2; exact z2 z1
  · rcases h2 with ⟨z2, -, -⟩ | ⟨z2, fr2, u2, t2, w2, nb, h2⟩
    · exfalso; rw [e4] at z2; exact z1 z2
    · have k6 : ∀ j, m2 6 j = mu 6 j := fun j => (fr2 6 j (by omega)).trans (fr1 6 j (by omega))
      have k56 : ∀ j, m2 56 j = mu 56 j := fun j => (fr2 56 j (by omega)).trans (fr1 56 j (by omega))
      have k9 : m2 0 9 = m2 55 7 := by rw [fr2 0 9 (by omega), t1, w2]
      rcases h1 with ⟨y1, rfl, b1, c1, d1⟩ | ⟨y1, rfl, b1, c1, bd, e1, cl, d1⟩
      · rcases h2 with ⟨y2, rfl, b2, p2, c2, d2⟩ | ⟨y2, -⟩
        · refine ⟨rfl, ⟨_, rfl⟩, V, a, H, cSt_ag c1 (fun x y w => fr2 x y (by omega)), c2, i3, i4, fun j => ?_, ?_, fun d hd => ?_, k9, ?_, ?_, nb⟩
          · rw [k6, k56]; exact i5 j
          · rw [fr2 1 4 (by omega), u1, u2]; exact ⟨rfl, by omega, by omega⟩
          · rw [fr2 13 d (by omega), d1, d2, fr1 59 d (by omega)]; exact i7 d hd
          · rw [fr2 0 11 (by omega), b1, b2]; exact ⟨rfl, by omega, by omega⟩
          · rw [fr2 0 11 (by omega), b1, if_pos rfl, fr2 0 10 (by omega), p1, p2]
        · exact absurd y2 y1
      · rcases h2 with ⟨y2, -⟩ | ⟨y2, rfl, b2, p2, c2, s2, d2⟩
        · exact absurd y1 y2
        · refine ⟨rfl, ⟨_, rfl⟩, _, 0, H, cSt_ag c1 (fun x y w => fr2 x y (by omega)), c2, s2, fun j hj => by omega, fun j => ?_, ?_, fun d hd => ?_, k9, ?_, ?_, nb⟩
          · rw [k6, k56]; exact i5 j
          · rw [fr2 1 4 (by omega), u1, u2]; exact ⟨rfl, by omega, by omega⟩
          · have hd2 : (d : Int) < (pAl (mu 6) n 501 0 D0).2.2.2.1 := by
              have := (bldV_n (pAl (mu 6) n 501 0 D0).2.2.2.1 (pAl (mu 6) n 501 0 D0).2.2.2.2.1 (pAl (mu 6) n 501 0 D0).2.2.2.2.2.1 (fun j d => (pAl (mu 6) n 501 0 D0).2.2.2.2.2.2.2.2 d j) (pAl (mu 6) n 501 0 D0).2.2.1.toNat).2
              rw [← this]; exact hd
            rw [fr2 13 d (by omega), d1 d hd2, d2 d hd2]
            exact ⟨rfl, bd.2.2.2.2.2.1 d⟩
          · rw [fr2 0 11 (by omega), b1, b2]; exact ⟨rfl, by omega, by omega⟩
          · rw [fr2 0 11 (by omega), b1, if_neg (by omega), p2]
/-- a text is fed -/
theorem byt_b (x : Int) (k : Nat) : 0 ≤ byt x k ∧ byt x k < 256 := by
  unfold byt
  exact ⟨Int.emod_nonneg _ (by decide), Int.emod_lt_of_pos _ (by decide)⟩
theorem Iv.fd {mu : Mem} {V : FV} {a : Int} {H : Nat → FV} {u x1 x2 x3 x4 x5 : Int} (I : Iv mu V a H) (hu : mu 1 4 = u) (h : u + 20 ≤ 500) : Iv (wr (mfd (apF mu u x1 x2 x3 x4 x5) u x1 x2 x3 x4 x5 20) 55 4 (u + 20)) V a H := by
  obtain ⟨i1, i2, i3, i4, i5, i6, i7, i8, i9, i10, i11⟩ := I
  have k : ∀ x y, x ≠ 6 → x ≠ 56 → ¬ (x = 1 ∧ y = 4) → ¬ (x = 55 ∧ (y = 0 ∨ y = 4)) → (wr (mfd (apF mu u x1 x2 x3 x4 x5) u x1 x2 x3 x4 x5 20) 55 4 (u + 20)) x y = mu x y := fun x y h1 h2 h3 h4 => by
    rw [wr_at, if_neg (by omega)]
    unfold mfd
    rw [if_neg (by omega), if_neg (by omega)]
    unfold apF
    rw [if_neg (by omega), if_neg (by omega)]
  have k6 : ∀ j : Nat, (wr (mfd (apF mu u x1 x2 x3 x4 x5) u x1 x2 x3 x4 x5 20) 55 4 (u + 20)) 6 j = if u ≤ (j : Int) ∧ (j : Int) < u + 20 then sby (byt (wd5 x1 x2 x3 x4 x5 ((j : Int) - u).toNat) (24 - 8 * (((j : Int) - u).toNat % 4))) else mu 6 j := fun j => by
    rw [wr_at, if_neg (by omega)]
    unfold mfd
    rw [if_neg (by omega), if_neg (by omega)]
    unfold apF
    rw [if_neg (by omega)]
    by_cases w : u ≤ (j : Int) ∧ (j : Int) < u + 20
    · rw [if_pos ⟨rfl, w⟩, if_pos w]
    · rw [if_neg (fun z => w z.2), if_neg w]
  have k56 : ∀ j : Nat, (wr (mfd (apF mu u x1 x2 x3 x4 x5) u x1 x2 x3 x4 x5 20) 55 4 (u + 20)) 56 j = if u ≤ (j : Int) ∧ (j : Int) < u + 20 then byt (wd5 x1 x2 x3 x4 x5 ((j : Int) - u).toNat) (24 - 8 * (((j : Int) - u).toNat % 4)) else mu 56 j := fun j => by
    rw [wr_at, if_neg (by omega)]
    unfold mfd
    rw [if_neg (by omega)]
    by_cases w : u ≤ (j : Int) ∧ (j : Int) < u + 20
    · rw [if_pos ⟨rfl, w.1, by omega⟩, if_pos w]
    · rw [if_neg (fun z => w ⟨z.2.1, by have := z.2.2; omega⟩), if_neg w]
      unfold apF
      rw [if_neg (by omega), if_neg (by omega)]
  have k14 : (wr (mfd (apF mu u x1 x2 x3 x4 x5) u x1 x2 x3 x4 x5 20) 55 4 (u + 20)) 1 4 = u + 20 := by
    rw [wr_at, if_neg (by omega)]
    unfold mfd
    rw [if_neg (by omega), if_neg (by omega)]
    unfold apF
    rw [if_pos ⟨rfl, rfl⟩]
  have k54 : (wr (mfd (apF mu u x1 x2 x3 x4 x5) u x1 x2 x3 x4 x5 20) 55 4 (u + 20)) 55 4 = u + 20 := by rw [wr_at, if_pos ⟨rfl, rfl⟩]
  generalize wr (mfd (apF mu u x1 x2 x3 x4 x5) u x1 x2 x3 x4 x5 20) 55 4 (u + 20) = m at *
  refine ⟨cSt_ag i1 (fun x y w => k x y (by omega) (by omega) (by omega) (by omega)), mSt_fr i2 (fun x y w => by unfold kpM2 at w; exact k x y (by omega) (by omega) (by omega) (by omega)), i3, i4, fun j => ?_, ?_, fun d hd => ?_, ?_, ?_, ?_, ?_⟩
  · rw [k6, k56]
    split
    · exact ⟨rfl, byt_b _ _⟩
    · exact i5 j
  · rw [k14, k54]; exact ⟨rfl, by omega, by omega⟩
  · rw [k 13 d (by omega) (by omega) (by omega) (by omega), k 59 d (by omega) (by omega) (by omega) (by omega)]; exact i7 d hd
  · rw [k 0 9 (by omega) (by omega) (by omega) (by omega), k 55 7 (by omega) (by omega) (by omega) (by omega)]; exact i8
  · rw [k 0 11 (by omega) (by omega) (by omega) (by omega), k 55 1 (by omega) (by omega) (by omega) (by omega)]; exact i9
  · rw [k 0 11 (by omega) (by omega) (by omega) (by omega), k 55 2 (by omega) (by omega) (by omega) (by omega), k 0 10 (by omega) (by omega) (by omega) (by omega)]; exact i10
  · unfold nbM
    rw [k 55 12 (by omega) (by omega) (by omega) (by omega), k 55 9 (by omega) (by omega) (by omega) (by omega)]; exact i11
/-- the codes -/
theorem qAb_c (V : FV) (a w : Int) : cd (qAb V a w).2 := by unfold qAb cd; (repeat' split) <;> ((try dsimp only); omega)
theorem qMs_c (V : FV) : cd (qMs V).2 := by unfold qMs mcd cd; (repeat' split) <;> ((try dsimp only); first | omega | (split <;> omega))
theorem qRy_c (V : FV) (a w : Int) : cd (qRy V a w).2 := by unfold qRy cd; (repeat' split) <;> ((try dsimp only); omega)
theorem qCh_c (V : FV) (a w : Int) : cd (qCh V a w).2 := by unfold qCh cd; (repeat' split) <;> ((try dsimp only); omega)
theorem qCo_c (V : FV) (a w : Int) : cd (qCo V a w).2 := by unfold qCo cd; (repeat' split) <;> ((try dsimp only); omega)
theorem qLd_c (V : FV) (a w : Int) : cd (qLd V a w).2 := by unfold qLd cd; (repeat' split) <;> ((try dsimp only); omega)
theorem qFn_c (V : FV) (d x y w : Int) : cd (qFn V d x y w).2 := by unfold qFn cd; (repeat' split) <;> ((try dsimp only); omega)
theorem qPc_c (V : FV) (d i w : Int) : cd (qPc V d i w).2 := by unfold qPc cd; (repeat' split) <;> ((try dsimp only); omega)
theorem qBr_c (V : FV) (d : Int) : cd (qBr V d).2 := by unfold qBr cd; (repeat' split) <;> ((try dsimp only); omega)
theorem qBe_c (V : FV) (d : Int) : cd (qBe V d).2 := by unfold qBe cd; (repeat' split) <;> ((try dsimp only); omega)
theorem qAl_c (V : FV) (d e : Int) : cd (qAl V d e).2 := by unfold qAl cd; (repeat' split) <;> ((try dsimp only); omega)
theorem qMt_c (V : FV) (d e : Int) : cd (qMt V d e).2 := by unfold qMt cd; (repeat' split) <;> ((try dsimp only); omega)
theorem qTo_c (V : FV) (d e : Int) : cd (qTo V d e).2 := by unfold qTo cd; (repeat' split) <;> ((try dsimp only); omega)
theorem qRs_c (V : FV) (d e : Int) : cd (qRs V d e).2 := by unfold qRs cd; (repeat' split) <;> ((try dsimp only); omega)
theorem qPo_c (V : FV) (d k z : Int) : cd (qPo V d k z).2 := by unfold qPo cd; (repeat' split) <;> ((try dsimp only); omega)
theorem qPt_c (V : FV) (d k i w : Int) : cd (qPt V d k i w).2 := by unfold qPt cd; (repeat' split) <;> ((try dsimp only); omega)
theorem qNd_c (V : FV) (d n : Int) : cd (qNd V d n).2 := by unfold qNd cd; (repeat' split) <;> ((try dsimp only); omega)
theorem qSe_c (V : FV) (d i v : Int) : cd (qSe V d i v).2 := by unfold qSe cd; (repeat' split) <;> ((try dsimp only); omega)
theorem qFi_c (V : FV) (d v : Int) : cd (qFi V d v).2 := by unfold qFi cd; (repeat' split) <;> ((try dsimp only); omega)
theorem qAd_c (V : FV) (d e t : Int) : cd (qAd V d e t).2 := by unfold qAd cd; (repeat' split) <;> ((try dsimp only); omega)
theorem qSh_c (V : FV) (d e t : Int) : cd (qSh V d e t).2 := by unfold qSh cd; (repeat' split) <;> ((try dsimp only); omega)
theorem qSt_c (V : FV) (i : Int) : cd (qSt V i).2 := by unfold qSt cd; (repeat' split) <;> ((try dsimp only); omega)
theorem qCu_c (V : FV) (i : Int) : cd (qCu V i).2 := by unfold qCu cd; (repeat' split) <;> ((try dsimp only); omega)
theorem qCa_c (V : FV) : cd (qCa V).2 := by unfold qCa cd; (repeat' split) <;> ((try dsimp only); omega)
theorem qDr_c (V : FV) (i : Int) : cd (qDr V i).2 := by unfold qDr cd; (repeat' split) <;> ((try dsimp only); omega)
theorem qLn_c (V : FV) : cd (qLn V).2 := by unfold qLn cd; (repeat' split) <;> ((try dsimp only); omega)
/-- the order of the rays behind an act -/
theorem srt_setN {V : FV} (hs : srt V) (d : Nat) (u : Nat → Int) : srt (setN V d u) := fun i j i0 ij j1 => hs i j i0 ij j1
theorem srt_wSt {V : FV} (hg : gV V) (hs : srt V) {i : Int} (h : (qSt V i).2 = 0) : srt (wSt V i) := by
  unfold qSt at h
  split at h
  · exact absurd h (by decide)
  · rename_i c1
    have c1 : 0 ≤ i ∧ i < V.1 := Classical.not_not.mp c1
    split at h
    · rename_i c2
      rcases hg.2 with z | z
      · omega
      · exact (st_good ⟨hg.1, z.1, z.2, hs⟩ c1.1 c1.2 (b01_iff.mp c2)).2.2.2.2
    · exact absurd h (by decide)
theorem srt_wCu {V : FV} (hg : gV V) (hs : srt V) {i : Int} (h : (qCu V i).2 = 0) : srt (wCu V i) := by
  unfold qCu at h
  split at h
  · exact absurd h (by decide)
  · rename_i c1
    have c1 : 0 ≤ i ∧ i < V.1 := Classical.not_not.mp c1
    rcases hg.2 with z | z
    · omega
    · exact (cutV_r hg.1 z.1 z.2 ⟨hg.1, z.1, z.2, hs⟩ rfl c1.1 c1.2 (adj_n c1.1 c1.2)).1.2.2.2
theorem srt_wCa {V : FV} (hg : gV V) (hs : srt V) (h : (qCa V).2 = 0) : srt (wCa V) := by
  unfold qCa at h
  split at h
  · exact absurd h (by decide)
  · rename_i c1
    have c1 : 0 < V.1 := Classical.not_not.mp c1
    rcases hg.2 with z | z
    · omega
    · have o : oV V := ⟨hg.1, z.1, z.2, hs⟩
      exact (caP_r o V.1.toNat 0 V (by omega) (by omega) (CA.start o)).1.2.2.2
theorem srt_wDr {V : FV} (hs : srt V) {i : Int} (h : (qDr V i).2 = 0) : srt (wDr V i) := by
  unfold qDr at h
  split at h
  · exact absurd h (by decide)
  · rename_i c1
    have c1 : 0 ≤ i ∧ i < V.1 := Classical.not_not.mp c1
    exact srt_rem hs c1.1 c1.2
theorem srt_lnV : ∀ (k : Nat) (V : FV) (w : Int), srt V → srt (lnV k V w).1
  | 0, V, w, hs => hs
  | k + 1, V, w, hs => by
    have e : lnV (k + 1) V w = if fli V = -1 then (V, w) else lnV k (remV V (fli V).toNat) (w + 1) := rfl
    rw [e]
    split
    · exact hs
    · rename_i c
      refine srt_lnV k _ _ ?_
      have hfl := fst_in2 (P := lit V) V.1.toNat 0
      have hfe : fli V = fst (lit V) (-1) V.1.toNat 0 := rfl
      rw [← hfe] at hfl
      rcases hfl with z | z
      · exact absurd z c
      · exact srt_rem hs (by omega) (by omega)
theorem srt_wLn {V : FV} (hs : srt V) : srt (wLn V) := srt_lnV 24 V 0 hs

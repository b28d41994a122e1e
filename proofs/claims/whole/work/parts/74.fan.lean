/-! two whole rays that are not the same stand one ahead of the other -/
theorem par_eq {a b c d : Int} (h1 : Int.gcd a b = 1) (h2 : Int.gcd c d = 1) (hx : a * d - b * c = 0) (hh : hlf a b ↔ hlf c d) : a = c ∧ b = d := by
  obtain ⟨s, t, e⟩ := bez h1
  have nz : ¬ (a = 0 ∧ b = 0) := fun w => by rw [w.1, w.2] at h1; exact absurd h1 (by decide)
  have ec : c = (s * c + t * d) * a := by
    have : c * (s * a + t * b) = (s * c + t * d) * a := by
      rw [Int.mul_add, Int.add_mul]
      have e1 : c * (t * b) = t * (b * c) := by rw [Int.mul_left_comm, Int.mul_comm c b]
      have e2 : t * d * a = t * (a * d) := by rw [Int.mul_assoc, Int.mul_comm d a]
      have e3 : c * (s * a) = s * c * a := by rw [← Int.mul_assoc, Int.mul_comm c s]
      rw [e1, e2, e3, show b * c = a * d by omega]
    rw [e, Int.mul_one] at this
    exact this
  have ed : d = (s * c + t * d) * b := by
    have : d * (s * a + t * b) = (s * c + t * d) * b := by
      rw [Int.mul_add, Int.add_mul]
      have e1 : d * (s * a) = s * (a * d) := by rw [Int.mul_left_comm, Int.mul_comm d a]
      have e2 : s * c * b = s * (b * c) := by rw [Int.mul_assoc, Int.mul_comm c b]
      have e3 : d * (t * b) = t * d * b := by rw [← Int.mul_assoc, Int.mul_comm d t]
      rw [e1, e2, e3, show b * c = a * d by omega]
    rw [e, Int.mul_one] at this
    exact this
  generalize s * c + t * d = l at *
  have hl : l.natAbs = 1 := by
    rw [ec, ed, Int.gcd_mul_left, h1] at h2
    omega
  rcases show l = 1 ∨ l = -1 by omega with rfl | rfl
  · omega
  · exfalso
    unfold hlf at hh
    omega
theorem cbf_tri {a b c d : Int} (h1 : Int.gcd a b = 1) (h2 : Int.gcd c d = 1) (hne : ¬ (a = c ∧ b = d)) : cbf a b c d ∨ cbf c d a b := by
  unfold cbf
  by_cases u : hlf a b <;> by_cases v : hlf c d
  · rcases Int.lt_trichotomy (a * d - b * c) 0 with w | w | w
    · exact Or.inr (Or.inr ⟨⟨fun _ => u, fun _ => v⟩, by rw [Int.mul_comm c b, Int.mul_comm d a]; omega⟩)
    · exact absurd (par_eq h1 h2 w ⟨fun _ => v, fun _ => u⟩) hne
    · exact Or.inl (Or.inr ⟨⟨fun _ => v, fun _ => u⟩, w⟩)
  · exact Or.inl (Or.inl ⟨u, v⟩)
  · exact Or.inr (Or.inl ⟨v, u⟩)
  · rcases Int.lt_trichotomy (a * d - b * c) 0 with w | w | w
    · exact Or.inr (Or.inr ⟨⟨fun z => absurd z v, fun z => absurd z u⟩, by rw [Int.mul_comm c b, Int.mul_comm d a]; omega⟩)
    · exact absurd (par_eq h1 h2 w ⟨fun z => absurd z u, fun z => absurd z v⟩) hne
    · exact Or.inl (Or.inr ⟨⟨fun z => absurd z u, fun z => absurd z v⟩, w⟩)
theorem fst_spec {P : Int → Prop} {z : Int} : ∀ (k : Nat) (i : Int), i + k = z → (∀ j, i ≤ j → j < fst P z k i → ¬ P j) ∧ (fst P z k i < z → P (fst P z k i))
  | 0, i, h => ⟨fun j j0 j1 => by have : j < z := j1; omega, fun w => by have : z < z := w; omega⟩
  | k + 1, i, h => by
    by_cases q : P i
    · rw [fst_t q]
      exact ⟨fun j j0 j1 => by omega, fun _ => q⟩
    · rw [fst_f q]
      have r := fst_spec (P := P) k (i + 1) (by omega : i + 1 + k = z)
      refine ⟨fun j j0 j1 => ?_, r.2⟩
      by_cases e : j = i
      · rw [e]; exact q
      · exact r.1 j (by omega) j1
theorem splt_of {V : FV} (hs : srt V) (hn : 0 ≤ V.1) {x y : Int} (h : ∀ j, 0 ≤ j → j < V.1 → cbf (gx V j) (gy V j) x y ∨ cbf x y (gx V j) (gy V j)) : splt V x y (pos V x y) := by
  have pi := pos_in (V := V) hn x y
  have sp := fst_spec (P := fun i => ¬ cbf (gx V i) (gy V i) x y) (z := V.1) V.1.toNat 0 (by omega)
  have s1 : ∀ j, 0 ≤ j → j < pos V x y → ¬ ¬ cbf (gx V j) (gy V j) x y := sp.1
  have s2 : pos V x y < V.1 → ¬ cbf (gx V (pos V x y)) (gy V (pos V x y)) x y := sp.2
  refine ⟨pi, fun j j0 j1 => Classical.not_not.mp (s1 j j0 j1), fun j j0 j1 => ?_⟩
  have z := s2 (by omega)
  have z2 := (h (pos V x y) pi.1 (by omega)).resolve_left z
  by_cases e : j = pos V x y
  · rw [e]; exact z2
  · exact cbf_tr z2 (hs (pos V x y) j pi.1 (by omega) j1)
/-! rays that were read -/
def gD (D : PD) : Prop := 0 ≤ D.1 ∧ (∀ i : Nat, (i : Int) < D.1 → Int.gcd (D.2.2.1 i) (D.2.2.2.1 i) = 1) ∧ ∀ i j : Nat, i < j → (j : Int) < D.1 → ¬ (D.2.2.1 i = D.2.2.1 j ∧ D.2.2.2.1 i = D.2.2.2.1 j)
theorem gD_add {D : PD} (h : gD D) {x y w : Int} (hg : Int.gcd x y = 1) (hr : ¬ rAt D x y) : gD (addR D x y w) := by
  obtain ⟨h0, h1, h2⟩ := h
  have ex : ∀ j : Nat, (addR D x y w).2.2.1 j = if (j : Int) = D.1 then x else D.2.2.1 j := fun j => rfl
  have ey : ∀ j : Nat, (addR D x y w).2.2.2.1 j = if (j : Int) = D.1 then y else D.2.2.2.1 j := fun j => rfl
  refine ⟨show 0 ≤ D.1 + 1 by omega, fun i hi => ?_, fun i j hij hj => ?_⟩
  · have hi : (i : Int) < D.1 + 1 := hi
    rw [ex, ey]
    by_cases e : (i : Int) = D.1
    · rw [if_pos e, if_pos e]; exact hg
    · rw [if_neg e, if_neg e]; exact h1 i (by omega)
  · have hj : (j : Int) < D.1 + 1 := hj
    rw [ex i, ex j, ey i, ey j, if_neg (show ¬ (i : Int) = D.1 by omega), if_neg (show ¬ (i : Int) = D.1 by omega)]
    by_cases e : (j : Int) = D.1
    · rw [if_pos e, if_pos e]
      intro q
      exact hr ⟨(i : Int), by omega, by omega, q⟩
    · rw [if_neg e, if_neg e]; exact h2 i j hij (by omega)
theorem rRy_g {A : Nat → Int} {n : Int} {D : PD} {t : TK} (hD : gD D) : gD (rRy A n D t).2.2 := by
  unfold rRy rR1 rR2 rR3 rR4
  split
  · exact hD
  · split
    · exact hD
    · split
      · exact hD
      · split
        · exact hD
        · split
          · exact hD
          · split
            · exact hD
            · rename_i q
              exact gD_add hD (Classical.not_not.mp (fun w => q (Or.inl w))) (fun w => q (Or.inr (b01_t w)))
theorem rL_g {A : Nat → Int} {n : Int} {D : PD} {t : TK} (hD : gD D) : gD (rL A n D t).2.2 := by
  unfold rL rL1
  split
  · exact hD
  · split
    · exact hD
    · exact hD
theorem rLn_g {A : Nat → Int} {n : Int} {D : PD} {t : TK} (hD : gD D) : gD (rLn A n D t).2.2 := by
  unfold rLn
  split
  · exact hD
  · split
    · exact rRy_g hD
    · split
      · exact rL_g hD
      · exact hD
theorem pAl_g {A : Nat → Int} {n : Int} : ∀ (k : Nat) (p : Int) (D : PD), gD D → gD (pAl A n k p D).2.2
  | 0, p, D, h => h
  | k + 1, p, D, h => by
    have e : pAl A n (k + 1) p D = if (rLn A n D (tok A n p)).1 ≠ 0 then rLn A n D (tok A n p)
      else if (rLn A n D (tok A n p)).2.1.1 = 0 then rLn A n D (tok A n p)
      else if (rLn A n D (tok A n p)).2.1.1 ≠ 59 then (1, (rLn A n D (tok A n p)).2.1, (rLn A n D (tok A n p)).2.2)
      else pAl A n k (rLn A n D (tok A n p)).2.1.2.2.2 (rLn A n D (tok A n p)).2.2 := rfl
    rw [e]
    split
    · exact rLn_g h
    · split
      · exact rLn_g h
      · split
        · exact rLn_g h
        · exact pAl_g k _ _ (rLn_g h)
theorem gD0 : gD D0 := ⟨by show (0 : Int) ≤ 0; omega, fun i hi => by have : (i : Int) < 0 := hi; omega, fun i j _ hj => by have : (j : Int) < 0 := hj; omega⟩
theorem bld_o {l : Int} {x y : Nat → Int} {c : Nat → Nat → Int} : ∀ k : Nat, (∀ i, i < k → Int.gcd (x i) (y i) = 1) → (∀ i j, i < j → j < k → ¬ (x i = x j ∧ y i = y j)) → srt (bldV l x y c k) ∧ prm (bldV l x y c k) ∧ (∀ j, 0 ≤ j → j < (bldV l x y c k).1 → ∃ i, i < k ∧ gx (bldV l x y c k) j = x i ∧ gy (bldV l x y c k) j = y i)
  | 0, _, _ => ⟨fun i j i0 ij j1 => by have : j < 0 := j1; omega, fun i i0 i1 => by have : i < 0 := i1; omega, fun j j0 j1 => by have : j < 0 := j1; omega⟩
  | k + 1, h1, h2 => by
    obtain ⟨s, p, m⟩ := bld_o (l := l) (c := c) k (fun i hi => h1 i (by omega)) (fun i j ij hj => h2 i j ij (by omega))
    have bn := bldV_n l x y c k
    have e : bldV l x y c (k + 1) = insV (bldV l x y c k) (pos (bldV l x y c k) (x k) (y k)).toNat (x k) (y k) (c k) := rfl
    rw [e]
    have sp : splt (bldV l x y c k) (x k) (y k) (pos (bldV l x y c k) (x k) (y k)) := splt_of s (by rw [bn.1]; omega) (fun j j0 j1 => by
      obtain ⟨i, i0, i1, i2⟩ := m j j0 j1
      rw [i1, i2]
      exact cbf_tri (h1 i (by omega)) (h1 k (by omega)) (h2 i k i0 (by omega)))
    refine ⟨srt_ins s sp, prm_ins p sp.1 (h1 k (by omega)), fun j j0 j1 => ?_⟩
    rcases sgi_ex sp.1 j0 j1 with e2 | ⟨q, q0, q1, rfl⟩
    · rw [e2]
      exact ⟨k, by omega, gx_inp sp.1.1, gy_inp sp.1.1⟩
    · obtain ⟨i, i0, i1, i2⟩ := m q q0 q1
      exact ⟨i, by omega, (gx_ins sp.1.1 q0).trans i1, (gy_ins sp.1.1 q0).trans i2⟩
theorem bldV_cg {l : Int} {x y x2 y2 : Nat → Int} {c c2 : Nat → Nat → Int} : ∀ k : Nat, (∀ j, j < k → x j = x2 j ∧ y j = y2 j ∧ ∀ d : Nat, (d : Int) < l → c j d = c2 j d) → bldV l x y c k = bldV l x2 y2 c2 k
  | 0, _ => rfl
  | k + 1, h => by
    obtain ⟨h1, h2, h3⟩ := h k (by omega)
    show insV (bldV l x y c k) (pos (bldV l x y c k) (x k) (y k)).toNat (x k) (y k) (c k) = insV (bldV l x2 y2 c2 k) (pos (bldV l x2 y2 c2 k) (x2 k) (y2 k)).toNat (x2 k) (y2 k) (c2 k)
    rw [bldV_cg k (fun j hj => h j (by omega)), h1, h2]
    have bn := bldV_n l x2 y2 c2 k
    unfold insV
    refine congrArg _ (congrArg _ (congrArg _ (congrArg _ ?_)))
    funext d j
    by_cases e : (d : Int) < (bldV l x2 y2 c2 k).2.1
    · rw [if_pos e, if_pos e, h3 d (by rw [bn.2] at e; exact e)]
    · rw [if_neg e, if_neg e]
noncomputable def bldD (D : PD) : FV := bldV D.2.1 D.2.2.1 D.2.2.2.1 (fun j d => D.2.2.2.2.2.2 d j) D.1.toNat
theorem bldD_o {D : PD} (h : gD D) (hb : bD D) : bV (bldD D) ∧ srt (bldD D) ∧ prm (bldD D) ∧ (bldD D).1 = D.1 ∧ (bldD D).2.1 = D.2.1 := by
  have h0 := h.1
  have o := bld_o (l := D.2.1) (x := D.2.2.1) (y := D.2.2.2.1) (c := fun j d => D.2.2.2.2.2.2 d j) D.1.toNat (fun i hi => h.2.1 i (by omega)) (fun i j ij hj => h.2.2 i j ij (by omega))
  have bn := bldV_n D.2.1 D.2.2.1 D.2.2.2.1 (fun j d => D.2.2.2.2.2.2 d j) D.1.toNat
  obtain ⟨b1, b2, b3, b4, -, -, b7⟩ := hb
  refine ⟨bldV_b b2 _ (by omega) (fun j hj => ⟨by have := b3 j; omega, by have := b4 j; omega, fun d hd => by have := b7 d j; omega⟩), o.1, o.2.1, by unfold bldD; rw [bn.1]; omega, bn.2⟩
noncomputable def fnF (A : Nat → Int) (n : Int) : Int := if (pAl A n 501 0 D0).1 ≠ 0 then (pAl A n 501 0 D0).1 else if b01 (clo (bldD (pAl A n 501 0 D0).2.2)) = 1 then 0 else 5
/-! the component's state in other memories -/
theorem cSt_ag {mu m : Mem} {V : FV} {a : Int} {H : Nat → FV} (h : cSt mu V a H) (hk : ∀ x y, (x = 0 ∧ 5 ≤ y ∧ y ≤ 8) ∨ (14 ≤ x ∧ x ≤ 54) → m x y = mu x y) : cSt m V a H := by
  have h0 := h
  obtain ⟨r, ⟨f, hf, ef, evf⟩, gv, ea, ha, hn, hp⟩ := h
  have e5 : m 0 5 = mu 0 5 := hk _ _ (by omega)
  have e6 : m 0 6 = mu 0 6 := hk _ _ (by omega)
  have e7 : m 0 7 = mu 0 7 := hk _ _ (by omega)
  have e8 : m 0 8 = mu 0 8 := hk _ _ (by omega)
  have e14 : ∀ y, m 14 y = mu 14 y := fun y => hk _ _ (by omega)
  have sl : ∀ t, slt m t = slt mu t := fun t => by unfold slt; rw [e5, e6, e14]
  have fe : ∀ z, isF z → fv m z = fv mu z := fun z hz => by
    have := hz.ge
    exact fv_eq fun x p q => funext fun y => hk x y (by omega)
  refine ⟨⟨fun s t hs ht e => ?_, fun t ht => ?_⟩, ⟨f, hf, by rw [e5]; exact ef, by rw [fe f hf]; exact evf⟩, gv, by rw [e8]; exact ea, ha, by rw [e7]; exact hn, fun j hj => ?_⟩
  · rw [sl, sl] at e; exact r.1 s t hs ht e
  · rw [sl]; exact r.2 t ht
  · have e : pst m j = pst mu j := by unfold pst; rw [e7, e14]
    obtain ⟨z1, z2, z3⟩ := hp j hj
    refine ⟨?_, z2, z3⟩
    rw [e, ← z1]
    obtain ⟨p, p1, p2⟩ := h0.past (i := ((mu 0 7 + 7 - j) % 8).toNat) (by omega)
    have e2 : pst mu j = p := by unfold pst; rw [p2]; omega
    rw [e2]
    exact fe p p1
theorem cSt_df {mu m : Mem} {V : FV} {a : Int} {H : Nat → FV} {g : Nat} (h : cSt mu V a H) (hg : isF g) (eg : mu 0 6 = (g : Int)) (hk : ∀ x y, (x = 0 ∧ 5 ≤ y ∧ y ≤ 8) ∨ (14 ≤ x ∧ x ≤ 54 ∧ ¬ fanS g x) → m x y = mu x y) : cSt m V a H := by
  have q := hg.ge
  have d : dfr g mu (fun x y => if (x = 0 ∧ 5 ≤ y ∧ y ≤ 8) ∨ (14 ≤ x ∧ x ≤ 54) then m x y else mu x y) := fun x y h1 h2 h3 => by
    show (if (x = 0 ∧ 5 ≤ y ∧ y ≤ 8) ∨ (14 ≤ x ∧ x ≤ 54) then m x y else mu x y) = mu x y
    by_cases w : (x = 0 ∧ 5 ≤ y ∧ y ≤ 8) ∨ (14 ≤ x ∧ x ≤ 54)
    · rw [if_pos w]
      refine hk x y ?_
      rcases w with w | w
      · exact Or.inl w
      · exact Or.inr ⟨w.1, w.2, h1⟩
    · rw [if_neg w]
  refine cSt_ag (h.d hg eg d) (fun x y w => ?_)
  show m x y = if (x = 0 ∧ 5 ≤ y ∧ y ≤ 8) ∨ (14 ≤ x ∧ x ≤ 54) then m x y else mu x y
  rw [if_pos w]
/-- another fan stands -/
theorem cSt_new {mu m : Mem} {V W : FV} {a : Int} {H : Nat → FV} {f g : Nat} (h : cSt mu V a H) (ef : mu 0 5 = (f : Int)) (hg : isF g) (eg : mu 0 6 = (g : Int)) (e5 : m 0 5 = (g : Int)) (e6 : m 0 6 = (f : Int)) (e7 : m 0 7 = mu 0 7) (e8 : m 0 8 = 0) (e14 : ∀ y, m 14 y = mu 14 y) (hW : fv m g = W) (gW : gV W) : cSt m W 0 H := by
  obtain ⟨r, -, -, -, -, hn, -⟩ := h
  have sl : ∀ t, slt m t = slt mu (if t = 0 then 1 else if t = 1 then 0 else t) := fun t => by
    by_cases t0 : t = 0
    · subst t0; rw [if_pos rfl, slt_0, slt_1, e5, eg]
    · rw [if_neg t0]
      by_cases t1 : t = 1
      · subst t1; rw [if_pos rfl, slt_0, slt_1, e6, ef]
      · rw [if_neg t1]
        unfold slt
        rw [if_neg t0, if_neg t1, if_neg t0, if_neg t1, e14]
  refine ⟨⟨fun s t hs ht e => ?_, fun t ht => ?_⟩, ⟨g, hg, e5, hW⟩, gW, e8, ⟨by omega, by omega⟩, by rw [e7]; exact hn, fun j hj => by omega⟩
  · rw [sl, sl] at e
    have := r.1 _ _ (by split <;> (try split) <;> omega) (by split <;> (try split) <;> omega) e
    split at this <;> split at this <;> (try split at this) <;> (try split at this) <;> omega
  · rw [sl]
    exact r.2 _ (by split <;> (try split) <;> omega)
def fnPost (mu m2 : Mem) (V : FV) (a : Int) (H : Nat → FV) (n : Int) (r : Option Vv) : Prop :=
  ((n < 0 ∨ mu 1 4 < n) ∧ r = some (vi (-1)) ∧ m2 = wr mu 0 11 2) ∨
  (¬ (n < 0 ∨ mu 1 4 < n) ∧ (∀ x y, x = 6 ∨ 55 ≤ x → m2 x y = mu x y) ∧ m2 1 4 = 0 ∧ m2 0 9 = fnF (mu 6) n ∧ m2 0 10 = (pAl (mu 6) n 501 0 D0).2.1.2.2.1 ∧ (0 ≤ fnF (mu 6) n ∧ fnF (mu 6) n ≤ 5) ∧ (0 ≤ m2 0 10 ∧ m2 0 10 ≤ 500) ∧
    ((fnF (mu 6) n ≠ 0 ∧ r = some (vi (-1)) ∧ m2 0 11 = 4 ∧ cSt m2 V a H ∧ m2 13 = mu 13) ∨
     (fnF (mu 6) n = 0 ∧ r = some (vi (pAl (mu 6) n 501 0 D0).2.2.1) ∧ m2 0 11 = 0 ∧ cSt m2 (bldD (pAl (mu 6) n 501 0 D0).2.2) 0 H ∧ bD (pAl (mu 6) n 501 0 D0).2.2 ∧ (pAl (mu 6) n 501 0 D0).1 = 0 ∧ clo (bldD (pAl (mu 6) n 501 0 D0).2.2) ∧ ∀ d : Nat, (d : Int) < (pAl (mu 6) n 501 0 D0).2.2.2.1 → m2 13 d = (pAl (mu 6) n 501 0 D0).2.2.2.2.2.2.2.1 d)))
theorem t_X5_fan {mu : Mem} {V : FV} {a : Int} {H : Nat → FV} {n : Int} (S : cSt mu V a H) (hn : R32 n) (hu : 0 ≤ mu 1 4 ∧ mu 1 4 ≤ 500) (hb : ∀ j : Nat, (j : Int) < 500 → -128 ≤ mu 6 j ∧ mu 6 j ≤ 127) : Tr 6 mX5_fan [vr 0, vi n] mu (fun r m2 => fnPost mu m2 V a H n r) := by
  refine Tr.of (by decide +kernel) (Nat.le_of_ble_eq_true rfl) (fun K C E => ?_)
  obtain ⟨f, g, p, rn, h, eVV⟩ := S.rn
  obtain ⟨⟨hf, ef⟩, ⟨hg, eg⟩, ⟨hp, ep⟩, fne⟩ := id rn
  have gg := hg.ge
  have gf := hf.ge
  have gne := isF_ne hf hg fne
  obtain ⟨R, eR⟩ : ∃ R, pAl (mu 6) n 501 0 D0 = R := ⟨_, rfl⟩
  have eF : fnF (mu 6) n = if R.1 ≠ 0 then R.1 else if b01 (clo (bldD R.2.2)) = 1 then 0 else 5 := by unfold fnF; rw [eR]
  have gR : gD R.2.2 := by rw [← eR]; exact pAl_g _ _ _ gD0
  have good : ¬ (n < 0 ∨ mu 1 4 < n) → (0 ≤ R.1 ∧ R.1 ≤ 4) → ∀ (m : Mem) (F : Int) (v2 : Vv), F = fnF (mu 6) n → m 0 9 = F → m 0 10 = R.2.1.2.2.1 → (0 ≤ m 0 10 ∧ m 0 10 ≤ 500) → m 1 4 = 0 → (∀ x y, x = 6 ∨ 55 ≤ x → m x y = mu x y) → m 13 = mu 13 → (∀ x y, (x = 0 ∧ 5 ≤ y ∧ y ≤ 8) ∨ (14 ≤ x ∧ x ≤ 54 ∧ ¬ fanS g x) → m x y = mu x y) → (F = 0 → R.1 = 0 ∧ clo (bldD R.2.2) ∧ fv m g = bldD R.2.2 ∧ bD R.2.2 ∧ ∀ d : Nat, (d : Int) < R.2.2.2.1 → m 4 d = R.2.2.2.2.2.2.2.1 d) → AW K mX5_fan (NC, 0, 0) 90 [vr 0, vi n, v2] [] m := by
    intro hn2 r04 m F v2 hF y1 y2 y3 y4 y5 y6 y7 y8
    have f05 : 0 ≤ F ∧ F ≤ 5 := by rw [hF, eF]; split <;> (try split) <;> omega
    have e5 : m 0 5 = (f : Int) := (y7 _ _ (by omega)).trans ef
    have e6 : m 0 6 = (g : Int) := (y7 _ _ (by omega)).trans eg
    by_cases hF0 : F = 0
    · obtain ⟨z0, z1, z2, z3, z4⟩ := y8 hF0
      obtain ⟨o1, o2, o3, o4, o5⟩ := bldD_o gR z3
      have r12 := z3.1
      have en : m g 0 = R.2.2.1 := (congrArg (fun z : FV => z.1) z2).trans o4
      have k0 : ∀ y, cpy m 4 13 6 0 y = m 0 y := fun y => by rw [cpy_ne (by decide)]
      refine aw_aload_n C dX5_fan_90 rfl ?_
      refine aw_getI C dX5_fan_91 fX5_69 ⟨rfl, by decide⟩ rfl ?_
      rw [y1]
      refine aw_if_eq C dX5_fan_94 (tgt := 104) (by decide) ⟨by omega, by omega⟩ (fun c1 => ?_) (fun c1 => ?_)
      · refine aw_aload_n C dX5_fan_104 rfl ?_
        refine aw_getS C dX5_fan_105 fX5_12 ⟨rfl, by decide⟩ rfl rfl (srf 0 0 1 (by decide)) ?_
        refine aw_getS C dX5_fan_108 fX5_85 ⟨rfl, by decide⟩ rfl rfl (srf 1 2 4 (by decide)) ?_
        refine aw_iconst C dX5_fan_111 ?_
        refine aw_aload_n C dX5_fan_112 rfl ?_
        refine aw_getS C dX5_fan_113 fX5_34 ⟨rfl, by decide⟩ rfl rfl (srf 0 3 13 (by decide)) ?_
        refine aw_iconst C dX5_fan_116 ?_
        refine aw_aload_n C dX5_fan_117 rfl ?_
        refine aw_getS C dX5_fan_118 fX5_34 ⟨rfl, by decide⟩ rfl rfl (srf 0 3 13 (by decide)) ?_
        refine aw_alen C dX5_fan_121 ⟨rfl, by decide⟩ (by decide) ?_
        refine aw_copy C dX5_fan_122 lac_X5_88 ⟨rfl, by decide⟩ ⟨rfl, by decide⟩ rfl (by decide) (by decide) (by decide) (by decide) (Nat.le_of_ble_eq_true rfl) ?_
        have e5c : cpy m 4 13 6 0 5 = (f : Int) := by rw [k0]; exact e5
        have e6c : cpy m 4 13 6 0 6 = (g : Int) := by rw [k0]; exact e6
        refine aw_aload_n C dX5_fan_125 rfl ?_
        refine aw_getR C dX5_fan_126 fX5_43 ⟨rfl, by decide⟩ rfl e5c ?_
        refine aw_astore_n C dX5_fan_129 (by decide) ?_
        refine aw_aload_n C dX5_fan_130 rfl ?_
        refine aw_aload_n C dX5_fan_131 rfl ?_
        refine aw_getR C dX5_fan_132 fX5_47 ⟨rfl, by decide⟩ rfl e6c ?_
        refine aw_putD C dX5_fan_135 fX5_43 rfl (by decide) hg rfl rfl ?_
        refine aw_aload_n C dX5_fan_138 rfl ?_
        refine aw_aload_n C dX5_fan_139 rfl ?_
        refine aw_putD C dX5_fan_140 fX5_47 rfl (by decide) hf rfl rfl ?_
        refine aw_aload_n C dX5_fan_143 rfl ?_
        refine aw_iconst C dX5_fan_144 ?_
        refine aw_putI C dX5_fan_145 fX5_94 ⟨rfl, by decide⟩ rfl rfl rfl ?_
        refine aw_aload_n C dX5_fan_148 rfl ?_
        refine aw_iconst C dX5_fan_149 ?_
        refine aw_putI C dX5_fan_150 fX5_62 ⟨rfl, by decide⟩ rfl rfl rfl ?_
        have q5 : wr (wr (wr (wr (cpy m 4 13 6) 0 5 g) 0 6 f) 0 8 0) 0 11 0 0 5 = (g : Int) := by rw [wr_at, if_neg (by decide), wr_at, if_neg (by decide), wr_at, if_neg (by decide), wr_at, if_pos ⟨rfl, rfl⟩]
        have kx : ∀ x, x ≠ 0 → x ≠ 13 → wr (wr (wr (wr (cpy m 4 13 6) 0 5 g) 0 6 f) 0 8 0) 0 11 0 x = m x := fun x x1 x2 => by rw [wr_ne x1, wr_ne x1, wr_ne x1, wr_ne x1, cpy_ne x2]
        refine aw_aload_n C dX5_fan_153 rfl ?_
        refine aw_getR C dX5_fan_154 fX5_43 ⟨rfl, by decide⟩ rfl q5 ?_
        refine aw_getI C dX5_fan_157 fX5_97 hg.s0 rfl ?_
        rw [kx g (by omega) (by omega), en]
        exact aw_iret C E dX5_fan_160 rfl (Or.inr ⟨hn2, fun x y w => by rw [kx x (by omega) (by omega)]; exact y5 x y w, by rw [kx 1 (by decide) (by decide)]; exact y4, by rw [wr_at, if_neg (by decide), wr_at, if_neg (by decide), wr_at, if_neg (by decide), wr_at, if_neg (by decide), k0, y1]; exact hF, by rw [eR, wr_at, if_neg (by decide), wr_at, if_neg (by decide), wr_at, if_neg (by decide), wr_at, if_neg (by decide), k0]; exact y2, by rw [← hF]; exact f05, by rw [wr_at, if_neg (by decide), wr_at, if_neg (by decide), wr_at, if_neg (by decide), wr_at, if_neg (by decide), k0]; exact y3, Or.inr ⟨by rw [← hF]; exact hF0, by rw [eR], by rw [wr_at, if_pos ⟨rfl, rfl⟩], by rw [eR]; exact cSt_new S ef hg eg q5 (by rw [wr_at, if_neg (by decide), wr_at, if_neg (by decide), wr_at, if_pos ⟨rfl, rfl⟩]) (by rw [wr_at, if_neg (by decide), wr_at, if_neg (by decide), wr_at, if_neg (by decide), wr_at, if_neg (by decide), k0]; exact y7 _ _ (by omega)) (by rw [wr_at, if_neg (by decide), wr_at, if_pos ⟨rfl, rfl⟩]) (fun y => by rw [kx 14 (by decide) (by decide)]; exact y7 _ _ (by unfold fanS; omega)) ((fv_eq fun x p q => kx x (by omega) (by omega)).trans z2) ⟨o1, Or.inr ⟨z1, o3⟩⟩, by rw [eR]; exact z3, by rw [eR]; exact z0, by rw [eR]; exact z1, fun d hd => by rw [eR] at hd ⊢; rw [wr_ne (by decide), wr_ne (by decide), wr_ne (by decide), wr_ne (by decide), cpy_self, if_pos (by have := z3.2.1; omega)]; exact z4 d hd⟩⟩)
      · exfalso; omega
    · refine aw_aload_n C dX5_fan_90 rfl ?_
      refine aw_getI C dX5_fan_91 fX5_69 ⟨rfl, by decide⟩ rfl ?_
      rw [y1]
      refine aw_if_eq C dX5_fan_94 (tgt := 104) (by decide) ⟨by omega, by omega⟩ (fun c1 => ?_) (fun c1 => ?_)
      · exfalso; omega
      · refine aw_aload_n C dX5_fan_97 rfl ?_
        refine aw_iconst C dX5_fan_98 ?_
        refine aw_putI C dX5_fan_99 fX5_62 ⟨rfl, by decide⟩ rfl rfl rfl ?_
        refine aw_iconst C dX5_fan_102 ?_
        exact aw_iret C E dX5_fan_103 rfl (Or.inr ⟨hn2, fun x y w => by rw [wr_ne (by omega)]; exact y5 x y w, by rw [wr_ne (by decide)]; exact y4, by rw [wr_at, if_neg (by decide), y1]; exact hF, by rw [eR, wr_at, if_neg (by decide)]; exact y2, by rw [← hF]; exact f05, by rw [wr_at, if_neg (by decide)]; exact y3, Or.inl ⟨by rw [← hF]; exact hF0, rfl, by rw [wr_at, if_pos ⟨rfl, rfl⟩], cSt_df S hg eg (fun x y w => by rw [wr_at, if_neg (by omega)]; exact y7 x y w), by rw [wr_ne (by decide)]; exact y6⟩⟩)
  refine aw_iload_n C dX5_fan_0 rfl ?_
  refine aw_if_lt C dX5_fan_1 (tgt := 15) (by decide) ⟨by omega, by omega⟩ (fun c1 => ?_) (fun c1 => ?_)
  · have hbad : n < 0 ∨ mu 1 4 < n := by omega
    --go
    refine aw_aload_n C dX5_fan_15 rfl ?_
    refine aw_iconst C dX5_fan_16 ?_
    refine aw_putI C dX5_fan_17 fX5_62 ⟨rfl, by decide⟩ rfl rfl rfl ?_
    refine aw_iconst C dX5_fan_20 ?_
    exact aw_iret C E dX5_fan_21 rfl (Or.inl ⟨hbad, rfl, rfl⟩)
  · refine aw_iload_n C dX5_fan_4 rfl ?_
    refine aw_aload_n C dX5_fan_5 rfl ?_
    refine aw_getS C dX5_fan_6 fX5_12 ⟨rfl, by decide⟩ rfl rfl (srf 0 0 1 (by decide)) ?_
    refine aw_getI C dX5_fan_9 fX5_58 ⟨rfl, by decide⟩ rfl ?_
    refine aw_icmp_le C dX5_fan_12 (tgt := 22) (by decide) ⟨by omega, by omega⟩ ⟨by omega, by omega⟩ (fun c2 => ?_) (fun c2 => ?_)
    · have hgood : ¬ (n < 0 ∨ mu 1 4 < n) := by omega
      --go
      refine aw_aload_n C dX5_fan_22 rfl ?_
      refine aw_aload_n C dX5_fan_23 rfl ?_
      refine aw_getS C dX5_fan_24 fX5_12 ⟨rfl, by decide⟩ rfl rfl (srf 0 0 1 (by decide)) ?_
      refine aw_iload_n C dX5_fan_27 rfl ?_
      refine aw_call C dX5_fan_28 lX5_65 vX3_read (t_X3_read ⟨by omega, by omega⟩ (fun j hj => hb j (by omega))) rfl rfl rfl ⟨rfl, by decide⟩ rfl ⟨by decide, by decide⟩ (Nat.le_of_ble_eq_true rfl) (fun r3 mu3 hq3 => ?_)
      rw [eR] at hq3
      obtain ⟨rfl, w1, w2, w3, w4, w5⟩ := hq3
      generalize mu3 = m1 at *
      show AW _ _ _ _ _ (vi R.1 :: vr 0 :: []) _
      refine aw_putI C dX5_fan_31 fX5_69 ⟨rfl, by decide⟩ rfl rfl rfl ?_
      refine aw_aload_n C dX5_fan_34 rfl ?_
      refine aw_aload_n C dX5_fan_35 rfl ?_
      refine aw_getS C dX5_fan_36 fX5_12 ⟨rfl, by decide⟩ rfl rfl (srf 0 0 1 (by decide)) ?_
      refine aw_getI C dX5_fan_39 fX5_72 ⟨rfl, by decide⟩ rfl ?_
      refine aw_putI C dX5_fan_42 fX5_75 ⟨rfl, by decide⟩ rfl rfl rfl ?_
      refine aw_aload_n C dX5_fan_45 rfl ?_
      refine aw_getS C dX5_fan_46 fX5_12 ⟨rfl, by decide⟩ rfl rfl (srf 0 0 1 (by decide)) ?_
      refine aw_iconst C dX5_fan_49 ?_
      refine aw_putI C dX5_fan_50 fX5_58 ⟨rfl, by decide⟩ rfl rfl rfl ?_
      have t0 : wr (wr (wr m1 0 9 R.1) 0 10 (wr m1 0 9 R.1 1 5)) 1 4 0 0 9 = R.1 := by rw [wr_ne (by decide), wr_at, if_neg (by decide), wr_at, if_pos ⟨rfl, rfl⟩]
      have t1 : wr (wr (wr m1 0 9 R.1) 0 10 (wr m1 0 9 R.1 1 5)) 1 4 0 0 10 = R.2.1.2.2.1 := by rw [wr_ne (by decide), wr_at, if_pos ⟨rfl, rfl⟩, wr_ne (by decide)]; exact w2
      have t1b : 0 ≤ R.2.1.2.2.1 ∧ R.2.1.2.2.1 ≤ 500 := by rw [← w2]; exact w4
      have t2 : wr (wr (wr m1 0 9 R.1) 0 10 (wr m1 0 9 R.1 1 5)) 1 4 0 1 4 = 0 := by rw [wr_at, if_pos ⟨rfl, rfl⟩]
      have t3 : ∀ x y, ¬ (x = 0 ∧ (y = 9 ∨ y = 10)) → ¬ (x = 1 ∧ y = 4) → wr (wr (wr m1 0 9 R.1) 0 10 (wr m1 0 9 R.1 1 5)) 1 4 0 x y = m1 x y := fun x y z1 z2 => by rw [wr_at, if_neg z2, wr_at, if_neg (by omega), wr_at, if_neg (by omega)]
      generalize wr (wr (wr m1 0 9 R.1) 0 10 (wr m1 0 9 R.1 1 5)) 1 4 0 = m2 at *
      have t4 : ∀ x y, x = 6 ∨ 55 ≤ x ∨ x = 13 ∨ (x = 0 ∧ 5 ≤ y ∧ y ≤ 8) ∨ (14 ≤ x ∧ x ≤ 54) → m2 x y = mu x y := fun x y z => (t3 x y (by omega) (by omega)).trans (w1 x y (by unfold rdA; omega))
      have e5 : m2 0 5 = (f : Int) := (t4 _ _ (by omega)).trans ef
      have e6 : m2 0 6 = (g : Int) := (t4 _ _ (by omega)).trans eg
      refine aw_aload_n C dX5_fan_53 rfl ?_
      refine aw_getI C dX5_fan_54 fX5_69 ⟨rfl, by decide⟩ rfl ?_
      rw [t0]
      refine aw_if_ne C dX5_fan_57 (tgt := 90) (by decide) ⟨by omega, by omega⟩ (fun cr => ?_) (fun cr => ?_)
      · --go
        exact good hgood w3 m2 R.1 _ (by rw [eF, if_pos cr]) t0 t1 (by rw [t1]; exact t1b) t2 (fun x y z => t4 x y (by omega)) (funext fun y => t4 13 y (by omega)) (fun x y z => t4 x y (by omega)) (fun z => absurd z cr)
      · obtain ⟨p1, p2⟩ := w5 cr
        rw [p1] at p2
        obtain ⟨oB, oS, oP, oN, oL⟩ := bldD_o gR p2
        have f6 : m2 1 6 = R.2.2.1 := (t3 _ _ (by omega) (by omega)).trans (congrArg (fun z : PD => z.1) p1)
        have f7 : m2 1 7 = R.2.2.2.1 := (t3 _ _ (by omega) (by omega)).trans (congrArg (fun z : PD => z.2.1) p1)
        have f2 : ∀ j : Nat, (j : Int) < R.2.2.1 → m2 2 j = R.2.2.2.2.1 j := fun j hj => by
          rw [t3 2 j (by omega) (by omega), ← p1]
          exact (cut1_at (i := (j : Int)) (by omega) (by rw [← p1] at hj; exact hj)).symm
        have f3 : ∀ j : Nat, (j : Int) < R.2.2.1 → m2 3 j = R.2.2.2.2.2.1 j := fun j hj => by
          rw [t3 3 j (by omega) (by omega), ← p1]
          exact (cut1_at (i := (j : Int)) (by omega) (by rw [← p1] at hj; exact hj)).symm
        have f4 : ∀ j : Nat, (j : Int) < R.2.2.2.1 → m2 4 j = R.2.2.2.2.2.2.2.1 j := fun j hj => by
          rw [t3 4 j (by omega) (by omega), ← p1]
          exact (cut1_at (i := (j : Int)) (by omega) (by rw [← p1] at hj; exact hj)).symm
        have f5 : ∀ d j : Nat, (d : Int) < R.2.2.2.1 → (j : Int) < R.2.2.1 → m2 5 (12 * d + j) = R.2.2.2.2.2.2.2.2 d j := fun d j hd hj => by
          have r12 := p2.1
          rw [t3 5 _ (by omega) (by omega), ← p1]
          rw [← p1] at hd
          show _ = cut2 (m1 1 7) 12 (fun d r => m1 5 (12 * d + r)) d j
          unfold cut2
          rw [if_pos ⟨hd, by omega⟩]
        have pr1 : 0 ≤ m2 1 6 ∧ m2 1 6 ≤ 12 := by rw [f6]; exact p2.1
        have pr2 : 0 ≤ m2 1 7 ∧ m2 1 7 ≤ 6 := by rw [f7]; exact p2.2.1
        have pr3 : ∀ j : Nat, (j : Int) < m2 1 6 → (-60 ≤ m2 2 j ∧ m2 2 j ≤ 60) ∧ (-60 ≤ m2 3 j ∧ m2 3 j ≤ 60) ∧ ∀ d : Nat, (d : Int) < m2 1 7 → -2000 ≤ m2 5 (12 * d + j) ∧ m2 5 (12 * d + j) ≤ 2000 := fun j hj => by
          rw [f6] at hj
          refine ⟨?_, ?_, fun d hd => ?_⟩
          · rw [f2 j hj]; have := p2.2.2.1 j; omega
          · rw [f3 j hj]; have := p2.2.2.2.1 j; omega
          · rw [f7] at hd
            rw [f5 d j hd hj]; have := p2.2.2.2.2.2.2 d j; omega
        have bE : bldV (m2 1 7) (m2 2) (m2 3) (fun j d => m2 5 (12 * d + j)) (m2 1 6).toNat = bldD R.2.2 := by
          unfold bldD
          rw [f6, f7]
          exact bldV_cg _ (fun j hj => ⟨f2 j (by omega), f3 j (by omega), fun d hd => f5 d j hd (by omega)⟩)
        have kc := b01_01 (clo (bldD R.2.2))
        have fin2 : ∀ (m3 : Mem), fv m3 g = bldD R.2.2 → (∀ x, ¬ fanS g x → m3 x = m2 x) → ∀ (F : Int) (v2 : Vv), F = fnF (mu 6) n → (F = 0 → clo (bldD R.2.2)) → AW K mX5_fan (NC, 0, 0) 90 [vr 0, vi n, v2] [] (wr m3 0 9 F) := fun m3 b2 b3 F v2 hF hcl => by
          have u0 : ∀ x y, ¬ fanS g x → ¬ (x = 0 ∧ y = 9) → wr m3 0 9 F x y = m2 x y := fun x y z1 z2 => by rw [wr_at, if_neg z2, b3 x z1]
          refine good hgood w3 _ F v2 hF (by rw [wr_at, if_pos ⟨rfl, rfl⟩]) ((u0 0 10 (by unfold fanS; omega) (by decide)).trans t1) ?_ ((u0 1 4 (by unfold fanS; omega) (by decide)).trans t2) (fun x y z => (u0 x y (by unfold fanS; omega) (by omega)).trans (t4 x y (by omega))) (funext fun y => (u0 13 y (by unfold fanS; omega) (by omega)).trans (t4 13 y (by omega))) (fun x y z => (u0 x y (by unfold fanS at *; omega) (by omega)).trans (t4 x y (by omega))) (fun z => ⟨cr, hcl z, ?_, p2, fun d hd => (u0 4 d (by unfold fanS; omega) (by omega)).trans (f4 d hd)⟩)
          · rw [u0 0 10 (by unfold fanS; omega) (by decide), t1]; exact t1b
          · rw [← b2]; exact fv_eq fun x p q => wr_ne (by omega)
        --go
        refine aw_aload_n C dX5_fan_60 rfl ?_
        refine aw_getR C dX5_fan_61 fX5_47 ⟨rfl, by decide⟩ rfl e6 ?_
        refine aw_aload_n C dX5_fan_64 rfl ?_
        refine aw_getS C dX5_fan_65 fX5_12 ⟨rfl, by decide⟩ rfl rfl (srf 0 0 1 (by decide)) ?_
        refine aw_call C dX5_fan_68 lX5_78 vX1_build (t_X1_build hg pr1 pr2 pr3) rfl rfl rfl hg.s0 rfl ⟨by decide, by decide⟩ (Nat.le_of_ble_eq_true rfl) (fun r4 mu4 hq4 => ?_)
        obtain ⟨rfl, b1, b2⟩ := hq4
        rw [bE] at b2
        have b3 : ∀ x, ¬ fanS g x → mu4 x = m2 x := b1
        generalize mu4 = m3 at *
        have e6b : m3 0 6 = (g : Int) := by rw [b3 0 (by unfold fanS; omega)]; exact e6
        show AW _ _ _ _ _ [] _
        refine aw_aload_n C dX5_fan_71 rfl ?_
        refine aw_aload_n C dX5_fan_72 rfl ?_
        refine aw_getR C dX5_fan_73 fX5_47 ⟨rfl, by decide⟩ rfl e6b ?_
        refine aw_call1 C dX5_fan_76 lX5_82 vX1_isClosed (t_X1_isClosed hg (by rw [b2]; exact oB)) rfl rfl rfl hg.s0 rfl ⟨by decide, by decide⟩ (Nat.le_of_ble_eq_true rfl) ?_
        rw [b2]
        refine aw_if_eq C dX5_fan_79 (tgt := 86) (by decide) ⟨by omega, by omega⟩ (fun cc => ?_) (fun cc => ?_)
        · --go
          refine aw_iconst C dX5_fan_86 ?_
          refine aw_putI C dX5_fan_87 fX5_69 ⟨rfl, by decide⟩ rfl rfl rfl ?_
          exact fin2 m3 b2 b3 5 _ (by rw [eF, if_neg (by omega), if_neg (by omega)]) (fun z => absurd z (by decide))
        · --go
          refine aw_iconst C dX5_fan_82 ?_
          refine aw_goto C dX5_fan_83 (tgt := 87) (by decide) ?_
          refine aw_putI C dX5_fan_87 fX5_69 ⟨rfl, by decide⟩ rfl rfl rfl ?_
          exact fin2 m3 b2 b3 0 _ (by rw [eF, if_neg (by omega), if_pos (by omega)]) (fun _ => b01_iff.mp (by omega))
    · have hbad : n < 0 ∨ mu 1 4 < n := by omega
      --go
      refine aw_aload_n C dX5_fan_15 rfl ?_
      refine aw_iconst C dX5_fan_16 ?_
      refine aw_putI C dX5_fan_17 fX5_62 ⟨rfl, by decide⟩ rfl rfl rfl ?_
      refine aw_iconst C dX5_fan_20 ?_
      exact aw_iret C E dX5_fan_21 rfl (Or.inl ⟨hbad, rfl, rfl⟩)

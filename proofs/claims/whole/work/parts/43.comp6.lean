/-! the component's state -/
def pst (mu : Mem) (j : Nat) : Nat := (mu 14 ((mu 0 7 + 7 - j) % 8).toNat).toNat
def psh (V : FV) (H : Nat → FV) : Nat → FV := fun j => if j = 0 then V else H (j - 1)
def cSt (mu : Mem) (V : FV) (a : Int) (H : Nat → FV) : Prop := rgF mu ∧ (∃ f : Nat, isF f ∧ mu 0 5 = (f : Int) ∧ fv mu f = V) ∧ gV V ∧ mu 0 8 = a ∧ (0 ≤ a ∧ a ≤ 8) ∧ (0 ≤ mu 0 7 ∧ mu 0 7 < 8) ∧ ∀ j : Nat, (j : Int) < a → fv mu (pst mu j) = H j ∧ gV (H j) ∧ 0 < (H j).1
/-- what an act leaves as it was -/
def afr (mu m : Mem) : Prop := ∀ x y, (x = 0 ∧ (y = 9 ∨ y = 10)) ∨ (1 ≤ x ∧ x ≤ 7) ∨ x = 13 ∨ 55 ≤ x → m x y = mu x y
/-- what work in the draft g leaves as it was -/
def dfr (g : Nat) (mu m : Mem) : Prop := ∀ x y, ¬ fanS g x → ¬ (x = 0 ∧ y = 11) → ¬ (8 ≤ x ∧ x ≤ 12) → m x y = mu x y
theorem fv_eq {mu m : Mem} {f : Nat} (h : ∀ x, f ≤ x → x ≤ f + 3 → m x = mu x) : fv m f = fv mu f := by
  unfold fv
  rw [h f (by omega) (by omega), h (f + 1) (by omega) (by omega), h (f + 2) (by omega) (by omega), h (f + 3) (by omega) (by omega)]
theorem isF_ne {f g : Nat} (hf : isF f) (hg : isF g) (hne : f ≠ g) : f + 3 < g ∨ g + 3 < f := by
  obtain ⟨s, h1, rfl⟩ := hf
  obtain ⟨t, h2, rfl⟩ := hg
  omega
theorem dfr.sl {g : Nat} {mu m : Mem} (h : dfr g mu m) (hg : isF g) (t : Nat) : slt m t = slt mu t := by
  have := hg.ge
  unfold slt
  rw [h 0 5 (by unfold fanS; omega) (by omega) (by omega), h 0 6 (by unfold fanS; omega) (by omega) (by omega), h 14 (t - 2) (by unfold fanS; omega) (by omega) (by omega)]
theorem dfr.rg {g : Nat} {mu m : Mem} (h : dfr g mu m) (hg : isF g) (hr : rgF mu) : rgF m := by
  refine ⟨fun s t hs ht e => ?_, fun t ht => ?_⟩
  · rw [h.sl hg, h.sl hg] at e; exact hr.1 s t hs ht e
  · rw [h.sl hg]; exact hr.2 t ht
theorem dfr.fv {g f : Nat} {mu m : Mem} (h : dfr g mu m) (hg : isF g) (hf : isF f) (hne : f ≠ g) : Jvm.Pilot.@@N@@.fv m f = Jvm.Pilot.@@N@@.fv mu f := by
  have h1 := isF_ne hf hg hne
  have h2 := hf.ge
  exact fv_eq fun x a b => funext fun y => h x y (by unfold fanS; omega) (by omega) (by omega)
theorem cSt.past {mu : Mem} {V : FV} {a : Int} {H : Nat → FV} (h : cSt mu V a H) {i : Nat} (hi : i < 8) : ∃ p : Nat, isF p ∧ mu 14 i = (p : Int) := by
  obtain ⟨p, h1, h2⟩ := h.1.2 (i + 2) (by omega)
  exact ⟨p, h1, (slt_p mu i).symm.trans h2⟩
theorem cSt.draft {mu : Mem} {V : FV} {a : Int} {H : Nat → FV} (h : cSt mu V a H) : ∃ g : Nat, isF g ∧ mu 0 6 = (g : Int) := h.1.2 1 (by decide)
/-- work in the draft that is thrown away -/
theorem cSt.d {mu m : Mem} {V : FV} {a : Int} {H : Nat → FV} {g : Nat} (h : cSt mu V a H) (hg : isF g) (eg : mu 0 6 = (g : Int)) (hd : dfr g mu m) : cSt m V a H := by
  have h0 := h
  obtain ⟨r, ⟨f, hf, ef, evf⟩, gv, ea, ha, hn, hp⟩ := h
  have q := hg.ge
  have c0 : ∀ y, y ≠ 11 → m 0 y = mu 0 y := fun y hy => hd 0 y (by unfold fanS; omega) (by omega) (by omega)
  have c14 : ∀ y, m 14 y = mu 14 y := fun y => hd 14 y (by unfold fanS; omega) (by omega) (by omega)
  refine ⟨hd.rg hg r, ⟨f, hf, by rw [c0 5 (by decide)]; exact ef, ?_⟩, gv, by rw [c0 8 (by decide)]; exact ea, ha, by rw [c0 7 (by decide)]; exact hn, fun j hj => ?_⟩
  · rw [hd.fv hg hf (rg_ne r (s := 0) (t := 1) (by decide) (by decide) ef eg (by decide))]; exact evf
  · have e : pst m j = pst mu j := by unfold pst; rw [c0 7 (by decide), c14]
    obtain ⟨z1, z2, z3⟩ := hp j hj
    refine ⟨?_, z2, z3⟩
    rw [e, ← z1]
    obtain ⟨p, p1, p2⟩ := h0.past (i := ((mu 0 7 + 7 - j) % 8).toNat) (by omega)
    have e2 : pst mu j = p := by unfold pst; rw [p2]; omega
    rw [e2]
    exact hd.fv hg p1 (rg_ne r (s := ((mu 0 7 + 7 - j) % 8).toNat + 2) (t := 1) (by omega) (by decide) (by rw [slt_p]; exact p2) eg (by omega))
/-- the draft is kept -/
theorem cSt.k {mu m : Mem} {V W : FV} {a : Int} {H : Nat → FV} {f g p : Nat} (h : cSt mu V a H) (hf : isF f) (ef : mu 0 5 = (f : Int)) (hg : isF g) (eg : mu 0 6 = (g : Int)) (hpp : isF p) (ep : mu 14 (mu 0 7).toNat = (p : Int)) (hV : 0 < V.1) (hd : dfr g mu m) (hW : fv m g = W) (gW : gV W) : cSt (kpM m f g p (mu 0 7)) W (min 8 (a + 1)) (psh V H) ∧ (kpM m f g p (mu 0 7)) 0 11 = m 0 11 ∧ afr m (kpM m f g p (mu 0 7)) := by
  have h0 := h
  have hm := h.d hg eg hd
  obtain ⟨r, ⟨f2, hf2, ef2, evf⟩, gv, ea, ha, hn, hp⟩ := h
  obtain rfl : f2 = f := by omega
  have q := hg.ge
  have c0 : ∀ y, y ≠ 11 → m 0 y = mu 0 y := fun y hy => hd 0 y (by unfold fanS; omega) (by omega) (by omega)
  have c14 : ∀ y, m 14 y = mu 14 y := fun y => hd 14 y (by unfold fanS; omega) (by omega) (by omega)
  have rm := hm.1
  have ef1 : m 0 5 = (f2 : Int) := (c0 5 (by decide)).trans ef
  have eg1 : m 0 6 = (g : Int) := (c0 6 (by decide)).trans eg
  have ep1 : m 14 (mu 0 7).toNat = (p : Int) := (c14 _).trans ep
  have fne := rg_ne r (s := 0) (t := 1) (by decide) (by decide) ef eg (by decide)
  generalize hN : mu 0 7 = n at *
  have k0 : ∀ b, b ≠ 5 → b ≠ 6 → b ≠ 7 → b ≠ 8 → kpM m f2 g p n 0 b = m 0 b := fun b b1 b2 b3 b4 => by
    unfold kpM
    rw [wr_at, if_neg (by omega), wr_at, if_neg (by omega), wr_at, if_neg (by omega), wr_at, if_neg (by omega), wr_ne (by omega)]
  have k5 : kpM m f2 g p n 0 5 = (g : Int) := by
    unfold kpM
    rw [wr_at, if_neg (by omega), wr_at, if_neg (by omega), wr_at, if_neg (by omega), wr_at, if_pos ⟨rfl, rfl⟩]
  have k7 : kpM m f2 g p n 0 7 = nx8 n := by
    unfold kpM
    rw [wr_at, if_neg (by omega), wr_at, if_pos ⟨rfl, rfl⟩]
  have k8 : kpM m f2 g p n 0 8 = min 8 (a + 1) := by
    unfold kpM
    rw [wr_at, if_pos ⟨rfl, rfl⟩, c0 8 (by decide), ea]
  have k14 : ∀ b, kpM m f2 g p n 14 b = if b = n.toNat then (f2 : Int) else mu 14 b := fun b => by
    unfold kpM
    rw [wr_ne (by omega), wr_ne (by omega), wr_ne (by omega), wr_ne (by omega), wr_at]
    by_cases w : b = n.toNat
    · rw [if_pos ⟨rfl, w⟩, if_pos w]
    · rw [if_neg (fun z => w z.2), if_neg w, c14]
  have kx : ∀ x, x ≠ 0 → x ≠ 14 → kpM m f2 g p n x = m x := fun x x1 x2 => by
    unfold kpM
    rw [wr_ne (by omega), wr_ne (by omega), wr_ne (by omega), wr_ne (by omega), wr_ne (by omega)]
  have kf : ∀ z, isF z → fv (kpM m f2 g p n) z = fv m z := fun z hz => by
    have := hz.ge
    exact fv_eq fun x a b => kx x (by omega) (by omega)
  have nx : 0 ≤ nx8 n ∧ nx8 n < 8 := by unfold nx8; split <;> omega
  refine ⟨⟨rg_kp rm ef1 eg1 hn.1 hn.2 ep1, ⟨g, hg, k5, by rw [kf g hg]; exact hW⟩, gW, k8, by omega, by rw [k7]; exact nx, fun j hj => ?_⟩, k0 11 (by decide) (by decide) (by decide) (by decide), fun x y hxy => ?_⟩
  · unfold pst
    rw [k7, k14]
    by_cases j0 : j = 0
    · subst j0
      have e : ((nx8 n + 7 - ((0 : Nat) : Int)) % 8).toNat = n.toNat := by unfold nx8; split <;> omega
      rw [if_pos e, show (f2 : Int).toNat = f2 by omega, kf f2 hf2, hd.fv hg hf2 fne, evf]
      exact ⟨rfl, gv, hV⟩
    · have hj2 : ((j - 1 : Nat) : Int) < a := by omega
      obtain ⟨z1, z2, z3⟩ := hp (j - 1) hj2
      have e : ((nx8 n + 7 - (j : Int)) % 8).toNat = ((n + 7 - ((j - 1 : Nat) : Int)) % 8).toNat := by unfold nx8; split <;> omega
      have e3 : ¬ ((n + 7 - ((j - 1 : Nat) : Int)) % 8).toNat = n.toNat := by omega
      rw [e, if_neg e3]
      have e4 : psh V H j = H (j - 1) := by unfold psh; rw [if_neg j0]
      rw [e4]
      refine ⟨?_, z2, z3⟩
      rw [← z1]
      obtain ⟨c, p1, p2⟩ := h0.past (i := ((n + 7 - ((j - 1 : Nat) : Int)) % 8).toNat) (by omega)
      have e2 : pst mu (j - 1) = c := by unfold pst; rw [hN, p2]; omega
      rw [e2, p2, show (c : Int).toNat = c by omega, kf c p1]
      exact hd.fv hg p1 (rg_ne r (s := ((n + 7 - ((j - 1 : Nat) : Int)) % 8).toNat + 2) (t := 1) (by omega) (by decide) (by rw [slt_p]; exact p2) eg (by omega))
  · by_cases x0 : x = 0
    · subst x0; exact k0 y (by omega) (by omega) (by omega) (by omega)
    · rw [kx x x0 (by omega)]
theorem cSt.e {mu m : Mem} {V : FV} {a : Int} {H : Nat → FV} {c : Int} (h : cSt mu V a H) (he : cE mu m c) : cSt m V a H := by
  obtain ⟨g, hg, eg⟩ := h.draft
  exact h.d hg eg (fun x y _ h2 h3 => he.1 x y (fun w => by unfold qS at w; omega))
theorem cE.af {mu m : Mem} {c : Int} (he : cE mu m c) : afr mu m := fun x y hxy => he.1 x y (by unfold qS; omega)
theorem cSt.f {mu : Mem} {V : FV} {a : Int} {H : Nat → FV} (h : cSt mu V a H) : ∃ f, cF mu f ∧ fv mu f = V := by
  obtain ⟨-, ⟨f, hf, ef, evf⟩, gv, -⟩ := h
  exact ⟨f, ⟨hf, ef, by rw [evf]; exact gv⟩, evf⟩

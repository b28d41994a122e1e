/-! the reference reads a text -/
def rdK (m : Mem) (A : Nat → Int) (n : Int) : Prop := m 55 5 = n ∧ (0 ≤ n ∧ n ≤ 500) ∧ (∀ j : Nat, A j = sby (m 56 j)) ∧ ∀ j : Nat, 0 ≤ m 56 j ∧ m 56 j < 256
def MT (m : Mem) (t : TK) : Prop := m 55 10 = t.2.2.1 ∧ (t.1 ≠ 3 → m 55 6 = t.2.2.2) ∧ ((t.1 = 0 ∧ m 55 9 = 1) ∨ (t.1 = 1 ∧ m 55 9 = 2 ∧ m 55 13 = t.2.1) ∨ (t.1 = 2 ∧ m 55 9 = 3 ∧ m 55 12 = t.2.1) ∨ (t.1 = 3 ∧ m 55 9 = 0) ∨ ((t.1 = 59 ∨ t.1 = 44 ∨ t.1 = 45) ∧ m 55 9 = 4 ∧ m 55 11 = t.1))
def nbM (m : Mem) : Prop := (0 ≤ m 55 12 ∧ m 55 12 ≤ 99) ∧ (0 ≤ m 55 9 ∧ m 55 9 ≤ 4)
/-- a fault is told -/
def FS (m : Mem) (f pl : Int) : Prop := (m 55 7 = f ∧ 1 ≤ f ∧ f ≤ 5) ∧ m 55 8 = pl ∧ nbM m
def goS : Nat → Nat → Prop := fun a b => a = 55 ∧ (b = 6 ∨ (9 ≤ b ∧ b ≤ 13))
theorem rdK.fr {mu m : Mem} {A : Nat → Int} {n : Int} {P : Nat → Nat → Prop} (h : rdK mu A n) (hf : frc P mu m) (h5 : ¬ P 55 5) (h6 : ∀ j, ¬ P 56 j) : rdK m A n := by
  obtain ⟨k1, k2, k3, k4⟩ := h
  exact ⟨(hf _ _ h5).trans k1, k2, fun j => by rw [hf 56 j (h6 j)]; exact k3 j, fun j => by rw [hf 56 j (h6 j)]; exact k4 j⟩
theorem rdK.go {mu m : Mem} {A : Nat → Int} {n : Int} (h : rdK mu A n) (hf : frc goS mu m) : rdK m A n := h.fr hf (by unfold goS; omega) (fun j => by unfold goS; omega)
theorem t_X6_isLetterAt {mu : Mem} {A : Nat → Int} {n k : Int} (hK : rdK mu A n) (h0 : 0 ≤ k) (h1 : k ≤ n) : TrE 1 mX6_isLetterAt [vr 55, vi k] mu (some (vi (b01 (k < n ∧ lt (A k.toNat) = true)))) mu := by
  refine Tr.of (by decide +kernel) (Nat.le_of_ble_eq_true rfl) (fun K C E => ?_)
  obtain ⟨k1, k2, k3, k4⟩ := hK
  have a1 := k3 k.toNat
  have a2 := k4 k.toNat
  have a3 : lt (A k.toNat) = true ↔ 97 ≤ mu 56 k.toNat ∧ mu 56 k.toNat ≤ 122 := by rw [lt_t, a1]; unfold sby; split <;> omega
  rw [b01_congr (show (k < n ∧ lt (A k.toNat) = true) ↔ (k < n ∧ 97 ≤ mu 56 k.toNat ∧ mu 56 k.toNat ≤ 122) by rw [a3])] at E
  have kb := b01_01 (97 ≤ mu 56 k.toNat ∧ mu 56 k.toNat ≤ 122)
  have kbi : b01 (97 ≤ mu 56 k.toNat ∧ mu 56 k.toNat ≤ 122) = 1 ↔ (97 ≤ mu 56 k.toNat ∧ mu 56 k.toNat ≤ 122) := b01_iff
  refine aw_iload_n C dX6_isLetterAt_0 rfl ?_
  refine aw_aload_n C dX6_isLetterAt_1 rfl ?_
  refine aw_getI C dX6_isLetterAt_2 fX6_101 ⟨rfl, by decide⟩ rfl ?_
  refine aw_icmp_ge C dX6_isLetterAt_5 (tgt := 31) (by decide) ⟨by omega, by omega⟩ ⟨by omega, by omega⟩ (fun c1 => ?_) (fun c1 => ?_)
  · refine aw_iconst C dX6_isLetterAt_31 ?_
    exact aw_zret C E dX6_isLetterAt_32 rfl (by omega) ⟨by first | rw [b01_t (by omega)] | rw [b01_f (by omega)], rfl⟩
  · refine aw_aload_n C dX6_isLetterAt_8 rfl ?_
    refine aw_getS C dX6_isLetterAt_9 fX6_15 ⟨rfl, by decide⟩ rfl rfl (srf 55 3 56 (by decide)) ?_
    refine aw_iload_n C dX6_isLetterAt_12 rfl ?_
    refine aw_iald C dX6_isLetterAt_13 ⟨rfl, by decide⟩ (by decide) (by omega) (by omega) ?_
    refine aw_i2l C dX6_isLetterAt_14 ⟨by omega, by omega⟩ ?_
    refine aw_ldc2 C dX6_isLetterAt_15 kX6_104 (z := 97) (by decide +kernel) ?_
    refine aw_ldc2 C dX6_isLetterAt_18 kX6_106 (z := 122) (by decide +kernel) ?_
    refine aw_callS1 C dX6_isLetterAt_21 lX6_108 vX6_in (t_X6_in ⟨by omega, by omega⟩ ⟨by omega, by omega⟩ ⟨by omega, by omega⟩) rfl rfl rfl ⟨by decide, by decide⟩ (Nat.le_of_ble_eq_true rfl) ?_
    refine aw_if_eq C dX6_isLetterAt_24 (tgt := 31) (by decide) ⟨by omega, by omega⟩ (fun c2 => ?_) (fun c2 => ?_)
    · refine aw_iconst C dX6_isLetterAt_31 ?_
      exact aw_zret C E dX6_isLetterAt_32 rfl (by omega) ⟨by first | rw [b01_t (by omega)] | rw [b01_f (by omega)], rfl⟩
    · refine aw_iconst C dX6_isLetterAt_27 ?_
      refine aw_goto C dX6_isLetterAt_28 (tgt := 32) (by decide) ?_
      exact aw_zret C E dX6_isLetterAt_32 rfl (by omega) ⟨by first | rw [b01_t (by omega)] | rw [b01_f (by omega)], rfl⟩
theorem t_X6_isDigitAt {mu : Mem} {A : Nat → Int} {n k : Int} (hK : rdK mu A n) (h0 : 0 ≤ k) (h1 : k ≤ n) : TrE 1 mX6_isDigitAt [vr 55, vi k] mu (some (vi (b01 (k < n ∧ dg (A k.toNat) = true)))) mu := by
  refine Tr.of (by decide +kernel) (Nat.le_of_ble_eq_true rfl) (fun K C E => ?_)
  obtain ⟨k1, k2, k3, k4⟩ := hK
  have a1 := k3 k.toNat
  have a2 := k4 k.toNat
  have a3 : dg (A k.toNat) = true ↔ 48 ≤ mu 56 k.toNat ∧ mu 56 k.toNat ≤ 57 := by rw [dg_t, a1]; unfold sby; split <;> omega
  rw [b01_congr (show (k < n ∧ dg (A k.toNat) = true) ↔ (k < n ∧ 48 ≤ mu 56 k.toNat ∧ mu 56 k.toNat ≤ 57) by rw [a3])] at E
  have kb := b01_01 (48 ≤ mu 56 k.toNat ∧ mu 56 k.toNat ≤ 57)
  have kbi : b01 (48 ≤ mu 56 k.toNat ∧ mu 56 k.toNat ≤ 57) = 1 ↔ (48 ≤ mu 56 k.toNat ∧ mu 56 k.toNat ≤ 57) := b01_iff
  refine aw_iload_n C dX6_isDigitAt_0 rfl ?_
  refine aw_aload_n C dX6_isDigitAt_1 rfl ?_
  refine aw_getI C dX6_isDigitAt_2 fX6_101 ⟨rfl, by decide⟩ rfl ?_
  refine aw_icmp_ge C dX6_isDigitAt_5 (tgt := 31) (by decide) ⟨by omega, by omega⟩ ⟨by omega, by omega⟩ (fun c1 => ?_) (fun c1 => ?_)
  · refine aw_iconst C dX6_isDigitAt_31 ?_
    exact aw_zret C E dX6_isDigitAt_32 rfl (by omega) ⟨by first | rw [b01_t (by omega)] | rw [b01_f (by omega)], rfl⟩
  · refine aw_aload_n C dX6_isDigitAt_8 rfl ?_
    refine aw_getS C dX6_isDigitAt_9 fX6_15 ⟨rfl, by decide⟩ rfl rfl (srf 55 3 56 (by decide)) ?_
    refine aw_iload_n C dX6_isDigitAt_12 rfl ?_
    refine aw_iald C dX6_isDigitAt_13 ⟨rfl, by decide⟩ (by decide) (by omega) (by omega) ?_
    refine aw_i2l C dX6_isDigitAt_14 ⟨by omega, by omega⟩ ?_
    refine aw_ldc2 C dX6_isDigitAt_15 kX6_112 (z := 48) (by decide +kernel) ?_
    refine aw_ldc2 C dX6_isDigitAt_18 kX6_114 (z := 57) (by decide +kernel) ?_
    refine aw_callS1 C dX6_isDigitAt_21 lX6_108 vX6_in (t_X6_in ⟨by omega, by omega⟩ ⟨by omega, by omega⟩ ⟨by omega, by omega⟩) rfl rfl rfl ⟨by decide, by decide⟩ (Nat.le_of_ble_eq_true rfl) ?_
    refine aw_if_eq C dX6_isDigitAt_24 (tgt := 31) (by decide) ⟨by omega, by omega⟩ (fun c2 => ?_) (fun c2 => ?_)
    · refine aw_iconst C dX6_isDigitAt_31 ?_
      exact aw_zret C E dX6_isDigitAt_32 rfl (by omega) ⟨by first | rw [b01_t (by omega)] | rw [b01_f (by omega)], rfl⟩
    · refine aw_iconst C dX6_isDigitAt_27 ?_
      refine aw_goto C dX6_isDigitAt_28 (tgt := 32) (by decide) ?_
      exact aw_zret C E dX6_isDigitAt_32 rfl (by omega) ⟨by first | rw [b01_t (by omega)] | rw [b01_f (by omega)], rfl⟩
theorem t_X6_flaw0 {mu : Mem} {f : Int} (h7 : mu 55 7 = 0) (hf : 1 ≤ f ∧ f ≤ 5) (hn : nbM mu) : Tr 0 mX6_flaw [vr 55, vi f] mu (fun r m2 => r = none ∧ frc (fun a b => a = 55 ∧ (b = 7 ∨ b = 8)) mu m2 ∧ FS m2 f (mu 55 10)) := by
  refine Tr.of (by decide +kernel) (Nat.le_of_ble_eq_true rfl) (fun K C E => ?_)
  have e10 : wr mu 55 7 f 55 10 = mu 55 10 := by rw [wr_at, if_neg (by decide)]
  have fin : FS (wr (wr mu 55 7 f) 55 8 (mu 55 10)) f (mu 55 10) := by
    refine ⟨⟨by rw [wr_at, if_neg (by decide), wr_at, if_pos ⟨rfl, rfl⟩], hf.1, hf.2⟩, by rw [wr_at, if_pos ⟨rfl, rfl⟩], ?_⟩
    unfold nbM
    rw [wr_at, if_neg (by decide), wr_at, if_neg (by decide), wr_at, if_neg (by decide), wr_at, if_neg (by decide)]
    exact hn
  refine aw_aload_n C dX6_flaw_0 rfl ?_
  refine aw_getI C dX6_flaw_1 fX6_92 ⟨rfl, by decide⟩ rfl ?_
  refine aw_if_le C dX6_flaw_4 (tgt := 8) (by decide) ⟨by omega, by omega⟩ (fun c1 => ?_) (fun c1 => ?_)
  · refine aw_aload_n C dX6_flaw_8 rfl ?_
    refine aw_iload_n C dX6_flaw_9 rfl ?_
    refine aw_putI C dX6_flaw_10 fX6_92 ⟨rfl, by decide⟩ rfl rfl rfl ?_
    refine aw_aload_n C dX6_flaw_13 rfl ?_
    refine aw_aload_n C dX6_flaw_14 rfl ?_
    refine aw_getI C dX6_flaw_15 fX6_95 ⟨rfl, by decide⟩ rfl ?_
    rw [e10]
    refine aw_putI C dX6_flaw_18 fX6_98 ⟨rfl, by decide⟩ rfl rfl rfl ?_
    exact aw_vret C E dX6_flaw_21 rfl ⟨rfl, (frc.rf.w ⟨rfl, Or.inl rfl⟩).w ⟨rfl, Or.inr rfl⟩, fin⟩
  · exfalso; omega
theorem t_X6_flawF {mu : Mem} {f pl c : Int} (hF : FS mu f pl) : TrE 0 mX6_flaw [vr 55, vi c] mu none mu := by
  refine Tr.of (by decide +kernel) (Nat.le_of_ble_eq_true rfl) (fun K C E => ?_)
  have := hF.1
  refine aw_aload_n C dX6_flaw_0 rfl ?_
  refine aw_getI C dX6_flaw_1 fX6_92 ⟨rfl, by decide⟩ rfl ?_
  refine aw_if_le C dX6_flaw_4 (tgt := 8) (by decide) ⟨by omega, by omega⟩ (fun c1 => ?_) (fun c1 => ?_)
  · exfalso; omega
  · exact aw_vret C E dX6_flaw_7 rfl ⟨rfl, rfl⟩
theorem t_X6_goOnF {mu : Mem} {f pl : Int} (hF : FS mu f pl) : TrE 2 mX6_goOn [vr 55] mu none mu := by
  refine Tr.of (by decide +kernel) (Nat.le_of_ble_eq_true rfl) (fun K C E => ?_)
  have := hF.1
  refine aw_aload_n C dX6_goOn_0 rfl ?_
  refine aw_getI C dX6_goOn_1 fX6_92 ⟨rfl, by decide⟩ rfl ?_
  refine aw_if_le C dX6_goOn_4 (tgt := 8) (by decide) ⟨by omega, by omega⟩ (fun c1 => ?_) (fun c1 => ?_)
  · exfalso; omega
  · exact aw_vret C E dX6_goOn_7 rfl ⟨rfl, rfl⟩
theorem t_X6_isSignF {mu : Mem} {f pl c : Int} (hF : FS mu f pl) : TrE 0 mX6_isSign [vr 55, vi c] mu (some (vi 0)) mu := by
  refine Tr.of (by decide +kernel) (Nat.le_of_ble_eq_true rfl) (fun K C E => ?_)
  have := hF.1
  refine aw_aload_n C dX6_isSign_0 rfl ?_
  refine aw_getI C dX6_isSign_1 fX6_92 ⟨rfl, by decide⟩ rfl ?_
  refine aw_if_ne C dX6_isSign_4 (tgt := 27) (by decide) ⟨by omega, by omega⟩ (fun c1 => ?_) (fun c1 => ?_)
  · refine aw_iconst C dX6_isSign_27 ?_
    exact aw_zret C E dX6_isSign_28 rfl (by omega) ⟨rfl, rfl⟩
  · exfalso; omega
theorem MT.k {m : Mem} {t : TK} (h : MT m t) (hb : tB t) : (m 55 9 = 2 ↔ t.1 = 1) ∧ (m 55 9 = 3 ↔ t.1 = 2) ∧ (m 55 9 = 1 ↔ t.1 = 0) ∧ (0 ≤ m 55 9 ∧ m 55 9 ≤ 4) ∧ (m 55 9 = 4 → m 55 11 = t.1 ∧ (t.1 = 59 ∨ t.1 = 44 ∨ t.1 = 45)) ∧ (t.1 = 59 ∨ t.1 = 44 ∨ t.1 = 45 → m 55 9 = 4) ∧ (t.1 = 1 → m 55 13 = t.2.1) ∧ (t.1 = 2 → m 55 12 = t.2.1) := by
  obtain ⟨-, -, h⟩ := h
  rcases h with ⟨h1, h2⟩ | ⟨h1, h2, h3⟩ | ⟨h1, h2, h3⟩ | ⟨h1, h2⟩ | ⟨h1, h2, h3⟩
  · exact ⟨by omega, by omega, by omega, by omega, by omega, by omega, by omega, by omega⟩
  · exact ⟨by omega, by omega, by omega, by omega, by omega, by omega, fun _ => h3, by omega⟩
  · exact ⟨by omega, by omega, by omega, by omega, by omega, by omega, by omega, fun _ => h3⟩
  · exact ⟨by omega, by omega, by omega, by omega, by omega, by omega, by omega, by omega⟩
  · exact ⟨by omega, by omega, by omega, by omega, fun _ => ⟨h3, h1⟩, fun _ => h2, by omega, by omega⟩
theorem t_X6_isSign {mu : Mem} {t : TK} {c : Int} (h7 : mu 55 7 = 0) (hM : MT mu t) (hb : tB t) (hc : c = 59 ∨ c = 44 ∨ c = 45) : TrE 0 mX6_isSign [vr 55, vi c] mu (some (vi (b01 (t.1 = c)))) mu := by
  refine Tr.of (by decide +kernel) (Nat.le_of_ble_eq_true rfl) (fun K C E => ?_)
  obtain ⟨k1, k2, k3, k4, k5, k6, k7, k8⟩ := hM.k hb
  refine aw_aload_n C dX6_isSign_0 rfl ?_
  refine aw_getI C dX6_isSign_1 fX6_92 ⟨rfl, by decide⟩ rfl ?_
  refine aw_if_ne C dX6_isSign_4 (tgt := 27) (by decide) ⟨by omega, by omega⟩ (fun c1 => ?_) (fun c1 => ?_)
  · exfalso; omega
  · refine aw_aload_n C dX6_isSign_7 rfl ?_
    refine aw_getI C dX6_isSign_8 fX6_119 ⟨rfl, by decide⟩ rfl ?_
    refine aw_iconst C dX6_isSign_11 ?_
    refine aw_icmp_ne C dX6_isSign_12 (tgt := 27) (by decide) ⟨by omega, by omega⟩ ⟨by omega, by omega⟩ (fun c2 => ?_) (fun c2 => ?_)
    · refine aw_iconst C dX6_isSign_27 ?_
      exact aw_zret C E dX6_isSign_28 rfl (by omega) ⟨by first | rw [b01_t (by omega)] | rw [b01_f (by omega)], rfl⟩
    · have k5 := k5 (by omega)
      --go
      refine aw_aload_n C dX6_isSign_15 rfl ?_
      refine aw_getI C dX6_isSign_16 fX6_138 ⟨rfl, by decide⟩ rfl ?_
      refine aw_iload_n C dX6_isSign_19 rfl ?_
      refine aw_icmp_ne C dX6_isSign_20 (tgt := 27) (by decide) ⟨by omega, by omega⟩ ⟨by omega, by omega⟩ (fun c3 => ?_) (fun c3 => ?_)
      · refine aw_iconst C dX6_isSign_27 ?_
        exact aw_zret C E dX6_isSign_28 rfl (by omega) ⟨by first | rw [b01_t (by omega)] | rw [b01_f (by omega)], rfl⟩
      · refine aw_iconst C dX6_isSign_23 ?_
        refine aw_goto C dX6_isSign_24 (tgt := 28) (by decide) ?_
        exact aw_zret C E dX6_isSign_28 rfl (by omega) ⟨by first | rw [b01_t (by omega)] | rw [b01_f (by omega)], rfl⟩
theorem tok_q {A : Nat → Int} {n p q : Int} (hq : sc A bl n p = q) : tok A n p = if q ≥ n then (0, 0, q, q) else if lt (A q.toNat) = true then (if sc A lt n q - q ≤ 6 then (1, wdv A 32 96 q (sc A lt n q), q, sc A lt n q) else (3, 0, q, sc A lt n q)) else if dg (A q.toNat) = true then (if sc A dg n q - q ≤ 2 then (2, wdv A 10 48 q (sc A dg n q), q, sc A dg n q) else (3, 0, q, sc A dg n q)) else if A q.toNat = 59 ∨ A q.toNat = 44 ∨ A q.toNat = 45 then (A q.toNat, 0, q, q + 1) else (3, 0, q, q) := by
  unfold tok
  rw [hq]
theorem t_X6_goOn {mu : Mem} {A : Nat → Int} {n p : Int} (hK : rdK mu A n) (h7 : mu 55 7 = 0) (hp : mu 55 6 = p) (h0 : 0 ≤ p) (h1 : p ≤ n) (hnb : nbM mu) : Tr 2 mX6_goOn [vr 55] mu (fun r m2 => r = none ∧ frc goS mu m2 ∧ MT m2 (tok A n p) ∧ nbM m2) := by
  refine Tr.of (by decide +kernel) (Nat.le_of_ble_eq_true rfl) (fun K C E => ?_)
  have k5 := hK.1
  have kn := hK.2.1
  -- a word
  have lw : ∀ (q : Int), sc A bl n p = q → 0 ≤ q → q < n → lt (A q.toNat) = true → ∀ (k : Nat) (e : Int) (m : Mem), q ≤ e → e + k = n → frc goS mu m → m 55 10 = q → m 55 6 = e → nbM m → sc A lt n e = sc A lt n q → (e - q ≤ 6 → m 55 13 = wdv A 32 96 q e) → AW K mX6_goOn (NC, 0, 0) 89 [vr 55] [] m := by
    intro q hq q0 q1 ql k
    have et := tok_q (A := A) (n := n) hq
    rw [if_neg (by omega), if_pos ql] at et
    have done : ∀ (e : Int) (m : Mem), q ≤ e → e ≤ n → frc goS mu m → m 55 10 = q → m 55 6 = e → nbM m → sc A lt n q = e → (e - q ≤ 6 → m 55 13 = wdv A 32 96 q e) → AW K mX6_goOn (NC, 0, 0) 156 [vr 55] [] m := by
      intro e m e0 e1 hf y1 y2 y3 y4 y5
      rw [y4] at et
      have fin1 : ¬ e - q ≤ 6 → MT (wr m 55 9 0) (tok A n p) := fun w => by
        rw [et, if_neg w]
        exact ⟨by rw [wr_at, if_neg (by decide)]; exact y1, fun z => absurd rfl z, Or.inr (Or.inr (Or.inr (Or.inl ⟨rfl, by rw [wr_at, if_pos ⟨rfl, rfl⟩]⟩)))⟩
      have fin2 : e - q ≤ 6 → MT (wr m 55 9 2) (tok A n p) := fun w => by
        rw [et, if_pos w]
        exact ⟨by rw [wr_at, if_neg (by decide)]; exact y1, fun _ => by rw [wr_at, if_neg (by decide)]; exact y2, Or.inr (Or.inl ⟨rfl, by rw [wr_at, if_pos ⟨rfl, rfl⟩], by rw [wr_at, if_neg (by decide)]; exact y5 w⟩)⟩
      have nb2 : ∀ z : Int, 0 ≤ z → z ≤ 4 → nbM (wr m 55 9 z) := fun z z0 z1 => by
        unfold nbM
        rw [wr_at, if_neg (by decide), wr_at, if_pos ⟨rfl, rfl⟩]
        exact ⟨y3.1, z0, z1⟩
      refine aw_aload_n C dX6_goOn_156 rfl ?_
      refine aw_aload_n C dX6_goOn_157 rfl ?_
      refine aw_getI C dX6_goOn_158 fX6_116 ⟨rfl, by decide⟩ rfl ?_
      rw [y2]
      refine aw_aload_n C dX6_goOn_161 rfl ?_
      refine aw_getI C dX6_goOn_162 fX6_95 ⟨rfl, by decide⟩ rfl ?_
      rw [y1]
      refine aw_isub C dX6_goOn_165 ?_
      refine aw_bipush C dX6_goOn_166 rfl ?_
      refine aw_icmp_le C dX6_goOn_168 (tgt := 175) (by decide) ⟨by omega, by omega⟩ ⟨by omega, by omega⟩ (fun c1 => ?_) (fun c1 => ?_)
      · refine aw_iconst C dX6_goOn_175 ?_
        refine aw_putI C dX6_goOn_176 fX6_119 ⟨rfl, by decide⟩ rfl rfl rfl ?_
        refine aw_goto C dX6_goOn_179 (tgt := 343) (by decide) ?_
        exact aw_vret C E dX6_goOn_343 rfl (by first | exact ⟨rfl, hf.w ⟨rfl, by omega⟩, fin1 (by omega), nb2 _ (by omega) (by omega)⟩ | exact ⟨rfl, hf.w ⟨rfl, by omega⟩, fin2 (by omega), nb2 _ (by omega) (by omega)⟩)
      · refine aw_iconst C dX6_goOn_171 ?_
        refine aw_goto C dX6_goOn_172 (tgt := 176) (by decide) ?_
        refine aw_putI C dX6_goOn_176 fX6_119 ⟨rfl, by decide⟩ rfl rfl rfl ?_
        refine aw_goto C dX6_goOn_179 (tgt := 343) (by decide) ?_
        exact aw_vret C E dX6_goOn_343 rfl (by first | exact ⟨rfl, hf.w ⟨rfl, by omega⟩, fin1 (by omega), nb2 _ (by omega) (by omega)⟩ | exact ⟨rfl, hf.w ⟨rfl, by omega⟩, fin2 (by omega), nb2 _ (by omega) (by omega)⟩)
    induction k with
    | zero =>
      intro e m e0 e1 hf y1 y2 y3 y4 y5
      have hKm := hK.go hf
      have st : sc A lt n e = e := sc_stop (fun w => by omega)
      have kb : b01 (e < n ∧ lt (A e.toNat) = true) = 0 := b01_f (fun w => by omega)
      refine aw_aload_n C dX6_goOn_89 rfl ?_
      refine aw_aload_n C dX6_goOn_90 rfl ?_
      refine aw_getI C dX6_goOn_91 fX6_116 ⟨rfl, by decide⟩ rfl ?_
      rw [y2]
      refine aw_call1 C dX6_goOn_94 lX6_122 vX6_isLetterAt (t_X6_isLetterAt hKm (by omega) (by omega)) rfl rfl rfl ⟨rfl, by decide⟩ rfl ⟨by decide, by decide⟩ (Nat.le_of_ble_eq_true rfl) ?_
      refine aw_if_eq C dX6_goOn_97 (tgt := 156) (by decide) ⟨by omega, by omega⟩ (fun c1 => ?_) (fun c1 => ?_)
      · exact done e m e0 (by omega) hf y1 y2 y3 (by rw [← y4]; exact st) y5
      · exfalso; omega
    | succ k ih =>
      intro e m e0 e1 hf y1 y2 y3 y4 y5
      have hKm := hK.go hf
      have a1 := hKm.2.2.1 e.toNat
      have a2 := hKm.2.2.2 e.toNat
      have kb := b01_01 (e < n ∧ lt (A e.toNat) = true)
      have kbi : b01 (e < n ∧ lt (A e.toNat) = true) = 1 ↔ (e < n ∧ lt (A e.toNat) = true) := b01_iff
      have sp : ∀ (m2 : Mem), frc goS mu m2 → m2 55 10 = q → m2 55 6 = e → nbM m2 → e < n ∧ lt (A e.toNat) = true → (e + 1 - q ≤ 6 → m2 55 13 = wdv A 32 96 q (e + 1)) → AW K mX6_goOn (NC, 0, 0) 89 [vr 55] [] (wr m2 55 6 (e + 1)) := fun m2 g1 g2 g3 g4 g5 g6 => by
        refine ih (e + 1) _ (by omega) (by omega) (g1.w ⟨rfl, Or.inl rfl⟩) (by rw [wr_at, if_neg (by decide)]; exact g2) (by rw [wr_at, if_pos ⟨rfl, rfl⟩]) ?_ (by rw [← y4]; exact (sc_go g5.1 g5.2).symm) (fun w => by rw [wr_at, if_neg (by decide)]; exact g6 w)
        unfold nbM
        rw [wr_at, if_neg (by decide), wr_at, if_neg (by decide)]
        exact g4
      have e6w : ∀ v, wr m 55 13 v 55 6 = e := fun v => by rw [wr_at, if_neg (by decide)]; exact y2
      refine aw_aload_n C dX6_goOn_89 rfl ?_
      refine aw_aload_n C dX6_goOn_90 rfl ?_
      refine aw_getI C dX6_goOn_91 fX6_116 ⟨rfl, by decide⟩ rfl ?_
      rw [y2]
      refine aw_call1 C dX6_goOn_94 lX6_122 vX6_isLetterAt (t_X6_isLetterAt hKm (by omega) (by omega)) rfl rfl rfl ⟨rfl, by decide⟩ rfl ⟨by decide, by decide⟩ (Nat.le_of_ble_eq_true rfl) ?_
      refine aw_if_eq C dX6_goOn_97 (tgt := 156) (by decide) ⟨by omega, by omega⟩ (fun c1 => ?_) (fun c1 => ?_)
      · --go
        exact done e m e0 (by omega) hf y1 y2 y3 (by rw [← y4]; exact sc_stop (fun w => by have := kbi.mpr w; omega)) y5
      · have g5 := kbi.mp (by omega)
        have g6 := lt_t.mp g5.2
        have g7 : A e.toNat = m 56 e.toNat := by rw [a1] at g6 ⊢; unfold sby at g6 ⊢; split <;> (split at g6 <;> omega)
        --go
        refine aw_aload_n C dX6_goOn_100 rfl ?_
        refine aw_getI C dX6_goOn_101 fX6_116 ⟨rfl, by decide⟩ rfl ?_
        rw [y2]
        refine aw_aload_n C dX6_goOn_104 rfl ?_
        refine aw_getI C dX6_goOn_105 fX6_95 ⟨rfl, by decide⟩ rfl ?_
        rw [y1]
        refine aw_isub C dX6_goOn_108 ?_
        refine aw_bipush C dX6_goOn_109 rfl ?_
        refine aw_icmp_ge C dX6_goOn_111 (tgt := 143) (by decide) ⟨by omega, by omega⟩ ⟨by omega, by omega⟩ (fun c2 => ?_) (fun c2 => ?_)
        · --go
          refine aw_aload_n C dX6_goOn_143 rfl ?_
          refine aw_dup_a C dX6_goOn_144 ?_
          refine aw_getI C dX6_goOn_145 fX6_116 ⟨rfl, by decide⟩ rfl ?_
          refine aw_iconst C dX6_goOn_148 ?_
          refine aw_iadd C dX6_goOn_149 ?_
          refine aw_putI C dX6_goOn_150 fX6_116 ⟨rfl, by decide⟩ rfl rfl rfl ?_
          refine aw_goto C dX6_goOn_153 (tgt := 89) (by decide) ?_
          rw [y2]; exact sp m hf y1 y2 y3 g5 (fun w => by omega)
        · refine aw_aload_n C dX6_goOn_114 rfl ?_
          refine aw_aload_n C dX6_goOn_115 rfl ?_
          refine aw_getL C dX6_goOn_116 fX6_126 ⟨rfl, by decide⟩ rfl ?_
          refine aw_ldc2 C dX6_goOn_119 kX6_130 (z := 32) (by decide +kernel) ?_
          refine aw_lmul C dX6_goOn_122 ?_
          refine aw_aload_n C dX6_goOn_123 rfl ?_
          refine aw_getS C dX6_goOn_124 fX6_15 ⟨rfl, by decide⟩ rfl rfl (srf 55 3 56 (by decide)) ?_
          refine aw_aload_n C dX6_goOn_127 rfl ?_
          refine aw_getI C dX6_goOn_128 fX6_116 ⟨rfl, by decide⟩ rfl ?_
          rw [y2]
          refine aw_iald C dX6_goOn_131 ⟨rfl, by decide⟩ (by decide) (by omega) (by omega) ?_
          refine aw_i2l C dX6_goOn_132 ⟨by omega, by omega⟩ ?_
          refine aw_ladd C dX6_goOn_133 ?_
          refine aw_ldc2 C dX6_goOn_134 kX6_104 (z := 97) (by decide +kernel) ?_
          refine aw_lsub C dX6_goOn_137 ?_
          refine aw_lconst C dX6_goOn_138 (v := 1) rfl ?_
          refine aw_ladd C dX6_goOn_139 ?_
          refine aw_putL C dX6_goOn_140 fX6_126 ⟨rfl, by decide⟩ rfl rfl rfl ?_
          refine aw_aload_n C dX6_goOn_143 rfl ?_
          refine aw_dup_a C dX6_goOn_144 ?_
          refine aw_getI C dX6_goOn_145 fX6_116 ⟨rfl, by decide⟩ rfl ?_
          refine aw_iconst C dX6_goOn_148 ?_
          refine aw_iadd C dX6_goOn_149 ?_
          refine aw_putI C dX6_goOn_150 fX6_116 ⟨rfl, by decide⟩ rfl rfl rfl ?_
          refine aw_goto C dX6_goOn_153 (tgt := 89) (by decide) ?_
          rw [e6w]
          refine sp _ (hf.w ⟨rfl, by omega⟩) (by rw [wr_at, if_neg (by decide)]; exact y1) (e6w _) ?_ g5 (fun w => ?_)
          · unfold nbM
            rw [wr_at, if_neg (by decide), wr_at, if_neg (by decide)]
            exact y3
          · rw [wr_at, if_pos ⟨rfl, rfl⟩, y5 (by omega), wdv_s e0, g7]
            omega
  -- a whole
  have ld : ∀ (q : Int), sc A bl n p = q → 0 ≤ q → q < n → ¬ lt (A q.toNat) = true → dg (A q.toNat) = true → ∀ (k : Nat) (e : Int) (m : Mem), q ≤ e → e + k = n → frc goS mu m → m 55 10 = q → m 55 6 = e → nbM m → sc A dg n e = sc A dg n q → (e - q ≤ 2 → m 55 12 = wdv A 10 48 q e) → (e = q → m 55 12 = 0) → (e - q ≤ 1 → m 55 12 ≤ 9) → AW K mX6_goOn (NC, 0, 0) 198 [vr 55] [] m := by
    intro q hq q0 q1 ql qd k
    have et := tok_q (A := A) (n := n) hq
    rw [if_neg (by omega), if_neg ql, if_pos qd] at et
    have done : ∀ (e : Int) (m : Mem), q ≤ e → e ≤ n → frc goS mu m → m 55 10 = q → m 55 6 = e → nbM m → sc A dg n q = e → (e - q ≤ 2 → m 55 12 = wdv A 10 48 q e) → AW K mX6_goOn (NC, 0, 0) 259 [vr 55] [] m := by
      intro e m e0 e1 hf y1 y2 y3 y4 y5
      rw [y4] at et
      have fin1 : ¬ e - q ≤ 2 → MT (wr m 55 9 0) (tok A n p) := fun w => by
        rw [et, if_neg w]
        exact ⟨by rw [wr_at, if_neg (by decide)]; exact y1, fun z => absurd rfl z, Or.inr (Or.inr (Or.inr (Or.inl ⟨rfl, by rw [wr_at, if_pos ⟨rfl, rfl⟩]⟩)))⟩
      have fin2 : e - q ≤ 2 → MT (wr m 55 9 3) (tok A n p) := fun w => by
        rw [et, if_pos w]
        exact ⟨by rw [wr_at, if_neg (by decide)]; exact y1, fun _ => by rw [wr_at, if_neg (by decide)]; exact y2, Or.inr (Or.inr (Or.inl ⟨rfl, by rw [wr_at, if_pos ⟨rfl, rfl⟩], by rw [wr_at, if_neg (by decide)]; exact y5 w⟩))⟩
      have nb2 : ∀ z : Int, 0 ≤ z → z ≤ 4 → nbM (wr m 55 9 z) := fun z z0 z1 => by
        unfold nbM
        rw [wr_at, if_neg (by decide), wr_at, if_pos ⟨rfl, rfl⟩]
        exact ⟨y3.1, z0, z1⟩
      refine aw_aload_n C dX6_goOn_259 rfl ?_
      refine aw_aload_n C dX6_goOn_260 rfl ?_
      refine aw_getI C dX6_goOn_261 fX6_116 ⟨rfl, by decide⟩ rfl ?_
      rw [y2]
      refine aw_aload_n C dX6_goOn_264 rfl ?_
      refine aw_getI C dX6_goOn_265 fX6_95 ⟨rfl, by decide⟩ rfl ?_
      rw [y1]
      refine aw_isub C dX6_goOn_268 ?_
      refine aw_iconst C dX6_goOn_269 ?_
      refine aw_icmp_le C dX6_goOn_270 (tgt := 277) (by decide) ⟨by omega, by omega⟩ ⟨by omega, by omega⟩ (fun c1 => ?_) (fun c1 => ?_)
      · refine aw_iconst C dX6_goOn_277 ?_
        refine aw_putI C dX6_goOn_278 fX6_119 ⟨rfl, by decide⟩ rfl rfl rfl ?_
        refine aw_goto C dX6_goOn_281 (tgt := 343) (by decide) ?_
        exact aw_vret C E dX6_goOn_343 rfl (by first | exact ⟨rfl, hf.w ⟨rfl, by omega⟩, fin1 (by omega), nb2 _ (by omega) (by omega)⟩ | exact ⟨rfl, hf.w ⟨rfl, by omega⟩, fin2 (by omega), nb2 _ (by omega) (by omega)⟩)
      · refine aw_iconst C dX6_goOn_273 ?_
        refine aw_goto C dX6_goOn_274 (tgt := 278) (by decide) ?_
        refine aw_putI C dX6_goOn_278 fX6_119 ⟨rfl, by decide⟩ rfl rfl rfl ?_
        refine aw_goto C dX6_goOn_281 (tgt := 343) (by decide) ?_
        exact aw_vret C E dX6_goOn_343 rfl (by first | exact ⟨rfl, hf.w ⟨rfl, by omega⟩, fin1 (by omega), nb2 _ (by omega) (by omega)⟩ | exact ⟨rfl, hf.w ⟨rfl, by omega⟩, fin2 (by omega), nb2 _ (by omega) (by omega)⟩)
    induction k with
    | zero =>
      intro e m e0 e1 hf y1 y2 y3 y4 y5 y6 y7
      have hKm := hK.go hf
      have st : sc A dg n e = e := sc_stop (fun w => by omega)
      have kb : b01 (e < n ∧ dg (A e.toNat) = true) = 0 := b01_f (fun w => by omega)
      refine aw_aload_n C dX6_goOn_198 rfl ?_
      refine aw_aload_n C dX6_goOn_199 rfl ?_
      refine aw_getI C dX6_goOn_200 fX6_116 ⟨rfl, by decide⟩ rfl ?_
      rw [y2]
      refine aw_call1 C dX6_goOn_203 lX6_132 vX6_isDigitAt (t_X6_isDigitAt hKm (by omega) (by omega)) rfl rfl rfl ⟨rfl, by decide⟩ rfl ⟨by decide, by decide⟩ (Nat.le_of_ble_eq_true rfl) ?_
      refine aw_if_eq C dX6_goOn_206 (tgt := 259) (by decide) ⟨by omega, by omega⟩ (fun c1 => ?_) (fun c1 => ?_)
      · exact done e m e0 (by omega) hf y1 y2 y3 (by rw [← y4]; exact st) y5
      · exfalso; omega
    | succ k ih =>
      intro e m e0 e1 hf y1 y2 y3 y4 y5 y6 y7
      have hKm := hK.go hf
      have a1 := hKm.2.2.1 e.toNat
      have a2 := hKm.2.2.2 e.toNat
      have kb := b01_01 (e < n ∧ dg (A e.toNat) = true)
      have kbi : b01 (e < n ∧ dg (A e.toNat) = true) = 1 ↔ (e < n ∧ dg (A e.toNat) = true) := b01_iff
      have nb12 := y3.1
      have sp : ∀ (m2 : Mem), frc goS mu m2 → m2 55 10 = q → m2 55 6 = e → nbM m2 → e < n ∧ dg (A e.toNat) = true → (e + 1 - q ≤ 2 → m2 55 12 = wdv A 10 48 q (e + 1)) → (e + 1 - q ≤ 1 → m2 55 12 ≤ 9) → AW K mX6_goOn (NC, 0, 0) 198 [vr 55] [] (wr m2 55 6 (e + 1)) := fun m2 g1 g2 g3 g4 g5 g6 g7 => by
        refine ih (e + 1) _ (by omega) (by omega) (g1.w ⟨rfl, Or.inl rfl⟩) (by rw [wr_at, if_neg (by decide)]; exact g2) (by rw [wr_at, if_pos ⟨rfl, rfl⟩]) ?_ (by rw [← y4]; exact (sc_go g5.1 g5.2).symm) (fun w => by rw [wr_at, if_neg (by decide)]; exact g6 w) (fun w => by omega) (fun w => by rw [wr_at, if_neg (by decide)]; exact g7 w)
        unfold nbM
        rw [wr_at, if_neg (by decide), wr_at, if_neg (by decide)]
        exact g4
      have e6w : ∀ v, wr m 55 12 v 55 6 = e := fun v => by rw [wr_at, if_neg (by decide)]; exact y2
      refine aw_aload_n C dX6_goOn_198 rfl ?_
      refine aw_aload_n C dX6_goOn_199 rfl ?_
      refine aw_getI C dX6_goOn_200 fX6_116 ⟨rfl, by decide⟩ rfl ?_
      rw [y2]
      refine aw_call1 C dX6_goOn_203 lX6_132 vX6_isDigitAt (t_X6_isDigitAt hKm (by omega) (by omega)) rfl rfl rfl ⟨rfl, by decide⟩ rfl ⟨by decide, by decide⟩ (Nat.le_of_ble_eq_true rfl) ?_
      refine aw_if_eq C dX6_goOn_206 (tgt := 259) (by decide) ⟨by omega, by omega⟩ (fun c1 => ?_) (fun c1 => ?_)
      · --go
        exact done e m e0 (by omega) hf y1 y2 y3 (by rw [← y4]; exact sc_stop (fun w => by have := kbi.mpr w; omega)) y5
      · have g5 := kbi.mp (by omega)
        have g6 := dg_t.mp g5.2
        have g7 : A e.toNat = m 56 e.toNat := by rw [a1] at g6 ⊢; unfold sby at g6 ⊢; split <;> (split at g6 <;> omega)
        --go
        refine aw_aload_n C dX6_goOn_209 rfl ?_
        refine aw_getI C dX6_goOn_210 fX6_116 ⟨rfl, by decide⟩ rfl ?_
        rw [y2]
        refine aw_aload_n C dX6_goOn_213 rfl ?_
        refine aw_getI C dX6_goOn_214 fX6_95 ⟨rfl, by decide⟩ rfl ?_
        rw [y1]
        refine aw_isub C dX6_goOn_217 ?_
        refine aw_iconst C dX6_goOn_218 ?_
        refine aw_icmp_ge C dX6_goOn_219 (tgt := 246) (by decide) ⟨by omega, by omega⟩ ⟨by omega, by omega⟩ (fun c2 => ?_) (fun c2 => ?_)
        · --go
          refine aw_aload_n C dX6_goOn_246 rfl ?_
          refine aw_dup_a C dX6_goOn_247 ?_
          refine aw_getI C dX6_goOn_248 fX6_116 ⟨rfl, by decide⟩ rfl ?_
          refine aw_iconst C dX6_goOn_251 ?_
          refine aw_iadd C dX6_goOn_252 ?_
          refine aw_putI C dX6_goOn_253 fX6_116 ⟨rfl, by decide⟩ rfl rfl rfl ?_
          refine aw_goto C dX6_goOn_256 (tgt := 198) (by decide) ?_
          rw [y2]; exact sp m hf y1 y2 y3 g5 (fun w => by omega) (fun w => by omega)
        · refine aw_aload_n C dX6_goOn_222 rfl ?_
          refine aw_bipush C dX6_goOn_223 rfl ?_
          refine aw_aload_n C dX6_goOn_225 rfl ?_
          refine aw_getI C dX6_goOn_226 fX6_135 ⟨rfl, by decide⟩ rfl ?_
          refine aw_imul C dX6_goOn_229 ?_
          refine aw_aload_n C dX6_goOn_230 rfl ?_
          refine aw_getS C dX6_goOn_231 fX6_15 ⟨rfl, by decide⟩ rfl rfl (srf 55 3 56 (by decide)) ?_
          refine aw_aload_n C dX6_goOn_234 rfl ?_
          refine aw_getI C dX6_goOn_235 fX6_116 ⟨rfl, by decide⟩ rfl ?_
          rw [y2]
          refine aw_iald C dX6_goOn_238 ⟨rfl, by decide⟩ (by decide) (by omega) (by omega) ?_
          refine aw_iadd C dX6_goOn_239 ?_
          refine aw_bipush C dX6_goOn_240 rfl ?_
          refine aw_isub C dX6_goOn_242 ?_
          refine aw_putI C dX6_goOn_243 fX6_135 ⟨rfl, by decide⟩ rfl rfl rfl ?_
          refine aw_aload_n C dX6_goOn_246 rfl ?_
          refine aw_dup_a C dX6_goOn_247 ?_
          refine aw_getI C dX6_goOn_248 fX6_116 ⟨rfl, by decide⟩ rfl ?_
          refine aw_iconst C dX6_goOn_251 ?_
          refine aw_iadd C dX6_goOn_252 ?_
          refine aw_putI C dX6_goOn_253 fX6_116 ⟨rfl, by decide⟩ rfl rfl rfl ?_
          refine aw_goto C dX6_goOn_256 (tgt := 198) (by decide) ?_
          rw [e6w]
          refine sp _ (hf.w ⟨rfl, by omega⟩) (by rw [wr_at, if_neg (by decide)]; exact y1) (e6w _) ?_ g5 (fun w => ?_) (fun w => ?_)
          · unfold nbM
            rw [wr_at, if_pos ⟨rfl, rfl⟩, wr_at, if_neg (by decide)]
            have := y7 (by omega)
            exact ⟨by omega, y3.2⟩
          · rw [wr_at, if_pos ⟨rfl, rfl⟩, y5 (by omega), wdv_s e0, g7]
            omega
          · rw [wr_at, if_pos ⟨rfl, rfl⟩, y6 (by omega)]
            omega
  -- behind blanks
  have after : ∀ (q : Int) (m : Mem), sc A bl n p = q → 0 ≤ q → q ≤ n → ¬ (q < n ∧ bl (A q.toNat) = true) → frc goS mu m → m 55 6 = q → nbM m → AW K mX6_goOn (NC, 0, 0) 46 [vr 55] [] m := by
    intro q m hq q0 q1 qb hf y2 y3
    have e5 : m 55 5 = n := (hf _ _ (by unfold goS; omega)).trans k5
    have et := tok_q (A := A) (n := n) hq
    have go2 : ∀ (m : Mem), frc goS mu m → m 55 6 = q → m 55 10 = q → nbM m → AW K mX6_goOn (NC, 0, 0) 54 [vr 55] [] m := by
      intro m hf y2 y1 y3
      have e5 : m 55 5 = n := (hf _ _ (by unfold goS; omega)).trans k5
      have hKm := hK.go hf
      have a1 := hKm.2.2.1 q.toNat
      have a2 := hKm.2.2.2 q.toNat
      have kb := b01_01 (q < n ∧ lt (A q.toNat) = true)
      have kbi : b01 (q < n ∧ lt (A q.toNat) = true) = 1 ↔ (q < n ∧ lt (A q.toNat) = true) := b01_iff
      have kd := b01_01 (q < n ∧ dg (A q.toNat) = true)
      have kdi : b01 (q < n ∧ dg (A q.toNat) = true) = 1 ↔ (q < n ∧ dg (A q.toNat) = true) := b01_iff
      have nb2 : ∀ (m : Mem) (z : Int), nbM m → 0 ≤ z → z ≤ 4 → nbM (wr m 55 9 z) := fun m z y3 z0 z1 => by
        unfold nbM
        rw [wr_at, if_neg (by decide), wr_at, if_pos ⟨rfl, rfl⟩]
        exact ⟨y3.1, z0, z1⟩
      have s11 : wr m 55 11 (m 56 q.toNat) 55 11 = m 56 q.toNat := by rw [wr_at, if_pos ⟨rfl, rfl⟩]
      have sgn : ¬ (q < n ∧ lt (A q.toNat) = true) → ¬ (q < n ∧ dg (A q.toNat) = true) → q < n → ∀ z : Int, ((m 56 q.toNat = 59 ∨ m 56 q.toNat = 44 ∨ m 56 q.toNat = 45) ∧ z = 4) ∨ (¬ (m 56 q.toNat = 59 ∨ m 56 q.toNat = 44 ∨ m 56 q.toNat = 45) ∧ z = 0) → MT (wr (wr (wr m 55 11 (m 56 q.toNat)) 55 9 z) 55 6 (q + 1)) (tok A n p) ∧ nbM (wr (wr (wr m 55 11 (m 56 q.toNat)) 55 9 z) 55 6 (q + 1)) := fun w1 w2 w3 z hz => by
        have ea : (A q.toNat = 59 ∨ A q.toNat = 44 ∨ A q.toNat = 45) ↔ (m 56 q.toNat = 59 ∨ m 56 q.toNat = 44 ∨ m 56 q.toNat = 45) := by rw [a1]; unfold sby; split <;> omega
        have m10 : wr (wr (wr m 55 11 (m 56 q.toNat)) 55 9 z) 55 6 (q + 1) 55 10 = q := by rw [wr_at, if_neg (by decide), wr_at, if_neg (by decide), wr_at, if_neg (by decide)]; exact y1
        have m9 : wr (wr (wr m 55 11 (m 56 q.toNat)) 55 9 z) 55 6 (q + 1) 55 9 = z := by rw [wr_at, if_neg (by decide), wr_at, if_pos ⟨rfl, rfl⟩]
        have m6 : wr (wr (wr m 55 11 (m 56 q.toNat)) 55 9 z) 55 6 (q + 1) 55 6 = q + 1 := by rw [wr_at, if_pos ⟨rfl, rfl⟩]
        have m11 : wr (wr (wr m 55 11 (m 56 q.toNat)) 55 9 z) 55 6 (q + 1) 55 11 = m 56 q.toNat := by rw [wr_at, if_neg (by decide), wr_at, if_neg (by decide)]; exact s11
        have m12 : wr (wr (wr m 55 11 (m 56 q.toNat)) 55 9 z) 55 6 (q + 1) 55 12 = m 55 12 := by rw [wr_at, if_neg (by decide), wr_at, if_neg (by decide), wr_at, if_neg (by decide)]
        refine ⟨?_, by unfold nbM; rw [m12, m9]; exact ⟨y3.1, by omega, by omega⟩⟩
        rw [et, if_neg (by omega), if_neg (fun w => w1 ⟨w3, w⟩), if_neg (fun w => w2 ⟨w3, w⟩)]
        rcases hz with ⟨z1, z2⟩ | ⟨z1, z2⟩
        · have z3 := ea.mpr z1
          rw [if_pos z3]
          have eA : A q.toNat = m 56 q.toNat := by rw [a1]; unfold sby; split <;> omega
          exact ⟨m10, fun _ => m6, Or.inr (Or.inr (Or.inr (Or.inr ⟨z3, by rw [m9]; exact z2, by rw [m11]; exact eA.symm⟩)))⟩
        · rw [if_neg (fun w => z1 (ea.mp w))]
          exact ⟨m10, fun w => absurd rfl w, Or.inr (Or.inr (Or.inr (Or.inl ⟨rfl, by rw [m9]; exact z2⟩)))⟩
      have fr3 : ∀ z, frc goS mu (wr (wr (wr m 55 11 (m 56 q.toNat)) 55 9 z) 55 6 (q + 1)) := fun z => ((hf.w ⟨rfl, by omega⟩).w ⟨rfl, by omega⟩).w ⟨rfl, Or.inl rfl⟩
      have e6w : ∀ z, wr (wr m 55 11 (m 56 q.toNat)) 55 9 z 55 6 = q := fun z => by rw [wr_at, if_neg (by decide), wr_at, if_neg (by decide)]; exact y2
      refine aw_aload_n C dX6_goOn_54 rfl ?_
      refine aw_getI C dX6_goOn_55 fX6_116 ⟨rfl, by decide⟩ rfl ?_
      rw [y2]
      refine aw_aload_n C dX6_goOn_58 rfl ?_
      refine aw_getI C dX6_goOn_59 fX6_101 ⟨rfl, by decide⟩ rfl ?_
      refine aw_icmp_ne C dX6_goOn_62 (tgt := 73) (by decide) ⟨by omega, by omega⟩ ⟨by omega, by omega⟩ (fun c1 => ?_) (fun c1 => ?_)
      · refine aw_aload_n C dX6_goOn_73 rfl ?_
        refine aw_aload_n C dX6_goOn_74 rfl ?_
        refine aw_getI C dX6_goOn_75 fX6_116 ⟨rfl, by decide⟩ rfl ?_
        rw [y2]
        refine aw_call1 C dX6_goOn_78 lX6_122 vX6_isLetterAt (t_X6_isLetterAt hKm (by omega) (by omega)) rfl rfl rfl ⟨rfl, by decide⟩ rfl ⟨by decide, by decide⟩ (Nat.le_of_ble_eq_true rfl) ?_
        refine aw_if_eq C dX6_goOn_81 (tgt := 182) (by decide) ⟨by omega, by omega⟩ (fun c2 => ?_) (fun c2 => ?_)
        · refine aw_aload_n C dX6_goOn_182 rfl ?_
          refine aw_aload_n C dX6_goOn_183 rfl ?_
          refine aw_getI C dX6_goOn_184 fX6_116 ⟨rfl, by decide⟩ rfl ?_
          rw [y2]
          refine aw_call1 C dX6_goOn_187 lX6_132 vX6_isDigitAt (t_X6_isDigitAt hKm (by omega) (by omega)) rfl rfl rfl ⟨rfl, by decide⟩ rfl ⟨by decide, by decide⟩ (Nat.le_of_ble_eq_true rfl) ?_
          refine aw_if_eq C dX6_goOn_190 (tgt := 284) (by decide) ⟨by omega, by omega⟩ (fun c3 => ?_) (fun c3 => ?_)
          · refine aw_aload_n C dX6_goOn_284 rfl ?_
            refine aw_aload_n C dX6_goOn_285 rfl ?_
            refine aw_getS C dX6_goOn_286 fX6_15 ⟨rfl, by decide⟩ rfl rfl (srf 55 3 56 (by decide)) ?_
            refine aw_aload_n C dX6_goOn_289 rfl ?_
            refine aw_getI C dX6_goOn_290 fX6_116 ⟨rfl, by decide⟩ rfl ?_
            rw [y2]
            refine aw_iald C dX6_goOn_293 ⟨rfl, by decide⟩ (by decide) (by omega) (by omega) ?_
            refine aw_putI C dX6_goOn_294 fX6_138 ⟨rfl, by decide⟩ rfl rfl rfl ?_
            refine aw_aload_n C dX6_goOn_297 rfl ?_
            refine aw_aload_n C dX6_goOn_298 rfl ?_
            refine aw_getI C dX6_goOn_299 fX6_138 ⟨rfl, by decide⟩ rfl ?_
            rw [s11]
            refine aw_bipush C dX6_goOn_302 rfl ?_
            refine aw_icmp_eq C dX6_goOn_304 (tgt := 325) (by decide) ⟨by omega, by omega⟩ ⟨by omega, by omega⟩ (fun c4 => ?_) (fun c4 => ?_)
            · refine aw_iconst C dX6_goOn_325 ?_
              refine aw_goto C dX6_goOn_326 (tgt := 330) (by decide) ?_
              refine aw_putI C dX6_goOn_330 fX6_119 ⟨rfl, by decide⟩ rfl rfl rfl ?_
              refine aw_aload_n C dX6_goOn_333 rfl ?_
              refine aw_dup_a C dX6_goOn_334 ?_
              refine aw_getI C dX6_goOn_335 fX6_116 ⟨rfl, by decide⟩ rfl ?_
              rw [e6w]
              refine aw_iconst C dX6_goOn_338 ?_
              refine aw_iadd C dX6_goOn_339 ?_
              refine aw_putI C dX6_goOn_340 fX6_116 ⟨rfl, by decide⟩ rfl rfl rfl ?_
              exact aw_vret C E dX6_goOn_343 rfl (by
  first
  | exact ⟨rfl, hf.w ⟨rfl, by omega⟩, by rw [eE]; exact ⟨by rw [wr_at, if_neg (by decide)]; exact y1, fun _ => by rw [wr_at, if_neg (by decide)]; exact y2, Or.inl ⟨rfl, by rw [wr_at, if_pos ⟨rfl, rfl⟩]⟩⟩, nb2 _ _ y3 (by omega) (by omega)⟩
  | (obtain ⟨u1, u2⟩ := sgn (fun w => by have := kbi.mpr w; omega) (fun w => by have := kdi.mpr w; omega) (by omega) 4 (Or.inl ⟨by omega, rfl⟩); exact ⟨rfl, fr3 _, u1, u2⟩)
  | (obtain ⟨u1, u2⟩ := sgn (fun w => by have := kbi.mpr w; omega) (fun w => by have := kdi.mpr w; omega) (by omega) 0 (Or.inr ⟨by omega, rfl⟩); exact ⟨rfl, fr3 _, u1, u2⟩))
            · refine aw_aload_n C dX6_goOn_307 rfl ?_
              refine aw_getI C dX6_goOn_308 fX6_138 ⟨rfl, by decide⟩ rfl ?_
              rw [s11]
              refine aw_bipush C dX6_goOn_311 rfl ?_
              refine aw_icmp_eq C dX6_goOn_313 (tgt := 325) (by decide) ⟨by omega, by omega⟩ ⟨by omega, by omega⟩ (fun c5 => ?_) (fun c5 => ?_)
              · refine aw_iconst C dX6_goOn_325 ?_
                refine aw_goto C dX6_goOn_326 (tgt := 330) (by decide) ?_
                refine aw_putI C dX6_goOn_330 fX6_119 ⟨rfl, by decide⟩ rfl rfl rfl ?_
                refine aw_aload_n C dX6_goOn_333 rfl ?_
                refine aw_dup_a C dX6_goOn_334 ?_
                refine aw_getI C dX6_goOn_335 fX6_116 ⟨rfl, by decide⟩ rfl ?_
                rw [e6w]
                refine aw_iconst C dX6_goOn_338 ?_
                refine aw_iadd C dX6_goOn_339 ?_
                refine aw_putI C dX6_goOn_340 fX6_116 ⟨rfl, by decide⟩ rfl rfl rfl ?_
                exact aw_vret C E dX6_goOn_343 rfl (by
  first
  | exact ⟨rfl, hf.w ⟨rfl, by omega⟩, by rw [eE]; exact ⟨by rw [wr_at, if_neg (by decide)]; exact y1, fun _ => by rw [wr_at, if_neg (by decide)]; exact y2, Or.inl ⟨rfl, by rw [wr_at, if_pos ⟨rfl, rfl⟩]⟩⟩, nb2 _ _ y3 (by omega) (by omega)⟩
  | (obtain ⟨u1, u2⟩ := sgn (fun w => by have := kbi.mpr w; omega) (fun w => by have := kdi.mpr w; omega) (by omega) 4 (Or.inl ⟨by omega, rfl⟩); exact ⟨rfl, fr3 _, u1, u2⟩)
  | (obtain ⟨u1, u2⟩ := sgn (fun w => by have := kbi.mpr w; omega) (fun w => by have := kdi.mpr w; omega) (by omega) 0 (Or.inr ⟨by omega, rfl⟩); exact ⟨rfl, fr3 _, u1, u2⟩))
              · refine aw_aload_n C dX6_goOn_316 rfl ?_
                refine aw_getI C dX6_goOn_317 fX6_138 ⟨rfl, by decide⟩ rfl ?_
                rw [s11]
                refine aw_bipush C dX6_goOn_320 rfl ?_
                refine aw_icmp_ne C dX6_goOn_322 (tgt := 329) (by decide) ⟨by omega, by omega⟩ ⟨by omega, by omega⟩ (fun c6 => ?_) (fun c6 => ?_)
                · refine aw_iconst C dX6_goOn_329 ?_
                  refine aw_putI C dX6_goOn_330 fX6_119 ⟨rfl, by decide⟩ rfl rfl rfl ?_
                  refine aw_aload_n C dX6_goOn_333 rfl ?_
                  refine aw_dup_a C dX6_goOn_334 ?_
                  refine aw_getI C dX6_goOn_335 fX6_116 ⟨rfl, by decide⟩ rfl ?_
                  rw [e6w]
                  refine aw_iconst C dX6_goOn_338 ?_
                  refine aw_iadd C dX6_goOn_339 ?_
                  refine aw_putI C dX6_goOn_340 fX6_116 ⟨rfl, by decide⟩ rfl rfl rfl ?_
                  exact aw_vret C E dX6_goOn_343 rfl (by
  first
  | exact ⟨rfl, hf.w ⟨rfl, by omega⟩, by rw [eE]; exact ⟨by rw [wr_at, if_neg (by decide)]; exact y1, fun _ => by rw [wr_at, if_neg (by decide)]; exact y2, Or.inl ⟨rfl, by rw [wr_at, if_pos ⟨rfl, rfl⟩]⟩⟩, nb2 _ _ y3 (by omega) (by omega)⟩
  | (obtain ⟨u1, u2⟩ := sgn (fun w => by have := kbi.mpr w; omega) (fun w => by have := kdi.mpr w; omega) (by omega) 4 (Or.inl ⟨by omega, rfl⟩); exact ⟨rfl, fr3 _, u1, u2⟩)
  | (obtain ⟨u1, u2⟩ := sgn (fun w => by have := kbi.mpr w; omega) (fun w => by have := kdi.mpr w; omega) (by omega) 0 (Or.inr ⟨by omega, rfl⟩); exact ⟨rfl, fr3 _, u1, u2⟩))
                · refine aw_iconst C dX6_goOn_325 ?_
                  refine aw_goto C dX6_goOn_326 (tgt := 330) (by decide) ?_
                  refine aw_putI C dX6_goOn_330 fX6_119 ⟨rfl, by decide⟩ rfl rfl rfl ?_
                  refine aw_aload_n C dX6_goOn_333 rfl ?_
                  refine aw_dup_a C dX6_goOn_334 ?_
                  refine aw_getI C dX6_goOn_335 fX6_116 ⟨rfl, by decide⟩ rfl ?_
                  rw [e6w]
                  refine aw_iconst C dX6_goOn_338 ?_
                  refine aw_iadd C dX6_goOn_339 ?_
                  refine aw_putI C dX6_goOn_340 fX6_116 ⟨rfl, by decide⟩ rfl rfl rfl ?_
                  exact aw_vret C E dX6_goOn_343 rfl (by
  first
  | exact ⟨rfl, hf.w ⟨rfl, by omega⟩, by rw [eE]; exact ⟨by rw [wr_at, if_neg (by decide)]; exact y1, fun _ => by rw [wr_at, if_neg (by decide)]; exact y2, Or.inl ⟨rfl, by rw [wr_at, if_pos ⟨rfl, rfl⟩]⟩⟩, nb2 _ _ y3 (by omega) (by omega)⟩
  | (obtain ⟨u1, u2⟩ := sgn (fun w => by have := kbi.mpr w; omega) (fun w => by have := kdi.mpr w; omega) (by omega) 4 (Or.inl ⟨by omega, rfl⟩); exact ⟨rfl, fr3 _, u1, u2⟩)
  | (obtain ⟨u1, u2⟩ := sgn (fun w => by have := kbi.mpr w; omega) (fun w => by have := kdi.mpr w; omega) (by omega) 0 (Or.inr ⟨by omega, rfl⟩); exact ⟨rfl, fr3 _, u1, u2⟩))
          · refine aw_aload_n C dX6_goOn_193 rfl ?_
            refine aw_iconst C dX6_goOn_194 ?_
            refine aw_putI C dX6_goOn_195 fX6_135 ⟨rfl, by decide⟩ rfl rfl rfl ?_
            exact ld q hq q0 (by omega) (fun w => by have := kbi.mpr ⟨by omega, w⟩; omega) (kdi.mp (by omega)).2 (n - q).toNat q _ (by omega) (by omega) (hf.w ⟨rfl, by omega⟩) (by rw [wr_at, if_neg (by decide)]; exact y1) (by rw [wr_at, if_neg (by decide)]; exact y2) (by unfold nbM; rw [wr_at, if_pos ⟨rfl, rfl⟩, wr_at, if_neg (by decide)]; exact ⟨by omega, y3.2⟩) rfl (fun _ => by rw [wr_at, if_pos ⟨rfl, rfl⟩, wdv_0]) (fun _ => by rw [wr_at, if_pos ⟨rfl, rfl⟩]) (fun _ => by rw [wr_at, if_pos ⟨rfl, rfl⟩]; omega)
        · refine aw_aload_n C dX6_goOn_84 rfl ?_
          refine aw_lconst C dX6_goOn_85 (v := 0) rfl ?_
          refine aw_putL C dX6_goOn_86 fX6_126 ⟨rfl, by decide⟩ rfl rfl rfl ?_
          exact lw q hq q0 (by omega) (kbi.mp (by omega)).2 (n - q).toNat q _ (by omega) (by omega) (hf.w ⟨rfl, by omega⟩) (by rw [wr_at, if_neg (by decide)]; exact y1) (by rw [wr_at, if_neg (by decide)]; exact y2) (by unfold nbM; rw [wr_at, if_neg (by decide), wr_at, if_neg (by decide)]; exact y3) rfl (fun _ => by rw [wr_at, if_pos ⟨rfl, rfl⟩, wdv_0])
      · have eE : tok A n p = (0, 0, q, q) := by rw [et, if_pos (by omega)]
        --go
        refine aw_aload_n C dX6_goOn_65 rfl ?_
        refine aw_iconst C dX6_goOn_66 ?_
        refine aw_putI C dX6_goOn_67 fX6_119 ⟨rfl, by decide⟩ rfl rfl rfl ?_
        refine aw_goto C dX6_goOn_70 (tgt := 343) (by decide) ?_
        exact aw_vret C E dX6_goOn_343 rfl (by
  first
  | exact ⟨rfl, hf.w ⟨rfl, by omega⟩, by rw [eE]; exact ⟨by rw [wr_at, if_neg (by decide)]; exact y1, fun _ => by rw [wr_at, if_neg (by decide)]; exact y2, Or.inl ⟨rfl, by rw [wr_at, if_pos ⟨rfl, rfl⟩]⟩⟩, nb2 _ _ y3 (by omega) (by omega)⟩
  | (obtain ⟨u1, u2⟩ := sgn (fun w => by have := kbi.mpr w; omega) (fun w => by have := kdi.mpr w; omega) (by omega) 4 (Or.inl ⟨by omega, rfl⟩); exact ⟨rfl, fr3 _, u1, u2⟩)
  | (obtain ⟨u1, u2⟩ := sgn (fun w => by have := kbi.mpr w; omega) (fun w => by have := kdi.mpr w; omega) (by omega) 0 (Or.inr ⟨by omega, rfl⟩); exact ⟨rfl, fr3 _, u1, u2⟩))
    refine aw_aload_n C dX6_goOn_46 rfl ?_
    refine aw_aload_n C dX6_goOn_47 rfl ?_
    refine aw_getI C dX6_goOn_48 fX6_116 ⟨rfl, by decide⟩ rfl ?_
    rw [y2]
    refine aw_putI C dX6_goOn_51 fX6_95 ⟨rfl, by decide⟩ rfl rfl rfl ?_
    exact go2 _ (hf.w ⟨rfl, by omega⟩) (by rw [wr_at, if_neg (by decide)]; exact y2) (by rw [wr_at, if_pos ⟨rfl, rfl⟩]) (by unfold nbM; rw [wr_at, if_neg (by decide), wr_at, if_neg (by decide)]; exact y3)
  have lb : ∀ (k : Nat) (q : Int) (m : Mem), p ≤ q → q + k = n → frc goS mu m → m 55 6 = q → nbM m → sc A bl n q = sc A bl n p → AW K mX6_goOn (NC, 0, 0) 8 [vr 55] [] m := by
    intro k
    induction k with
    | zero =>
      intro q m q0 q1 hf y2 y3 y4
      have e5 : m 55 5 = n := (hf _ _ (by unfold goS; omega)).trans k5
      have st : sc A bl n q = q := sc_stop (fun w => by omega)
      refine aw_aload_n C dX6_goOn_8 rfl ?_
      refine aw_getI C dX6_goOn_9 fX6_116 ⟨rfl, by decide⟩ rfl ?_
      rw [y2]
      refine aw_aload_n C dX6_goOn_12 rfl ?_
      refine aw_getI C dX6_goOn_13 fX6_101 ⟨rfl, by decide⟩ rfl ?_
      rw [e5]
      refine aw_icmp_ge C dX6_goOn_16 (tgt := 46) (by decide) ⟨by omega, by omega⟩ ⟨by omega, by omega⟩ (fun c1 => ?_) (fun c1 => ?_)
      · exact after q m (by rw [← y4]; exact st) (by omega) (by omega) (fun w => by omega) hf y2 y3
      · exfalso; omega
    | succ k ih =>
      intro q m q0 q1 hf y2 y3 y4
      have e5 : m 55 5 = n := (hf _ _ (by unfold goS; omega)).trans k5
      have hKm := hK.go hf
      have a1 := hKm.2.2.1 q.toNat
      have a2 := hKm.2.2.2 q.toNat
      have a3 : bl (A q.toNat) = true ↔ m 56 q.toNat = 32 := by rw [bl_t, a1]; unfold sby; split <;> omega
      refine aw_aload_n C dX6_goOn_8 rfl ?_
      refine aw_getI C dX6_goOn_9 fX6_116 ⟨rfl, by decide⟩ rfl ?_
      rw [y2]
      refine aw_aload_n C dX6_goOn_12 rfl ?_
      refine aw_getI C dX6_goOn_13 fX6_101 ⟨rfl, by decide⟩ rfl ?_
      rw [e5]
      refine aw_icmp_ge C dX6_goOn_16 (tgt := 46) (by decide) ⟨by omega, by omega⟩ ⟨by omega, by omega⟩ (fun c1 => ?_) (fun c1 => ?_)
      · exfalso; omega
      · refine aw_aload_n C dX6_goOn_19 rfl ?_
        refine aw_getS C dX6_goOn_20 fX6_15 ⟨rfl, by decide⟩ rfl rfl (srf 55 3 56 (by decide)) ?_
        refine aw_aload_n C dX6_goOn_23 rfl ?_
        refine aw_getI C dX6_goOn_24 fX6_116 ⟨rfl, by decide⟩ rfl ?_
        rw [y2]
        refine aw_iald C dX6_goOn_27 ⟨rfl, by decide⟩ (by decide) (by omega) (by omega) ?_
        refine aw_bipush C dX6_goOn_28 rfl ?_
        refine aw_icmp_ne C dX6_goOn_30 (tgt := 46) (by decide) ⟨by omega, by omega⟩ ⟨by omega, by omega⟩ (fun c2 => ?_) (fun c2 => ?_)
        · --go
          exact after q m (by rw [← y4]; exact sc_stop (fun w => c2 (a3.mp w.2))) (by omega) (by omega) (fun w => c2 (a3.mp w.2)) hf y2 y3
        · refine aw_aload_n C dX6_goOn_33 rfl ?_
          refine aw_dup_a C dX6_goOn_34 ?_
          refine aw_getI C dX6_goOn_35 fX6_116 ⟨rfl, by decide⟩ rfl ?_
          rw [y2]
          refine aw_iconst C dX6_goOn_38 ?_
          refine aw_iadd C dX6_goOn_39 ?_
          refine aw_putI C dX6_goOn_40 fX6_116 ⟨rfl, by decide⟩ rfl rfl rfl ?_
          refine aw_goto C dX6_goOn_43 (tgt := 8) (by decide) ?_
          exact ih (q + 1) _ (by omega) (by omega) (hf.w ⟨rfl, Or.inl rfl⟩) (by rw [wr_at, if_pos ⟨rfl, rfl⟩]) (by unfold nbM; rw [wr_at, if_neg (by decide), wr_at, if_neg (by decide)]; exact y3) (by rw [← y4]; exact (sc_go (by omega) (a3.mpr c2)).symm)
  refine aw_aload_n C dX6_goOn_0 rfl ?_
  refine aw_getI C dX6_goOn_1 fX6_92 ⟨rfl, by decide⟩ rfl ?_
  refine aw_if_le C dX6_goOn_4 (tgt := 8) (by decide) ⟨by omega, by omega⟩ (fun c1 => ?_) (fun c1 => ?_)
  · exact lb (n - p).toNat p mu (by omega) (by omega) frc.rf hp hnb rfl
  · exfalso; omega

/-! the text's tokens -/
def bl (c : Int) : Bool := decide (c = 32)
def lt (c : Int) : Bool := decide (97 ≤ c ∧ c ≤ 122)
def dg (c : Int) : Bool := decide (48 ≤ c ∧ c ≤ 57)
theorem bl_t {c : Int} : bl c = true ↔ c = 32 := decide_eq_true_iff
theorem lt_t {c : Int} : lt c = true ↔ 97 ≤ c ∧ c ≤ 122 := decide_eq_true_iff
theorem dg_t {c : Int} : dg c = true ↔ 48 ≤ c ∧ c ≤ 57 := decide_eq_true_iff
def scn (A : Nat → Int) (P : Int → Bool) (n : Int) : Nat → Int → Int
  | 0, q => q
  | k + 1, q => if q < n ∧ P (A q.toNat) = true then scn A P n k (q + 1) else q
def sc (A : Nat → Int) (P : Int → Bool) (n q : Int) : Int := scn A P n (n - q).toNat q
theorem sc_stop {A : Nat → Int} {P : Int → Bool} {n q : Int} (h : ¬ (q < n ∧ P (A q.toNat) = true)) : sc A P n q = q := by
  unfold sc
  cases (n - q).toNat with
  | zero => rfl
  | succ k => exact if_neg h
theorem sc_go {A : Nat → Int} {P : Int → Bool} {n q : Int} (h1 : q < n) (h2 : P (A q.toNat) = true) : sc A P n q = sc A P n (q + 1) := by
  unfold sc
  rw [show (n - q).toNat = (n - (q + 1)).toNat + 1 by omega]
  exact if_pos ⟨h1, h2⟩
theorem scn_in {A : Nat → Int} {P : Int → Bool} {n : Int} : ∀ (k : Nat) (q : Int), q + k = n → q ≤ scn A P n k q ∧ scn A P n k q ≤ n
  | 0, q, h => by show q ≤ q ∧ q ≤ n; omega
  | k + 1, q, h => by
    show q ≤ (if q < n ∧ P (A q.toNat) = true then scn A P n k (q + 1) else q) ∧ (if q < n ∧ P (A q.toNat) = true then scn A P n k (q + 1) else q) ≤ n
    split
    · have := scn_in (A := A) (P := P) (n := n) k (q + 1) (by omega); omega
    · omega
theorem sc_in {A : Nat → Int} {P : Int → Bool} {n q : Int} (h : q ≤ n) : q ≤ sc A P n q ∧ sc A P n q ≤ n := scn_in _ _ (by omega)
theorem sc_lt {A : Nat → Int} {P : Int → Bool} {n q : Int} (h1 : q < n) (h2 : P (A q.toNat) = true) : q < sc A P n q := by
  rw [sc_go h1 h2]
  have := sc_in (A := A) (P := P) (n := n) (q := q + 1) (by omega)
  omega
def wvn (A : Nat → Int) (b z : Int) : Nat → Int → Int → Int
  | 0, _, v => v
  | k + 1, q, v => wvn A b z k (q + 1) (v * b + A q.toNat - z)
def wdv (A : Nat → Int) (b z q e : Int) : Int := wvn A b z (e - q).toNat q 0
theorem wvn_s (A : Nat → Int) (b z : Int) : ∀ (k : Nat) (q v : Int), wvn A b z (k + 1) q v = wvn A b z k q v * b + A (q + k).toNat - z
  | 0, q, v => by show v * b + A q.toNat - z = v * b + A (q + ((0 : Nat) : Int)).toNat - z; simp
  | k + 1, q, v => by
    show wvn A b z (k + 1) (q + 1) (v * b + A q.toNat - z) = wvn A b z k (q + 1) (v * b + A q.toNat - z) * b + A (q + ((k + 1 : Nat) : Int)).toNat - z
    rw [wvn_s A b z k (q + 1)]
    congr 3
    omega
theorem wdv_s {A : Nat → Int} {b z q e : Int} (h : q ≤ e) : wdv A b z q (e + 1) = wdv A b z q e * b + A e.toNat - z := by
  unfold wdv
  rw [show (e + 1 - q).toNat = (e - q).toNat + 1 by omega, wvn_s]
  congr 3
  omega
theorem wdv_0 {A : Nat → Int} {b z q : Int} : wdv A b z q q = 0 := by
  unfold wdv; rw [Int.sub_self]; rfl
abbrev TK : Type := Int × Int × Int × Int
/-- the token from p on: its kind (0 the end, 1 a word, 2 a whole, 3 none, else the sign), its value, its place, what comes behind it -/
def tok (A : Nat → Int) (n p : Int) : TK :=
  if sc A bl n p ≥ n then (0, 0, sc A bl n p, sc A bl n p)
  else if lt (A (sc A bl n p).toNat) = true then
    (if sc A lt n (sc A bl n p) - sc A bl n p ≤ 6 then (1, wdv A 32 96 (sc A bl n p) (sc A lt n (sc A bl n p)), sc A bl n p, sc A lt n (sc A bl n p)) else (3, 0, sc A bl n p, sc A lt n (sc A bl n p)))
  else if dg (A (sc A bl n p).toNat) = true then
    (if sc A dg n (sc A bl n p) - sc A bl n p ≤ 2 then (2, wdv A 10 48 (sc A bl n p) (sc A dg n (sc A bl n p)), sc A bl n p, sc A dg n (sc A bl n p)) else (3, 0, sc A bl n p, sc A dg n (sc A bl n p)))
  else if A (sc A bl n p).toNat = 59 ∨ A (sc A bl n p).toNat = 44 ∨ A (sc A bl n p).toNat = 45 then (A (sc A bl n p).toNat, 0, sc A bl n p, sc A bl n p + 1)
  else (3, 0, sc A bl n p, sc A bl n p)
/-- the tape stands at a token -/
def TSt (m : Mem) (t : TK) : Prop := m 1 12 = t.1 ∧ (t.1 = 1 ∨ t.1 = 2 → m 1 13 = t.2.1) ∧ m 1 5 = t.2.2.1 ∧ m 1 11 = t.2.2.2
def tpS : Nat → Nat → Prop := fun a b => a = 1 ∧ (b = 5 ∨ b = 11 ∨ b = 12 ∨ b = 13)
def frc (P : Nat → Nat → Prop) (mu m2 : Mem) : Prop := ∀ a b, ¬ P a b → m2 a b = mu a b
theorem frc.rf {P : Nat → Nat → Prop} {mu : Mem} : frc P mu mu := fun _ _ _ => rfl
theorem frc.tr {P : Nat → Nat → Prop} {mu m2 m3 : Mem} (h1 : frc P mu m2) (h2 : frc P m2 m3) : frc P mu m3 := fun a b h => (h2 a b h).trans (h1 a b h)
theorem frc.mono {P Q : Nat → Nat → Prop} {mu m2 : Mem} (h : frc P mu m2) (hPQ : ∀ a b, P a b → Q a b) : frc Q mu m2 := fun a b h2 => h a b (fun q => h2 (hPQ a b q))
theorem frc.w {P : Nat → Nat → Prop} {mu m2 : Mem} {k j : Nat} {v : Int} (h : frc P mu m2) (hk : P k j) : frc P mu (wr m2 k j v) := fun a b ha => by
  rw [wr_at, if_neg (fun e => ha (by rw [e.1, e.2]; exact hk))]
  exact h a b ha
/-- the tape's bytes are bytes, its end is in it -/
def tOk (m : Mem) (n : Int) : Prop := m 1 10 = n ∧ 0 ≤ n ∧ n ≤ 500 ∧ ∀ j : Nat, (j : Int) < n → -128 ≤ m 6 j ∧ m 6 j ≤ 127
theorem tOk.fr {mu m : Mem} {n : Int} (h : tOk mu n) (hf : frc tpS mu m) : tOk m n ∧ m 6 = mu 6 := by
  have e : m 6 = mu 6 := funext fun j => hf 6 j (by unfold tpS; omega)
  exact ⟨⟨by rw [hf 1 10 (by unfold tpS; omega)]; exact h.1, h.2.1, h.2.2.1, fun j hj => by rw [e]; exact h.2.2.2 j hj⟩, e⟩
theorem pow32 {a b : Nat} (h : a ≤ b) : (32 : Int) ^ a ≤ 32 ^ b := by
  induction b with
  | zero => have : a = 0 := by omega
            subst this; exact Int.le_refl _
  | succ b ih =>
    rcases Nat.lt_or_ge b a with q | q
    · have : a = b + 1 := by omega
      subst this; exact Int.le_refl _
    · have h1 := ih q
      have h2 : (0 : Int) < 32 ^ b := Int.pow_pos (by decide)
      rw [Int.pow_succ]; omega
theorem shl5 {v : Int} (h0 : 0 ≤ v) (h1 : v < 33554432) : (Int32.ofInt v <<< (Int32.ofInt 5 &&& 31)).toInt = v * 32 := by
  obtain ⟨k, rfl⟩ := Int.eq_ofNat_of_zero_le h0
  have e : Int32.ofInt ((k : Nat) : Int) = nI k := Int32.ofInt_eq_ofNat
  have h := pk_shlN (n := k) (Int32.ofInt 5 &&& 31) 5 (by decide) (by omega)
  rw [e, h, nI_toInt (by omega)]
  omega
theorem t_X3_takeWord {mu : Mem} {n q : Int} (h : tOk mu n) (hq : mu 1 11 = q) (hp : mu 1 5 = q) (hv : mu 1 13 = 0) (h0 : 0 ≤ q) (h1 : q ≤ n) : Tr 0 mX3_takeWord [vr 1] mu (fun r m2 => r = none ∧ frc (fun a b => a = 1 ∧ (b = 11 ∨ b = 12 ∨ b = 13)) mu m2 ∧ m2 1 11 = sc (mu 6) lt n q ∧ m2 1 12 = (if sc (mu 6) lt n q - q ≤ 6 then 1 else 3) ∧ (sc (mu 6) lt n q - q ≤ 6 → m2 1 13 = wdv (mu 6) 32 96 q (sc (mu 6) lt n q))) := by
  refine Tr.of (by decide +kernel) (Nat.le_of_ble_eq_true rfl) (fun K C E => ?_)
  obtain ⟨g1, g2, g3, g4⟩ := h
  have loop : ∀ (k : Nat) (e : Int) (m : Mem), q ≤ e → e + k = n → m 1 11 = e → sc (mu 6) lt n q = sc (mu 6) lt n e → frc (fun a b => a = 1 ∧ (b = 11 ∨ b = 12 ∨ b = 13)) mu m → (e - q ≤ 6 → m 1 13 = wdv (mu 6) 32 96 q e ∧ 0 ≤ m 1 13 ∧ m 1 13 < 32 ^ (e - q).toNat) → AW K mX3_takeWord (NC, 0, 0) 0 [vr 1] [] m := by
    intro k
    induction k with
    | zero =>
      intro e m z1 z2 z3 z4 z5 z6
      have e1 : m 1 10 = n := by rw [z5 1 10 (by omega)]; exact g1
      have e2 : m 1 5 = q := by rw [z5 1 5 (by omega)]; exact hp
      have es : sc (mu 6) lt n q = e := z4.trans (sc_stop (by omega))
      rw [es] at E
      refine aw_aload_n C dX3_takeWord_0 rfl ?_
      refine aw_getI C dX3_takeWord_1 fX3_50 ⟨rfl, by decide⟩ rfl ?_
      rw [z3]
      refine aw_aload_n C dX3_takeWord_4 rfl ?_
      refine aw_getI C dX3_takeWord_5 fX3_47 ⟨rfl, by decide⟩ rfl ?_
      rw [e1]
      refine aw_icmp_ge C dX3_takeWord_8 (tgt := 77) (by decide) ⟨by omega, by omega⟩ ⟨by omega, by omega⟩ (fun c1 => ?_) (fun c1 => ?_)
      · refine aw_aload_n C dX3_takeWord_77 rfl ?_
        refine aw_aload_n C dX3_takeWord_78 rfl ?_
        refine aw_getI C dX3_takeWord_79 fX3_50 ⟨rfl, by decide⟩ rfl ?_
        rw [z3]
        refine aw_aload_n C dX3_takeWord_82 rfl ?_
        refine aw_getI C dX3_takeWord_83 fX3_112 ⟨rfl, by decide⟩ rfl ?_
        rw [e2]
        refine aw_isub C dX3_takeWord_86 ?_
        refine aw_bipush C dX3_takeWord_87 rfl ?_
        refine aw_icmp_gt C dX3_takeWord_89 (tgt := 96) (by decide) ⟨by omega, by omega⟩ ⟨by omega, by omega⟩ (fun c2 => ?_) (fun c2 => ?_)
        · refine aw_iconst C dX3_takeWord_96 ?_
          refine aw_putI C dX3_takeWord_97 fX3_62 ⟨rfl, by decide⟩ rfl rfl rfl ?_
          exact aw_vret C E dX3_takeWord_100 rfl ⟨rfl, z5.w ⟨rfl, by omega⟩, by rw [wr_at, if_neg (by omega)]; exact z3, by rw [wr_at, if_pos ⟨rfl, rfl⟩]; first | rw [if_pos (by omega)] | rw [if_neg (by omega)], fun w => by rw [wr_at, if_neg (by omega)]; exact (z6 w).1⟩
        · refine aw_iconst C dX3_takeWord_92 ?_
          refine aw_goto C dX3_takeWord_93 (tgt := 97) (by decide) ?_
          refine aw_putI C dX3_takeWord_97 fX3_62 ⟨rfl, by decide⟩ rfl rfl rfl ?_
          exact aw_vret C E dX3_takeWord_100 rfl ⟨rfl, z5.w ⟨rfl, by omega⟩, by rw [wr_at, if_neg (by omega)]; exact z3, by rw [wr_at, if_pos ⟨rfl, rfl⟩]; first | rw [if_pos (by omega)] | rw [if_neg (by omega)], fun w => by rw [wr_at, if_neg (by omega)]; exact (z6 w).1⟩
      · exfalso; omega
    | succ k ih =>
      intro e m z1 z2 z3 z4 z5 z6
      have e1 : m 1 10 = n := by rw [z5 1 10 (by omega)]; exact g1
      have e2 : m 1 5 = q := by rw [z5 1 5 (by omega)]; exact hp
      have e6 : m 6 = mu 6 := funext fun j => z5 6 j (by omega)
      have eb : m 6 e.toNat = mu 6 e.toNat := by rw [e6]
      have bb := g4 e.toNat (by omega)
      have e3 : m 1 11 = e := z3
      by_cases hl : lt (mu 6 e.toNat) = true
      · have hl2 := lt_t.mp hl
        have es : sc (mu 6) lt n q = sc (mu 6) lt n (e + 1) := z4.trans (sc_go (by omega) hl)
        have nx : ∀ (m9 : Mem) (v : Int), m9 = wr (wr m 1 13 v) 1 11 (e + 1) → (e - q ≤ 5 → v = wdv (mu 6) 32 96 q e * 32 + mu 6 e.toNat - 97 + 1) → AW K mX3_takeWord (NC, 0, 0) 0 [vr 1] [] m9 := by
          intro m9 v hm9 hv9
          subst hm9
          refine ih (e + 1) _ (by omega) (by omega) (by rw [wr_at, if_pos ⟨rfl, rfl⟩]) es ((z5.w ⟨rfl, by omega⟩).w ⟨rfl, by omega⟩) (fun w => ?_)
          obtain ⟨y1, y2, y3⟩ := z6 (by omega)
          rw [wr_at, if_neg (by omega), wr_at, if_pos ⟨rfl, rfl⟩, wdv_s z1, hv9 (by omega)]
          rw [y1] at y2 y3
          rw [show (e + 1 - q).toNat = (e - q).toNat + 1 by omega, Int.pow_succ]
          omega
        by_cases hb : e - q ≤ 5
        · obtain ⟨y1, y2, y3⟩ := z6 (by omega)
          have y4 : m 1 13 < 33554432 := by
            have w1 : (32 : Int) ^ (e - q).toNat ≤ 32 ^ 5 := pow32 (by omega)
            have w2 : (32 : Int) ^ 5 = 33554432 := by decide
            omega
          have es5 := shl5 y2 y4
          have w3 : wr m 1 13 (m 1 13 * 32 + mu 6 e.toNat - 97 + 1) 1 11 = e := by rw [wr_at, if_neg (by omega)]; exact z3
          refine aw_aload_n C dX3_takeWord_0 rfl ?_
          refine aw_getI C dX3_takeWord_1 fX3_50 ⟨rfl, by decide⟩ rfl ?_
          rw [e3]
          refine aw_aload_n C dX3_takeWord_4 rfl ?_
          refine aw_getI C dX3_takeWord_5 fX3_47 ⟨rfl, by decide⟩ rfl ?_
          rw [e1]
          refine aw_icmp_ge C dX3_takeWord_8 (tgt := 77) (by decide) ⟨by omega, by omega⟩ ⟨by omega, by omega⟩ (fun c1 => ?_) (fun c1 => ?_)
          · exfalso; omega
          · refine aw_aload_n C dX3_takeWord_11 rfl ?_
            refine aw_getS C dX3_takeWord_12 fX3_26 ⟨rfl, by decide⟩ rfl rfl (srf 1 8 6 (by decide)) ?_
            refine aw_aload_n C dX3_takeWord_15 rfl ?_
            refine aw_getI C dX3_takeWord_16 fX3_50 ⟨rfl, by decide⟩ rfl ?_
            rw [e3]
            refine aw_bald C dX3_takeWord_19 ⟨rfl, by decide⟩ (by decide) (by omega) (by omega) ?_
            rw [eb]
            refine aw_bipush C dX3_takeWord_20 rfl ?_
            refine aw_icmp_lt C dX3_takeWord_22 (tgt := 77) (by decide) ⟨by omega, by omega⟩ ⟨by omega, by omega⟩ (fun c2 => ?_) (fun c2 => ?_)
            · exfalso; omega
            · refine aw_aload_n C dX3_takeWord_25 rfl ?_
              refine aw_getS C dX3_takeWord_26 fX3_26 ⟨rfl, by decide⟩ rfl rfl (srf 1 8 6 (by decide)) ?_
              refine aw_aload_n C dX3_takeWord_29 rfl ?_
              refine aw_getI C dX3_takeWord_30 fX3_50 ⟨rfl, by decide⟩ rfl ?_
              rw [e3]
              refine aw_bald C dX3_takeWord_33 ⟨rfl, by decide⟩ (by decide) (by omega) (by omega) ?_
              rw [eb]
              refine aw_bipush C dX3_takeWord_34 rfl ?_
              refine aw_icmp_gt C dX3_takeWord_36 (tgt := 77) (by decide) ⟨by omega, by omega⟩ ⟨by omega, by omega⟩ (fun c3 => ?_) (fun c3 => ?_)
              · exfalso; omega
              · refine aw_aload_n C dX3_takeWord_39 rfl ?_
                refine aw_aload_n C dX3_takeWord_40 rfl ?_
                refine aw_getI C dX3_takeWord_41 fX3_65 ⟨rfl, by decide⟩ rfl ?_
                refine aw_iconst C dX3_takeWord_44 ?_
                refine aw_ishl C dX3_takeWord_45 ?_
                rw [es5]
                refine aw_aload_n C dX3_takeWord_46 rfl ?_
                refine aw_getS C dX3_takeWord_47 fX3_26 ⟨rfl, by decide⟩ rfl rfl (srf 1 8 6 (by decide)) ?_
                refine aw_aload_n C dX3_takeWord_50 rfl ?_
                refine aw_getI C dX3_takeWord_51 fX3_50 ⟨rfl, by decide⟩ rfl ?_
                rw [e3]
                refine aw_bald C dX3_takeWord_54 ⟨rfl, by decide⟩ (by decide) (by omega) (by omega) ?_
                rw [eb]
                refine aw_iadd C dX3_takeWord_55 ?_
                refine aw_bipush C dX3_takeWord_56 rfl ?_
                refine aw_isub C dX3_takeWord_58 ?_
                refine aw_iconst C dX3_takeWord_59 ?_
                refine aw_iadd C dX3_takeWord_60 ?_
                refine aw_putI C dX3_takeWord_61 fX3_65 ⟨rfl, by decide⟩ rfl rfl rfl ?_
                refine aw_aload_n C dX3_takeWord_64 rfl ?_
                refine aw_dup_a C dX3_takeWord_65 ?_
                refine aw_getI C dX3_takeWord_66 fX3_50 ⟨rfl, by decide⟩ rfl ?_
                rw [w3]
                refine aw_iconst C dX3_takeWord_69 ?_
                refine aw_iadd C dX3_takeWord_70 ?_
                refine aw_putI C dX3_takeWord_71 fX3_50 ⟨rfl, by decide⟩ rfl rfl rfl ?_
                refine aw_goto C dX3_takeWord_74 (tgt := 0) (by decide) ?_
                exact nx _ _ rfl (fun _ => by rw [y1])
        · have w3 : ∀ v, wr m 1 13 v 1 11 = e := fun v => by rw [wr_at, if_neg (by omega)]; exact z3
          refine aw_aload_n C dX3_takeWord_0 rfl ?_
          refine aw_getI C dX3_takeWord_1 fX3_50 ⟨rfl, by decide⟩ rfl ?_
          rw [e3]
          refine aw_aload_n C dX3_takeWord_4 rfl ?_
          refine aw_getI C dX3_takeWord_5 fX3_47 ⟨rfl, by decide⟩ rfl ?_
          rw [e1]
          refine aw_icmp_ge C dX3_takeWord_8 (tgt := 77) (by decide) ⟨by omega, by omega⟩ ⟨by omega, by omega⟩ (fun c1 => ?_) (fun c1 => ?_)
          · exfalso; omega
          · refine aw_aload_n C dX3_takeWord_11 rfl ?_
            refine aw_getS C dX3_takeWord_12 fX3_26 ⟨rfl, by decide⟩ rfl rfl (srf 1 8 6 (by decide)) ?_
            refine aw_aload_n C dX3_takeWord_15 rfl ?_
            refine aw_getI C dX3_takeWord_16 fX3_50 ⟨rfl, by decide⟩ rfl ?_
            rw [e3]
            refine aw_bald C dX3_takeWord_19 ⟨rfl, by decide⟩ (by decide) (by omega) (by omega) ?_
            rw [eb]
            refine aw_bipush C dX3_takeWord_20 rfl ?_
            refine aw_icmp_lt C dX3_takeWord_22 (tgt := 77) (by decide) ⟨by omega, by omega⟩ ⟨by omega, by omega⟩ (fun c2 => ?_) (fun c2 => ?_)
            · exfalso; omega
            · refine aw_aload_n C dX3_takeWord_25 rfl ?_
              refine aw_getS C dX3_takeWord_26 fX3_26 ⟨rfl, by decide⟩ rfl rfl (srf 1 8 6 (by decide)) ?_
              refine aw_aload_n C dX3_takeWord_29 rfl ?_
              refine aw_getI C dX3_takeWord_30 fX3_50 ⟨rfl, by decide⟩ rfl ?_
              rw [e3]
              refine aw_bald C dX3_takeWord_33 ⟨rfl, by decide⟩ (by decide) (by omega) (by omega) ?_
              rw [eb]
              refine aw_bipush C dX3_takeWord_34 rfl ?_
              refine aw_icmp_gt C dX3_takeWord_36 (tgt := 77) (by decide) ⟨by omega, by omega⟩ ⟨by omega, by omega⟩ (fun c3 => ?_) (fun c3 => ?_)
              · exfalso; omega
              · refine aw_aload_n C dX3_takeWord_39 rfl ?_
                refine aw_aload_n C dX3_takeWord_40 rfl ?_
                refine aw_getI C dX3_takeWord_41 fX3_65 ⟨rfl, by decide⟩ rfl ?_
                refine aw_iconst C dX3_takeWord_44 ?_
                refine aw_ishl C dX3_takeWord_45 ?_
                refine aw_aload_n C dX3_takeWord_46 rfl ?_
                refine aw_getS C dX3_takeWord_47 fX3_26 ⟨rfl, by decide⟩ rfl rfl (srf 1 8 6 (by decide)) ?_
                refine aw_aload_n C dX3_takeWord_50 rfl ?_
                refine aw_getI C dX3_takeWord_51 fX3_50 ⟨rfl, by decide⟩ rfl ?_
                rw [e3]
                refine aw_bald C dX3_takeWord_54 ⟨rfl, by decide⟩ (by decide) (by omega) (by omega) ?_
                rw [eb]
                refine aw_iadd C dX3_takeWord_55 ?_
                refine aw_bipush C dX3_takeWord_56 rfl ?_
                refine aw_isub C dX3_takeWord_58 ?_
                refine aw_iconst C dX3_takeWord_59 ?_
                refine aw_iadd C dX3_takeWord_60 ?_
                refine aw_putI C dX3_takeWord_61 fX3_65 ⟨rfl, by decide⟩ rfl rfl rfl ?_
                refine aw_aload_n C dX3_takeWord_64 rfl ?_
                refine aw_dup_a C dX3_takeWord_65 ?_
                refine aw_getI C dX3_takeWord_66 fX3_50 ⟨rfl, by decide⟩ rfl ?_
                rw [w3]
                refine aw_iconst C dX3_takeWord_69 ?_
                refine aw_iadd C dX3_takeWord_70 ?_
                refine aw_putI C dX3_takeWord_71 fX3_50 ⟨rfl, by decide⟩ rfl rfl rfl ?_
                refine aw_goto C dX3_takeWord_74 (tgt := 0) (by decide) ?_
                exact nx _ _ rfl (fun w => absurd w hb)
      · have es : sc (mu 6) lt n q = e := z4.trans (sc_stop (fun w => hl w.2))
        have hl2 : ¬ (97 ≤ mu 6 e.toNat ∧ mu 6 e.toNat ≤ 122) := fun w => hl (lt_t.mpr w)
        rw [es] at E
        refine aw_aload_n C dX3_takeWord_0 rfl ?_
        refine aw_getI C dX3_takeWord_1 fX3_50 ⟨rfl, by decide⟩ rfl ?_
        rw [e3]
        refine aw_aload_n C dX3_takeWord_4 rfl ?_
        refine aw_getI C dX3_takeWord_5 fX3_47 ⟨rfl, by decide⟩ rfl ?_
        rw [e1]
        refine aw_icmp_ge C dX3_takeWord_8 (tgt := 77) (by decide) ⟨by omega, by omega⟩ ⟨by omega, by omega⟩ (fun c1 => ?_) (fun c1 => ?_)
        · exfalso; omega
        · refine aw_aload_n C dX3_takeWord_11 rfl ?_
          refine aw_getS C dX3_takeWord_12 fX3_26 ⟨rfl, by decide⟩ rfl rfl (srf 1 8 6 (by decide)) ?_
          refine aw_aload_n C dX3_takeWord_15 rfl ?_
          refine aw_getI C dX3_takeWord_16 fX3_50 ⟨rfl, by decide⟩ rfl ?_
          rw [e3]
          refine aw_bald C dX3_takeWord_19 ⟨rfl, by decide⟩ (by decide) (by omega) (by omega) ?_
          rw [eb]
          refine aw_bipush C dX3_takeWord_20 rfl ?_
          refine aw_icmp_lt C dX3_takeWord_22 (tgt := 77) (by decide) ⟨by omega, by omega⟩ ⟨by omega, by omega⟩ (fun c2 => ?_) (fun c2 => ?_)
          · refine aw_aload_n C dX3_takeWord_77 rfl ?_
            refine aw_aload_n C dX3_takeWord_78 rfl ?_
            refine aw_getI C dX3_takeWord_79 fX3_50 ⟨rfl, by decide⟩ rfl ?_
            rw [z3]
            refine aw_aload_n C dX3_takeWord_82 rfl ?_
            refine aw_getI C dX3_takeWord_83 fX3_112 ⟨rfl, by decide⟩ rfl ?_
            rw [e2]
            refine aw_isub C dX3_takeWord_86 ?_
            refine aw_bipush C dX3_takeWord_87 rfl ?_
            refine aw_icmp_gt C dX3_takeWord_89 (tgt := 96) (by decide) ⟨by omega, by omega⟩ ⟨by omega, by omega⟩ (fun c3 => ?_) (fun c3 => ?_)
            · refine aw_iconst C dX3_takeWord_96 ?_
              refine aw_putI C dX3_takeWord_97 fX3_62 ⟨rfl, by decide⟩ rfl rfl rfl ?_
              exact aw_vret C E dX3_takeWord_100 rfl ⟨rfl, z5.w ⟨rfl, by omega⟩, by rw [wr_at, if_neg (by omega)]; exact z3, by rw [wr_at, if_pos ⟨rfl, rfl⟩]; first | rw [if_pos (by omega)] | rw [if_neg (by omega)], fun w => by rw [wr_at, if_neg (by omega)]; exact (z6 w).1⟩
            · refine aw_iconst C dX3_takeWord_92 ?_
              refine aw_goto C dX3_takeWord_93 (tgt := 97) (by decide) ?_
              refine aw_putI C dX3_takeWord_97 fX3_62 ⟨rfl, by decide⟩ rfl rfl rfl ?_
              exact aw_vret C E dX3_takeWord_100 rfl ⟨rfl, z5.w ⟨rfl, by omega⟩, by rw [wr_at, if_neg (by omega)]; exact z3, by rw [wr_at, if_pos ⟨rfl, rfl⟩]; first | rw [if_pos (by omega)] | rw [if_neg (by omega)], fun w => by rw [wr_at, if_neg (by omega)]; exact (z6 w).1⟩
          · refine aw_aload_n C dX3_takeWord_25 rfl ?_
            refine aw_getS C dX3_takeWord_26 fX3_26 ⟨rfl, by decide⟩ rfl rfl (srf 1 8 6 (by decide)) ?_
            refine aw_aload_n C dX3_takeWord_29 rfl ?_
            refine aw_getI C dX3_takeWord_30 fX3_50 ⟨rfl, by decide⟩ rfl ?_
            rw [e3]
            refine aw_bald C dX3_takeWord_33 ⟨rfl, by decide⟩ (by decide) (by omega) (by omega) ?_
            rw [eb]
            refine aw_bipush C dX3_takeWord_34 rfl ?_
            refine aw_icmp_gt C dX3_takeWord_36 (tgt := 77) (by decide) ⟨by omega, by omega⟩ ⟨by omega, by omega⟩ (fun c4 => ?_) (fun c4 => ?_)
            · refine aw_aload_n C dX3_takeWord_77 rfl ?_
              refine aw_aload_n C dX3_takeWord_78 rfl ?_
              refine aw_getI C dX3_takeWord_79 fX3_50 ⟨rfl, by decide⟩ rfl ?_
              rw [z3]
              refine aw_aload_n C dX3_takeWord_82 rfl ?_
              refine aw_getI C dX3_takeWord_83 fX3_112 ⟨rfl, by decide⟩ rfl ?_
              rw [e2]
              refine aw_isub C dX3_takeWord_86 ?_
              refine aw_bipush C dX3_takeWord_87 rfl ?_
              refine aw_icmp_gt C dX3_takeWord_89 (tgt := 96) (by decide) ⟨by omega, by omega⟩ ⟨by omega, by omega⟩ (fun c5 => ?_) (fun c5 => ?_)
              · refine aw_iconst C dX3_takeWord_96 ?_
                refine aw_putI C dX3_takeWord_97 fX3_62 ⟨rfl, by decide⟩ rfl rfl rfl ?_
                exact aw_vret C E dX3_takeWord_100 rfl ⟨rfl, z5.w ⟨rfl, by omega⟩, by rw [wr_at, if_neg (by omega)]; exact z3, by rw [wr_at, if_pos ⟨rfl, rfl⟩]; first | rw [if_pos (by omega)] | rw [if_neg (by omega)], fun w => by rw [wr_at, if_neg (by omega)]; exact (z6 w).1⟩
              · refine aw_iconst C dX3_takeWord_92 ?_
                refine aw_goto C dX3_takeWord_93 (tgt := 97) (by decide) ?_
                refine aw_putI C dX3_takeWord_97 fX3_62 ⟨rfl, by decide⟩ rfl rfl rfl ?_
                exact aw_vret C E dX3_takeWord_100 rfl ⟨rfl, z5.w ⟨rfl, by omega⟩, by rw [wr_at, if_neg (by omega)]; exact z3, by rw [wr_at, if_pos ⟨rfl, rfl⟩]; first | rw [if_pos (by omega)] | rw [if_neg (by omega)], fun w => by rw [wr_at, if_neg (by omega)]; exact (z6 w).1⟩
            · exfalso; omega
  exact loop (n - q).toNat q mu (by omega) (by omega) hq rfl frc.rf (fun _ => ⟨by rw [wdv_0]; exact hv, by omega, by rw [Int.sub_self, hv]; decide⟩)

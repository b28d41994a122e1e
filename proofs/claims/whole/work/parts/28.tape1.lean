theorem t_X3_takeWhole {mu : Mem} {n q : Int} (h : tOk mu n) (hq : mu 1 11 = q) (hp : mu 1 5 = q) (hv : mu 1 13 = 0) (h0 : 0 ≤ q) (h1 : q ≤ n) : Tr 0 mX3_takeWhole [vr 1] mu (fun r m2 => r = none ∧ frc (fun a b => a = 1 ∧ (b = 11 ∨ b = 12 ∨ b = 13)) mu m2 ∧ m2 1 11 = sc (mu 6) dg n q ∧ m2 1 12 = (if sc (mu 6) dg n q - q ≤ 2 then 2 else 3) ∧ (sc (mu 6) dg n q - q ≤ 2 → m2 1 13 = wdv (mu 6) 10 48 q (sc (mu 6) dg n q))) := by
  refine Tr.of (by decide +kernel) (Nat.le_of_ble_eq_true rfl) (fun K C E => ?_)
  obtain ⟨g1, g2, g3, g4⟩ := h
  have loop : ∀ (k : Nat) (e : Int) (m : Mem), q ≤ e → e + k = n → m 1 11 = e → sc (mu 6) dg n q = sc (mu 6) dg n e → frc (fun a b => a = 1 ∧ (b = 11 ∨ b = 12 ∨ b = 13)) mu m → m 1 13 = wdv (mu 6) 10 48 q e → AW K mX3_takeWhole (NC, 0, 0) 0 [vr 1] [] m := by
    intro k
    induction k with
    | zero =>
      intro e m z1 z2 z3 z4 z5 z6
      have e1 : m 1 10 = n := by rw [z5 1 10 (by omega)]; exact g1
      have e2 : m 1 5 = q := by rw [z5 1 5 (by omega)]; exact hp
      have es : sc (mu 6) dg n q = e := z4.trans (sc_stop (by omega))
      rw [es] at E
      refine aw_aload_n C dX3_takeWhole_0 rfl ?_
      refine aw_getI C dX3_takeWhole_1 fX3_50 ⟨rfl, by decide⟩ rfl ?_
      rw [z3]
      refine aw_aload_n C dX3_takeWhole_4 rfl ?_
      refine aw_getI C dX3_takeWhole_5 fX3_47 ⟨rfl, by decide⟩ rfl ?_
      rw [e1]
      refine aw_icmp_ge C dX3_takeWhole_8 (tgt := 76) (by decide) ⟨by omega, by omega⟩ ⟨by omega, by omega⟩ (fun c1 => ?_) (fun c1 => ?_)
      · refine aw_aload_n C dX3_takeWhole_76 rfl ?_
        refine aw_aload_n C dX3_takeWhole_77 rfl ?_
        refine aw_getI C dX3_takeWhole_78 fX3_50 ⟨rfl, by decide⟩ rfl ?_
        rw [z3]
        refine aw_aload_n C dX3_takeWhole_81 rfl ?_
        refine aw_getI C dX3_takeWhole_82 fX3_112 ⟨rfl, by decide⟩ rfl ?_
        rw [e2]
        refine aw_isub C dX3_takeWhole_85 ?_
        refine aw_iconst C dX3_takeWhole_86 ?_
        refine aw_icmp_gt C dX3_takeWhole_87 (tgt := 94) (by decide) ⟨by omega, by omega⟩ ⟨by omega, by omega⟩ (fun c2 => ?_) (fun c2 => ?_)
        · refine aw_iconst C dX3_takeWhole_94 ?_
          refine aw_putI C dX3_takeWhole_95 fX3_62 ⟨rfl, by decide⟩ rfl rfl rfl ?_
          exact aw_vret C E dX3_takeWhole_98 rfl ⟨rfl, z5.w ⟨rfl, by omega⟩, by rw [wr_at, if_neg (by omega)]; exact z3, by rw [wr_at, if_pos ⟨rfl, rfl⟩]; first | rw [if_pos (by omega)] | rw [if_neg (by omega)], fun w => by rw [wr_at, if_neg (by omega)]; exact z6⟩
        · refine aw_iconst C dX3_takeWhole_90 ?_
          refine aw_goto C dX3_takeWhole_91 (tgt := 95) (by decide) ?_
          refine aw_putI C dX3_takeWhole_95 fX3_62 ⟨rfl, by decide⟩ rfl rfl rfl ?_
          exact aw_vret C E dX3_takeWhole_98 rfl ⟨rfl, z5.w ⟨rfl, by omega⟩, by rw [wr_at, if_neg (by omega)]; exact z3, by rw [wr_at, if_pos ⟨rfl, rfl⟩]; first | rw [if_pos (by omega)] | rw [if_neg (by omega)], fun w => by rw [wr_at, if_neg (by omega)]; exact z6⟩
      · exfalso; omega
    | succ k ih =>
      intro e m z1 z2 z3 z4 z5 z6
      have e1 : m 1 10 = n := by rw [z5 1 10 (by omega)]; exact g1
      have e2 : m 1 5 = q := by rw [z5 1 5 (by omega)]; exact hp
      have e6 : m 6 = mu 6 := funext fun j => z5 6 j (by omega)
      have eb : m 6 e.toNat = mu 6 e.toNat := by rw [e6]
      have bb := g4 e.toNat (by omega)
      have e3 : m 1 11 = e := z3
      by_cases hl : dg (mu 6 e.toNat) = true
      · have hl2 := dg_t.mp hl
        have es : sc (mu 6) dg n q = sc (mu 6) dg n (e + 1) := z4.trans (sc_go (by omega) hl)
        have w3 : ∀ v, wr m 1 13 v 1 11 = e := fun v => by rw [wr_at, if_neg (by omega)]; exact z3
        refine aw_aload_n C dX3_takeWhole_0 rfl ?_
        refine aw_getI C dX3_takeWhole_1 fX3_50 ⟨rfl, by decide⟩ rfl ?_
        rw [e3]
        refine aw_aload_n C dX3_takeWhole_4 rfl ?_
        refine aw_getI C dX3_takeWhole_5 fX3_47 ⟨rfl, by decide⟩ rfl ?_
        rw [e1]
        refine aw_icmp_ge C dX3_takeWhole_8 (tgt := 76) (by decide) ⟨by omega, by omega⟩ ⟨by omega, by omega⟩ (fun c1 => ?_) (fun c1 => ?_)
        · exfalso; omega
        · refine aw_aload_n C dX3_takeWhole_11 rfl ?_
          refine aw_getS C dX3_takeWhole_12 fX3_26 ⟨rfl, by decide⟩ rfl rfl (srf 1 8 6 (by decide)) ?_
          refine aw_aload_n C dX3_takeWhole_15 rfl ?_
          refine aw_getI C dX3_takeWhole_16 fX3_50 ⟨rfl, by decide⟩ rfl ?_
          rw [e3]
          refine aw_bald C dX3_takeWhole_19 ⟨rfl, by decide⟩ (by decide) (by omega) (by omega) ?_
          rw [eb]
          refine aw_bipush C dX3_takeWhole_20 rfl ?_
          refine aw_icmp_lt C dX3_takeWhole_22 (tgt := 76) (by decide) ⟨by omega, by omega⟩ ⟨by omega, by omega⟩ (fun c2 => ?_) (fun c2 => ?_)
          · exfalso; omega
          · refine aw_aload_n C dX3_takeWhole_25 rfl ?_
            refine aw_getS C dX3_takeWhole_26 fX3_26 ⟨rfl, by decide⟩ rfl rfl (srf 1 8 6 (by decide)) ?_
            refine aw_aload_n C dX3_takeWhole_29 rfl ?_
            refine aw_getI C dX3_takeWhole_30 fX3_50 ⟨rfl, by decide⟩ rfl ?_
            rw [e3]
            refine aw_bald C dX3_takeWhole_33 ⟨rfl, by decide⟩ (by decide) (by omega) (by omega) ?_
            rw [eb]
            refine aw_bipush C dX3_takeWhole_34 rfl ?_
            refine aw_icmp_gt C dX3_takeWhole_36 (tgt := 76) (by decide) ⟨by omega, by omega⟩ ⟨by omega, by omega⟩ (fun c3 => ?_) (fun c3 => ?_)
            · exfalso; omega
            · refine aw_aload_n C dX3_takeWhole_39 rfl ?_
              refine aw_aload_n C dX3_takeWhole_40 rfl ?_
              refine aw_getI C dX3_takeWhole_41 fX3_65 ⟨rfl, by decide⟩ rfl ?_
              refine aw_bipush C dX3_takeWhole_44 rfl ?_
              refine aw_imul C dX3_takeWhole_46 ?_
              refine aw_aload_n C dX3_takeWhole_47 rfl ?_
              refine aw_getS C dX3_takeWhole_48 fX3_26 ⟨rfl, by decide⟩ rfl rfl (srf 1 8 6 (by decide)) ?_
              refine aw_aload_n C dX3_takeWhole_51 rfl ?_
              refine aw_getI C dX3_takeWhole_52 fX3_50 ⟨rfl, by decide⟩ rfl ?_
              rw [e3]
              refine aw_bald C dX3_takeWhole_55 ⟨rfl, by decide⟩ (by decide) (by omega) (by omega) ?_
              rw [eb]
              refine aw_iadd C dX3_takeWhole_56 ?_
              refine aw_bipush C dX3_takeWhole_57 rfl ?_
              refine aw_isub C dX3_takeWhole_59 ?_
              refine aw_putI C dX3_takeWhole_60 fX3_65 ⟨rfl, by decide⟩ rfl rfl rfl ?_
              refine aw_aload_n C dX3_takeWhole_63 rfl ?_
              refine aw_dup_a C dX3_takeWhole_64 ?_
              refine aw_getI C dX3_takeWhole_65 fX3_50 ⟨rfl, by decide⟩ rfl ?_
              rw [w3]
              refine aw_iconst C dX3_takeWhole_68 ?_
              refine aw_iadd C dX3_takeWhole_69 ?_
              refine aw_putI C dX3_takeWhole_70 fX3_50 ⟨rfl, by decide⟩ rfl rfl rfl ?_
              refine aw_goto C dX3_takeWhole_73 (tgt := 0) (by decide) ?_
              refine ih (e + 1) _ (by omega) (by omega) (by rw [wr_at, if_pos ⟨rfl, rfl⟩]) es ((z5.w ⟨rfl, by omega⟩).w ⟨rfl, by omega⟩) ?_
              rw [wr_at, if_neg (by omega), wr_at, if_pos ⟨rfl, rfl⟩, wdv_s z1, z6]
      · have es : sc (mu 6) dg n q = e := z4.trans (sc_stop (fun w => hl w.2))
        have hl2 : ¬ (48 ≤ mu 6 e.toNat ∧ mu 6 e.toNat ≤ 57) := fun w => hl (dg_t.mpr w)
        rw [es] at E
        refine aw_aload_n C dX3_takeWhole_0 rfl ?_
        refine aw_getI C dX3_takeWhole_1 fX3_50 ⟨rfl, by decide⟩ rfl ?_
        rw [e3]
        refine aw_aload_n C dX3_takeWhole_4 rfl ?_
        refine aw_getI C dX3_takeWhole_5 fX3_47 ⟨rfl, by decide⟩ rfl ?_
        rw [e1]
        refine aw_icmp_ge C dX3_takeWhole_8 (tgt := 76) (by decide) ⟨by omega, by omega⟩ ⟨by omega, by omega⟩ (fun c1 => ?_) (fun c1 => ?_)
        · exfalso; omega
        · refine aw_aload_n C dX3_takeWhole_11 rfl ?_
          refine aw_getS C dX3_takeWhole_12 fX3_26 ⟨rfl, by decide⟩ rfl rfl (srf 1 8 6 (by decide)) ?_
          refine aw_aload_n C dX3_takeWhole_15 rfl ?_
          refine aw_getI C dX3_takeWhole_16 fX3_50 ⟨rfl, by decide⟩ rfl ?_
          rw [e3]
          refine aw_bald C dX3_takeWhole_19 ⟨rfl, by decide⟩ (by decide) (by omega) (by omega) ?_
          rw [eb]
          refine aw_bipush C dX3_takeWhole_20 rfl ?_
          refine aw_icmp_lt C dX3_takeWhole_22 (tgt := 76) (by decide) ⟨by omega, by omega⟩ ⟨by omega, by omega⟩ (fun c2 => ?_) (fun c2 => ?_)
          · refine aw_aload_n C dX3_takeWhole_76 rfl ?_
            refine aw_aload_n C dX3_takeWhole_77 rfl ?_
            refine aw_getI C dX3_takeWhole_78 fX3_50 ⟨rfl, by decide⟩ rfl ?_
            rw [z3]
            refine aw_aload_n C dX3_takeWhole_81 rfl ?_
            refine aw_getI C dX3_takeWhole_82 fX3_112 ⟨rfl, by decide⟩ rfl ?_
            rw [e2]
            refine aw_isub C dX3_takeWhole_85 ?_
            refine aw_iconst C dX3_takeWhole_86 ?_
            refine aw_icmp_gt C dX3_takeWhole_87 (tgt := 94) (by decide) ⟨by omega, by omega⟩ ⟨by omega, by omega⟩ (fun c3 => ?_) (fun c3 => ?_)
            · refine aw_iconst C dX3_takeWhole_94 ?_
              refine aw_putI C dX3_takeWhole_95 fX3_62 ⟨rfl, by decide⟩ rfl rfl rfl ?_
              exact aw_vret C E dX3_takeWhole_98 rfl ⟨rfl, z5.w ⟨rfl, by omega⟩, by rw [wr_at, if_neg (by omega)]; exact z3, by rw [wr_at, if_pos ⟨rfl, rfl⟩]; first | rw [if_pos (by omega)] | rw [if_neg (by omega)], fun w => by rw [wr_at, if_neg (by omega)]; exact z6⟩
            · refine aw_iconst C dX3_takeWhole_90 ?_
              refine aw_goto C dX3_takeWhole_91 (tgt := 95) (by decide) ?_
              refine aw_putI C dX3_takeWhole_95 fX3_62 ⟨rfl, by decide⟩ rfl rfl rfl ?_
              exact aw_vret C E dX3_takeWhole_98 rfl ⟨rfl, z5.w ⟨rfl, by omega⟩, by rw [wr_at, if_neg (by omega)]; exact z3, by rw [wr_at, if_pos ⟨rfl, rfl⟩]; first | rw [if_pos (by omega)] | rw [if_neg (by omega)], fun w => by rw [wr_at, if_neg (by omega)]; exact z6⟩
          · refine aw_aload_n C dX3_takeWhole_25 rfl ?_
            refine aw_getS C dX3_takeWhole_26 fX3_26 ⟨rfl, by decide⟩ rfl rfl (srf 1 8 6 (by decide)) ?_
            refine aw_aload_n C dX3_takeWhole_29 rfl ?_
            refine aw_getI C dX3_takeWhole_30 fX3_50 ⟨rfl, by decide⟩ rfl ?_
            rw [e3]
            refine aw_bald C dX3_takeWhole_33 ⟨rfl, by decide⟩ (by decide) (by omega) (by omega) ?_
            rw [eb]
            refine aw_bipush C dX3_takeWhole_34 rfl ?_
            refine aw_icmp_gt C dX3_takeWhole_36 (tgt := 76) (by decide) ⟨by omega, by omega⟩ ⟨by omega, by omega⟩ (fun c4 => ?_) (fun c4 => ?_)
            · refine aw_aload_n C dX3_takeWhole_76 rfl ?_
              refine aw_aload_n C dX3_takeWhole_77 rfl ?_
              refine aw_getI C dX3_takeWhole_78 fX3_50 ⟨rfl, by decide⟩ rfl ?_
              rw [z3]
              refine aw_aload_n C dX3_takeWhole_81 rfl ?_
              refine aw_getI C dX3_takeWhole_82 fX3_112 ⟨rfl, by decide⟩ rfl ?_
              rw [e2]
              refine aw_isub C dX3_takeWhole_85 ?_
              refine aw_iconst C dX3_takeWhole_86 ?_
              refine aw_icmp_gt C dX3_takeWhole_87 (tgt := 94) (by decide) ⟨by omega, by omega⟩ ⟨by omega, by omega⟩ (fun c5 => ?_) (fun c5 => ?_)
              · refine aw_iconst C dX3_takeWhole_94 ?_
                refine aw_putI C dX3_takeWhole_95 fX3_62 ⟨rfl, by decide⟩ rfl rfl rfl ?_
                exact aw_vret C E dX3_takeWhole_98 rfl ⟨rfl, z5.w ⟨rfl, by omega⟩, by rw [wr_at, if_neg (by omega)]; exact z3, by rw [wr_at, if_pos ⟨rfl, rfl⟩]; first | rw [if_pos (by omega)] | rw [if_neg (by omega)], fun w => by rw [wr_at, if_neg (by omega)]; exact z6⟩
              · refine aw_iconst C dX3_takeWhole_90 ?_
                refine aw_goto C dX3_takeWhole_91 (tgt := 95) (by decide) ?_
                refine aw_putI C dX3_takeWhole_95 fX3_62 ⟨rfl, by decide⟩ rfl rfl rfl ?_
                exact aw_vret C E dX3_takeWhole_98 rfl ⟨rfl, z5.w ⟨rfl, by omega⟩, by rw [wr_at, if_neg (by omega)]; exact z3, by rw [wr_at, if_pos ⟨rfl, rfl⟩]; first | rw [if_pos (by omega)] | rw [if_neg (by omega)], fun w => by rw [wr_at, if_neg (by omega)]; exact z6⟩
            · exfalso; omega
  exact loop (n - q).toNat q mu (by omega) (by omega) hq rfl frc.rf (by rw [wdv_0]; exact hv)
theorem t_X3_take {mu : Mem} {n p : Int} (h : tOk mu n) (hp : mu 1 11 = p) (h0 : 0 ≤ p) (h1 : p ≤ n) : Tr 1 mX3_take [vr 1] mu (fun r m2 => r = none ∧ frc tpS mu m2 ∧ TSt m2 (tok (mu 6) n p)) := by
  refine Tr.of (by decide +kernel) (Nat.le_of_ble_eq_true rfl) (fun K C E => ?_)
  have hh := h
  obtain ⟨g1, g2, g3, g4⟩ := h
  have fin : ∀ (q : Int) (m : Mem), p ≤ q → q ≤ n → m 1 11 = q → sc (mu 6) bl n p = q → frc tpS mu m → ¬ (q < n ∧ bl (mu 6 q.toNat) = true) → AW K mX3_take (NC, 0, 0) 38 [vr 1, vx] [] m := by
    intro q m z1 z2 z3 z4 z5 z6
    have e1 : m 1 10 = n := by rw [z5 1 10 (by unfold tpS; omega)]; exact g1
    have e6 : m 6 = mu 6 := funext fun j => z5 6 j (by unfold tpS; omega)
    unfold tok at E
    rw [z4] at E
    have f1 : ∀ v, wr m 1 5 v 1 11 = q := fun v => by rw [wr_at, if_neg (by omega)]; exact z3
    obtain ⟨m2, hm2⟩ : ∃ m2, m2 = wr (wr m 1 5 q) 1 13 0 := ⟨_, rfl⟩
    have k1 : m2 1 11 = q := by rw [hm2, wr_at, if_neg (by omega)]; exact f1 q
    have k2 : m2 1 10 = n := by rw [hm2, wr_at, if_neg (by omega), wr_at, if_neg (by omega)]; exact e1
    have k3 : m2 1 5 = q := by rw [hm2, wr_at, if_neg (by omega), wr_at, if_pos ⟨rfl, rfl⟩]
    have k4 : m2 1 13 = 0 := by rw [hm2, wr_at, if_pos ⟨rfl, rfl⟩]
    have k5 : frc tpS mu m2 := by rw [hm2]; exact (z5.w ⟨rfl, by omega⟩).w ⟨rfl, by omega⟩
    have k6 : m2 6 = mu 6 := by rw [hm2, wr_ne (by omega), wr_ne (by omega)]; exact e6
    have k7 : tOk m2 n := (hh.fr k5).1
    have eb : m2 6 q.toNat = mu 6 q.toNat := by rw [k6]
    have ts : ∀ (m3 : Mem) (kk v : Int), m3 1 12 = kk → (kk = 1 ∨ kk = 2 → m3 1 13 = v) → m3 1 5 = q → ∀ nx, m3 1 11 = nx → TSt m3 (kk, v, q, nx) := fun m3 kk v a b c nx d => ⟨a, b, c, d⟩
    by_cases hq : q < n
    · have bb := g4 q.toNat (by omega)
      rw [if_neg (by omega)] at E
      by_cases hl : lt (mu 6 q.toNat) = true
      · have hl2 := lt_t.mp hl
        rw [if_pos hl] at E
        refine aw_aload_n C dX3_take_38 rfl ?_
        refine aw_aload_n C dX3_take_39 rfl ?_
        refine aw_getI C dX3_take_40 fX3_50 ⟨rfl, by decide⟩ rfl ?_
        rw [z3]
        refine aw_putI C dX3_take_43 fX3_112 ⟨rfl, by decide⟩ rfl rfl rfl ?_
        refine aw_aload_n C dX3_take_46 rfl ?_
        refine aw_iconst C dX3_take_47 ?_
        refine aw_putI C dX3_take_48 fX3_65 ⟨rfl, by decide⟩ rfl rfl rfl ?_
        rw [← hm2]
        refine aw_aload_n C dX3_take_51 rfl ?_
        refine aw_getI C dX3_take_52 fX3_50 ⟨rfl, by decide⟩ rfl ?_
        rw [k1]
        refine aw_aload_n C dX3_take_55 rfl ?_
        refine aw_getI C dX3_take_56 fX3_47 ⟨rfl, by decide⟩ rfl ?_
        rw [k2]
        refine aw_icmp_lt C dX3_take_59 (tgt := 68) (by decide) ⟨by omega, by omega⟩ ⟨by omega, by omega⟩ (fun c1 => ?_) (fun c1 => ?_)
        · refine aw_aload_n C dX3_take_68 rfl ?_
          refine aw_getS C dX3_take_69 fX3_26 ⟨rfl, by decide⟩ rfl rfl (srf 1 8 6 (by decide)) ?_
          refine aw_aload_n C dX3_take_72 rfl ?_
          refine aw_getI C dX3_take_73 fX3_50 ⟨rfl, by decide⟩ rfl ?_
          rw [k1]
          refine aw_bald C dX3_take_76 ⟨rfl, by decide⟩ (by decide) (by omega) (by omega) ?_
          rw [eb]
          refine aw_istore_n C dX3_take_77 (by decide) ?_
          refine aw_iload_n C dX3_take_78 rfl ?_
          refine aw_bipush C dX3_take_79 rfl ?_
          refine aw_icmp_lt C dX3_take_81 (tgt := 97) (by decide) ⟨by omega, by omega⟩ ⟨by omega, by omega⟩ (fun c2 => ?_) (fun c2 => ?_)
          · exfalso; omega
          · refine aw_iload_n C dX3_take_84 rfl ?_
            refine aw_bipush C dX3_take_85 rfl ?_
            refine aw_icmp_gt C dX3_take_87 (tgt := 97) (by decide) ⟨by omega, by omega⟩ ⟨by omega, by omega⟩ (fun c3 => ?_) (fun c3 => ?_)
            · exfalso; omega
            · refine aw_aload_n C dX3_take_90 rfl ?_
              refine aw_call C dX3_take_91 lX3_115 vX3_takeWord (t_X3_takeWord k7 k1 k3 k4 (by omega) (by omega)) rfl rfl rfl ⟨rfl, by decide⟩ rfl ⟨by decide, by decide⟩ (Nat.le_of_ble_eq_true rfl) (fun r4 mu4 hq4 => ?_)
              obtain ⟨rfl, u1, u2, u3, u4⟩ := hq4
              rw [k6] at u2 u3 u4
              show AW _ _ _ _ _ [] _
              refine aw_goto C dX3_take_94 (tgt := 157) (by decide) ?_
              exact aw_vret C E dX3_take_157 rfl ⟨rfl, k5.tr (u1.mono (fun a b w => ⟨w.1, by omega⟩)), by
          split
          · rename_i w
            exact ts _ _ _ (by rw [u3, if_pos w]) (fun _ => u4 w) (by rw [u1 1 5 (by omega)]; exact k3) _ u2
          · rename_i w
            exact ts _ _ _ (by rw [u3, if_neg w]) (fun w2 => by omega) (by rw [u1 1 5 (by omega)]; exact k3) _ u2⟩
        · exfalso; omega
      · have hl2 : ¬ (97 ≤ mu 6 q.toNat ∧ mu 6 q.toNat ≤ 122) := fun w => hl (lt_t.mpr w)
        rw [if_neg hl] at E
        by_cases hd : dg (mu 6 q.toNat) = true
        · have hd2 := dg_t.mp hd
          rw [if_pos hd] at E
          refine aw_aload_n C dX3_take_38 rfl ?_
          refine aw_aload_n C dX3_take_39 rfl ?_
          refine aw_getI C dX3_take_40 fX3_50 ⟨rfl, by decide⟩ rfl ?_
          rw [z3]
          refine aw_putI C dX3_take_43 fX3_112 ⟨rfl, by decide⟩ rfl rfl rfl ?_
          refine aw_aload_n C dX3_take_46 rfl ?_
          refine aw_iconst C dX3_take_47 ?_
          refine aw_putI C dX3_take_48 fX3_65 ⟨rfl, by decide⟩ rfl rfl rfl ?_
          rw [← hm2]
          refine aw_aload_n C dX3_take_51 rfl ?_
          refine aw_getI C dX3_take_52 fX3_50 ⟨rfl, by decide⟩ rfl ?_
          rw [k1]
          refine aw_aload_n C dX3_take_55 rfl ?_
          refine aw_getI C dX3_take_56 fX3_47 ⟨rfl, by decide⟩ rfl ?_
          rw [k2]
          refine aw_icmp_lt C dX3_take_59 (tgt := 68) (by decide) ⟨by omega, by omega⟩ ⟨by omega, by omega⟩ (fun c1 => ?_) (fun c1 => ?_)
          · refine aw_aload_n C dX3_take_68 rfl ?_
            refine aw_getS C dX3_take_69 fX3_26 ⟨rfl, by decide⟩ rfl rfl (srf 1 8 6 (by decide)) ?_
            refine aw_aload_n C dX3_take_72 rfl ?_
            refine aw_getI C dX3_take_73 fX3_50 ⟨rfl, by decide⟩ rfl ?_
            rw [k1]
            refine aw_bald C dX3_take_76 ⟨rfl, by decide⟩ (by decide) (by omega) (by omega) ?_
            rw [eb]
            refine aw_istore_n C dX3_take_77 (by decide) ?_
            refine aw_iload_n C dX3_take_78 rfl ?_
            refine aw_bipush C dX3_take_79 rfl ?_
            refine aw_icmp_lt C dX3_take_81 (tgt := 97) (by decide) ⟨by omega, by omega⟩ ⟨by omega, by omega⟩ (fun c2 => ?_) (fun c2 => ?_)
            · refine aw_iload_n C dX3_take_97 rfl ?_
              refine aw_bipush C dX3_take_98 rfl ?_
              refine aw_icmp_lt C dX3_take_100 (tgt := 116) (by decide) ⟨by omega, by omega⟩ ⟨by omega, by omega⟩ (fun c3 => ?_) (fun c3 => ?_)
              · exfalso; omega
              · refine aw_iload_n C dX3_take_103 rfl ?_
                refine aw_bipush C dX3_take_104 rfl ?_
                refine aw_icmp_gt C dX3_take_106 (tgt := 116) (by decide) ⟨by omega, by omega⟩ ⟨by omega, by omega⟩ (fun c4 => ?_) (fun c4 => ?_)
                · exfalso; omega
                · refine aw_aload_n C dX3_take_109 rfl ?_
                  refine aw_call C dX3_take_110 lX3_118 vX3_takeWhole (t_X3_takeWhole k7 k1 k3 k4 (by omega) (by omega)) rfl rfl rfl ⟨rfl, by decide⟩ rfl ⟨by decide, by decide⟩ (Nat.le_of_ble_eq_true rfl) (fun r5 mu5 hq5 => ?_)
                  obtain ⟨rfl, u1, u2, u3, u4⟩ := hq5
                  rw [k6] at u2 u3 u4
                  show AW _ _ _ _ _ [] _
                  refine aw_goto C dX3_take_113 (tgt := 157) (by decide) ?_
                  exact aw_vret C E dX3_take_157 rfl ⟨rfl, k5.tr (u1.mono (fun a b w => ⟨w.1, by omega⟩)), by
            split
            · rename_i w
              exact ts _ _ _ (by rw [u3, if_pos w]) (fun _ => u4 w) (by rw [u1 1 5 (by omega)]; exact k3) _ u2
            · rename_i w
              exact ts _ _ _ (by rw [u3, if_neg w]) (fun w2 => by omega) (by rw [u1 1 5 (by omega)]; exact k3) _ u2⟩
            · refine aw_iload_n C dX3_take_84 rfl ?_
              refine aw_bipush C dX3_take_85 rfl ?_
              refine aw_icmp_gt C dX3_take_87 (tgt := 97) (by decide) ⟨by omega, by omega⟩ ⟨by omega, by omega⟩ (fun c6 => ?_) (fun c6 => ?_)
              · refine aw_iload_n C dX3_take_97 rfl ?_
                refine aw_bipush C dX3_take_98 rfl ?_
                refine aw_icmp_lt C dX3_take_100 (tgt := 116) (by decide) ⟨by omega, by omega⟩ ⟨by omega, by omega⟩ (fun c7 => ?_) (fun c7 => ?_)
                · exfalso; omega
                · refine aw_iload_n C dX3_take_103 rfl ?_
                  refine aw_bipush C dX3_take_104 rfl ?_
                  refine aw_icmp_gt C dX3_take_106 (tgt := 116) (by decide) ⟨by omega, by omega⟩ ⟨by omega, by omega⟩ (fun c8 => ?_) (fun c8 => ?_)
                  · exfalso; omega
                  · refine aw_aload_n C dX3_take_109 rfl ?_
                    refine aw_call C dX3_take_110 lX3_118 vX3_takeWhole (t_X3_takeWhole k7 k1 k3 k4 (by omega) (by omega)) rfl rfl rfl ⟨rfl, by decide⟩ rfl ⟨by decide, by decide⟩ (Nat.le_of_ble_eq_true rfl) (fun r9 mu9 hq9 => ?_)
                    obtain ⟨rfl, u1, u2, u3, u4⟩ := hq9
                    rw [k6] at u2 u3 u4
                    show AW _ _ _ _ _ [] _
                    refine aw_goto C dX3_take_113 (tgt := 157) (by decide) ?_
                    exact aw_vret C E dX3_take_157 rfl ⟨rfl, k5.tr (u1.mono (fun a b w => ⟨w.1, by omega⟩)), by
            split
            · rename_i w
              exact ts _ _ _ (by rw [u3, if_pos w]) (fun _ => u4 w) (by rw [u1 1 5 (by omega)]; exact k3) _ u2
            · rename_i w
              exact ts _ _ _ (by rw [u3, if_neg w]) (fun w2 => by omega) (by rw [u1 1 5 (by omega)]; exact k3) _ u2⟩
              · exfalso; omega
          · exfalso; omega
        · have hd2 : ¬ (48 ≤ mu 6 q.toNat ∧ mu 6 q.toNat ≤ 57) := fun w => hd (dg_t.mpr w)
          rw [if_neg hd] at E
          have f3 : ∀ v, wr m2 1 12 v 1 11 = q := fun v => by rw [wr_at, if_neg (by omega)]; exact k1
          by_cases hs : mu 6 q.toNat = 59 ∨ mu 6 q.toNat = 44 ∨ mu 6 q.toNat = 45
          · rw [if_pos hs] at E
            refine aw_aload_n C dX3_take_38 rfl ?_
            refine aw_aload_n C dX3_take_39 rfl ?_
            refine aw_getI C dX3_take_40 fX3_50 ⟨rfl, by decide⟩ rfl ?_
            rw [z3]
            refine aw_putI C dX3_take_43 fX3_112 ⟨rfl, by decide⟩ rfl rfl rfl ?_
            refine aw_aload_n C dX3_take_46 rfl ?_
            refine aw_iconst C dX3_take_47 ?_
            refine aw_putI C dX3_take_48 fX3_65 ⟨rfl, by decide⟩ rfl rfl rfl ?_
            rw [← hm2]
            refine aw_aload_n C dX3_take_51 rfl ?_
            refine aw_getI C dX3_take_52 fX3_50 ⟨rfl, by decide⟩ rfl ?_
            rw [k1]
            refine aw_aload_n C dX3_take_55 rfl ?_
            refine aw_getI C dX3_take_56 fX3_47 ⟨rfl, by decide⟩ rfl ?_
            rw [k2]
            refine aw_icmp_lt C dX3_take_59 (tgt := 68) (by decide) ⟨by omega, by omega⟩ ⟨by omega, by omega⟩ (fun c1 => ?_) (fun c1 => ?_)
            · refine aw_aload_n C dX3_take_68 rfl ?_
              refine aw_getS C dX3_take_69 fX3_26 ⟨rfl, by decide⟩ rfl rfl (srf 1 8 6 (by decide)) ?_
              refine aw_aload_n C dX3_take_72 rfl ?_
              refine aw_getI C dX3_take_73 fX3_50 ⟨rfl, by decide⟩ rfl ?_
              rw [k1]
              refine aw_bald C dX3_take_76 ⟨rfl, by decide⟩ (by decide) (by omega) (by omega) ?_
              rw [eb]
              refine aw_istore_n C dX3_take_77 (by decide) ?_
              refine aw_iload_n C dX3_take_78 rfl ?_
              refine aw_bipush C dX3_take_79 rfl ?_
              refine aw_icmp_lt C dX3_take_81 (tgt := 97) (by decide) ⟨by omega, by omega⟩ ⟨by omega, by omega⟩ (fun c2 => ?_) (fun c2 => ?_)
              · refine aw_iload_n C dX3_take_97 rfl ?_
                refine aw_bipush C dX3_take_98 rfl ?_
                refine aw_icmp_lt C dX3_take_100 (tgt := 116) (by decide) ⟨by omega, by omega⟩ ⟨by omega, by omega⟩ (fun c3 => ?_) (fun c3 => ?_)
                · refine aw_iload_n C dX3_take_116 rfl ?_
                  refine aw_bipush C dX3_take_117 rfl ?_
                  refine aw_icmp_eq C dX3_take_119 (tgt := 134) (by decide) ⟨by omega, by omega⟩ ⟨by omega, by omega⟩ (fun c4 => ?_) (fun c4 => ?_)
                  · refine aw_aload_n C dX3_take_134 rfl ?_
                    refine aw_iload_n C dX3_take_135 rfl ?_
                    refine aw_putI C dX3_take_136 fX3_62 ⟨rfl, by decide⟩ rfl rfl rfl ?_
                    refine aw_aload_n C dX3_take_139 rfl ?_
                    refine aw_dup_a C dX3_take_140 ?_
                    refine aw_getI C dX3_take_141 fX3_50 ⟨rfl, by decide⟩ rfl ?_
                    rw [f3]
                    refine aw_iconst C dX3_take_144 ?_
                    refine aw_iadd C dX3_take_145 ?_
                    refine aw_putI C dX3_take_146 fX3_50 ⟨rfl, by decide⟩ rfl rfl rfl ?_
                    refine aw_goto C dX3_take_149 (tgt := 157) (by decide) ?_
                    exact aw_vret C E dX3_take_157 rfl ⟨rfl, (k5.w ⟨rfl, by omega⟩).w ⟨rfl, by omega⟩, ts _ _ _ (by rw [wr_at, if_neg (by omega), wr_at, if_pos ⟨rfl, rfl⟩]) (fun w => by omega) (by rw [wr_at, if_neg (by omega), wr_at, if_neg (by omega)]; exact k3) _ (by rw [wr_at, if_pos ⟨rfl, rfl⟩])⟩
                  · refine aw_iload_n C dX3_take_122 rfl ?_
                    refine aw_bipush C dX3_take_123 rfl ?_
                    refine aw_icmp_eq C dX3_take_125 (tgt := 134) (by decide) ⟨by omega, by omega⟩ ⟨by omega, by omega⟩ (fun c5 => ?_) (fun c5 => ?_)
                    · refine aw_aload_n C dX3_take_134 rfl ?_
                      refine aw_iload_n C dX3_take_135 rfl ?_
                      refine aw_putI C dX3_take_136 fX3_62 ⟨rfl, by decide⟩ rfl rfl rfl ?_
                      refine aw_aload_n C dX3_take_139 rfl ?_
                      refine aw_dup_a C dX3_take_140 ?_
                      refine aw_getI C dX3_take_141 fX3_50 ⟨rfl, by decide⟩ rfl ?_
                      rw [f3]
                      refine aw_iconst C dX3_take_144 ?_
                      refine aw_iadd C dX3_take_145 ?_
                      refine aw_putI C dX3_take_146 fX3_50 ⟨rfl, by decide⟩ rfl rfl rfl ?_
                      refine aw_goto C dX3_take_149 (tgt := 157) (by decide) ?_
                      exact aw_vret C E dX3_take_157 rfl ⟨rfl, (k5.w ⟨rfl, by omega⟩).w ⟨rfl, by omega⟩, ts _ _ _ (by rw [wr_at, if_neg (by omega), wr_at, if_pos ⟨rfl, rfl⟩]) (fun w => by omega) (by rw [wr_at, if_neg (by omega), wr_at, if_neg (by omega)]; exact k3) _ (by rw [wr_at, if_pos ⟨rfl, rfl⟩])⟩
                    · refine aw_iload_n C dX3_take_128 rfl ?_
                      refine aw_bipush C dX3_take_129 rfl ?_
                      refine aw_icmp_ne C dX3_take_131 (tgt := 152) (by decide) ⟨by omega, by omega⟩ ⟨by omega, by omega⟩ (fun c6 => ?_) (fun c6 => ?_)
                      · exfalso; omega
                      · refine aw_aload_n C dX3_take_134 rfl ?_
                        refine aw_iload_n C dX3_take_135 rfl ?_
                        refine aw_putI C dX3_take_136 fX3_62 ⟨rfl, by decide⟩ rfl rfl rfl ?_
                        refine aw_aload_n C dX3_take_139 rfl ?_
                        refine aw_dup_a C dX3_take_140 ?_
                        refine aw_getI C dX3_take_141 fX3_50 ⟨rfl, by decide⟩ rfl ?_
                        rw [f3]
                        refine aw_iconst C dX3_take_144 ?_
                        refine aw_iadd C dX3_take_145 ?_
                        refine aw_putI C dX3_take_146 fX3_50 ⟨rfl, by decide⟩ rfl rfl rfl ?_
                        refine aw_goto C dX3_take_149 (tgt := 157) (by decide) ?_
                        exact aw_vret C E dX3_take_157 rfl ⟨rfl, (k5.w ⟨rfl, by omega⟩).w ⟨rfl, by omega⟩, ts _ _ _ (by rw [wr_at, if_neg (by omega), wr_at, if_pos ⟨rfl, rfl⟩]) (fun w => by omega) (by rw [wr_at, if_neg (by omega), wr_at, if_neg (by omega)]; exact k3) _ (by rw [wr_at, if_pos ⟨rfl, rfl⟩])⟩
                · refine aw_iload_n C dX3_take_103 rfl ?_
                  refine aw_bipush C dX3_take_104 rfl ?_
                  refine aw_icmp_gt C dX3_take_106 (tgt := 116) (by decide) ⟨by omega, by omega⟩ ⟨by omega, by omega⟩ (fun c7 => ?_) (fun c7 => ?_)
                  · refine aw_iload_n C dX3_take_116 rfl ?_
                    refine aw_bipush C dX3_take_117 rfl ?_
                    refine aw_icmp_eq C dX3_take_119 (tgt := 134) (by decide) ⟨by omega, by omega⟩ ⟨by omega, by omega⟩ (fun c8 => ?_) (fun c8 => ?_)
                    · refine aw_aload_n C dX3_take_134 rfl ?_
                      refine aw_iload_n C dX3_take_135 rfl ?_
                      refine aw_putI C dX3_take_136 fX3_62 ⟨rfl, by decide⟩ rfl rfl rfl ?_
                      refine aw_aload_n C dX3_take_139 rfl ?_
                      refine aw_dup_a C dX3_take_140 ?_
                      refine aw_getI C dX3_take_141 fX3_50 ⟨rfl, by decide⟩ rfl ?_
                      rw [f3]
                      refine aw_iconst C dX3_take_144 ?_
                      refine aw_iadd C dX3_take_145 ?_
                      refine aw_putI C dX3_take_146 fX3_50 ⟨rfl, by decide⟩ rfl rfl rfl ?_
                      refine aw_goto C dX3_take_149 (tgt := 157) (by decide) ?_
                      exact aw_vret C E dX3_take_157 rfl ⟨rfl, (k5.w ⟨rfl, by omega⟩).w ⟨rfl, by omega⟩, ts _ _ _ (by rw [wr_at, if_neg (by omega), wr_at, if_pos ⟨rfl, rfl⟩]) (fun w => by omega) (by rw [wr_at, if_neg (by omega), wr_at, if_neg (by omega)]; exact k3) _ (by rw [wr_at, if_pos ⟨rfl, rfl⟩])⟩
                    · refine aw_iload_n C dX3_take_122 rfl ?_
                      refine aw_bipush C dX3_take_123 rfl ?_
                      refine aw_icmp_eq C dX3_take_125 (tgt := 134) (by decide) ⟨by omega, by omega⟩ ⟨by omega, by omega⟩ (fun c9 => ?_) (fun c9 => ?_)
                      · refine aw_aload_n C dX3_take_134 rfl ?_
                        refine aw_iload_n C dX3_take_135 rfl ?_
                        refine aw_putI C dX3_take_136 fX3_62 ⟨rfl, by decide⟩ rfl rfl rfl ?_
                        refine aw_aload_n C dX3_take_139 rfl ?_
                        refine aw_dup_a C dX3_take_140 ?_
                        refine aw_getI C dX3_take_141 fX3_50 ⟨rfl, by decide⟩ rfl ?_
                        rw [f3]
                        refine aw_iconst C dX3_take_144 ?_
                        refine aw_iadd C dX3_take_145 ?_
                        refine aw_putI C dX3_take_146 fX3_50 ⟨rfl, by decide⟩ rfl rfl rfl ?_
                        refine aw_goto C dX3_take_149 (tgt := 157) (by decide) ?_
                        exact aw_vret C E dX3_take_157 rfl ⟨rfl, (k5.w ⟨rfl, by omega⟩).w ⟨rfl, by omega⟩, ts _ _ _ (by rw [wr_at, if_neg (by omega), wr_at, if_pos ⟨rfl, rfl⟩]) (fun w => by omega) (by rw [wr_at, if_neg (by omega), wr_at, if_neg (by omega)]; exact k3) _ (by rw [wr_at, if_pos ⟨rfl, rfl⟩])⟩
                      · refine aw_iload_n C dX3_take_128 rfl ?_
                        refine aw_bipush C dX3_take_129 rfl ?_
                        refine aw_icmp_ne C dX3_take_131 (tgt := 152) (by decide) ⟨by omega, by omega⟩ ⟨by omega, by omega⟩ (fun c10 => ?_) (fun c10 => ?_)
                        · exfalso; omega
                        · refine aw_aload_n C dX3_take_134 rfl ?_
                          refine aw_iload_n C dX3_take_135 rfl ?_
                          refine aw_putI C dX3_take_136 fX3_62 ⟨rfl, by decide⟩ rfl rfl rfl ?_
                          refine aw_aload_n C dX3_take_139 rfl ?_
                          refine aw_dup_a C dX3_take_140 ?_
                          refine aw_getI C dX3_take_141 fX3_50 ⟨rfl, by decide⟩ rfl ?_
                          rw [f3]
                          refine aw_iconst C dX3_take_144 ?_
                          refine aw_iadd C dX3_take_145 ?_
                          refine aw_putI C dX3_take_146 fX3_50 ⟨rfl, by decide⟩ rfl rfl rfl ?_
                          refine aw_goto C dX3_take_149 (tgt := 157) (by decide) ?_
                          exact aw_vret C E dX3_take_157 rfl ⟨rfl, (k5.w ⟨rfl, by omega⟩).w ⟨rfl, by omega⟩, ts _ _ _ (by rw [wr_at, if_neg (by omega), wr_at, if_pos ⟨rfl, rfl⟩]) (fun w => by omega) (by rw [wr_at, if_neg (by omega), wr_at, if_neg (by omega)]; exact k3) _ (by rw [wr_at, if_pos ⟨rfl, rfl⟩])⟩
                  · exfalso; omega
              · refine aw_iload_n C dX3_take_84 rfl ?_
                refine aw_bipush C dX3_take_85 rfl ?_
                refine aw_icmp_gt C dX3_take_87 (tgt := 97) (by decide) ⟨by omega, by omega⟩ ⟨by omega, by omega⟩ (fun c11 => ?_) (fun c11 => ?_)
                · refine aw_iload_n C dX3_take_97 rfl ?_
                  refine aw_bipush C dX3_take_98 rfl ?_
                  refine aw_icmp_lt C dX3_take_100 (tgt := 116) (by decide) ⟨by omega, by omega⟩ ⟨by omega, by omega⟩ (fun c12 => ?_) (fun c12 => ?_)
                  · refine aw_iload_n C dX3_take_116 rfl ?_
                    refine aw_bipush C dX3_take_117 rfl ?_
                    refine aw_icmp_eq C dX3_take_119 (tgt := 134) (by decide) ⟨by omega, by omega⟩ ⟨by omega, by omega⟩ (fun c13 => ?_) (fun c13 => ?_)
                    · refine aw_aload_n C dX3_take_134 rfl ?_
                      refine aw_iload_n C dX3_take_135 rfl ?_
                      refine aw_putI C dX3_take_136 fX3_62 ⟨rfl, by decide⟩ rfl rfl rfl ?_
                      refine aw_aload_n C dX3_take_139 rfl ?_
                      refine aw_dup_a C dX3_take_140 ?_
                      refine aw_getI C dX3_take_141 fX3_50 ⟨rfl, by decide⟩ rfl ?_
                      rw [f3]
                      refine aw_iconst C dX3_take_144 ?_
                      refine aw_iadd C dX3_take_145 ?_
                      refine aw_putI C dX3_take_146 fX3_50 ⟨rfl, by decide⟩ rfl rfl rfl ?_
                      refine aw_goto C dX3_take_149 (tgt := 157) (by decide) ?_
                      exact aw_vret C E dX3_take_157 rfl ⟨rfl, (k5.w ⟨rfl, by omega⟩).w ⟨rfl, by omega⟩, ts _ _ _ (by rw [wr_at, if_neg (by omega), wr_at, if_pos ⟨rfl, rfl⟩]) (fun w => by omega) (by rw [wr_at, if_neg (by omega), wr_at, if_neg (by omega)]; exact k3) _ (by rw [wr_at, if_pos ⟨rfl, rfl⟩])⟩
                    · refine aw_iload_n C dX3_take_122 rfl ?_
                      refine aw_bipush C dX3_take_123 rfl ?_
                      refine aw_icmp_eq C dX3_take_125 (tgt := 134) (by decide) ⟨by omega, by omega⟩ ⟨by omega, by omega⟩ (fun c14 => ?_) (fun c14 => ?_)
                      · refine aw_aload_n C dX3_take_134 rfl ?_
                        refine aw_iload_n C dX3_take_135 rfl ?_
                        refine aw_putI C dX3_take_136 fX3_62 ⟨rfl, by decide⟩ rfl rfl rfl ?_
                        refine aw_aload_n C dX3_take_139 rfl ?_
                        refine aw_dup_a C dX3_take_140 ?_
                        refine aw_getI C dX3_take_141 fX3_50 ⟨rfl, by decide⟩ rfl ?_
                        rw [f3]
                        refine aw_iconst C dX3_take_144 ?_
                        refine aw_iadd C dX3_take_145 ?_
                        refine aw_putI C dX3_take_146 fX3_50 ⟨rfl, by decide⟩ rfl rfl rfl ?_
                        refine aw_goto C dX3_take_149 (tgt := 157) (by decide) ?_
                        exact aw_vret C E dX3_take_157 rfl ⟨rfl, (k5.w ⟨rfl, by omega⟩).w ⟨rfl, by omega⟩, ts _ _ _ (by rw [wr_at, if_neg (by omega), wr_at, if_pos ⟨rfl, rfl⟩]) (fun w => by omega) (by rw [wr_at, if_neg (by omega), wr_at, if_neg (by omega)]; exact k3) _ (by rw [wr_at, if_pos ⟨rfl, rfl⟩])⟩
                      · refine aw_iload_n C dX3_take_128 rfl ?_
                        refine aw_bipush C dX3_take_129 rfl ?_
                        refine aw_icmp_ne C dX3_take_131 (tgt := 152) (by decide) ⟨by omega, by omega⟩ ⟨by omega, by omega⟩ (fun c15 => ?_) (fun c15 => ?_)
                        · exfalso; omega
                        · refine aw_aload_n C dX3_take_134 rfl ?_
                          refine aw_iload_n C dX3_take_135 rfl ?_
                          refine aw_putI C dX3_take_136 fX3_62 ⟨rfl, by decide⟩ rfl rfl rfl ?_
                          refine aw_aload_n C dX3_take_139 rfl ?_
                          refine aw_dup_a C dX3_take_140 ?_
                          refine aw_getI C dX3_take_141 fX3_50 ⟨rfl, by decide⟩ rfl ?_
                          rw [f3]
                          refine aw_iconst C dX3_take_144 ?_
                          refine aw_iadd C dX3_take_145 ?_
                          refine aw_putI C dX3_take_146 fX3_50 ⟨rfl, by decide⟩ rfl rfl rfl ?_
                          refine aw_goto C dX3_take_149 (tgt := 157) (by decide) ?_
                          exact aw_vret C E dX3_take_157 rfl ⟨rfl, (k5.w ⟨rfl, by omega⟩).w ⟨rfl, by omega⟩, ts _ _ _ (by rw [wr_at, if_neg (by omega), wr_at, if_pos ⟨rfl, rfl⟩]) (fun w => by omega) (by rw [wr_at, if_neg (by omega), wr_at, if_neg (by omega)]; exact k3) _ (by rw [wr_at, if_pos ⟨rfl, rfl⟩])⟩
                  · refine aw_iload_n C dX3_take_103 rfl ?_
                    refine aw_bipush C dX3_take_104 rfl ?_
                    refine aw_icmp_gt C dX3_take_106 (tgt := 116) (by decide) ⟨by omega, by omega⟩ ⟨by omega, by omega⟩ (fun c16 => ?_) (fun c16 => ?_)
                    · refine aw_iload_n C dX3_take_116 rfl ?_
                      refine aw_bipush C dX3_take_117 rfl ?_
                      refine aw_icmp_eq C dX3_take_119 (tgt := 134) (by decide) ⟨by omega, by omega⟩ ⟨by omega, by omega⟩ (fun c17 => ?_) (fun c17 => ?_)
                      · refine aw_aload_n C dX3_take_134 rfl ?_
                        refine aw_iload_n C dX3_take_135 rfl ?_
                        refine aw_putI C dX3_take_136 fX3_62 ⟨rfl, by decide⟩ rfl rfl rfl ?_
                        refine aw_aload_n C dX3_take_139 rfl ?_
                        refine aw_dup_a C dX3_take_140 ?_
                        refine aw_getI C dX3_take_141 fX3_50 ⟨rfl, by decide⟩ rfl ?_
                        rw [f3]
                        refine aw_iconst C dX3_take_144 ?_
                        refine aw_iadd C dX3_take_145 ?_
                        refine aw_putI C dX3_take_146 fX3_50 ⟨rfl, by decide⟩ rfl rfl rfl ?_
                        refine aw_goto C dX3_take_149 (tgt := 157) (by decide) ?_
                        exact aw_vret C E dX3_take_157 rfl ⟨rfl, (k5.w ⟨rfl, by omega⟩).w ⟨rfl, by omega⟩, ts _ _ _ (by rw [wr_at, if_neg (by omega), wr_at, if_pos ⟨rfl, rfl⟩]) (fun w => by omega) (by rw [wr_at, if_neg (by omega), wr_at, if_neg (by omega)]; exact k3) _ (by rw [wr_at, if_pos ⟨rfl, rfl⟩])⟩
                      · refine aw_iload_n C dX3_take_122 rfl ?_
                        refine aw_bipush C dX3_take_123 rfl ?_
                        refine aw_icmp_eq C dX3_take_125 (tgt := 134) (by decide) ⟨by omega, by omega⟩ ⟨by omega, by omega⟩ (fun c18 => ?_) (fun c18 => ?_)
                        · refine aw_aload_n C dX3_take_134 rfl ?_
                          refine aw_iload_n C dX3_take_135 rfl ?_
                          refine aw_putI C dX3_take_136 fX3_62 ⟨rfl, by decide⟩ rfl rfl rfl ?_
                          refine aw_aload_n C dX3_take_139 rfl ?_
                          refine aw_dup_a C dX3_take_140 ?_
                          refine aw_getI C dX3_take_141 fX3_50 ⟨rfl, by decide⟩ rfl ?_
                          rw [f3]
                          refine aw_iconst C dX3_take_144 ?_
                          refine aw_iadd C dX3_take_145 ?_
                          refine aw_putI C dX3_take_146 fX3_50 ⟨rfl, by decide⟩ rfl rfl rfl ?_
                          refine aw_goto C dX3_take_149 (tgt := 157) (by decide) ?_
                          exact aw_vret C E dX3_take_157 rfl ⟨rfl, (k5.w ⟨rfl, by omega⟩).w ⟨rfl, by omega⟩, ts _ _ _ (by rw [wr_at, if_neg (by omega), wr_at, if_pos ⟨rfl, rfl⟩]) (fun w => by omega) (by rw [wr_at, if_neg (by omega), wr_at, if_neg (by omega)]; exact k3) _ (by rw [wr_at, if_pos ⟨rfl, rfl⟩])⟩
                        · refine aw_iload_n C dX3_take_128 rfl ?_
                          refine aw_bipush C dX3_take_129 rfl ?_
                          refine aw_icmp_ne C dX3_take_131 (tgt := 152) (by decide) ⟨by omega, by omega⟩ ⟨by omega, by omega⟩ (fun c19 => ?_) (fun c19 => ?_)
                          · exfalso; omega
                          · refine aw_aload_n C dX3_take_134 rfl ?_
                            refine aw_iload_n C dX3_take_135 rfl ?_
                            refine aw_putI C dX3_take_136 fX3_62 ⟨rfl, by decide⟩ rfl rfl rfl ?_
                            refine aw_aload_n C dX3_take_139 rfl ?_
                            refine aw_dup_a C dX3_take_140 ?_
                            refine aw_getI C dX3_take_141 fX3_50 ⟨rfl, by decide⟩ rfl ?_
                            rw [f3]
                            refine aw_iconst C dX3_take_144 ?_
                            refine aw_iadd C dX3_take_145 ?_
                            refine aw_putI C dX3_take_146 fX3_50 ⟨rfl, by decide⟩ rfl rfl rfl ?_
                            refine aw_goto C dX3_take_149 (tgt := 157) (by decide) ?_
                            exact aw_vret C E dX3_take_157 rfl ⟨rfl, (k5.w ⟨rfl, by omega⟩).w ⟨rfl, by omega⟩, ts _ _ _ (by rw [wr_at, if_neg (by omega), wr_at, if_pos ⟨rfl, rfl⟩]) (fun w => by omega) (by rw [wr_at, if_neg (by omega), wr_at, if_neg (by omega)]; exact k3) _ (by rw [wr_at, if_pos ⟨rfl, rfl⟩])⟩
                    · exfalso; omega
                · exfalso; omega
            · exfalso; omega
          · rw [if_neg hs] at E
            refine aw_aload_n C dX3_take_38 rfl ?_
            refine aw_aload_n C dX3_take_39 rfl ?_
            refine aw_getI C dX3_take_40 fX3_50 ⟨rfl, by decide⟩ rfl ?_
            rw [z3]
            refine aw_putI C dX3_take_43 fX3_112 ⟨rfl, by decide⟩ rfl rfl rfl ?_
            refine aw_aload_n C dX3_take_46 rfl ?_
            refine aw_iconst C dX3_take_47 ?_
            refine aw_putI C dX3_take_48 fX3_65 ⟨rfl, by decide⟩ rfl rfl rfl ?_
            rw [← hm2]
            refine aw_aload_n C dX3_take_51 rfl ?_
            refine aw_getI C dX3_take_52 fX3_50 ⟨rfl, by decide⟩ rfl ?_
            rw [k1]
            refine aw_aload_n C dX3_take_55 rfl ?_
            refine aw_getI C dX3_take_56 fX3_47 ⟨rfl, by decide⟩ rfl ?_
            rw [k2]
            refine aw_icmp_lt C dX3_take_59 (tgt := 68) (by decide) ⟨by omega, by omega⟩ ⟨by omega, by omega⟩ (fun c1 => ?_) (fun c1 => ?_)
            · refine aw_aload_n C dX3_take_68 rfl ?_
              refine aw_getS C dX3_take_69 fX3_26 ⟨rfl, by decide⟩ rfl rfl (srf 1 8 6 (by decide)) ?_
              refine aw_aload_n C dX3_take_72 rfl ?_
              refine aw_getI C dX3_take_73 fX3_50 ⟨rfl, by decide⟩ rfl ?_
              rw [k1]
              refine aw_bald C dX3_take_76 ⟨rfl, by decide⟩ (by decide) (by omega) (by omega) ?_
              rw [eb]
              refine aw_istore_n C dX3_take_77 (by decide) ?_
              refine aw_iload_n C dX3_take_78 rfl ?_
              refine aw_bipush C dX3_take_79 rfl ?_
              refine aw_icmp_lt C dX3_take_81 (tgt := 97) (by decide) ⟨by omega, by omega⟩ ⟨by omega, by omega⟩ (fun c2 => ?_) (fun c2 => ?_)
              · refine aw_iload_n C dX3_take_97 rfl ?_
                refine aw_bipush C dX3_take_98 rfl ?_
                refine aw_icmp_lt C dX3_take_100 (tgt := 116) (by decide) ⟨by omega, by omega⟩ ⟨by omega, by omega⟩ (fun c3 => ?_) (fun c3 => ?_)
                · refine aw_iload_n C dX3_take_116 rfl ?_
                  refine aw_bipush C dX3_take_117 rfl ?_
                  refine aw_icmp_eq C dX3_take_119 (tgt := 134) (by decide) ⟨by omega, by omega⟩ ⟨by omega, by omega⟩ (fun c4 => ?_) (fun c4 => ?_)
                  · exfalso; omega
                  · refine aw_iload_n C dX3_take_122 rfl ?_
                    refine aw_bipush C dX3_take_123 rfl ?_
                    refine aw_icmp_eq C dX3_take_125 (tgt := 134) (by decide) ⟨by omega, by omega⟩ ⟨by omega, by omega⟩ (fun c5 => ?_) (fun c5 => ?_)
                    · exfalso; omega
                    · refine aw_iload_n C dX3_take_128 rfl ?_
                      refine aw_bipush C dX3_take_129 rfl ?_
                      refine aw_icmp_ne C dX3_take_131 (tgt := 152) (by decide) ⟨by omega, by omega⟩ ⟨by omega, by omega⟩ (fun c6 => ?_) (fun c6 => ?_)
                      · refine aw_aload_n C dX3_take_152 rfl ?_
                        refine aw_iconst C dX3_take_153 ?_
                        refine aw_putI C dX3_take_154 fX3_62 ⟨rfl, by decide⟩ rfl rfl rfl ?_
                        exact aw_vret C E dX3_take_157 rfl ⟨rfl, k5.w ⟨rfl, by omega⟩, ts _ _ _ (by rw [wr_at, if_pos ⟨rfl, rfl⟩]) (fun w => by omega) (by rw [wr_at, if_neg (by omega)]; exact k3) _ (by rw [wr_at, if_neg (by omega)]; exact k1)⟩
                      · exfalso; omega
                · refine aw_iload_n C dX3_take_103 rfl ?_
                  refine aw_bipush C dX3_take_104 rfl ?_
                  refine aw_icmp_gt C dX3_take_106 (tgt := 116) (by decide) ⟨by omega, by omega⟩ ⟨by omega, by omega⟩ (fun c7 => ?_) (fun c7 => ?_)
                  · refine aw_iload_n C dX3_take_116 rfl ?_
                    refine aw_bipush C dX3_take_117 rfl ?_
                    refine aw_icmp_eq C dX3_take_119 (tgt := 134) (by decide) ⟨by omega, by omega⟩ ⟨by omega, by omega⟩ (fun c8 => ?_) (fun c8 => ?_)
                    · exfalso; omega
                    · refine aw_iload_n C dX3_take_122 rfl ?_
                      refine aw_bipush C dX3_take_123 rfl ?_
                      refine aw_icmp_eq C dX3_take_125 (tgt := 134) (by decide) ⟨by omega, by omega⟩ ⟨by omega, by omega⟩ (fun c9 => ?_) (fun c9 => ?_)
                      · exfalso; omega
                      · refine aw_iload_n C dX3_take_128 rfl ?_
                        refine aw_bipush C dX3_take_129 rfl ?_
                        refine aw_icmp_ne C dX3_take_131 (tgt := 152) (by decide) ⟨by omega, by omega⟩ ⟨by omega, by omega⟩ (fun c10 => ?_) (fun c10 => ?_)
                        · refine aw_aload_n C dX3_take_152 rfl ?_
                          refine aw_iconst C dX3_take_153 ?_
                          refine aw_putI C dX3_take_154 fX3_62 ⟨rfl, by decide⟩ rfl rfl rfl ?_
                          exact aw_vret C E dX3_take_157 rfl ⟨rfl, k5.w ⟨rfl, by omega⟩, ts _ _ _ (by rw [wr_at, if_pos ⟨rfl, rfl⟩]) (fun w => by omega) (by rw [wr_at, if_neg (by omega)]; exact k3) _ (by rw [wr_at, if_neg (by omega)]; exact k1)⟩
                        · exfalso; omega
                  · exfalso; omega
              · refine aw_iload_n C dX3_take_84 rfl ?_
                refine aw_bipush C dX3_take_85 rfl ?_
                refine aw_icmp_gt C dX3_take_87 (tgt := 97) (by decide) ⟨by omega, by omega⟩ ⟨by omega, by omega⟩ (fun c11 => ?_) (fun c11 => ?_)
                · refine aw_iload_n C dX3_take_97 rfl ?_
                  refine aw_bipush C dX3_take_98 rfl ?_
                  refine aw_icmp_lt C dX3_take_100 (tgt := 116) (by decide) ⟨by omega, by omega⟩ ⟨by omega, by omega⟩ (fun c12 => ?_) (fun c12 => ?_)
                  · refine aw_iload_n C dX3_take_116 rfl ?_
                    refine aw_bipush C dX3_take_117 rfl ?_
                    refine aw_icmp_eq C dX3_take_119 (tgt := 134) (by decide) ⟨by omega, by omega⟩ ⟨by omega, by omega⟩ (fun c13 => ?_) (fun c13 => ?_)
                    · exfalso; omega
                    · refine aw_iload_n C dX3_take_122 rfl ?_
                      refine aw_bipush C dX3_take_123 rfl ?_
                      refine aw_icmp_eq C dX3_take_125 (tgt := 134) (by decide) ⟨by omega, by omega⟩ ⟨by omega, by omega⟩ (fun c14 => ?_) (fun c14 => ?_)
                      · exfalso; omega
                      · refine aw_iload_n C dX3_take_128 rfl ?_
                        refine aw_bipush C dX3_take_129 rfl ?_
                        refine aw_icmp_ne C dX3_take_131 (tgt := 152) (by decide) ⟨by omega, by omega⟩ ⟨by omega, by omega⟩ (fun c15 => ?_) (fun c15 => ?_)
                        · refine aw_aload_n C dX3_take_152 rfl ?_
                          refine aw_iconst C dX3_take_153 ?_
                          refine aw_putI C dX3_take_154 fX3_62 ⟨rfl, by decide⟩ rfl rfl rfl ?_
                          exact aw_vret C E dX3_take_157 rfl ⟨rfl, k5.w ⟨rfl, by omega⟩, ts _ _ _ (by rw [wr_at, if_pos ⟨rfl, rfl⟩]) (fun w => by omega) (by rw [wr_at, if_neg (by omega)]; exact k3) _ (by rw [wr_at, if_neg (by omega)]; exact k1)⟩
                        · exfalso; omega
                  · refine aw_iload_n C dX3_take_103 rfl ?_
                    refine aw_bipush C dX3_take_104 rfl ?_
                    refine aw_icmp_gt C dX3_take_106 (tgt := 116) (by decide) ⟨by omega, by omega⟩ ⟨by omega, by omega⟩ (fun c16 => ?_) (fun c16 => ?_)
                    · refine aw_iload_n C dX3_take_116 rfl ?_
                      refine aw_bipush C dX3_take_117 rfl ?_
                      refine aw_icmp_eq C dX3_take_119 (tgt := 134) (by decide) ⟨by omega, by omega⟩ ⟨by omega, by omega⟩ (fun c17 => ?_) (fun c17 => ?_)
                      · exfalso; omega
                      · refine aw_iload_n C dX3_take_122 rfl ?_
                        refine aw_bipush C dX3_take_123 rfl ?_
                        refine aw_icmp_eq C dX3_take_125 (tgt := 134) (by decide) ⟨by omega, by omega⟩ ⟨by omega, by omega⟩ (fun c18 => ?_) (fun c18 => ?_)
                        · exfalso; omega
                        · refine aw_iload_n C dX3_take_128 rfl ?_
                          refine aw_bipush C dX3_take_129 rfl ?_
                          refine aw_icmp_ne C dX3_take_131 (tgt := 152) (by decide) ⟨by omega, by omega⟩ ⟨by omega, by omega⟩ (fun c19 => ?_) (fun c19 => ?_)
                          · refine aw_aload_n C dX3_take_152 rfl ?_
                            refine aw_iconst C dX3_take_153 ?_
                            refine aw_putI C dX3_take_154 fX3_62 ⟨rfl, by decide⟩ rfl rfl rfl ?_
                            exact aw_vret C E dX3_take_157 rfl ⟨rfl, k5.w ⟨rfl, by omega⟩, ts _ _ _ (by rw [wr_at, if_pos ⟨rfl, rfl⟩]) (fun w => by omega) (by rw [wr_at, if_neg (by omega)]; exact k3) _ (by rw [wr_at, if_neg (by omega)]; exact k1)⟩
                          · exfalso; omega
                    · exfalso; omega
                · exfalso; omega
            · exfalso; omega
    · rw [if_pos (by omega)] at E
      refine aw_aload_n C dX3_take_38 rfl ?_
      refine aw_aload_n C dX3_take_39 rfl ?_
      refine aw_getI C dX3_take_40 fX3_50 ⟨rfl, by decide⟩ rfl ?_
      rw [z3]
      refine aw_putI C dX3_take_43 fX3_112 ⟨rfl, by decide⟩ rfl rfl rfl ?_
      refine aw_aload_n C dX3_take_46 rfl ?_
      refine aw_iconst C dX3_take_47 ?_
      refine aw_putI C dX3_take_48 fX3_65 ⟨rfl, by decide⟩ rfl rfl rfl ?_
      rw [← hm2]
      refine aw_aload_n C dX3_take_51 rfl ?_
      refine aw_getI C dX3_take_52 fX3_50 ⟨rfl, by decide⟩ rfl ?_
      rw [k1]
      refine aw_aload_n C dX3_take_55 rfl ?_
      refine aw_getI C dX3_take_56 fX3_47 ⟨rfl, by decide⟩ rfl ?_
      rw [k2]
      refine aw_icmp_lt C dX3_take_59 (tgt := 68) (by decide) ⟨by omega, by omega⟩ ⟨by omega, by omega⟩ (fun c1 => ?_) (fun c1 => ?_)
      · exfalso; omega
      · refine aw_aload_n C dX3_take_62 rfl ?_
        refine aw_iconst C dX3_take_63 ?_
        refine aw_putI C dX3_take_64 fX3_62 ⟨rfl, by decide⟩ rfl rfl rfl ?_
        exact aw_vret C E dX3_take_67 rfl ⟨rfl, k5.w ⟨rfl, by omega⟩, ts _ _ _ (by rw [wr_at, if_pos ⟨rfl, rfl⟩]) (fun w => by omega) (by rw [wr_at, if_neg (by omega)]; exact k3) _ (by rw [wr_at, if_neg (by omega)]; exact k1)⟩
  have loop : ∀ (k : Nat) (q : Int) (m : Mem), p ≤ q → q + k = n → m 1 11 = q → sc (mu 6) bl n p = sc (mu 6) bl n q → frc tpS mu m → AW K mX3_take (NC, 0, 0) 0 [vr 1, vx] [] m := by
    intro k
    induction k with
    | zero =>
      intro q m z1 z2 z3 z4 z5
      have e1 : m 1 10 = n := by rw [z5 1 10 (by unfold tpS; omega)]; exact g1
      refine aw_aload_n C dX3_take_0 rfl ?_
      refine aw_getI C dX3_take_1 fX3_50 ⟨rfl, by decide⟩ rfl ?_
      rw [z3]
      refine aw_aload_n C dX3_take_4 rfl ?_
      refine aw_getI C dX3_take_5 fX3_47 ⟨rfl, by decide⟩ rfl ?_
      rw [e1]
      refine aw_icmp_ge C dX3_take_8 (tgt := 38) (by decide) ⟨by omega, by omega⟩ ⟨by omega, by omega⟩ (fun c1 => ?_) (fun c1 => ?_)
      · exact fin q m z1 (by omega) z3 (z4.trans (sc_stop (by omega))) z5 (by omega)
      · exfalso; omega
    | succ k ih =>
      intro q m z1 z2 z3 z4 z5
      have e1 : m 1 10 = n := by rw [z5 1 10 (by unfold tpS; omega)]; exact g1
      have e6 : m 6 = mu 6 := funext fun j => z5 6 j (by unfold tpS; omega)
      have eb : m 6 q.toNat = mu 6 q.toNat := by rw [e6]
      have bb := g4 q.toNat (by omega)
      refine aw_aload_n C dX3_take_0 rfl ?_
      refine aw_getI C dX3_take_1 fX3_50 ⟨rfl, by decide⟩ rfl ?_
      rw [z3]
      refine aw_aload_n C dX3_take_4 rfl ?_
      refine aw_getI C dX3_take_5 fX3_47 ⟨rfl, by decide⟩ rfl ?_
      rw [e1]
      refine aw_icmp_ge C dX3_take_8 (tgt := 38) (by decide) ⟨by omega, by omega⟩ ⟨by omega, by omega⟩ (fun c1 => ?_) (fun c1 => ?_)
      · exfalso; omega
      · refine aw_aload_n C dX3_take_11 rfl ?_
        refine aw_getS C dX3_take_12 fX3_26 ⟨rfl, by decide⟩ rfl rfl (srf 1 8 6 (by decide)) ?_
        refine aw_aload_n C dX3_take_15 rfl ?_
        refine aw_getI C dX3_take_16 fX3_50 ⟨rfl, by decide⟩ rfl ?_
        rw [z3]
        refine aw_bald C dX3_take_19 ⟨rfl, by decide⟩ (by decide) (by omega) (by omega) ?_
        rw [eb]
        refine aw_bipush C dX3_take_20 rfl ?_
        refine aw_icmp_ne C dX3_take_22 (tgt := 38) (by decide) ⟨by omega, by omega⟩ ⟨by omega, by omega⟩ (fun c2 => ?_) (fun c2 => ?_)
        · have hb : ¬ (q < n ∧ bl (mu 6 q.toNat) = true) := fun w => c2 (bl_t.mp w.2)
          exact fin q m z1 (by omega) z3 (z4.trans (sc_stop hb)) z5 hb
        · refine aw_aload_n C dX3_take_25 rfl ?_
          refine aw_dup_a C dX3_take_26 ?_
          refine aw_getI C dX3_take_27 fX3_50 ⟨rfl, by decide⟩ rfl ?_
          rw [z3]
          refine aw_iconst C dX3_take_30 ?_
          refine aw_iadd C dX3_take_31 ?_
          refine aw_putI C dX3_take_32 fX3_50 ⟨rfl, by decide⟩ rfl rfl rfl ?_
          refine aw_goto C dX3_take_35 (tgt := 0) (by decide) ?_
          exact ih (q + 1) _ (by omega) (by omega) (by rw [wr_at, if_pos ⟨rfl, rfl⟩]) (z4.trans (sc_go (by omega) (bl_t.mpr c2))) (z5.w ⟨rfl, by omega⟩)
  exact loop (n - p).toNat p mu (by omega) (by omega) hp rfl frc.rf
theorem tok_in {A : Nat → Int} {n p : Int} (h : p ≤ n) : p ≤ (tok A n p).2.2.1 ∧ (tok A n p).2.2.1 ≤ n ∧ (tok A n p).2.2.1 ≤ (tok A n p).2.2.2 ∧ (tok A n p).2.2.2 ≤ n := by
  have h1 := sc_in (A := A) (P := bl) h
  have h2 := sc_in (A := A) (P := lt) h1.2
  have h3 := sc_in (A := A) (P := dg) h1.2
  unfold tok
  split
  · refine ⟨?_, ?_, ?_, ?_⟩ <;> simp only <;> omega
  · split
    · split <;> refine ⟨?_, ?_, ?_, ?_⟩ <;> simp only <;> omega
    · split
      · split <;> refine ⟨?_, ?_, ?_, ?_⟩ <;> simp only <;> omega
      · split <;> refine ⟨?_, ?_, ?_, ?_⟩ <;> simp only <;> omega

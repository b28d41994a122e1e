theorem t_X6_star {mu : Mem} {V : FV} {a : Int} {H : Nat → FV} {i : Int} (S : mSt mu V a H) (ha : 0 ≤ a ∧ a ≤ 8) (hH : ∀ j : Nat, (j : Int) < a → bV (H j)) (hs : srt V) (hi : R32 i) : Tr 5 mX6_star [vr 55, vi i] mu (fun r m2 => r = some (vi (qSt V i).1) ∧ mAct mu m2 V a H (qSt V i).2 (wSt V i)) := by
  refine Tr.of (by decide +kernel) (Nat.le_of_ble_eq_true rfl) (fun K C E => ?_)
  have k1 := b01_01 (0 ≤ i ∧ i < V.1)
  have k1i : b01 (0 ≤ i ∧ i < V.1) = 1 ↔ (0 ≤ i ∧ i < V.1) := b01_iff
  refine aw_aload_n C dX6_star_0 rfl ?_
  refine aw_iconst C dX6_star_1 ?_
  refine aw_putI C dX6_star_2 fX6_77 ⟨rfl, by decide⟩ rfl rfl rfl ?_
  have S1 := S.t
  have fr1 := mfr.t (mu := mu)
  have t0 : wr mu 55 0 0 55 0 = 0 := by rw [wr_at, if_pos ⟨rfl, rfl⟩]
  generalize wr mu 55 0 0 = m1 at *
  have hm := S1.1
  have eV := hm.1
  have hV := hm.2.1.1
  have hn := hV.1
  have hl := hV.2.1
  have e1 := mv1 eV
  have e2 := mv2 eV
  have h3 := hm.2.2
  refine aw_aload_n C dX6_star_5 rfl ?_
  refine aw_iload_n C dX6_star_6 rfl ?_
  refine aw_call1 C dX6_star_7 lX6_308 vX6_isRay (t_X6_isRay hm (by assumption)) rfl rfl rfl ⟨rfl, by decide⟩ rfl ⟨by decide, by decide⟩ (Nat.le_of_ble_eq_true rfl) ?_
  refine aw_if_ne C dX6_star_10 (tgt := 19) (by decide) ⟨by omega, by omega⟩ (fun c1 => ?_) (fun c1 => ?_)
  · have cl := hm.2.1.cl (by omega)
    have hcl := cl.1
    have ho : oV V := ⟨hV, cl.1, cl.2, hs⟩
    have nx := nxt_in (V := V) (i := i) (by omega) (by omega)
    have b1 := hV.x i
    have b2 := hV.x (nxt V i)
    have b3 := hV.y i
    have b4 := hV.y (nxt V i)
    have nz : ¬ (gx V i + gx V (nxt V i) = 0 ∧ gy V i + gy V (nxt V i) = 0) := by
      rintro ⟨z1, z2⟩
      have t := hcl.2 i (by omega) (by omega)
      unfold trn crs at t
      rw [show gx V (nxt V i) = -gx V i by omega, show gy V (nxt V i) = -gy V i by omega, Int.mul_neg, Int.mul_neg, Int.mul_comm] at t
      omega
    have g0 := (gcd_by nz).1
    have bg : (Int.gcd (gx V i + gx V (nxt V i)) (gy V i + gy V (nxt V i)) : Int) ≤ 120 := gcd_le ⟨by omega, by omega⟩ ⟨by omega, by omega⟩
    have bx : -120 ≤ stX V i ∧ stX V i ≤ 120 := by
      have := Int.natAbs_tdiv_le_natAbs (gx V i + gx V (nxt V i)) (Int.gcd (gx V i + gx V (nxt V i)) (gy V i + gy V (nxt V i)) : Int)
      unfold stX
      omega
    have by_ : -120 ≤ stY V i ∧ stY V i ≤ 120 := by
      have := Int.natAbs_tdiv_le_natAbs (gy V i + gy V (nxt V i)) (Int.gcd (gx V i + gx V (nxt V i)) (gy V i + gy V (nxt V i)) : Int)
      unfold stY
      omega
    --go
    refine aw_aload_n C dX6_star_19 rfl ?_
    refine aw_getS C dX6_star_20 fX6_41 ⟨rfl, by decide⟩ rfl rfl (srf 55 23 64 (by decide)) ?_
    refine aw_iload_n C dX6_star_23 rfl ?_
    refine aw_iald C dX6_star_24 ⟨rfl, by decide⟩ (by decide) (by omega) (by omega) ?_
    rw [mxV eV (by omega) (by omega)]
    refine aw_aload_n C dX6_star_25 rfl ?_
    refine aw_getS C dX6_star_26 fX6_41 ⟨rfl, by decide⟩ rfl rfl (srf 55 23 64 (by decide)) ?_
    refine aw_aload_n C dX6_star_29 rfl ?_
    refine aw_iload_n C dX6_star_30 rfl ?_
    refine aw_call1 C dX6_star_31 lX6_282 vX6_next (t_X6_next eV hV (by omega) (by omega)) rfl rfl rfl ⟨rfl, by decide⟩ rfl ⟨by decide, by decide⟩ (Nat.le_of_ble_eq_true rfl) ?_
    refine aw_iald C dX6_star_34 ⟨rfl, by decide⟩ (by decide) (by omega) (by omega) ?_
    rw [mxV eV nx.1 nx.2]
    refine aw_iadd C dX6_star_35 ?_
    refine aw_istore_n C dX6_star_36 (by decide) ?_
    refine aw_aload_n C dX6_star_37 rfl ?_
    refine aw_getS C dX6_star_38 fX6_44 ⟨rfl, by decide⟩ rfl rfl (srf 55 24 65 (by decide)) ?_
    refine aw_iload_n C dX6_star_41 rfl ?_
    refine aw_iald C dX6_star_42 ⟨rfl, by decide⟩ (by decide) (by omega) (by omega) ?_
    rw [myV eV (by omega) (by omega)]
    refine aw_aload_n C dX6_star_43 rfl ?_
    refine aw_getS C dX6_star_44 fX6_44 ⟨rfl, by decide⟩ rfl rfl (srf 55 24 65 (by decide)) ?_
    refine aw_aload_n C dX6_star_47 rfl ?_
    refine aw_iload_n C dX6_star_48 rfl ?_
    refine aw_call1 C dX6_star_49 lX6_282 vX6_next (t_X6_next eV hV (by omega) (by omega)) rfl rfl rfl ⟨rfl, by decide⟩ rfl ⟨by decide, by decide⟩ (Nat.le_of_ble_eq_true rfl) ?_
    refine aw_iald C dX6_star_52 ⟨rfl, by decide⟩ (by decide) (by omega) (by omega) ?_
    rw [myV eV nx.1 nx.2]
    refine aw_iadd C dX6_star_53 ?_
    refine aw_istore_n C dX6_star_54 (by decide) ?_
    refine aw_iload_n C dX6_star_55 rfl ?_
    refine aw_i2l C dX6_star_56 ⟨by omega, by omega⟩ ?_
    refine aw_iload_n C dX6_star_57 rfl ?_
    refine aw_i2l C dX6_star_58 ⟨by omega, by omega⟩ ?_
    refine aw_callS1 C dX6_star_59 lX6_202 vX6_common (t_X6_common ⟨by omega, by omega⟩ ⟨by omega, by omega⟩) rfl rfl rfl ⟨by decide, by decide⟩ (Nat.le_of_ble_eq_true rfl) ?_
    refine aw_l2i C dX6_star_62 ?_
    refine aw_istore C dX6_star_63 (by decide) ?_
    refine aw_aload_n C dX6_star_65 rfl ?_
    refine aw_iconst C dX6_star_66 ?_
    refine aw_call C dX6_star_67 lX6_408 vX6_begins (t_X6_begins (W := mv6 m1) (mv6_srt eV hs) (mv6_bW eV hV) S1.2.2.2.1 (Or.inl ⟨rfl, rfl⟩)) rfl rfl rfl ⟨rfl, by decide⟩ rfl ⟨by decide, by decide⟩ (Nat.le_of_ble_eq_true rfl) (fun r2 mu2 hq2 => ?_)
    obtain ⟨rfl, g1, g2, g3⟩ := hq2
    have S3 := mSt_fr S1 (bgS_k g1)
    have t3 : mu2 55 0 = 0 := (g1 55 0 (by unfold bgS; omega)).trans t0
    have fr3 : mfr mu mu2 := fr1.tr (mfr_of g1 bgS_K)
    have eV3 := S3.1.1
    generalize mu2 = m3 at *
    show AW _ _ _ _ _ [] _
    refine aw_aload_n C dX6_star_70 rfl ?_
    refine aw_iload_n C dX6_star_71 rfl ?_
    refine aw_iload_n C dX6_star_72 rfl ?_
    refine aw_iload C dX6_star_73 rfl ?_
    refine aw_idiv C dX6_star_75 ⟨by omega, by omega⟩ ⟨by omega, by omega⟩ (by omega) ?_
    refine aw_iload_n C dX6_star_76 rfl ?_
    refine aw_iload C dX6_star_77 rfl ?_
    refine aw_idiv C dX6_star_79 ⟨by omega, by omega⟩ ⟨by omega, by omega⟩ (by omega) ?_
    refine aw_call C dX6_star_80 lX6_411 vX6_laysNew (t_X6_laysNew (x := stX V i) (y := stY V i) eV3 hV hcl (by omega) (by omega) g2 (mv6_bW eV hV) rfl ⟨by omega, by omega⟩ ⟨by omega, by omega⟩ (Or.inr g3)) rfl rfl rfl ⟨rfl, by decide⟩ rfl ⟨by decide, by decide⟩ (Nat.le_of_ble_eq_true rfl) (fun r3 mu3 hq3 => ?_)
    obtain ⟨rfl, o1, o2⟩ := hq3
    rw [mv6_rs eV hV] at o2
    have S4 := mSt_fr S3 (bgS_k o1)
    have t4 : mu3 55 0 = 0 := (o1 55 0 (by unfold bgS; omega)).trans t3
    have fr4 : mfr mu mu3 := fr3.tr (mfr_of o1 bgS_K)
    generalize mu3 = m4 at *
    show AW _ _ _ _ _ [] _
    refine aw_aload_n C dX6_star_83 rfl ?_
    have k33 : m4 55 33 = 0 ∨ m4 55 33 = 1 := by
      rcases o2 with ⟨-, -, z⟩ | ⟨-, z⟩
      · right; rw [z]; exact g3
      · exact Or.inl z
    refine aw_getI C dX6_star_84 fX6_239 ⟨rfl, by decide⟩ rfl ?_
    refine aw_if_ne C dX6_star_87 (tgt := 96) (by decide) ⟨by omega, by omega⟩ (fun cr => ?_) (fun cr => ?_)
    · obtain ⟨ok, es4⟩ : okI V V i (stX V i) (stY V i) ∧ sv m4 = insV (mv6 m1) (bp (mv6 m1) (stX V i) (stY V i) (mv6 m1).1.toNat).toNat (stX V i) (stY V i) (fun d => if (d : Int) < V.2.1 then ftt V d i (stX V i) (stY V i) / trn V i else 0) := by
        rcases o2 with ⟨z1, z2, -⟩ | ⟨-, z⟩
        · exact ⟨z1, z2⟩
        · exact absurd z cr
      have qe : qSt V i = (pos V (stX V i) (stY V i), 0) := (if_neg (by omega) : qSt V i = _).trans (if_pos (b01_t ok))
      have sg := st_good ho (by omega) (by omega) ok
      have ebp : bp (mv6 m1) (stX V i) (stY V i) (mv6 m1).1.toNat = pos V (stX V i) (stY V i) := by
        have := bp_pos (W := mv6 m1) (l := V.2.1) (x := stX V i) (y := stY V i) (by rw [mv6_rs eV hV]; exact sg.1)
        rw [mv6_rs eV hV] at this
        exact this
      rw [ebp] at es4
      have hwN := hW_ins (p := (pos V (stX V i) (stY V i)).toNat) (mv6_hW eV hV S1.2.2.2.1) (by rw [show (mv6 m1).1 = V.1 from e1]; exact ok.1) ok.2.1 ok.2.2.1 (c := fun d => if (d : Int) < V.2.1 then ftt V d i (stX V i) (stY V i) / trn V i else 0) (fun d => by
        show hld (if (d : Int) < V.2.1 then _ else _)
        split
        · exact ok.2.2.2 d (by omega) (by assumption)
        · unfold hld; omega)
      have rsE : rsV V.2.1 (insV (mv6 m1) (pos V (stX V i) (stY V i)).toNat (stX V i) (stY V i) (fun d => if (d : Int) < V.2.1 then ftt V d i (stX V i) (stY V i) / trn V i else 0)) = wSt V i := by
        rw [rs_ins (c2 := fun d => ftt V d i (stX V i) (stY V i) / trn V i) rfl (by omega) (fun d hd => if_pos hd), mv6_rs eV hV]
        rfl
      --go
      refine aw_aload_n C dX6_star_96 rfl ?_
      refine aw_call C dX6_star_97 lX6_395 vX6_remembers (t_X6_remembers S4 ha hH) rfl rfl rfl ⟨rfl, by decide⟩ rfl ⟨by decide, by decide⟩ (Nat.le_of_ble_eq_true rfl) (fun r4 mu4 hq4 => ?_)
      obtain ⟨rfl, f1, S2⟩ := hq4
      have t2 : mu4 55 0 = 0 := (f1 55 0 (by unfold rmmS; omega)).trans t4
      have fr2 : mfr mu mu4 := fr4.tr (mfr_of f1 rmm_K)
      have eV2 := S2.1.1
      generalize mu4 = m2 at *
      show AW _ _ _ _ _ [] _
      have es5 := sv_rmm f1
      rw [es4] at es5
      have S5 := S2
      have t5 := t2
      have fr5 := fr2
      generalize m2 = m5 at *
      refine aw_aload_n C dX6_star_100 rfl ?_
      refine aw_call C dX6_star_101 lX6_276 vX6_holds (t_X6_holds (by rw [show m5 55 31 = (sv m5).1 from rfl, es5]; exact ⟨show 0 ≤ (mv6 m1).1 + 1 by rw [show (mv6 m1).1 = V.1 from e1]; omega, show (mv6 m1).1 + 1 ≤ 24 by rw [show (mv6 m1).1 = V.1 from e1]; have := ok.1; omega⟩)) rfl rfl rfl ⟨rfl, by decide⟩ rfl ⟨by decide, by decide⟩ (Nat.le_of_ble_eq_true rfl) (fun r5 mu5 hq5 => ?_)
      obtain ⟨rfl, h1, h2⟩ := hq5
      rw [es5] at h2
      have fr6 : mfr mu mu5 := fr5.tr (mfr_of h1 hdS_K)
      have t6 : mu5 55 0 = 0 := (h1 55 0 (by unfold hdS; omega)).trans t5
      generalize mu5 = m6 at *
      show AW _ _ _ _ _ [] _
      have S6 := mSt_hold S5 (by omega) h2 h1 (by rw [rsE]; exact sg.2.g) (show 0 < (mv6 m1).1 + 1 by rw [show (mv6 m1).1 = V.1 from e1]; omega) hwN.2.2
      rw [rsE] at S6
      have eV6 := S6.1.1
      have p1' : pos V (stX V i) (stY V i) < (wSt V i).1 := by have := sg.1.1; show _ < V.1 + 1; omega
      refine aw_aload_n C dX6_star_104 rfl ?_
      refine aw_aload_n C dX6_star_105 rfl ?_
      refine aw_iload_n C dX6_star_106 rfl ?_
      refine aw_iload C dX6_star_107 rfl ?_
      refine aw_idiv C dX6_star_109 ⟨by omega, by omega⟩ ⟨by omega, by omega⟩ (by omega) ?_
      refine aw_iload_n C dX6_star_110 rfl ?_
      refine aw_iload C dX6_star_111 rfl ?_
      refine aw_idiv C dX6_star_113 ⟨by omega, by omega⟩ ⟨by omega, by omega⟩ (by omega) ?_
      refine aw_call1 C dX6_star_114 lX6_415 vX6_placeOf (t_X6_placeOf (x := stX V i) (y := stY V i) (p := pos V (stX V i) (stY V i)) eV6 sg.2.1 ⟨by omega, by omega⟩ ⟨by omega, by omega⟩ sg.1.1.1 p1' (gx_inp sg.1.1.1) (gy_inp sg.1.1.1) (fun j j0 j1 w => by have := srt_uq sg.2.2.2.2 j0 (by omega) sg.1.1.1 p1' (w.1.trans (gx_inp sg.1.1.1).symm) (w.2.trans (gy_inp sg.1.1.1).symm); omega)) rfl rfl rfl ⟨rfl, by decide⟩ rfl ⟨by decide, by decide⟩ (Nat.le_of_ble_eq_true rfl) ?_
      refine aw_call1 C dX6_star_117 lX6_270 vX6_good (t_X6_good) rfl rfl rfl ⟨rfl, by decide⟩ rfl ⟨by decide, by decide⟩ (Nat.le_of_ble_eq_true rfl) ?_
      exact aw_iret C E dX6_star_120 rfl (by rw [qe]; exact ⟨rfl, mAct_k S6 t6 fr6⟩)
    · have nok : ¬ okI V V i (stX V i) (stY V i) := by
        rcases o2 with ⟨-, -, z⟩ | ⟨z, -⟩
        · exfalso; omega
        · exact z
      have qe : qSt V i = (-1, 3) := (if_neg (by omega) : qSt V i = _).trans (if_neg (fun w => nok (b01_iff.mp w)))
      --go
      refine aw_aload_n C dX6_star_90 rfl ?_
      refine aw_iconst C dX6_star_91 ?_
      refine aw_call1 C dX6_star_92 lX6_267 vX6_refused (t_X6_refused) rfl rfl rfl ⟨rfl, by decide⟩ rfl ⟨by decide, by decide⟩ (Nat.le_of_ble_eq_true rfl) ?_
      exact aw_iret C E dX6_star_95 rfl (by rw [qe]; exact ⟨rfl, mAct_n S4 t4 fr4 (by decide)⟩)
  · have qe : qSt V i = (-1, 1) := if_pos (by omega)
    --go
    refine aw_aload_n C dX6_star_13 rfl ?_
    refine aw_iconst C dX6_star_14 ?_
    refine aw_call1 C dX6_star_15 lX6_267 vX6_refused (t_X6_refused) rfl rfl rfl ⟨rfl, by decide⟩ rfl ⟨by decide, by decide⟩ (Nat.le_of_ble_eq_true rfl) ?_
    exact aw_iret C E dX6_star_18 rfl (by rw [qe]; exact ⟨rfl, mAct_n S1 t0 fr1 (by decide)⟩)
theorem mv6_fr {mu m : Mem} (h : frc bgS mu m) : mv6 m = mv6 mu := by
  unfold mv6
  rw [h 55 29 (by unfold bgS; omega), show m 64 = mu 64 from funext fun b => h 64 b (by unfold bgS; omega), show m 65 = mu 65 from funext fun b => h 65 b (by unfold bgS; omega), show m 66 = mu 66 from funext fun b => h 66 b (by unfold bgS; omega)]
theorem t_X6_light {mu : Mem} {V : FV} (eV : mv mu = V) (hV : bV V) : TrE 4 mX6_light [vr 55] mu (some (vi (fli V))) mu := by
  refine Tr.of (by decide +kernel) (Nat.le_of_ble_eq_true rfl) (fun K C E => ?_)
  have hn := hV.1
  have e1 := mv1 eV
  have loop : ∀ (k : Nat) (i : Int), 0 ≤ i → i + k = V.1 → fli V = fst (lit V) (-1) k i → AW K mX6_light (NC, 0, 0) 2 [vr 55, vi i] [] mu := by
    intro k
    induction k with
    | zero =>
      intro i h0 h1 h2
      refine aw_iload_n C dX6_light_2 rfl ?_
      refine aw_aload_n C dX6_light_3 rfl ?_
      refine aw_getI C dX6_light_4 fX6_255 ⟨rfl, by decide⟩ rfl ?_
      refine aw_icmp_ge C dX6_light_7 (tgt := 26) (by decide) ⟨by omega, by omega⟩ ⟨by omega, by omega⟩ (fun c1 => ?_) (fun c1 => ?_)
      · refine aw_iconst C dX6_light_26 ?_
        exact aw_iret C E dX6_light_27 rfl ⟨by rw [h2]; rfl, rfl⟩
      · exfalso; omega
    | succ k ih =>
      intro i h0 h1 h2
      have hb := b01_01 (lit V i)
      refine aw_iload_n C dX6_light_2 rfl ?_
      refine aw_aload_n C dX6_light_3 rfl ?_
      refine aw_getI C dX6_light_4 fX6_255 ⟨rfl, by decide⟩ rfl ?_
      refine aw_icmp_ge C dX6_light_7 (tgt := 26) (by decide) ⟨by omega, by omega⟩ ⟨by omega, by omega⟩ (fun c1 => ?_) (fun c1 => ?_)
      · exfalso; omega
      · refine aw_aload_n C dX6_light_10 rfl ?_
        refine aw_iload_n C dX6_light_11 rfl ?_
        refine aw_call1 C dX6_light_12 lX6_299 vX6_isLight (t_X6_isLight eV hV (by omega) (by omega)) rfl rfl rfl ⟨rfl, by decide⟩ rfl ⟨by decide, by decide⟩ (Nat.le_of_ble_eq_true rfl) ?_
        refine aw_if_eq C dX6_light_15 (tgt := 20) (by decide) ⟨by omega, by omega⟩ (fun c2 => ?_) (fun c2 => ?_)
        · refine aw_iinc C dX6_light_20 rfl ?_
          refine aw_goto C dX6_light_23 (tgt := 2) (by decide) ?_
          exact ih (i + 1) (by omega) (by omega) (by rw [h2, fst_f (b01_niff.mp (by omega))])
        · refine aw_iload_n C dX6_light_18 rfl ?_
          exact aw_iret C E dX6_light_19 rfl ⟨by rw [h2, fst_t (b01_iff.mp (by omega))], rfl⟩
  refine aw_iconst C dX6_light_0 ?_
  refine aw_istore_n C dX6_light_1 (by decide) ?_
  exact loop V.1.toNat 0 (by omega) (by omega) rfl
theorem remV_h {m m2 : Mem} {V : FV} {a : Int} {H : Nat → FV} {i : Int} (S : mSt m V a H) (hp : 0 < V.1) (i0 : 0 ≤ i) (i1 : i < V.1) (hg : cgo V i) (es : mv6 m2 = remV (mv6 m) i.toNat) (hf : frc hdS m m2) : mSt m2 (remV V i.toNat) a H := by
  have eV := S.1.1
  have hV := S.1.2.1.1
  have rsE : rsV V.2.1 (remV (mv6 m) i.toNat) = remV V i.toNat := by rw [rs_rem, mv6_rs eV hV]
  have := mSt_hold S hp es hf (by rw [rsE]; exact gV_rem S.1.2.1 i0 i1 hg) (show 0 < (mv6 m).1 - 1 by rw [show (mv6 m).1 = V.1 from mv1 eV]; have := hg.1; omega) (hW_rem (mv6_hW eV hV S.2.2.2.1) (by rw [show (mv6 m).1 = V.1 from mv1 eV]; omega)).2.2
  rw [rsE] at this
  exact this
theorem t_X6_drop {mu : Mem} {V : FV} {a : Int} {H : Nat → FV} {i : Int} (S : mSt mu V a H) (ha : 0 ≤ a ∧ a ≤ 8) (hH : ∀ j : Nat, (j : Int) < a → bV (H j)) (hs : srt V) (hi : R32 i) : Tr 5 mX6_drop [vr 55, vi i] mu (fun r m2 => r = some (vi (qDr V i).1) ∧ mAct mu m2 V a H (qDr V i).2 (wDr V i)) := by
  refine Tr.of (by decide +kernel) (Nat.le_of_ble_eq_true rfl) (fun K C E => ?_)
  have k1 := b01_01 (0 ≤ i ∧ i < V.1)
  have k1i : b01 (0 ≤ i ∧ i < V.1) = 1 ↔ (0 ≤ i ∧ i < V.1) := b01_iff
  have k3 := b01_01 (cgo V i)
  refine aw_aload_n C dX6_drop_0 rfl ?_
  refine aw_iconst C dX6_drop_1 ?_
  refine aw_putI C dX6_drop_2 fX6_77 ⟨rfl, by decide⟩ rfl rfl rfl ?_
  have S1 := S.t
  have fr1 := mfr.t (mu := mu)
  have t0 : wr mu 55 0 0 55 0 = 0 := by rw [wr_at, if_pos ⟨rfl, rfl⟩]
  generalize wr mu 55 0 0 = m1 at *
  have hm := S1.1
  have eV := hm.1
  have hV := hm.2.1.1
  have hn := hV.1
  have hl := hV.2.1
  have e1 := mv1 eV
  have e2 := mv2 eV
  have h3 := hm.2.2
  refine aw_aload_n C dX6_drop_5 rfl ?_
  refine aw_iload_n C dX6_drop_6 rfl ?_
  refine aw_call1 C dX6_drop_7 lX6_308 vX6_isRay (t_X6_isRay hm (by assumption)) rfl rfl rfl ⟨rfl, by decide⟩ rfl ⟨by decide, by decide⟩ (Nat.le_of_ble_eq_true rfl) ?_
  refine aw_if_ne C dX6_drop_10 (tgt := 19) (by decide) ⟨by omega, by omega⟩ (fun c1 => ?_) (fun c1 => ?_)
  · refine aw_aload_n C dX6_drop_19 rfl ?_
    refine aw_iload_n C dX6_drop_20 rfl ?_
    refine aw_call1 C dX6_drop_21 lX6_296 vX6_canGo (t_X6_canGo eV hV (by omega) (by omega)) rfl rfl rfl ⟨rfl, by decide⟩ rfl ⟨by decide, by decide⟩ (Nat.le_of_ble_eq_true rfl) ?_
    refine aw_if_ne C dX6_drop_24 (tgt := 33) (by decide) ⟨by omega, by omega⟩ (fun c2 => ?_) (fun c2 => ?_)
    · have qe : qDr V i = (V.1 - 1, 0) := (if_neg (by omega) : qDr V i = _).trans (if_pos (by omega))
      --go
      refine aw_aload_n C dX6_drop_33 rfl ?_
      refine aw_call C dX6_drop_34 lX6_395 vX6_remembers (t_X6_remembers S1 ha hH) rfl rfl rfl ⟨rfl, by decide⟩ rfl ⟨by decide, by decide⟩ (Nat.le_of_ble_eq_true rfl) (fun r3 mu3 hq3 => ?_)
      obtain ⟨rfl, f1, S2⟩ := hq3
      have t2 : mu3 55 0 = 0 := (f1 55 0 (by unfold rmmS; omega)).trans t0
      have fr2 : mfr mu mu3 := fr1.tr (mfr_of f1 rmm_K)
      have eV2 := S2.1.1
      generalize mu3 = m2 at *
      show AW _ _ _ _ _ [] _
      refine aw_aload_n C dX6_drop_37 rfl ?_
      refine aw_iload_n C dX6_drop_38 rfl ?_
      refine aw_call C dX6_drop_39 lX6_408 vX6_begins (t_X6_begins (W := remV (mv6 m2) i.toNat) (mv6_srt eV2 hs) (mv6_bW eV2 hV) S2.2.2.2.1 (Or.inr ⟨by omega, by rw [mv1 eV2]; omega, rfl⟩)) rfl rfl rfl ⟨rfl, by decide⟩ rfl ⟨by decide, by decide⟩ (Nat.le_of_ble_eq_true rfl) (fun r4 mu4 hq4 => ?_)
      obtain ⟨rfl, g1, g2, g3⟩ := hq4
      have S3 := mSt_fr S2 (bgS_k g1)
      have t3 : mu4 55 0 = 0 := (g1 55 0 (by unfold bgS; omega)).trans t2
      have fr3 : mfr mu mu4 := fr2.tr (mfr_of g1 bgS_K)
      have m66 : mv6 mu4 = mv6 m2 := mv6_fr g1
      generalize mu4 = m3 at *
      show AW _ _ _ _ _ [] _
      refine aw_aload_n C dX6_drop_42 rfl ?_
      refine aw_call C dX6_drop_43 lX6_276 vX6_holds (t_X6_holds (by rw [show m3 55 31 = (sv m3).1 from rfl, g2]; exact ⟨show 0 ≤ (mv6 m2).1 - 1 by rw [show (mv6 m2).1 = V.1 from mv1 eV2]; omega, show (mv6 m2).1 - 1 ≤ 24 by rw [show (mv6 m2).1 = V.1 from mv1 eV2]; omega⟩)) rfl rfl rfl ⟨rfl, by decide⟩ rfl ⟨by decide, by decide⟩ (Nat.le_of_ble_eq_true rfl) (fun r5 mu5 hq5 => ?_)
      obtain ⟨rfl, h1, h2⟩ := hq5
      rw [g2] at h2
      have fr6 : mfr mu mu5 := fr3.tr (mfr_of h1 hdS_K)
      have t6 : mu5 55 0 = 0 := (h1 55 0 (by unfold hdS; omega)).trans t3
      generalize mu5 = m6 at *
      show AW _ _ _ _ _ [] _
      have S6 := remV_h (i := i) S3 (by omega) (by omega) (by omega) (b01_iff.mp (by omega)) (by rw [m66]; exact h2) h1
      have e29 : m6 55 29 = V.1 - 1 := mv1 S6.1.1
      refine aw_aload_n C dX6_drop_46 rfl ?_
      refine aw_aload_n C dX6_drop_47 rfl ?_
      refine aw_getI C dX6_drop_48 fX6_255 ⟨rfl, by decide⟩ rfl ?_
      rw [e29]
      refine aw_call1 C dX6_drop_51 lX6_270 vX6_good (t_X6_good) rfl rfl rfl ⟨rfl, by decide⟩ rfl ⟨by decide, by decide⟩ (Nat.le_of_ble_eq_true rfl) ?_
      exact aw_iret C E dX6_drop_54 rfl (by rw [qe]; exact ⟨rfl, mAct_k S6 t6 fr6⟩)
    · have qe : qDr V i = (-1, 5) := (if_neg (by omega) : qDr V i = _).trans (if_neg (by omega))
      --go
      refine aw_aload_n C dX6_drop_27 rfl ?_
      refine aw_iconst C dX6_drop_28 ?_
      refine aw_call1 C dX6_drop_29 lX6_267 vX6_refused (t_X6_refused) rfl rfl rfl ⟨rfl, by decide⟩ rfl ⟨by decide, by decide⟩ (Nat.le_of_ble_eq_true rfl) ?_
      exact aw_iret C E dX6_drop_32 rfl (by rw [qe]; exact ⟨rfl, mAct_n S1 t0 fr1 (by decide)⟩)
  · have qe : qDr V i = (-1, 1) := if_pos (by omega)
    --go
    refine aw_aload_n C dX6_drop_13 rfl ?_
    refine aw_iconst C dX6_drop_14 ?_
    refine aw_call1 C dX6_drop_15 lX6_267 vX6_refused (t_X6_refused) rfl rfl rfl ⟨rfl, by decide⟩ rfl ⟨by decide, by decide⟩ (Nat.le_of_ble_eq_true rfl) ?_
    exact aw_iret C E dX6_drop_18 rfl (by rw [qe]; exact ⟨rfl, mAct_n S1 t0 fr1 (by decide)⟩)
theorem t_X6_lean {mu : Mem} {V : FV} {a : Int} {H : Nat → FV}  (S : mSt mu V a H) (ha : 0 ≤ a ∧ a ≤ 8) (hH : ∀ j : Nat, (j : Int) < a → bV (H j)) (hs : srt V)  : Tr 5 mX6_lean [vr 55] mu (fun r m2 => r = some (vi (qLn V).1) ∧ mAct mu m2 V a H (qLn V).2 (wLn V)) := by
  refine Tr.of (by decide +kernel) (Nat.le_of_ble_eq_true rfl) (fun K C E => ?_)
  have loop : 0 < V.1 → ∀ (a2 : Int) (H2 : Nat → FV), a2 = min 8 (a + 1) → H2 = psh V H → ∀ (k : Nat) (w : Int) (X : FV) (m : Mem), w + k = 24 → 0 ≤ w → X.1 ≤ k → mSt m X a2 H2 → srt X → 0 < X.1 → m 55 0 = 0 → mfr mu m → lnV k X w = lnV 24 V 0 → AW K mX6_lean (NC, 0, 0) 29 [vr 55, vi w, vi (fli X)] [] m := by
    intro hp a2 H2 ea2 eH2 k
    have qe : qLn V = ((lnV 24 V 0).2, 0) := if_neg (by omega)
    induction k with
    | zero => intro w X m q1 q2 q3 S2 hs px; omega
    | succ k ih =>
      intro w X m q1 q2 q3 S2 hs px t2 fr2 q4
      have eV2 := S2.1.1
      have gX := S2.1.2.1
      have hV := gX.1
      have hn := hV.1
      have hfl := fst_in2 (P := lit X) X.1.toNat 0
      have hfe : fli X = fst (lit X) (-1) X.1.toNat 0 := rfl
      rw [← hfe] at hfl
      have fr : -1 ≤ fli X ∧ fli X ≤ 24 := by rcases hfl with z | z <;> omega
      have e : lnV (k + 1) X w = if fli X = -1 then (X, w) else lnV k (remV X (fli X).toNat) (w + 1) := rfl
      rw [e] at q4
      by_cases c0 : fli X = -1
      · rw [if_pos c0] at q4
        have S2b : mSt m (wLn V) (min 8 (a + 1)) (psh V H) := by
          unfold wLn
          rw [← q4, ← ea2, ← eH2]
          exact S2
        rw [← q4] at qe
        refine aw_iload_n C dX6_lean_29 rfl ?_
        refine aw_iconst C dX6_lean_30 ?_
        refine aw_icmp_eq C dX6_lean_31 (tgt := 54) (by decide) ⟨by omega, by omega⟩ ⟨by omega, by omega⟩ (fun c1 => ?_) (fun c1 => ?_)
        · refine aw_aload_n C dX6_lean_54 rfl ?_
          refine aw_iload_n C dX6_lean_55 rfl ?_
          refine aw_call1 C dX6_lean_56 lX6_270 vX6_good (t_X6_good) rfl rfl rfl ⟨rfl, by decide⟩ rfl ⟨by decide, by decide⟩ (Nat.le_of_ble_eq_true rfl) ?_
          exact aw_iret C E dX6_lean_59 rfl (by rw [qe]; exact ⟨rfl, mAct_k S2b t2 fr2⟩)
        · exfalso; omega
      · rw [if_neg c0] at q4
        have hl2 : 0 ≤ fli X ∧ fli X < X.1 ∧ lit X (fli X) := by
          rcases hfl with z | ⟨z1, z2, z3⟩
          · exact absurd z c0
          · exact ⟨by omega, by omega, z3⟩
        have h4 := hl2.2.2.1.1
        refine aw_iload_n C dX6_lean_29 rfl ?_
        refine aw_iconst C dX6_lean_30 ?_
        refine aw_icmp_eq C dX6_lean_31 (tgt := 54) (by decide) ⟨by omega, by omega⟩ ⟨by omega, by omega⟩ (fun c1 => ?_) (fun c1 => ?_)
        · exfalso; omega
        · refine aw_aload_n C dX6_lean_34 rfl ?_
          refine aw_iload_n C dX6_lean_35 rfl ?_
          refine aw_call C dX6_lean_36 lX6_408 vX6_begins (t_X6_begins (W := remV (mv6 m) (fli X).toNat) (mv6_srt eV2 hs) (mv6_bW eV2 hV) S2.2.2.2.1 (Or.inr ⟨by omega, by rw [mv1 eV2]; omega, rfl⟩)) rfl rfl rfl ⟨rfl, by decide⟩ rfl ⟨by decide, by decide⟩ (Nat.le_of_ble_eq_true rfl) (fun r2 mu2 hq2 => ?_)
          obtain ⟨rfl, g1, g2, g3⟩ := hq2
          have S3 := mSt_fr S2 (bgS_k g1)
          have t3 : mu2 55 0 = 0 := (g1 55 0 (by unfold bgS; omega)).trans t2
          have fr3 : mfr mu mu2 := fr2.tr (mfr_of g1 bgS_K)
          have m66 : mv6 mu2 = mv6 m := mv6_fr g1
          generalize mu2 = m3 at *
          show AW _ _ _ _ _ [] _
          refine aw_aload_n C dX6_lean_39 rfl ?_
          refine aw_call C dX6_lean_40 lX6_276 vX6_holds (t_X6_holds (by rw [show m3 55 31 = (sv m3).1 from rfl, g2]; exact ⟨show 0 ≤ (mv6 m).1 - 1 by rw [show (mv6 m).1 = X.1 from mv1 eV2]; omega, show (mv6 m).1 - 1 ≤ 24 by rw [show (mv6 m).1 = X.1 from mv1 eV2]; omega⟩)) rfl rfl rfl ⟨rfl, by decide⟩ rfl ⟨by decide, by decide⟩ (Nat.le_of_ble_eq_true rfl) (fun r3 mu3 hq3 => ?_)
          obtain ⟨rfl, h1, h2⟩ := hq3
          rw [g2] at h2
          have fr6 : mfr mu mu3 := fr3.tr (mfr_of h1 hdS_K)
          have t6 : mu3 55 0 = 0 := (h1 55 0 (by unfold hdS; omega)).trans t3
          generalize mu3 = m6 at *
          show AW _ _ _ _ _ [] _
          have S6 := remV_h S3 px hl2.1 hl2.2.1 hl2.2.2.1 (by rw [m66]; exact h2) h1
          refine aw_iinc C dX6_lean_43 rfl ?_
          refine aw_aload_n C dX6_lean_46 rfl ?_
          refine aw_call1 C dX6_lean_47 lX6_424 vX6_light (t_X6_light S6.1.1 S6.1.2.1.1) rfl rfl rfl ⟨rfl, by decide⟩ rfl ⟨by decide, by decide⟩ (Nat.le_of_ble_eq_true rfl) ?_
          refine aw_istore_n C dX6_lean_50 (by decide) ?_
          refine aw_goto C dX6_lean_51 (tgt := 29) (by decide) ?_
          exact ih (w + 1) _ m6 (by omega) (by omega) (show X.1 - 1 ≤ (k : Int) by omega) S6 (srt_rem hs hl2.1 hl2.2.1) (show 0 < X.1 - 1 by omega) t6 fr6 q4
  refine aw_aload_n C dX6_lean_0 rfl ?_
  refine aw_iconst C dX6_lean_1 ?_
  refine aw_putI C dX6_lean_2 fX6_77 ⟨rfl, by decide⟩ rfl rfl rfl ?_
  have S1 := S.t
  have fr1 := mfr.t (mu := mu)
  have t0 : wr mu 55 0 0 55 0 = 0 := by rw [wr_at, if_pos ⟨rfl, rfl⟩]
  generalize wr mu 55 0 0 = m1 at *
  have hm := S1.1
  have eV := hm.1
  have hV := hm.2.1.1
  have hn := hV.1
  have hl := hV.2.1
  have e1 := mv1 eV
  have e2 := mv2 eV
  have h3 := hm.2.2
  refine aw_aload_n C dX6_lean_5 rfl ?_
  refine aw_getI C dX6_lean_6 fX6_264 ⟨rfl, by decide⟩ rfl ?_
  refine aw_if_ne C dX6_lean_9 (tgt := 18) (by decide) ⟨by omega, by omega⟩ (fun c1 => ?_) (fun c1 => ?_)
  · refine aw_aload_n C dX6_lean_18 rfl ?_
    refine aw_call C dX6_lean_19 lX6_395 vX6_remembers (t_X6_remembers S1 ha hH) rfl rfl rfl ⟨rfl, by decide⟩ rfl ⟨by decide, by decide⟩ (Nat.le_of_ble_eq_true rfl) (fun r2 mu2 hq2 => ?_)
    obtain ⟨rfl, f1, S2⟩ := hq2
    have t2 : mu2 55 0 = 0 := (f1 55 0 (by unfold rmmS; omega)).trans t0
    have fr2 : mfr mu mu2 := fr1.tr (mfr_of f1 rmm_K)
    have eV2 := S2.1.1
    generalize mu2 = m2 at *
    show AW _ _ _ _ _ [] _
    refine aw_iconst C dX6_lean_22 ?_
    refine aw_istore_n C dX6_lean_23 (by decide) ?_
    refine aw_aload_n C dX6_lean_24 rfl ?_
    refine aw_call1 C dX6_lean_25 lX6_424 vX6_light (t_X6_light eV2 hV) rfl rfl rfl ⟨rfl, by decide⟩ rfl ⟨by decide, by decide⟩ (Nat.le_of_ble_eq_true rfl) ?_
    refine aw_istore_n C dX6_lean_28 (by decide) ?_
    exact loop (by omega) _ _ rfl rfl 24 0 V m2 (by omega) (by omega) (by omega) S2 hs (by omega) t2 fr2 rfl
  · have qe : qLn V = (-1, 1) := if_pos (by omega)
    --go
    refine aw_aload_n C dX6_lean_12 rfl ?_
    refine aw_iconst C dX6_lean_13 ?_
    refine aw_call1 C dX6_lean_14 lX6_267 vX6_refused (t_X6_refused) rfl rfl rfl ⟨rfl, by decide⟩ rfl ⟨by decide, by decide⟩ (Nat.le_of_ble_eq_true rfl) ?_
    exact aw_iret C E dX6_lean_17 rfl (by rw [qe]; exact ⟨rfl, mAct_n S1 t0 fr1 (by decide)⟩)

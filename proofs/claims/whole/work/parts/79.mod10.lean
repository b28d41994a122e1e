theorem cln_cit : ∀ (j f : Nat) (a b : Int), 0 ≤ b → b ≤ f → ((j : Int) < cln f a b ↔ 0 < (cit j a b).2)
  | 0, 0, a, b, h0, h1 => by
    show ((0 : Nat) : Int) < 0 ↔ 0 < b
    omega
  | 0, f + 1, a, b, h0, h1 => by
    have e : cln (f + 1) a b = if b ≤ 0 then 0 else 1 + cln f b (cN a b) := rfl
    have := cln_b f b (cN a b)
    rw [e]
    show ((0 : Nat) : Int) < _ ↔ 0 < b
    split <;> omega
  | j + 1, 0, a, b, h0, h1 => by
    have e : cit (j + 1) a b = if b ≤ 0 then (a, b) else cit j b (cN a b) := rfl
    rw [e, if_pos (by omega)]
    show ((j + 1 : Nat) : Int) < 0 ↔ 0 < b
    omega
  | j + 1, f + 1, a, b, h0, h1 => by
    have e : cln (f + 1) a b = if b ≤ 0 then 0 else 1 + cln f b (cN a b) := rfl
    have e2 : cit (j + 1) a b = if b ≤ 0 then (a, b) else cit j b (cN a b) := rfl
    rw [e, e2]
    by_cases hb : b ≤ 0
    · rw [if_pos hb, if_pos hb]
      show ((j + 1 : Nat) : Int) < 0 ↔ 0 < b
      omega
    · rw [if_neg hb, if_neg hb]
      have cn := cN_in (a := a) (show 0 < b by omega)
      rw [← cln_cit j f b (cN a b) cn.1 (by omega)]
      omega
theorem cit_s : ∀ (k : Nat) (a b : Int), 0 < (cit k a b).2 → cit (k + 1) a b = ((cit k a b).2, cN (cit k a b).1 (cit k a b).2)
  | 0, a, b, h => by
    have h : 0 < b := h
    show (if b ≤ 0 then (a, b) else (b, cN a b)) = _
    rw [if_neg (by omega)]; rfl
  | k + 1, a, b, h => by
    have e : ∀ j, cit (j + 1) a b = if b ≤ 0 then (a, b) else cit j b (cN a b) := fun j => rfl
    rw [e k] at h ⊢
    rw [e (k + 1)]
    by_cases hb : b ≤ 0
    · rw [if_pos hb] at h
      have h : 0 < b := h
      omega
    · rw [if_neg hb] at h ⊢
      rw [if_neg hb]
      exact cit_s k b (cN a b) h
theorem cutP_n {V : FV} {i : Int} : ∀ (k : Nat) (D : FV) (a b x y u v w : Int), (cutP V i k D a b x y u v w).2 = -1 ∨ (cutP V i k D a b x y u v w).1.1 - D.1 = (cutP V i k D a b x y u v w).2 - w
  | 0, D, a, b, x, y, u, v, w => Or.inr (by show D.1 - D.1 = w - w; omega)
  | k + 1, D, a, b, x, y, u, v, w => by
    have e : cutP V i (k + 1) D a b x y u v w = if b ≤ 0 then (D, w) else if b01 (okI D V i u v) = 1 then cutP V i k (insV D (pos D u v).toNat u v (fun d => ftt V d i u v / trn V i)) b (cN a b) u v (cB a b * u - x) (cB a b * v - y) (w + 1) else (D, -1) := rfl
    rw [e]
    split
    · exact Or.inr (by show D.1 - D.1 = w - w; omega)
    · split
      · have := cutP_n (V := V) (i := i) k (insV D (pos D u v).toNat u v (fun d => ftt V d i u v / trn V i)) b (cN a b) u v (cB a b * u - x) (cB a b * v - y) (w + 1)
        have e1 : (insV D (pos D u v).toNat u v (fun d => ftt V d i u v / trn V i)).1 = D.1 + 1 := rfl
        rw [e1] at this
        rcases this with z | z
        · exact Or.inl z
        · exact Or.inr (by omega)
      · exact Or.inl rfl
theorem mv_bg {mu m : Mem} (h : frc bgS mu m) : mv m = mv mu := by
  unfold mv
  rw [h 55 29 (by unfold bgS; omega), h 55 30 (by unfold bgS; omega), show m 64 = mu 64 from funext fun b => h 64 b (by unfold bgS; omega), show m 65 = mu 65 from funext fun b => h 65 b (by unfold bgS; omega), show m 66 = mu 66 from funext fun b => h 66 b (by unfold bgS; omega)]
def ctR (m0 m2 : Mem) (V D : FV) (i : Int) : Prop := frc bgS m0 m2 ∧ (((cutV V i D).2 = -1 ∧ m2 55 33 = 0) ∨ ((cutV V i D).2 ≠ -1 ∧ m2 55 33 = 1 ∧ hW (sv m2) ∧ rsV V.2.1 (sv m2) = (cutV V i D).1))
theorem t_X6_cuts {m0 : Mem} {V : FV} {i : Int} (eV : mv m0 = V) (hO : oV V) (i0 : 0 ≤ i) (i1 : i < V.1) (hw : hW (sv m0)) (hD : oV (rsV V.2.1 (sv m0))) (hA : adj (rsV V.2.1 (sv m0)) (gx V i) (gy V i) (gx V (nxt V i)) (gy V (nxt V i))) (hr : m0 55 33 = 1) : Tr 5 mX6_cuts [vr 55, vi i] m0 (fun r m2 => r = none ∧ ctR m0 m2 V (rsV V.2.1 (sv m0)) i) := by
  refine Tr.of (by decide +kernel) (Nat.le_of_ble_eq_true rfl) (fun K C E => ?_)
  obtain ⟨hV, hcl, hpr, hs⟩ := id hO
  have cs := CI.start hV hcl hpr hD rfl i0 i1 hA
  have t := hcl.2 i i0 i1
  have hn24 := hV.1
  have tb := hV.trn i
  have kb := kq_b ⟨hcl, hpr⟩ i0 i1
  have nx := nxt_in i0 i1
  have b1 := hV.x i
  have b2 := hV.y i
  have b3 := hV.x (nxt V i)
  have b4 := hV.y (nxt V i)
  have bm1 := mulb (a := kq V i) (A := 7200) ⟨by omega, by omega⟩ b1
  have bm2 := mulb (a := kq V i) (A := 7200) ⟨by omega, by omega⟩ b2
  have lb := cln_b (kq V i).toNat (trn V i) (kq V i)
  have lb : 0 ≤ cls (trn V i) (kq V i) ∧ cls (trn V i) (kq V i) ≤ (kq V i).toNat := lb
  have lt : ∀ j : Nat, (j : Int) < cls (trn V i) (kq V i) ↔ 0 < (cit j (trn V i) (kq V i)).2 := fun j => cln_cit j _ _ _ kb.1 (by omega)
  obtain ⟨D, eD⟩ : ∃ D, rsV V.2.1 (sv m0) = D := ⟨_, rfl⟩
  rw [eD] at E cs hD hA
  have badx : ∀ (m : Mem) (x y u v kk : Int) (v11 v12 v13 : Vv), R32 kk → m 55 33 = 0 → ctR m0 m V D i → AW K mX6_cuts (NC, 0, 0) 84 [vr 55, vi i, vi (trn V i), vi (kq V i), vi (nxt V i), vi x, vi y, vi u, vi v, vi (cls (trn V i) (kq V i)), vi kk, v11, v12, v13] [] m := fun m x y u v kk v11 v12 v13 hk h33 hc => by
    refine aw_iload C dX6_cuts_84 rfl ?_
    refine aw_iload C dX6_cuts_86 rfl ?_
    refine aw_icmp_ge C dX6_cuts_88 (tgt := 158) (by decide) ⟨by omega, by omega⟩ ⟨by omega, by omega⟩ (fun c1 => ?_) (fun c1 => ?_)
    · exact aw_vret C E dX6_cuts_158 rfl ⟨rfl, hc⟩
    · refine aw_aload_n C dX6_cuts_91 rfl ?_
      refine aw_getI C dX6_cuts_92 fX6_239 ⟨rfl, by decide⟩ rfl ?_
      refine aw_if_eq C dX6_cuts_95 (tgt := 158) (by decide) ⟨by omega, by omega⟩ (fun c2 => ?_) (fun c2 => ?_)
      · exact aw_vret C E dX6_cuts_158 rfl ⟨rfl, hc⟩
      · exfalso; omega
  have loop : ∀ (f : Nat) (kk : Nat) (W : FV) (a b x y u v w : Int) (v11 v12 v13 : Vv) (m : Mem), frc bgS m0 m → sv m = W → hW W → CI V i (rsV V.2.1 W) a b x y u v → 25 ≤ f + W.1 → kk + f = 24 → cit kk (trn V i) (kq V i) = (a, b) → m 55 33 = 1 → 0 ≤ w → cutP V i f (rsV V.2.1 W) a b x y u v w = cutV V i D → AW K mX6_cuts (NC, 0, 0) 84 [vr 55, vi i, vi (trn V i), vi (kq V i), vi (nxt V i), vi x, vi y, vi u, vi v, vi (cls (trn V i) (kq V i)), vi (kk : Int), v11, v12, v13] [] m := by
    intro f
    induction f with
    | zero =>
      intro kk W a b x y u v w v11 v12 v13 m q1 q2 q3 q4 q5
      have := q3.1.1.2
      omega
    | succ f ih =>
      intro kk W a b x y u v w v11 v12 v13 m q1 q2 q3 q4 q5 q5b q6 q7 q8 q9
      have e : cutP V i (f + 1) (rsV V.2.1 W) a b x y u v w = if b ≤ 0 then (rsV V.2.1 W, w) else if b01 (okI (rsV V.2.1 W) V i u v) = 1 then cutP V i f (insV (rsV V.2.1 W) (pos (rsV V.2.1 W) u v).toNat u v (fun d => ftt V d i u v / trn V i)) b (cN a b) u v (cB a b * u - x) (cB a b * v - y) (w + 1) else (rsV V.2.1 W, -1) := rfl
      rw [e] at q9
      have l1 := lt kk
      rw [q6] at l1
      have l1 : (kk : Int) < cls (trn V i) (kq V i) ↔ 0 < b := l1
      have hab := q4.2.2.1
      have hu := q4.2.2.2.2.2.2
      have eVm := (mv_bg q1).trans eV
      have wn := q3.1.1
      by_cases hb : b ≤ 0
      · rw [if_pos hb] at q9
        have fin : ctR m0 m V D i := ⟨q1, Or.inr ⟨by rw [← q9]; show w ≠ -1; omega, q7, by rw [q2]; exact q3, by rw [q2, ← q9]⟩⟩
        refine aw_iload C dX6_cuts_84 rfl ?_
        refine aw_iload C dX6_cuts_86 rfl ?_
        refine aw_icmp_ge C dX6_cuts_88 (tgt := 158) (by decide) ⟨by omega, by omega⟩ ⟨by omega, by omega⟩ (fun c1 => ?_) (fun c1 => ?_)
        · exact aw_vret C E dX6_cuts_158 rfl ⟨rfl, fin⟩
        · exfalso; omega
      · rw [if_neg hb] at q9
        have ech : aCh V i (kk : Int) = cB a b := by
          unfold aCh
          rw [show ((kk : Int)).toNat = kk by omega, q6]
          show (if b01 (0 < b) = 1 then cB a b else -2) = cB a b
          rw [if_pos (b01_t (by omega))]
        refine aw_iload C dX6_cuts_84 rfl ?_
        refine aw_iload C dX6_cuts_86 rfl ?_
        refine aw_icmp_ge C dX6_cuts_88 (tgt := 158) (by decide) ⟨by omega, by omega⟩ ⟨by omega, by omega⟩ (fun c1 => ?_) (fun c1 => ?_)
        · exfalso; omega
        · refine aw_aload_n C dX6_cuts_91 rfl ?_
          refine aw_getI C dX6_cuts_92 fX6_239 ⟨rfl, by decide⟩ rfl ?_
          refine aw_if_eq C dX6_cuts_95 (tgt := 158) (by decide) ⟨by omega, by omega⟩ (fun c2 => ?_) (fun c2 => ?_)
          · exfalso; omega
          · refine aw_aload_n C dX6_cuts_98 rfl ?_
            refine aw_iload_n C dX6_cuts_99 rfl ?_
            refine aw_iload C dX6_cuts_100 rfl ?_
            refine aw_iload C dX6_cuts_102 rfl ?_
            refine aw_call C dX6_cuts_104 lX6_411 vX6_laysNew (t_X6_laysNew eVm hV hcl i0 i1 q2 q3.1 q3.2.1 ⟨by omega, by omega⟩ ⟨by omega, by omega⟩ (Or.inr q7)) rfl rfl rfl ⟨rfl, by decide⟩ rfl ⟨by decide, by decide⟩ (Nat.le_of_ble_eq_true rfl) (fun r3 mu3 hq3 => ?_)
            obtain ⟨rfl, o1, o2⟩ := hq3
            have q1b := q1.tr o1
            have eV4 := (mv_bg q1b).trans eV
            generalize mu3 = m4 at *
            show AW _ _ _ _ _ [] _
            refine aw_aload_n C dX6_cuts_107 rfl ?_
            refine aw_iload_n C dX6_cuts_108 rfl ?_
            refine aw_iload C dX6_cuts_109 rfl ?_
            refine aw_call1 C dX6_cuts_111 lX6_319 vX6_chainOf (t_X6_chainOfK eV4 hV hcl hpr i0 i1 (by omega) ⟨by omega, by omega⟩) rfl rfl rfl ⟨rfl, by decide⟩ rfl ⟨by decide, by decide⟩ (Nat.le_of_ble_eq_true rfl) ?_
            rw [ech]
            refine aw_istore C dX6_cuts_114 (by decide) ?_
            refine aw_iload C dX6_cuts_116 rfl ?_
            refine aw_iload C dX6_cuts_118 rfl ?_
            refine aw_imul C dX6_cuts_120 ?_
            refine aw_iload C dX6_cuts_121 rfl ?_
            refine aw_isub C dX6_cuts_123 ?_
            refine aw_istore C dX6_cuts_124 (by decide) ?_
            refine aw_iload C dX6_cuts_126 rfl ?_
            refine aw_iload C dX6_cuts_128 rfl ?_
            refine aw_imul C dX6_cuts_130 ?_
            refine aw_iload C dX6_cuts_131 rfl ?_
            refine aw_isub C dX6_cuts_133 ?_
            refine aw_istore C dX6_cuts_134 (by decide) ?_
            refine aw_iload C dX6_cuts_136 rfl ?_
            refine aw_istore C dX6_cuts_138 (by decide) ?_
            refine aw_iload C dX6_cuts_140 rfl ?_
            refine aw_istore C dX6_cuts_142 (by decide) ?_
            refine aw_iload C dX6_cuts_144 rfl ?_
            refine aw_istore C dX6_cuts_146 (by decide) ?_
            refine aw_iload C dX6_cuts_148 rfl ?_
            refine aw_istore C dX6_cuts_150 (by decide) ?_
            refine aw_iinc C dX6_cuts_152 rfl ?_
            refine aw_goto C dX6_cuts_155 (tgt := 84) (by decide) ?_
            rcases o2 with ⟨ok, es, er⟩ | ⟨nok, er⟩
            · rw [if_pos (b01_t ok)] at q9
              obtain ⟨s1, s2, s3⟩ := q4.step (by omega) ok
              have ebp := bp_pos s1
              rw [ebp] at es
              have rsE : rsV V.2.1 (insV W (pos (rsV V.2.1 W) u v).toNat u v (fun d => if (d : Int) < V.2.1 then ftt V d i u v / trn V i else 0)) = insV (rsV V.2.1 W) (pos (rsV V.2.1 W) u v).toNat u v (fun d => ftt V d i u v / trn V i) := rs_ins q3.2.1 hV.2.1.2 (fun d hd => if_pos hd)
              have hw2 := hW_ins (p := (pos (rsV V.2.1 W) u v).toNat) q3 ok.1 ok.2.1 ok.2.2.1 (c := fun d => if (d : Int) < V.2.1 then ftt V d i u v / trn V i else 0) (fun d => by
                show hld (if (d : Int) < V.2.1 then _ else _)
                split
                · exact ok.2.2.2 d (by omega) (by assumption)
                · unfold hld; omega)
              have o24 : W.1 < 24 := ok.1
              have cs2 := cit_s kk (trn V i) (kq V i) (by rw [q6]; show 0 < b; omega)
              rw [q6] at cs2
              exact ih (kk + 1) _ b (cN a b) u v (cB a b * u - x) (cB a b * v - y) (w + 1) _ _ _ m4 q1b es hw2 (by rw [rsE]; exact s2) (show 25 ≤ (f : Int) + (W.1 + 1) by omega) (by omega) cs2 (er.trans q7) (by omega) (by rw [rsE]; exact q9)
            · rw [if_neg (fun z => nok (b01_iff.mp z))] at q9
              exact badx m4 _ _ _ _ _ _ _ _ ⟨by omega, by omega⟩ er ⟨q1b, Or.inl ⟨by rw [← q9], er⟩⟩
  have fx := mxV eV i0 i1
  have fy := myV eV i0 i1
  have gx2 := mxV eV nx.1 nx.2
  have gy2 := myV eV nx.1 nx.2
  refine aw_aload_n C dX6_cuts_0 rfl ?_
  refine aw_iload_n C dX6_cuts_1 rfl ?_
  refine aw_call1 C dX6_cuts_2 lX6_288 vX6_turn (t_X6_turn eV hV i0 i1) rfl rfl rfl ⟨rfl, by decide⟩ rfl ⟨by decide, by decide⟩ (Nat.le_of_ble_eq_true rfl) ?_
  refine aw_istore_n C dX6_cuts_5 (by decide) ?_
  refine aw_iload_n C dX6_cuts_6 rfl ?_
  refine aw_iconst C dX6_cuts_7 ?_
  refine aw_icmp_ne C dX6_cuts_8 (tgt := 12) (by decide) ⟨by omega, by omega⟩ ⟨by omega, by omega⟩ (fun c1 => ?_) (fun c1 => ?_)
  · refine aw_aload_n C dX6_cuts_12 rfl ?_
    refine aw_iload_n C dX6_cuts_13 rfl ?_
    refine aw_call1 C dX6_cuts_14 lX6_305 vX6_kind (t_X6_kind eV hV hcl hpr i0 i1) rfl rfl rfl ⟨rfl, by decide⟩ rfl ⟨by decide, by decide⟩ (Nat.le_of_ble_eq_true rfl) ?_
    refine aw_istore_n C dX6_cuts_17 (by decide) ?_
    refine aw_aload_n C dX6_cuts_18 rfl ?_
    refine aw_iload_n C dX6_cuts_19 rfl ?_
    refine aw_call1 C dX6_cuts_20 lX6_282 vX6_next (t_X6_next eV hV i0 i1) rfl rfl rfl ⟨rfl, by decide⟩ rfl ⟨by decide, by decide⟩ (Nat.le_of_ble_eq_true rfl) ?_
    refine aw_istore C dX6_cuts_23 (by decide) ?_
    refine aw_aload_n C dX6_cuts_25 rfl ?_
    refine aw_getS C dX6_cuts_26 fX6_41 ⟨rfl, by decide⟩ rfl rfl (srf 55 23 64 (by decide)) ?_
    refine aw_iload_n C dX6_cuts_29 rfl ?_
    refine aw_iald C dX6_cuts_30 ⟨rfl, by decide⟩ (by decide) (by omega) (by omega) ?_
    rw [fx]
    refine aw_istore C dX6_cuts_31 (by decide) ?_
    refine aw_aload_n C dX6_cuts_33 rfl ?_
    refine aw_getS C dX6_cuts_34 fX6_44 ⟨rfl, by decide⟩ rfl rfl (srf 55 24 65 (by decide)) ?_
    refine aw_iload_n C dX6_cuts_37 rfl ?_
    refine aw_iald C dX6_cuts_38 ⟨rfl, by decide⟩ (by decide) (by omega) (by omega) ?_
    rw [fy]
    refine aw_istore C dX6_cuts_39 (by decide) ?_
    refine aw_iload_n C dX6_cuts_41 rfl ?_
    refine aw_iload C dX6_cuts_42 rfl ?_
    refine aw_imul C dX6_cuts_44 ?_
    refine aw_aload_n C dX6_cuts_45 rfl ?_
    refine aw_getS C dX6_cuts_46 fX6_41 ⟨rfl, by decide⟩ rfl rfl (srf 55 23 64 (by decide)) ?_
    refine aw_iload C dX6_cuts_49 rfl ?_
    refine aw_iald C dX6_cuts_51 ⟨rfl, by decide⟩ (by decide) (by omega) (by omega) ?_
    rw [gx2]
    refine aw_iadd C dX6_cuts_52 ?_
    refine aw_iload_n C dX6_cuts_53 rfl ?_
    refine aw_idiv C dX6_cuts_54 ⟨by omega, by omega⟩ ⟨by omega, by omega⟩ (by omega) ?_
    refine aw_istore C dX6_cuts_55 (by decide) ?_
    refine aw_iload_n C dX6_cuts_57 rfl ?_
    refine aw_iload C dX6_cuts_58 rfl ?_
    refine aw_imul C dX6_cuts_60 ?_
    refine aw_aload_n C dX6_cuts_61 rfl ?_
    refine aw_getS C dX6_cuts_62 fX6_44 ⟨rfl, by decide⟩ rfl rfl (srf 55 24 65 (by decide)) ?_
    refine aw_iload C dX6_cuts_65 rfl ?_
    refine aw_iald C dX6_cuts_67 ⟨rfl, by decide⟩ (by decide) (by omega) (by omega) ?_
    rw [gy2]
    refine aw_iadd C dX6_cuts_68 ?_
    refine aw_iload_n C dX6_cuts_69 rfl ?_
    refine aw_idiv C dX6_cuts_70 ⟨by omega, by omega⟩ ⟨by omega, by omega⟩ (by omega) ?_
    refine aw_istore C dX6_cuts_71 (by decide) ?_
    refine aw_aload_n C dX6_cuts_73 rfl ?_
    refine aw_iload_n C dX6_cuts_74 rfl ?_
    refine aw_iconst C dX6_cuts_75 ?_
    refine aw_call1 C dX6_cuts_76 lX6_319 vX6_chainOf (t_X6_chainOfN eV hV hcl hpr i0 i1) rfl rfl rfl ⟨rfl, by decide⟩ rfl ⟨by decide, by decide⟩ (Nat.le_of_ble_eq_true rfl) ?_
    refine aw_istore C dX6_cuts_79 (by decide) ?_
    refine aw_iconst C dX6_cuts_81 ?_
    refine aw_istore C dX6_cuts_82 (by decide) ?_
    exact loop 24 0 (sv m0) _ _ _ _ _ _ 0 _ _ _ m0 frc.rf rfl hw (by rw [eD]; exact cs) (by have := hD.2.1.1; rw [← eD] at this; have : 3 ≤ (sv m0).1 := this; omega) rfl rfl hr (by omega) (by rw [eD]; rfl)
  · have fin : ctR m0 m0 V D i := by
      have e : cutV V i D = (D, 0) := by
        unfold cutV
        show (if kq V i ≤ 0 then (D, (0 : Int)) else _) = _
        rw [if_pos (by omega)]
      exact ⟨frc.rf, Or.inr ⟨by rw [e]; show (0 : Int) ≠ -1; decide, hr, hw, by rw [e]; exact eD⟩⟩
    --go
    exact aw_vret C E dX6_cuts_11 rfl ⟨rfl, fin⟩
theorem t_X6_comesN {mu m : Mem} {V W : FV} {a : Int} {H : Nat → FV} (S : mSt m V a H) (t0 : m 55 0 = 0) (fr : mfr mu m) (h33 : m 55 33 = 0) : Tr 1 mX6_comes [vr 55] m (fun r m2 => r = some (vi (-1)) ∧ mAct mu m2 V a H 3 W) := by
  refine Tr.of (by decide +kernel) (Nat.le_of_ble_eq_true rfl) (fun K C E => ?_)
  refine aw_aload_n C dX6_comes_0 rfl ?_
  refine aw_getI C dX6_comes_1 fX6_239 ⟨rfl, by decide⟩ rfl ?_
  refine aw_if_ne C dX6_comes_4 (tgt := 13) (by decide) ⟨by omega, by omega⟩ (fun c1 => ?_) (fun c1 => ?_)
  · exfalso; omega
  · refine aw_aload_n C dX6_comes_7 rfl ?_
    refine aw_iconst C dX6_comes_8 ?_
    refine aw_call1 C dX6_comes_9 lX6_267 vX6_refused (t_X6_refused) rfl rfl rfl ⟨rfl, by decide⟩ rfl ⟨by decide, by decide⟩ (Nat.le_of_ble_eq_true rfl) ?_
    exact aw_iret C E dX6_comes_12 rfl ⟨rfl, mAct_n S t0 fr (by decide)⟩
theorem t_X6_comesY {mu m : Mem} {V : FV} {a : Int} {H : Nat → FV} (S : mSt m V a H) (ha : 0 ≤ a ∧ a ≤ 8) (hH : ∀ j : Nat, (j : Int) < a → bV (H j)) (t0 : m 55 0 = 0) (fr : mfr mu m) (h33 : m 55 33 = 1) (hp : 0 < V.1) (hw : hW (sv m)) (hp2 : 0 < (sv m).1) (gW : gV (rsV V.2.1 (sv m))) : Tr 1 mX6_comes [vr 55] m (fun r m2 => r = some (vi ((sv m).1 - V.1)) ∧ mAct mu m2 V a H 0 (rsV V.2.1 (sv m))) := by
  refine Tr.of (by decide +kernel) (Nat.le_of_ble_eq_true rfl) (fun K C E => ?_)
  have e29 := mv1 S.1.1
  have e31 : m 55 31 = (sv m).1 := rfl
  refine aw_aload_n C dX6_comes_0 rfl ?_
  refine aw_getI C dX6_comes_1 fX6_239 ⟨rfl, by decide⟩ rfl ?_
  refine aw_if_ne C dX6_comes_4 (tgt := 13) (by decide) ⟨by omega, by omega⟩ (fun c1 => ?_) (fun c1 => ?_)
  · refine aw_aload_n C dX6_comes_13 rfl ?_
    refine aw_getI C dX6_comes_14 fX6_224 ⟨rfl, by decide⟩ rfl ?_
    rw [e31]
    refine aw_aload_n C dX6_comes_17 rfl ?_
    refine aw_getI C dX6_comes_18 fX6_255 ⟨rfl, by decide⟩ rfl ?_
    rw [e29]
    refine aw_isub C dX6_comes_21 ?_
    refine aw_istore_n C dX6_comes_22 (by decide) ?_
    refine aw_aload_n C dX6_comes_23 rfl ?_
    refine aw_call C dX6_comes_24 lX6_395 vX6_remembers (t_X6_remembers S ha hH) rfl rfl rfl ⟨rfl, by decide⟩ rfl ⟨by decide, by decide⟩ (Nat.le_of_ble_eq_true rfl) (fun r2 mu2 hq2 => ?_)
    obtain ⟨rfl, f1, S2⟩ := hq2
    have t2 : mu2 55 0 = 0 := (f1 55 0 (by unfold rmmS; omega)).trans t0
    have fr2 : mfr mu mu2 := fr.tr (mfr_of f1 rmm_K)
    have es2 := sv_rmm f1
    generalize mu2 = m2 at *
    show AW _ _ _ _ _ [] _
    refine aw_aload_n C dX6_comes_27 rfl ?_
    refine aw_call C dX6_comes_28 lX6_276 vX6_holds (t_X6_holds (by rw [show m2 55 31 = (sv m2).1 from rfl, es2]; exact hw.1.1)) rfl rfl rfl ⟨rfl, by decide⟩ rfl ⟨by decide, by decide⟩ (Nat.le_of_ble_eq_true rfl) (fun r3 mu3 hq3 => ?_)
    obtain ⟨rfl, h1, h2⟩ := hq3
    rw [es2] at h2
    have fr3 : mfr mu mu3 := fr2.tr (mfr_of h1 hdS_K)
    have t3 : mu3 55 0 = 0 := (h1 55 0 (by unfold hdS; omega)).trans t2
    have S3 := mSt_hold S2 hp h2 h1 gW hp2 hw.2.2
    generalize mu3 = m3 at *
    show AW _ _ _ _ _ [] _
    refine aw_aload_n C dX6_comes_31 rfl ?_
    refine aw_iload_n C dX6_comes_32 rfl ?_
    refine aw_call1 C dX6_comes_33 lX6_270 vX6_good (t_X6_good) rfl rfl rfl ⟨rfl, by decide⟩ rfl ⟨by decide, by decide⟩ (Nat.le_of_ble_eq_true rfl) ?_
    exact aw_iret C E dX6_comes_36 rfl ⟨rfl, mAct_k S3 t3 fr3⟩
  · exfalso; omega
theorem Tr.mono {d : Nat} {M : MI} {av : List Vv} {mu : Mem} {Q1 Q2 : Option Vv → Mem → Prop} (h : Tr d M av mu Q1) (hq : ∀ r m, Q1 r m → Q2 r m) : Tr d M av mu Q2 := by
  intro l G
  refine MetFree.mono (h l G) (fun _ _ w => w) (fun _ _ _ _ _ w => w) (fun a s o t _ hh => ?_)
  obtain ⟨⟨r, m, h1, h2, h3, h4⟩, h5⟩ := hh
  exact ⟨⟨r, m, h1, hq r m h2, h3, h4⟩, h5⟩
theorem t_X6_cut {mu : Mem} {V : FV} {a : Int} {H : Nat → FV} {i : Int} (S : mSt mu V a H) (ha : 0 ≤ a ∧ a ≤ 8) (hH : ∀ j : Nat, (j : Int) < a → bV (H j)) (hs : srt V) (hi : R32 i) : Tr 6 mX6_cut [vr 55, vi i] mu (fun r m2 => r = some (vi (qCu V i).1) ∧ mAct mu m2 V a H (qCu V i).2 (wCu V i)) := by
  refine Tr.of (by decide +kernel) (Nat.le_of_ble_eq_true rfl) (fun K C E => ?_)
  have k1 := b01_01 (0 ≤ i ∧ i < V.1)
  have k1i : b01 (0 ≤ i ∧ i < V.1) = 1 ↔ (0 ≤ i ∧ i < V.1) := b01_iff
  refine aw_aload_n C dX6_cut_0 rfl ?_
  refine aw_iconst C dX6_cut_1 ?_
  refine aw_putI C dX6_cut_2 fX6_77 ⟨rfl, by decide⟩ rfl rfl rfl ?_
  have S1 := S.t
  have fr1 := mfr.t (mu := mu)
  have t0 : wr mu 55 0 0 55 0 = 0 := by rw [wr_at, if_pos ⟨rfl, rfl⟩]
  generalize wr mu 55 0 0 = m1 at *
  have hm := S1.1
  have eV := hm.1
  have hV := hm.2.1.1
  have hn := hV.1
  have hl := hV.2.1
  have e1 := mv1 eV
  have e2 := mv2 eV
  have h3 := hm.2.2
  refine aw_aload_n C dX6_cut_5 rfl ?_
  refine aw_iload_n C dX6_cut_6 rfl ?_
  refine aw_call1 C dX6_cut_7 lX6_308 vX6_isRay (t_X6_isRay hm (by assumption)) rfl rfl rfl ⟨rfl, by decide⟩ rfl ⟨by decide, by decide⟩ (Nat.le_of_ble_eq_true rfl) ?_
  refine aw_if_ne C dX6_cut_10 (tgt := 19) (by decide) ⟨by omega, by omega⟩ (fun c1 => ?_) (fun c1 => ?_)
  · have cl := hm.2.1.cl (by omega)
    have ho : oV V := ⟨hV, cl.1, cl.2, hs⟩
    have cr := cutV_r (i := i) hV cl.1 cl.2 ho rfl (by omega) (by omega) (adj_n (by omega) (by omega))
    --go
    refine aw_aload_n C dX6_cut_19 rfl ?_
    refine aw_iconst C dX6_cut_20 ?_
    refine aw_call C dX6_cut_21 lX6_408 vX6_begins (t_X6_begins (W := mv6 m1) (mv6_srt eV hs) (mv6_bW eV hV) S1.2.2.2.1 (Or.inl ⟨rfl, rfl⟩)) rfl rfl rfl ⟨rfl, by decide⟩ rfl ⟨by decide, by decide⟩ (Nat.le_of_ble_eq_true rfl) (fun r2 mu2 hq2 => ?_)
    obtain ⟨rfl, g1, g2, g3⟩ := hq2
    have S3 := mSt_fr S1 (bgS_k g1)
    have t3 : mu2 55 0 = 0 := (g1 55 0 (by unfold bgS; omega)).trans t0
    have fr3 : mfr mu mu2 := fr1.tr (mfr_of g1 bgS_K)
    have eV3 := S3.1.1
    have rs3 : rsV V.2.1 (sv mu2) = V := by rw [g2]; exact mv6_rs eV hV
    have hw3 : hW (sv mu2) := by rw [g2]; exact mv6_hW eV hV S1.2.2.2.1
    generalize mu2 = m3 at *
    show AW _ _ _ _ _ [] _
    refine aw_aload_n C dX6_cut_24 rfl ?_
    refine aw_iload_n C dX6_cut_25 rfl ?_
    refine aw_call C dX6_cut_26 lX6_418 vX6_cuts (t_X6_cuts eV3 ho (by omega) (by omega) hw3 (by rw [rs3]; exact ho) (by rw [rs3]; exact adj_n (by omega) (by omega)) g3) rfl rfl rfl ⟨rfl, by decide⟩ rfl ⟨by decide, by decide⟩ (Nat.le_of_ble_eq_true rfl) (fun r3 mu3 hq3 => ?_)
    obtain ⟨rfl, o1, o2⟩ := hq3
    rw [rs3] at o2
    generalize mu3 = m4 at *
    show AW _ _ _ _ _ [] _
    have S4 := mSt_fr S3 (bgS_k o1)
    have t4 : m4 55 0 = 0 := (o1 55 0 (by unfold bgS; omega)).trans t3
    have fr4 : mfr mu m4 := fr3.tr (mfr_of o1 bgS_K)
    have CM : Tr 1 mX6_comes [vr 55] m4 (fun r m2 => ∃ z, r = some (vi z) ∧ (z = (qCu V i).1 ∧ mAct mu m2 V a H (qCu V i).2 (wCu V i))) := by
      rcases o2 with ⟨z1, z2⟩ | ⟨z1, z2, z3, z4⟩
      · have qe : qCu V i = (-1, 3) := (if_neg (by omega) : qCu V i = _).trans (if_pos z1)
        rw [qe]
        exact Tr.mono (t_X6_comesN S4 t4 fr4 z2) (fun r m2 w => ⟨-1, w.1, rfl, w.2⟩)
      · have qe : qCu V i = ((cutV V i V).2, 0) := (if_neg (by omega) : qCu V i = _).trans (if_neg z1)
        rw [qe]
        have n1 : (cutV V i V).1.1 - V.1 = (cutV V i V).2 - 0 := (cutP_n 24 V (trn V i) (kq V i) (gx V i) (gy V i) ((kq V i * gx V i + gx V (nxt V i)).tdiv (trn V i)) ((kq V i * gy V i + gy V (nxt V i)).tdiv (trn V i)) 0 : (cutV V i V).2 = -1 ∨ (cutV V i V).1.1 - V.1 = (cutV V i V).2 - 0).resolve_left z1
        have e4 : (sv m4).1 = (cutV V i V).1.1 := (congrArg (fun z : FV => z.1) z4 : (rsV V.2.1 (sv m4)).1 = _)
        have c3 := cr.1.2.1.1
        refine Tr.mono (t_X6_comesY S4 ha hH t4 fr4 z2 (by omega) z3 (by rw [e4]; omega) (by rw [z4]; exact cr.1.g)) (fun r m2 w => ⟨_, w.1, by rw [e4]; show _ = (cutV V i V).2; omega, by rw [z4] at w; exact w.2⟩)
    refine aw_aload_n C dX6_cut_29 rfl ?_
    refine aw_call C dX6_cut_30 lX6_421 vX6_comes (CM) rfl rfl rfl ⟨rfl, by decide⟩ rfl ⟨by decide, by decide⟩ (Nat.le_of_ble_eq_true rfl) (fun r4 mu4 hq4 => ?_)
    obtain ⟨rr, hrr, hfin⟩ : ∃ z, r4 = some (vi z) ∧ (z = (qCu V i).1 ∧ mAct mu mu4 V a H (qCu V i).2 (wCu V i)) := hq4
    subst hrr
    generalize mu4 = m5 at *
    show AW _ _ _ _ _ [vi rr] _
    exact aw_iret C E dX6_cut_33 rfl ⟨by rw [hfin.1], hfin.2⟩
  · have qe : qCu V i = (-1, 1) := if_pos (by omega)
    --go
    refine aw_aload_n C dX6_cut_13 rfl ?_
    refine aw_iconst C dX6_cut_14 ?_
    refine aw_call1 C dX6_cut_15 lX6_267 vX6_refused (t_X6_refused) rfl rfl rfl ⟨rfl, by decide⟩ rfl ⟨by decide, by decide⟩ (Nat.le_of_ble_eq_true rfl) ?_
    exact aw_iret C E dX6_cut_18 rfl (by rw [qe]; exact ⟨rfl, mAct_n S1 t0 fr1 (by decide)⟩)
theorem t_X6_cutAll {mu : Mem} {V : FV} {a : Int} {H : Nat → FV}  (S : mSt mu V a H) (ha : 0 ≤ a ∧ a ≤ 8) (hH : ∀ j : Nat, (j : Int) < a → bV (H j)) (hs : srt V)  : Tr 6 mX6_cutAll [vr 55] mu (fun r m2 => r = some (vi (qCa V).1) ∧ mAct mu m2 V a H (qCa V).2 (wCa V)) := by
  refine Tr.of (by decide +kernel) (Nat.le_of_ble_eq_true rfl) (fun K C E => ?_)
  have fin : 0 < V.1 → oV V → ∀ (m4 : Mem) (i : Int), mSt m4 V a H → m4 55 0 = 0 → mfr mu m4 → ((((caP V V.1.toNat 0 V).2 = -1 ∧ m4 55 33 = 0) ∨ ((caP V V.1.toNat 0 V).2 ≠ -1 ∧ m4 55 33 = 1 ∧ hW (sv m4) ∧ rsV V.2.1 (sv m4) = (caP V V.1.toNat 0 V).1))) → AW K mX6_cutAll (NC, 0, 0) 51 [vr 55, vi i] [] m4 := by
    intro hp ho m4 i S4 t4 fr4 o2
    have cr := caP_r ho V.1.toNat 0 V (by omega) (by omega) (CA.start ho)
    have CM : Tr 1 mX6_comes [vr 55] m4 (fun r m2 => ∃ z, r = some (vi z) ∧ (z = (qCa V).1 ∧ mAct mu m2 V a H (qCa V).2 (wCa V))) := by
      rcases o2 with ⟨z1, z2⟩ | ⟨z1, z2, z3, z4⟩
      · have qe : qCa V = (-1, 3) := (if_neg (by omega) : qCa V = _).trans (if_pos z1)
        rw [qe]
        exact Tr.mono (t_X6_comesN S4 t4 fr4 z2) (fun r m2 w => ⟨-1, w.1, rfl, w.2⟩)
      · have qe : qCa V = ((caP V V.1.toNat 0 V).1.1 - V.1, 0) := (if_neg (by omega) : qCa V = _).trans (if_neg z1)
        rw [qe]
        have e4 : (sv m4).1 = (caP V V.1.toNat 0 V).1.1 := (congrArg (fun z : FV => z.1) z4 : (rsV V.2.1 (sv m4)).1 = _)
        have c3 := cr.1.2.1.1
        refine Tr.mono (t_X6_comesY S4 ha hH t4 fr4 z2 hp z3 (by rw [e4]; omega) (by rw [z4]; exact cr.1.g)) (fun r m2 w => ⟨_, w.1, by rw [e4], by rw [z4] at w; exact w.2⟩)
    refine aw_aload_n C dX6_cutAll_51 rfl ?_
    refine aw_call C dX6_cutAll_52 lX6_421 vX6_comes (CM) rfl rfl rfl ⟨rfl, by decide⟩ rfl ⟨by decide, by decide⟩ (Nat.le_of_ble_eq_true rfl) (fun r1 mu1 hq1 => ?_)
    obtain ⟨rr, hrr, hfin⟩ : ∃ z, r1 = some (vi z) ∧ (z = (qCa V).1 ∧ mAct mu mu1 V a H (qCa V).2 (wCa V)) := hq1
    subst hrr
    generalize mu1 = m5 at *
    show AW _ _ _ _ _ [vi rr] _
    exact aw_iret C E dX6_cutAll_55 rfl ⟨by rw [hfin.1], hfin.2⟩
  have bad : 0 < V.1 → oV V → ∀ (m : Mem) (i : Int), 0 ≤ i → i ≤ 24 → mSt m V a H → m 55 0 = 0 → mfr mu m → m 55 33 = 0 → (caP V V.1.toNat 0 V).2 = -1 → AW K mX6_cutAll (NC, 0, 0) 25 [vr 55, vi i] [] m := by
    intro hp ho m i q0 q1 S3 t3 fr3 q2 q3
    have e1 := mv1 S3.1.1
    have hn := ho.1.1
    refine aw_iload_n C dX6_cutAll_25 rfl ?_
    refine aw_aload_n C dX6_cutAll_26 rfl ?_
    refine aw_getI C dX6_cutAll_27 fX6_255 ⟨rfl, by decide⟩ rfl ?_
    refine aw_icmp_ge C dX6_cutAll_30 (tgt := 51) (by decide) ⟨by omega, by omega⟩ ⟨by omega, by omega⟩ (fun c1 => ?_) (fun c1 => ?_)
    · exact fin hp ho m _ S3 t3 fr3 (Or.inl ⟨q3, q2⟩)
    · refine aw_aload_n C dX6_cutAll_33 rfl ?_
      refine aw_getI C dX6_cutAll_34 fX6_239 ⟨rfl, by decide⟩ rfl ?_
      refine aw_if_eq C dX6_cutAll_37 (tgt := 51) (by decide) ⟨by omega, by omega⟩ (fun c2 => ?_) (fun c2 => ?_)
      · exact fin hp ho m _ S3 t3 fr3 (Or.inl ⟨q3, q2⟩)
      · exfalso; omega
  have loop : 0 < V.1 → oV V → ∀ (k : Nat) (i : Int) (m : Mem), 0 ≤ i → i + k = V.1 → mSt m V a H → m 55 0 = 0 → mfr mu m → m 55 33 = 1 → hW (sv m) → CA V i (rsV V.2.1 (sv m)) → caP V k i (rsV V.2.1 (sv m)) = caP V V.1.toNat 0 V → AW K mX6_cutAll (NC, 0, 0) 25 [vr 55, vi i] [] m := by
    intro hp ho k
    induction k with
    | zero =>
      intro i m q0 q1 S3 t3 fr3 q2 q3 q4 q5
      have e1 := mv1 S3.1.1
      have hn := ho.1.1
      have q5 : (rsV V.2.1 (sv m), (0 : Int)) = caP V V.1.toNat 0 V := q5
      refine aw_iload_n C dX6_cutAll_25 rfl ?_
      refine aw_aload_n C dX6_cutAll_26 rfl ?_
      refine aw_getI C dX6_cutAll_27 fX6_255 ⟨rfl, by decide⟩ rfl ?_
      refine aw_icmp_ge C dX6_cutAll_30 (tgt := 51) (by decide) ⟨by omega, by omega⟩ ⟨by omega, by omega⟩ (fun c1 => ?_) (fun c1 => ?_)
      · exact fin hp ho m _ S3 t3 fr3 (Or.inr ⟨by rw [← q5]; show (0 : Int) ≠ -1; decide, q2, q3, by rw [← q5]⟩)
      · exfalso; omega
    | succ k ih =>
      intro i m q0 q1 S3 t3 fr3 q2 q3 q4 q5
      have e1 := mv1 S3.1.1
      have hn := ho.1.1
      have e : caP V (k + 1) i (rsV V.2.1 (sv m)) = if (cutV V i (rsV V.2.1 (sv m))).2 = -1 then (rsV V.2.1 (sv m), -1) else caP V k (i + 1) (cutV V i (rsV V.2.1 (sv m))).1 := rfl
      rw [e] at q5
      have st := q4.step ho q0 (by omega)
      refine aw_iload_n C dX6_cutAll_25 rfl ?_
      refine aw_aload_n C dX6_cutAll_26 rfl ?_
      refine aw_getI C dX6_cutAll_27 fX6_255 ⟨rfl, by decide⟩ rfl ?_
      refine aw_icmp_ge C dX6_cutAll_30 (tgt := 51) (by decide) ⟨by omega, by omega⟩ ⟨by omega, by omega⟩ (fun c1 => ?_) (fun c1 => ?_)
      · exfalso; omega
      · refine aw_aload_n C dX6_cutAll_33 rfl ?_
        refine aw_getI C dX6_cutAll_34 fX6_239 ⟨rfl, by decide⟩ rfl ?_
        refine aw_if_eq C dX6_cutAll_37 (tgt := 51) (by decide) ⟨by omega, by omega⟩ (fun c2 => ?_) (fun c2 => ?_)
        · exfalso; omega
        · refine aw_aload_n C dX6_cutAll_40 rfl ?_
          refine aw_iload_n C dX6_cutAll_41 rfl ?_
          refine aw_call C dX6_cutAll_42 lX6_418 vX6_cuts (t_X6_cuts S3.1.1 ho q0 (by omega) q3 q4.1 (q4.2.2 i (by omega) (by omega)) q2) rfl rfl rfl ⟨rfl, by decide⟩ rfl ⟨by decide, by decide⟩ (Nat.le_of_ble_eq_true rfl) (fun r3 mu3 hq3 => ?_)
          obtain ⟨rfl, o1, o2⟩ := hq3
          have S4 := mSt_fr S3 (bgS_k o1)
          have t4 : mu3 55 0 = 0 := (o1 55 0 (by unfold bgS; omega)).trans t3
          have fr4 : mfr mu mu3 := fr3.tr (mfr_of o1 bgS_K)
          generalize mu3 = m4 at *
          show AW _ _ _ _ _ [] _
          refine aw_iinc C dX6_cutAll_45 rfl ?_
          refine aw_goto C dX6_cutAll_48 (tgt := 25) (by decide) ?_
          rcases o2 with ⟨z1, z2⟩ | ⟨z1, z2, z3, z4⟩
          · rw [if_pos z1] at q5
            exact bad hp ho m4 (i + 1) (by omega) (by omega) S4 t4 fr4 z2 (by rw [← q5])
          · rw [if_neg z1] at q5
            exact ih (i + 1) m4 (by omega) (by omega) S4 t4 fr4 z2 z3 (by rw [z4]; exact st) (by rw [z4]; exact q5)
  refine aw_aload_n C dX6_cutAll_0 rfl ?_
  refine aw_iconst C dX6_cutAll_1 ?_
  refine aw_putI C dX6_cutAll_2 fX6_77 ⟨rfl, by decide⟩ rfl rfl rfl ?_
  have S1 := S.t
  have fr1 := mfr.t (mu := mu)
  have t0 : wr mu 55 0 0 55 0 = 0 := by rw [wr_at, if_pos ⟨rfl, rfl⟩]
  generalize wr mu 55 0 0 = m1 at *
  have hm := S1.1
  have eV := hm.1
  have hV := hm.2.1.1
  have hn := hV.1
  have hl := hV.2.1
  have e1 := mv1 eV
  have e2 := mv2 eV
  have h3 := hm.2.2
  refine aw_aload_n C dX6_cutAll_5 rfl ?_
  refine aw_getI C dX6_cutAll_6 fX6_264 ⟨rfl, by decide⟩ rfl ?_
  refine aw_if_ne C dX6_cutAll_9 (tgt := 18) (by decide) ⟨by omega, by omega⟩ (fun c1 => ?_) (fun c1 => ?_)
  · have cl := hm.2.1.cl (by omega)
    have ho : oV V := ⟨hV, cl.1, cl.2, hs⟩
    --go
    refine aw_aload_n C dX6_cutAll_18 rfl ?_
    refine aw_iconst C dX6_cutAll_19 ?_
    refine aw_call C dX6_cutAll_20 lX6_408 vX6_begins (t_X6_begins (W := mv6 m1) (mv6_srt eV hs) (mv6_bW eV hV) S1.2.2.2.1 (Or.inl ⟨rfl, rfl⟩)) rfl rfl rfl ⟨rfl, by decide⟩ rfl ⟨by decide, by decide⟩ (Nat.le_of_ble_eq_true rfl) (fun r2 mu2 hq2 => ?_)
    obtain ⟨rfl, g1, g2, g3⟩ := hq2
    have S3 := mSt_fr S1 (bgS_k g1)
    have t3 : mu2 55 0 = 0 := (g1 55 0 (by unfold bgS; omega)).trans t0
    have fr3 : mfr mu mu2 := fr1.tr (mfr_of g1 bgS_K)
    have eV3 := S3.1.1
    have rs3 : rsV V.2.1 (sv mu2) = V := by rw [g2]; exact mv6_rs eV hV
    have hw3 : hW (sv mu2) := by rw [g2]; exact mv6_hW eV hV S1.2.2.2.1
    generalize mu2 = m3 at *
    show AW _ _ _ _ _ [] _
    refine aw_iconst C dX6_cutAll_23 ?_
    refine aw_istore_n C dX6_cutAll_24 (by decide) ?_
    exact loop (by omega) ho V.1.toNat 0 m3 (by omega) (by omega) S3 t3 fr3 g3 hw3 (by rw [rs3]; exact CA.start ho) (by rw [rs3])
  · have qe : qCa V = (-1, 1) := if_pos (by omega)
    --go
    refine aw_aload_n C dX6_cutAll_12 rfl ?_
    refine aw_iconst C dX6_cutAll_13 ?_
    refine aw_call1 C dX6_cutAll_14 lX6_267 vX6_refused (t_X6_refused) rfl rfl rfl ⟨rfl, by decide⟩ rfl ⟨by decide, by decide⟩ (Nat.le_of_ble_eq_true rfl) ?_
    exact aw_iret C E dX6_cutAll_17 rfl (by rw [qe]; exact ⟨rfl, mAct_n S1 t0 fr1 (by decide)⟩)

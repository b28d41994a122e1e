theorem chS_self {m : Mem} {a b n : Int} (h0 : m 8 0 = a) (h1 : m 8 1 = b) (h2 : m 8 2 = n) : chS m a b n = m := by
  funext k j
  rw [chS_at]
  by_cases e : k = 8
  · subst e
    rw [if_pos rfl]
    split
    · subst j; exact h2.symm
    · split
      · subst j; exact h1.symm
      · split
        · subst j; exact h0.symm
        · rfl
  · rw [if_neg e]
theorem t_goesOn {m : Mem} {a b n : Int} (h0 : m 8 0 = a) (h1 : m 8 1 = b) (h2 : m 8 2 = n) (hb : R32 b) : TrE 0 mX0_goesOn [vr 8] m (some (vi (b01 (0 < b)))) m := by
  have := t_X0_goesOn (mu := m) (a := a) (b := b) (n := n) hb
  rw [chS_self h0 h1 h2] at this
  exact this
theorem t_step {m : Mem} {a b n : Int} (h0 : m 8 0 = a) (h1 : m 8 1 = b) (h2 : m 8 2 = n) (hb : 0 < b) (ha : b ≤ a) (ha2 : a ≤ 7200) : TrE 2 mX0_step [vr 8] m (some (vi (cB a b))) (chS m b (cN a b) n) := by
  have := t_X0_step (mu := m) (n := n) hb ha ha2
  rw [chS_self h0 h1 h2] at this
  exact this
theorem fv_ch {m : Mem} {a b n : Int} {f : Nat} (hf : isF f) : fv (chS m a b n) f = fv m f := by
  have := hf.ge
  exact fv_eq fun x p q => funext fun y => by rw [chS_at, if_neg (by omega)]
/-- what work at a cut leaves as it was -/
def ctf (g : Nat) (m0 m : Mem) : Prop := ∀ c, ¬ fanS g c → c ≠ 8 → m c = m0 c
theorem t_X5_cutInDraft {m0 : Mem} {f g : Nat} {V D : FV} {i : Int} (hf : isF f) (hg : isF g) (fne : f ≠ g) (ef : m0 0 5 = (f : Int)) (eg : m0 0 6 = (g : Int)) (eV : fv m0 f = V) (eD : fv m0 g = D) (hV : bV V) (hc : clo V) (hp : prm V) (hD : oV D) (hl : D.2.1 = V.2.1) (h0 : 0 ≤ i) (h1 : i < V.1) (hA : adj D (gx V i) (gy V i) (gx V (nxt V i)) (gy V (nxt V i))) : Tr 4 mX5_cutInDraft [vr 0, vi i] m0 (fun r m2 => r = some (vi (cutV V i D).2) ∧ ctf g m0 m2 ∧ ((cutV V i D).2 ≠ -1 → fv m2 g = (cutV V i D).1)) := by
  refine Tr.of (by decide +kernel) (Nat.le_of_ble_eq_true rfl) (fun K C E => ?_)
  have cs := CI.start hV hc hp hD hl h0 h1 hA
  have t := hc.2 i h0 h1
  have tb := hV.trn i
  obtain ⟨n1, n2⟩ := nxt_in h0 h1
  have eV0 : m0 f 0 = V.1 := congrArg (fun z : FV => z.1) eV
  have gg := hg.ge
  have gf := hf.ge
  have gne := isF_ne hf hg fne
  have hVf : bV (fv m0 f) := by rw [eV]; exact hV
  have b1 := hV.x i
  have b2 := hV.y i
  have b3 := hV.x (nxt V i)
  have b4 := hV.y (nxt V i)
  have kb := kq_b ⟨hc, hp⟩ h0 h1
  have m1 := mulb (a := kq V i) (A := 7200) ⟨by omega, by omega⟩ b1
  have m2 := mulb (a := kq V i) (A := 7200) ⟨by omega, by omega⟩ b2
  have loop : ∀ (k : Nat) (w : Int) (X : FV) (a b x y u v : Int) (v10 v11 v12 : Vv) (m : Mem), w + k = 24 → 0 ≤ w → CI V i X a b x y u v → fv m g = X → ctf g m0 m → m 8 0 = a → m 8 1 = b → m 8 2 = trn V i → cutP V i k X a b x y u v w = cutV V i D → AW K mX5_cutInDraft (NC, 0, 0) 110 [vr 0, vi i, vi (trn V i), vi (kq V i), vi (nxt V i), vi x, vi y, vi u, vi v, vi w, v10, v11, v12] [] m := by
    intro k
    induction k with
    | zero =>
      intro w X a b x y u v v10 v11 v12 m q1 q2 q3 q4 q5 q6 q7 q8 q9
      have q9 : (X, w) = cutV V i D := q9
      rw [← q9] at E
      have kb := b01_01 (0 < b)
      have hab := q3.2.2.1
      refine aw_aload_n C dX5_cutInDraft_110 rfl ?_
      refine aw_getS C dX5_cutInDraft_111 fX5_21 ⟨rfl, by decide⟩ rfl rfl (srf 0 1 8 (by decide)) ?_
      refine aw_call1 C dX5_cutInDraft_114 lX5_300 vX0_goesOn (t_goesOn q6 q7 q8 ⟨by omega, by omega⟩) rfl rfl rfl ⟨rfl, by decide⟩ rfl ⟨by decide, by decide⟩ (Nat.le_of_ble_eq_true rfl) ?_
      refine aw_if_eq C dX5_cutInDraft_117 (tgt := 200) (by decide) ⟨by omega, by omega⟩ (fun c1 => ?_) (fun c1 => ?_)
      · refine aw_iload C dX5_cutInDraft_200 rfl ?_
        exact aw_iret C E dX5_cutInDraft_202 rfl ⟨rfl, q5, fun _ => q4⟩
      · refine aw_iload C dX5_cutInDraft_120 rfl ?_
        refine aw_bipush C dX5_cutInDraft_122 rfl ?_
        refine aw_icmp_ge C dX5_cutInDraft_124 (tgt := 200) (by decide) ⟨by omega, by omega⟩ ⟨by omega, by omega⟩ (fun c2 => ?_) (fun c2 => ?_)
        · refine aw_iload C dX5_cutInDraft_200 rfl ?_
          exact aw_iret C E dX5_cutInDraft_202 rfl ⟨rfl, q5, fun _ => q4⟩
        · exfalso; omega
    | succ k ih =>
      intro w X a b x y u v v10 v11 v12 m q1 q2 q3 q4 q5 q6 q7 q8 q9
      have e : cutP V i (k + 1) X a b x y u v w = if b ≤ 0 then (X, w) else if b01 (okI X V i u v) = 1 then cutP V i k (insV X (pos X u v).toNat u v (fun d => ftt V d i u v / trn V i)) b (cN a b) u v (cB a b * u - x) (cB a b * v - y) (w + 1) else (X, -1) := rfl
      rw [e] at q9
      have kb := b01_01 (0 < b)
      have kbi : b01 (0 < b) = 1 ↔ 0 < b := b01_iff
      have hab := q3.2.2.1
      have hxy := q3.xy
      have hu := q3.2.2.2.2.2.2
      have e5 : m 0 5 = (f : Int) := by rw [q5 0 (by unfold fanS; omega) (by omega)]; exact ef
      have e6 : m 0 6 = (g : Int) := by rw [q5 0 (by unfold fanS; omega) (by omega)]; exact eg
      have evf : fv m f = V := by rw [← eV]; exact fv_eq fun z p q => q5 z (by unfold fanS; omega) (by omega)
      have ko := b01_01 (okI X V i u v)
      have el : m g 1 = m f 1 := by
        have z1 : m g 1 = X.2.1 := congrArg (fun z : FV => z.2.1) q4
        have z2 : m f 1 = V.2.1 := congrArg (fun z : FV => z.2.1) evf
        rw [z1, z2]; exact q3.2.1
      have en : m f 0 = V.1 := congrArg (fun z : FV => z.1) evf
      have pin := pos_in (V := X) q3.1.1.1.1 u v
      have pin2 := q3.1.1.1.2
      refine aw_aload_n C dX5_cutInDraft_110 rfl ?_
      refine aw_getS C dX5_cutInDraft_111 fX5_21 ⟨rfl, by decide⟩ rfl rfl (srf 0 1 8 (by decide)) ?_
      refine aw_call1 C dX5_cutInDraft_114 lX5_300 vX0_goesOn (t_goesOn q6 q7 q8 ⟨by omega, by omega⟩) rfl rfl rfl ⟨rfl, by decide⟩ rfl ⟨by decide, by decide⟩ (Nat.le_of_ble_eq_true rfl) ?_
      refine aw_if_eq C dX5_cutInDraft_117 (tgt := 200) (by decide) ⟨by omega, by omega⟩ (fun c1 => ?_) (fun c1 => ?_)
      · rw [if_pos (show b ≤ 0 by omega)] at q9
        rw [← q9] at E
        --go
        refine aw_iload C dX5_cutInDraft_200 rfl ?_
        exact aw_iret C E dX5_cutInDraft_202 rfl ⟨rfl, q5, fun _ => q4⟩
      · refine aw_iload C dX5_cutInDraft_120 rfl ?_
        refine aw_bipush C dX5_cutInDraft_122 rfl ?_
        refine aw_icmp_ge C dX5_cutInDraft_124 (tgt := 200) (by decide) ⟨by omega, by omega⟩ ⟨by omega, by omega⟩ (fun c2 => ?_) (fun c2 => ?_)
        · exfalso; omega
        · refine aw_aload_n C dX5_cutInDraft_127 rfl ?_
          refine aw_getR C dX5_cutInDraft_128 fX5_47 ⟨rfl, by decide⟩ rfl e6 ?_
          refine aw_aload_n C dX5_cutInDraft_131 rfl ?_
          refine aw_getR C dX5_cutInDraft_132 fX5_43 ⟨rfl, by decide⟩ rfl e5 ?_
          refine aw_iload_n C dX5_cutInDraft_135 rfl ?_
          refine aw_iload C dX5_cutInDraft_136 rfl ?_
          refine aw_iload C dX5_cutInDraft_138 rfl ?_
          refine aw_call C dX5_cutInDraft_140 lX5_261 vX1_insert (t_X1_insert hg hf (fun w => fne w.symm) (by rw [q4]; exact q3.1.1) (by rw [evf]; exact hV) (by rw [evf]; exact hc) el h0 (by omega) ⟨by omega, by omega⟩ ⟨by omega, by omega⟩) rfl rfl rfl hg.s0 rfl ⟨by decide, by decide⟩ (Nat.le_of_ble_eq_true rfl) (fun r3 mu3 hq3 => ?_)
          obtain ⟨w1, w2⟩ := hq3
          rw [q4, evf] at w2
          obtain ⟨fr, hfr, hz⟩ : ∃ z, r3 = some (vi z) ∧ ((b01 (okI X V i u v) = 1 ∧ z = pos X u v ∧ fv mu3 g = insV X (pos X u v).toNat u v (fun d => ftt V d i u v / trn V i)) ∨ (b01 (okI X V i u v) = 0 ∧ z = -1)) := by
            rcases w2 with ⟨o1, o2, o3⟩ | ⟨o1, o2⟩
            · exact ⟨_, o2, Or.inl ⟨b01_t o1, rfl, o3⟩⟩
            · exact ⟨_, o2, Or.inr ⟨b01_f o1, rfl⟩⟩
          subst hfr
          have c5 : ctf g m0 mu3 := fun c p q => (w1 c p).trans (q5 c p q)
          have c8 : mu3 8 = m 8 := w1 8 (by unfold fanS; omega)
          generalize mu3 = m3 at *
          show AW _ _ _ _ _ (vi fr :: []) _
          refine aw_iconst C dX5_cutInDraft_143 ?_
          refine aw_icmp_ne C dX5_cutInDraft_144 (tgt := 149) (by decide) ⟨by omega, by omega⟩ ⟨by omega, by omega⟩ (fun cz => ?_) (fun cz => ?_)
          · have o1 : b01 (okI X V i u v) = 1 := by omega
            have o3 : fv m3 g = insV X (pos X u v).toNat u v (fun d => ftt V d i u v / trn V i) := by
              rcases hz with ⟨-, -, z⟩ | ⟨z, -⟩
              · exact z
              · exfalso; omega
            have st := q3.step (by omega) (b01_iff.mp o1)
            rw [if_neg (show ¬ b ≤ 0 by omega), if_pos o1] at q9
            --go
            refine aw_iinc C dX5_cutInDraft_149 rfl ?_
            refine aw_aload_n C dX5_cutInDraft_152 rfl ?_
            refine aw_getS C dX5_cutInDraft_153 fX5_21 ⟨rfl, by decide⟩ rfl rfl (srf 0 1 8 (by decide)) ?_
            refine aw_call1 C dX5_cutInDraft_156 lX5_154 vX0_step (t_step (a := a) (b := b) (n := trn V i) (by rw [c8]; exact q6) (by rw [c8]; exact q7) (by rw [c8]; exact q8) (by omega) (by omega) (by omega)) rfl rfl rfl ⟨rfl, by decide⟩ rfl ⟨by decide, by decide⟩ (Nat.le_of_ble_eq_true rfl) ?_
            refine aw_istore C dX5_cutInDraft_159 (by decide) ?_
            refine aw_iload C dX5_cutInDraft_161 rfl ?_
            refine aw_iload C dX5_cutInDraft_163 rfl ?_
            refine aw_imul C dX5_cutInDraft_165 ?_
            refine aw_iload C dX5_cutInDraft_166 rfl ?_
            refine aw_isub C dX5_cutInDraft_168 ?_
            refine aw_istore C dX5_cutInDraft_169 (by decide) ?_
            refine aw_iload C dX5_cutInDraft_171 rfl ?_
            refine aw_iload C dX5_cutInDraft_173 rfl ?_
            refine aw_imul C dX5_cutInDraft_175 ?_
            refine aw_iload C dX5_cutInDraft_176 rfl ?_
            refine aw_isub C dX5_cutInDraft_178 ?_
            refine aw_istore C dX5_cutInDraft_179 (by decide) ?_
            refine aw_iload C dX5_cutInDraft_181 rfl ?_
            refine aw_istore C dX5_cutInDraft_183 (by decide) ?_
            refine aw_iload C dX5_cutInDraft_185 rfl ?_
            refine aw_istore C dX5_cutInDraft_187 (by decide) ?_
            refine aw_iload C dX5_cutInDraft_189 rfl ?_
            refine aw_istore C dX5_cutInDraft_191 (by decide) ?_
            refine aw_iload C dX5_cutInDraft_193 rfl ?_
            refine aw_istore C dX5_cutInDraft_195 (by decide) ?_
            refine aw_goto C dX5_cutInDraft_197 (tgt := 110) (by decide) ?_
            exact ih (w + 1) _ _ _ _ _ _ _ _ _ _ _ (by omega) (by omega) st.2.1 ((fv_ch hg).trans o3) (fun c p q => by funext z; rw [chS_at, if_neg q, c5 c p q]) (by rw [chS_at, if_pos rfl]; rfl) (by rw [chS_at, if_pos rfl]; rfl) (by rw [chS_at, if_pos rfl]; rfl) q9
          · rw [if_neg (show ¬ b ≤ 0 by omega), if_neg (show ¬ b01 (okI X V i u v) = 1 by omega)] at q9
            rw [← q9] at E
            --go
            refine aw_iconst C dX5_cutInDraft_147 ?_
            exact aw_iret C E dX5_cutInDraft_148 rfl ⟨rfl, c5, fun w => absurd rfl w⟩
  refine aw_aload_n C dX5_cutInDraft_0 rfl ?_
  refine aw_getR C dX5_cutInDraft_1 fX5_43 ⟨rfl, by decide⟩ rfl ef ?_
  refine aw_iload_n C dX5_cutInDraft_4 rfl ?_
  refine aw_call1 C dX5_cutInDraft_5 lX5_138 vX1_turn (t_X1_turn hf hVf h0 (by omega)) rfl rfl rfl hf.s0 rfl ⟨by decide, by decide⟩ (Nat.le_of_ble_eq_true rfl) ?_
  rw [eV]
  refine aw_istore_n C dX5_cutInDraft_8 (by decide) ?_
  refine aw_aload_n C dX5_cutInDraft_9 rfl ?_
  refine aw_getR C dX5_cutInDraft_10 fX5_43 ⟨rfl, by decide⟩ rfl ef ?_
  refine aw_iload_n C dX5_cutInDraft_13 rfl ?_
  refine aw_call1 C dX5_cutInDraft_14 lX5_141 vX1_kind (t_X1_kind hf hVf (by rw [eV]; exact hc) (by rw [eV]; exact hp) h0 (by omega)) rfl rfl rfl hf.s0 rfl ⟨by decide, by decide⟩ (Nat.le_of_ble_eq_true rfl) ?_
  rw [eV]
  refine aw_istore_n C dX5_cutInDraft_17 (by decide) ?_
  refine aw_aload_n C dX5_cutInDraft_18 rfl ?_
  refine aw_getR C dX5_cutInDraft_19 fX5_43 ⟨rfl, by decide⟩ rfl ef ?_
  refine aw_iload_n C dX5_cutInDraft_22 rfl ?_
  refine aw_call1 C dX5_cutInDraft_23 lX5_258 vX1_behind (t_X1_behind hf hVf h0 (by omega)) rfl rfl rfl hf.s0 rfl ⟨by decide, by decide⟩ (Nat.le_of_ble_eq_true rfl) ?_
  rw [eV]
  refine aw_istore C dX5_cutInDraft_26 (by decide) ?_
  refine aw_aload_n C dX5_cutInDraft_28 rfl ?_
  refine aw_getR C dX5_cutInDraft_29 fX5_43 ⟨rfl, by decide⟩ rfl ef ?_
  refine aw_iload_n C dX5_cutInDraft_32 rfl ?_
  refine aw_call1 C dX5_cutInDraft_33 lX5_132 vX1_x (t_X1_x hf hVf h0 (by omega)) rfl rfl rfl hf.s0 rfl ⟨by decide, by decide⟩ (Nat.le_of_ble_eq_true rfl) ?_
  rw [eV]
  refine aw_istore C dX5_cutInDraft_36 (by decide) ?_
  refine aw_aload_n C dX5_cutInDraft_38 rfl ?_
  refine aw_getR C dX5_cutInDraft_39 fX5_43 ⟨rfl, by decide⟩ rfl ef ?_
  refine aw_iload_n C dX5_cutInDraft_42 rfl ?_
  refine aw_call1 C dX5_cutInDraft_43 lX5_135 vX1_y (t_X1_y hf hVf h0 (by omega)) rfl rfl rfl hf.s0 rfl ⟨by decide, by decide⟩ (Nat.le_of_ble_eq_true rfl) ?_
  rw [eV]
  refine aw_istore C dX5_cutInDraft_46 (by decide) ?_
  refine aw_iload_n C dX5_cutInDraft_48 rfl ?_
  refine aw_i2l C dX5_cutInDraft_49 ⟨by omega, by omega⟩ ?_
  refine aw_iload C dX5_cutInDraft_50 rfl ?_
  refine aw_i2l C dX5_cutInDraft_52 ⟨by omega, by omega⟩ ?_
  refine aw_lmul C dX5_cutInDraft_53 ?_
  refine aw_aload_n C dX5_cutInDraft_54 rfl ?_
  refine aw_getR C dX5_cutInDraft_55 fX5_43 ⟨rfl, by decide⟩ rfl ef ?_
  refine aw_iload C dX5_cutInDraft_58 rfl ?_
  refine aw_call1 C dX5_cutInDraft_60 lX5_132 vX1_x (t_X1_x hf hVf n1 (by omega)) rfl rfl rfl hf.s0 rfl ⟨by decide, by decide⟩ (Nat.le_of_ble_eq_true rfl) ?_
  rw [eV]
  refine aw_i2l C dX5_cutInDraft_63 ⟨by omega, by omega⟩ ?_
  refine aw_ladd C dX5_cutInDraft_64 ?_
  refine aw_iload_n C dX5_cutInDraft_65 rfl ?_
  refine aw_i2l C dX5_cutInDraft_66 ⟨by omega, by omega⟩ ?_
  refine aw_callS1 C dX5_cutInDraft_67 lX5_181 vX4_by (t_X4_by ⟨by omega, by omega⟩ ⟨by omega, by omega⟩) rfl rfl rfl ⟨by decide, by decide⟩ (Nat.le_of_ble_eq_true rfl) ?_
  refine aw_l2i C dX5_cutInDraft_70 ?_
  refine aw_istore C dX5_cutInDraft_71 (by decide) ?_
  refine aw_iload_n C dX5_cutInDraft_73 rfl ?_
  refine aw_i2l C dX5_cutInDraft_74 ⟨by omega, by omega⟩ ?_
  refine aw_iload C dX5_cutInDraft_75 rfl ?_
  refine aw_i2l C dX5_cutInDraft_77 ⟨by omega, by omega⟩ ?_
  refine aw_lmul C dX5_cutInDraft_78 ?_
  refine aw_aload_n C dX5_cutInDraft_79 rfl ?_
  refine aw_getR C dX5_cutInDraft_80 fX5_43 ⟨rfl, by decide⟩ rfl ef ?_
  refine aw_iload C dX5_cutInDraft_83 rfl ?_
  refine aw_call1 C dX5_cutInDraft_85 lX5_135 vX1_y (t_X1_y hf hVf n1 (by omega)) rfl rfl rfl hf.s0 rfl ⟨by decide, by decide⟩ (Nat.le_of_ble_eq_true rfl) ?_
  rw [eV]
  refine aw_i2l C dX5_cutInDraft_88 ⟨by omega, by omega⟩ ?_
  refine aw_ladd C dX5_cutInDraft_89 ?_
  refine aw_iload_n C dX5_cutInDraft_90 rfl ?_
  refine aw_i2l C dX5_cutInDraft_91 ⟨by omega, by omega⟩ ?_
  refine aw_callS1 C dX5_cutInDraft_92 lX5_181 vX4_by (t_X4_by ⟨by omega, by omega⟩ ⟨by omega, by omega⟩) rfl rfl rfl ⟨by decide, by decide⟩ (Nat.le_of_ble_eq_true rfl) ?_
  refine aw_l2i C dX5_cutInDraft_95 ?_
  refine aw_istore C dX5_cutInDraft_96 (by decide) ?_
  refine aw_aload_n C dX5_cutInDraft_98 rfl ?_
  refine aw_getS C dX5_cutInDraft_99 fX5_21 ⟨rfl, by decide⟩ rfl rfl (srf 0 1 8 (by decide)) ?_
  refine aw_iload_n C dX5_cutInDraft_102 rfl ?_
  refine aw_iload_n C dX5_cutInDraft_103 rfl ?_
  refine aw_call0 C dX5_cutInDraft_104 lX5_144 vX0_start (t_X0_start) rfl rfl rfl ⟨rfl, by decide⟩ rfl ⟨by decide, by decide⟩ (Nat.le_of_ble_eq_true rfl) ?_
  refine aw_iconst C dX5_cutInDraft_107 ?_
  refine aw_istore C dX5_cutInDraft_108 (by decide) ?_
  exact loop 24 0 D _ _ _ _ _ _ _ _ _ _ (by omega) (by omega) cs ((fv_ch hg).trans eD) (fun c p q => by funext z; rw [chS_at, if_neg q]) (by rw [chS_at, if_pos rfl]; rfl) (by rw [chS_at, if_pos rfl]; rfl) (by rw [chS_at, if_pos rfl]; rfl) rfl
theorem ctf.df {mu m m2 : Mem} {g : Nat} (h : dfr g mu m) (h2 : ctf g m m2) : dfr g mu m2 := fun x y a b c => by rw [h2 x a (by omega)]; exact h x y a b c
theorem ctf.e11 {m m2 : Mem} {g : Nat} (hg : isF g) (h2 : ctf g m m2) (y : Nat) : m2 0 y = m 0 y := by have := hg.ge; rw [h2 0 (by unfold fanS; omega) (by decide)]
theorem cutP_24 {V : FV} {i : Int} : ∀ (k : Nat) (D : FV) (a b x y u v w : Int), w + k ≤ 24 → (cutP V i k D a b x y u v w).2 ≤ 24
  | 0, D, a, b, x, y, u, v, w, h => by show w ≤ 24; omega
  | k + 1, D, a, b, x, y, u, v, w, h => by
    show (if b ≤ 0 then (D, w) else if b01 (okI D V i u v) = 1 then cutP V i k (insV D (pos D u v).toNat u v (fun d => ftt V d i u v / trn V i)) b (cN a b) u v (cB a b * u - x) (cB a b * v - y) (w + 1) else (D, -1)).2 ≤ 24
    split
    · show w ≤ 24; omega
    · split
      · exact cutP_24 k _ _ _ _ _ _ _ _ (by omega)
      · show (-1 : Int) ≤ 24; omega
theorem cutV_24 (V : FV) (i : Int) (D : FV) : (cutV V i D).2 ≤ 24 := cutP_24 _ _ _ _ _ _ _ _ _ (by omega)
theorem t_X5_cut {mu : Mem} {V : FV} {a : Int} {H : Nat → FV} {i : Int} (S : cSt mu V a H) (hs : srt V) (hi : R32 i) : Tr 5 mX5_cut [vr 0, vi i] mu (fun r m2 => r = some (vi (qCu V i).1) ∧ actR mu m2 V a H (qCu V i).2 (wCu V i)) := by
  refine Tr.of (by decide +kernel) (Nat.le_of_ble_eq_true rfl) (fun K C E => ?_)
  obtain ⟨f, g, p, r, h, rfl⟩ := S.rn
  obtain ⟨⟨hf, ef⟩, ⟨hg, eg⟩, ⟨hp, ep⟩, fne⟩ := id r
  have hV := h.2.2.1
  have hn := hV.n
  have hl := hV.l
  have en0 : (fv mu f).1 = mu f 0 := rfl
  have el0 : (fv mu f).2.1 = mu f 1 := rfl
  unfold qCu at E
  have k2 := b01_01 (0 ≤ i ∧ i < mu f 0)
  have k2t : b01 (0 ≤ i ∧ i < mu f 0) = 1 → 0 ≤ i ∧ i < mu f 0 := b01_iff.mp
  have k2f : b01 (0 ≤ i ∧ i < mu f 0) = 0 → ¬ (0 ≤ i ∧ i < mu f 0) := b01_niff.mp
  have fin : ∀ {v90 : Vv} (c : Int), (c = 0 ∧ 0 ≤ i ∧ i < mu f 0) ∨ (c = 1 ∧ ¬ (0 ≤ i ∧ i < mu f 0)) → AW K mX5_cut (NC, 0, 0) 14 [vr 0, vi i, v90] [vi c, vr 0] mu := by
    rintro v90 c (⟨rfl, q⟩ | ⟨rfl, q⟩)
    · rw [if_neg (show ¬ ¬ (0 ≤ i ∧ i < (fv mu f).1) from fun z => z q)] at E
      have cl := h.2.2.cl (Or.inl (show 0 < (fv mu f).1 by omega))
      have ho : oV (fv mu f) := ⟨hV, cl.1, cl.2, hs⟩
      have cr := cutV_r hV cl.1 cl.2 ho rfl q.1 q.2 (adj_n q.1 q.2)
      refine aw_putI C dX5_cut_14 fX5_62 ⟨rfl, by decide⟩ rfl rfl rfl ?_
      have hc : cE mu (wr mu 0 11 0) 0 := cE_w
      generalize wr mu 0 11 0 = m1 at *
      obtain ⟨e5, ev, hV1, en, el, e11⟩ := hc.all h
      have e6 : m1 0 6 = (g : Int) := ((hc.df (g := g)).c0 hg (by decide)).trans eg
      refine aw_aload_n C dX5_cut_17 rfl ?_
      refine aw_getI C dX5_cut_18 fX5_62 ⟨rfl, by decide⟩ rfl ?_
      rw [e11]
      refine aw_if_eq C dX5_cut_21 (tgt := 26) (by decide) ⟨by omega, by omega⟩ (fun c1 => ?_) (fun c1 => ?_)
      · refine aw_aload_n C dX5_cut_26 rfl ?_
        refine aw_getR C dX5_cut_27 fX5_47 ⟨rfl, by decide⟩ rfl e6 ?_
        refine aw_aload_n C dX5_cut_30 rfl ?_
        refine aw_getR C dX5_cut_31 fX5_43 ⟨rfl, by decide⟩ rfl e5 ?_
        refine aw_call C dX5_cut_34 lX5_234 vX1_copyFrom (t_X1_copyFrom hg hf (fun w => fne w.symm) (by omega) (by omega)) rfl rfl rfl hg.s0 rfl ⟨by decide, by decide⟩ (Nat.le_of_ble_eq_true rfl) (fun r2 mu2 hq2 => ?_)
        obtain ⟨rfl, y1, y2⟩ := hq2
        have D2 : dfr g mu mu2 := (hc.df (g := g)).m y2
        have e5b : mu2 0 5 = (f : Int) := (D2.c0 hg (by decide)).trans ef
        have e6b : mu2 0 6 = (g : Int) := (D2.c0 hg (by decide)).trans eg
        have e11b : mu2 0 11 = 0 := by have := hg.ge; rw [y2 0 (by unfold fanS; omega)]; exact e11
        have n2 : mu2 g 0 = mu f 0 := by rw [ev] at y1; exact congrArg (fun z : FV => z.1) y1
        have l2 : mu2 g 1 = mu f 1 := by rw [ev] at y1; exact congrArg (fun z : FV => z.2.1) y1
        rw [ev] at y1
        have hVg : bV (fv mu2 g) := by rw [y1]; exact hV
        have evb : fv mu2 f = fv mu f := D2.fv hg hf fne
        have hVf : bV (fv mu2 f) := by rw [evb]; exact hV
        have n2f : mu2 f 0 = mu f 0 := congrArg (fun z : FV => z.1) evb
        have l2f : mu2 f 1 = mu f 1 := congrArg (fun z : FV => z.2.1) evb
        generalize mu2 = m2 at *
        show AW _ _ _ _ _ [] _
        refine aw_aload_n C dX5_cut_37 rfl ?_
        refine aw_iload_n C dX5_cut_38 rfl ?_
        refine aw_call C dX5_cut_39 lX5_265 vX5_cutInDraft (t_X5_cutInDraft hf hg fne e5b e6b evb y1 hV cl.1 cl.2 ho rfl q.1 q.2 (adj_n q.1 q.2)) rfl rfl rfl ⟨rfl, by decide⟩ rfl ⟨by decide, by decide⟩ (Nat.le_of_ble_eq_true rfl) (fun r3 mu3 hq3 => ?_)
        obtain ⟨rfl, w1, w3⟩ := hq3
        have D3 : dfr g mu mu3 := ctf.df D2 w1
        have e11c : mu3 0 11 = 0 := (ctf.e11 hg w1 11).trans e11b
        have c24 : (cutV (fv mu f) i (fv mu f)).2 ≤ 24 := cutV_24 _ _ _
        generalize mu3 = m3 at *
        show AW _ _ _ _ _ (vi (cutV (fv mu f) i (fv mu f)).2 :: []) _
        refine aw_istore_n C dX5_cut_42 (by decide) ?_
        refine aw_aload_n C dX5_cut_43 rfl ?_
        refine aw_iload_n C dX5_cut_44 rfl ?_
        refine aw_iconst C dX5_cut_45 ?_
        refine aw_icmp_eq C dX5_cut_46 (tgt := 53) (by decide) ⟨by omega, by omega⟩ ⟨by omega, by omega⟩ (fun cz => ?_) (fun cz => ?_)
        · rw [if_pos cz] at E
          --go
          refine aw_iconst C dX5_cut_53 ?_
          refine aw_call1 C dX5_cut_54 lX5_251 vX5_keepIf (ki S r D3 (by first | exact Or.inl rfl | exact Or.inr rfl)) rfl rfl rfl ⟨rfl, by decide⟩ rfl ⟨by decide, by decide⟩ (Nat.le_of_ble_eq_true rfl) ?_
          first | rw [if_pos rfl] | rw [if_neg (by decide)]
          refine aw_if_eq C dX5_cut_57 (tgt := 64) (by decide) ⟨by omega, by omega⟩ (fun c4 => ?_) (fun c4 => ?_)
          · refine aw_iconst C dX5_cut_64 ?_
            exact aw_iret C E dX5_cut_65 rfl (by first | exact ⟨rfl, act_n S hg eg D3.w (by rw [wr_at, if_pos ⟨rfl, rfl⟩]) (by decide)⟩ | exact ⟨rfl, act_k S r D3 e11c (by omega) o3 cr.1.g⟩)
          · exfalso; omega
        · rw [if_neg cz] at E
          have o3 := w3 cz
          --go
          refine aw_iconst C dX5_cut_49 ?_
          refine aw_goto C dX5_cut_50 (tgt := 54) (by decide) ?_
          refine aw_call1 C dX5_cut_54 lX5_251 vX5_keepIf (ki S r D3 (by first | exact Or.inl rfl | exact Or.inr rfl)) rfl rfl rfl ⟨rfl, by decide⟩ rfl ⟨by decide, by decide⟩ (Nat.le_of_ble_eq_true rfl) ?_
          first | rw [if_pos rfl] | rw [if_neg (by decide)]
          refine aw_if_eq C dX5_cut_57 (tgt := 64) (by decide) ⟨by omega, by omega⟩ (fun c5 => ?_) (fun c5 => ?_)
          · exfalso; omega
          · refine aw_iload_n C dX5_cut_60 rfl ?_
            refine aw_goto C dX5_cut_61 (tgt := 65) (by decide) ?_
            exact aw_iret C E dX5_cut_65 rfl (by first | exact ⟨rfl, act_n S hg eg D3.w (by rw [wr_at, if_pos ⟨rfl, rfl⟩]) (by decide)⟩ | exact ⟨rfl, act_k S r D3 e11c (by omega) o3 cr.1.g⟩)
      · exfalso; omega
    · rw [if_pos (show ¬ (0 ≤ i ∧ i < (fv mu f).1) from q)] at E
      refine aw_putI C dX5_cut_14 fX5_62 ⟨rfl, by decide⟩ rfl rfl rfl ?_
      have hc : cE mu (wr mu 0 11 1) 1 := cE_w
      generalize wr mu 0 11 1 = m1 at *
      obtain ⟨e5, ev, hV1, en, el, e11⟩ := hc.all h
      have e6 : m1 0 6 = (g : Int) := ((hc.df (g := g)).c0 hg (by decide)).trans eg
      refine aw_aload_n C dX5_cut_17 rfl ?_
      refine aw_getI C dX5_cut_18 fX5_62 ⟨rfl, by decide⟩ rfl ?_
      rw [e11]
      refine aw_if_eq C dX5_cut_21 (tgt := 26) (by decide) ⟨by omega, by omega⟩ (fun c1 => ?_) (fun c1 => ?_)
      · exfalso; omega
      · refine aw_iconst C dX5_cut_24 ?_
        exact aw_iret C E dX5_cut_25 rfl ⟨rfl, act_n S hg eg hc.df e11 (by decide)⟩
  refine aw_aload_n C dX5_cut_0 rfl ?_
  refine aw_aload_n C dX5_cut_1 rfl ?_
  refine aw_iload_n C dX5_cut_2 rfl ?_
  refine aw_call1 C dX5_cut_3 lX5_126 vX5_hasRay (t_X5_hasRay h hi) rfl rfl rfl ⟨rfl, by decide⟩ rfl ⟨by decide, by decide⟩ (Nat.le_of_ble_eq_true rfl) ?_
  refine aw_if_eq C dX5_cut_6 (tgt := 13) (by decide) ⟨by omega, by omega⟩ (fun c1 => ?_) (fun c1 => ?_)
  · refine aw_iconst C dX5_cut_13 ?_
    first
    | exact fin 1 (Or.inr ⟨rfl, k2f (by omega)⟩)
    | exact fin 0 (Or.inl ⟨rfl, k2t (by omega)⟩)
  · refine aw_iconst C dX5_cut_9 ?_
    refine aw_goto C dX5_cut_10 (tgt := 14) (by decide) ?_
    first
    | exact fin 1 (Or.inr ⟨rfl, k2f (by omega)⟩)
    | exact fin 0 (Or.inl ⟨rfl, k2t (by omega)⟩)
theorem t_X5_cutAll {mu : Mem} {V : FV} {a : Int} {H : Nat → FV}  (S : cSt mu V a H) (hs : srt V) : Tr 5 mX5_cutAll [vr 0] mu (fun r m2 => r = some (vi (qCa V).1) ∧ actR mu m2 V a H (qCa V).2 (wCa V)) := by
  refine Tr.of (by decide +kernel) (Nat.le_of_ble_eq_true rfl) (fun K C E => ?_)
  obtain ⟨f, g, p, r, h, rfl⟩ := S.rn
  obtain ⟨⟨hf, ef⟩, ⟨hg, eg⟩, ⟨hp, ep⟩, fne⟩ := id r
  have hV := h.2.2.1
  have hn := hV.n
  have hl := hV.l
  have en0 : (fv mu f).1 = mu f 0 := rfl
  have el0 : (fv mu f).2.1 = mu f 1 := rfl
  unfold qCa at E
  have k2 := b01_01 (0 < mu f 0)
  have k2t : b01 (0 < mu f 0) = 1 → 0 < mu f 0 := b01_iff.mp
  have k2f : b01 (0 < mu f 0) = 0 → ¬ 0 < mu f 0 := b01_niff.mp
  have bad : 0 < mu f 0 → CR K (NC, 0, 0) mX5_cutAll (fun r m2 => r = some (vi (if (caP (fv mu f) (fv mu f).1.toNat 0 (fv mu f)).2 = -1 then ((-1 : Int), (3 : Int)) else ((caP (fv mu f) (fv mu f).1.toNat 0 (fv mu f)).1.1 - (fv mu f).1, 0)).1) ∧ actR mu m2 (fv mu f) a H (if (caP (fv mu f) (fv mu f).1.toNat 0 (fv mu f)).2 = -1 then ((-1 : Int), (3 : Int)) else ((caP (fv mu f) (fv mu f).1.toNat 0 (fv mu f)).1.1 - (fv mu f).1, 0)).2 (wCa (fv mu f))) → ∀ (i : Int) (X : FV) (m : Mem), dfr g mu m → 0 ≤ i → i + 1 ≤ 24 → (X, (-1 : Int)) = caP (fv mu f) (fv mu f).1.toNat 0 (fv mu f) → AW K mX5_cutAll (NC, 0, 0) 40 [vr 0, vi 0, vi (i + 1)] [] m := by
    intro q0 E i X m D i0 i1 q4
    rw [← q4, if_pos rfl] at E
    have e5c : m 0 5 = (f : Int) := (D.c0 hg (by decide)).trans ef
    have e6c : m 0 6 = (g : Int) := (D.c0 hg (by decide)).trans eg
    have evc : fv m f = fv mu f := D.fv hg hf fne
    have enc : m f 0 = mu f 0 := congrArg (fun z : FV => z.1) evc
    refine aw_iload_n C dX5_cutAll_40 rfl ?_
    refine aw_aload_n C dX5_cutAll_41 rfl ?_
    refine aw_getR C dX5_cutAll_42 fX5_43 ⟨rfl, by decide⟩ rfl e5c ?_
    refine aw_getI C dX5_cutAll_45 fX5_97 hf.s0 rfl ?_
    refine aw_icmp_ge C dX5_cutAll_48 (tgt := 76) (by decide) ⟨by omega, by omega⟩ ⟨by omega, by omega⟩ (fun c1 => ?_) (fun c1 => ?_)
    · refine aw_aload_n C dX5_cutAll_76 rfl ?_
      refine aw_getR C dX5_cutAll_77 fX5_47 ⟨rfl, by decide⟩ rfl e6c ?_
      refine aw_getI C dX5_cutAll_80 fX5_97 hg.s0 rfl ?_
      refine aw_aload_n C dX5_cutAll_83 rfl ?_
      refine aw_getR C dX5_cutAll_84 fX5_43 ⟨rfl, by decide⟩ rfl e5c ?_
      refine aw_getI C dX5_cutAll_87 fX5_97 hf.s0 rfl ?_
      refine aw_isub C dX5_cutAll_90 ?_
      refine aw_istore_n C dX5_cutAll_91 (by decide) ?_
      refine aw_aload_n C dX5_cutAll_92 rfl ?_
      refine aw_iload_n C dX5_cutAll_93 rfl ?_
      refine aw_call1 C dX5_cutAll_94 lX5_251 vX5_keepIf (ki S r D (Or.inl rfl)) rfl rfl rfl ⟨rfl, by decide⟩ rfl ⟨by decide, by decide⟩ (Nat.le_of_ble_eq_true rfl) ?_
      rw [if_pos rfl]
      refine aw_if_eq C dX5_cutAll_97 (tgt := 104) (by decide) ⟨by omega, by omega⟩ (fun c2 => ?_) (fun c2 => ?_)
      · refine aw_iconst C dX5_cutAll_104 ?_
        exact aw_iret C E dX5_cutAll_105 rfl ⟨rfl, act_n S hg eg D.w (by rw [wr_at, if_pos ⟨rfl, rfl⟩]) (by decide)⟩
      · exfalso; omega
    · refine aw_iload_n C dX5_cutAll_51 rfl ?_
      refine aw_if_eq C dX5_cutAll_52 (tgt := 76) (by decide) ⟨by omega, by omega⟩ (fun c3 => ?_) (fun c3 => ?_)
      · refine aw_aload_n C dX5_cutAll_76 rfl ?_
        refine aw_getR C dX5_cutAll_77 fX5_47 ⟨rfl, by decide⟩ rfl e6c ?_
        refine aw_getI C dX5_cutAll_80 fX5_97 hg.s0 rfl ?_
        refine aw_aload_n C dX5_cutAll_83 rfl ?_
        refine aw_getR C dX5_cutAll_84 fX5_43 ⟨rfl, by decide⟩ rfl e5c ?_
        refine aw_getI C dX5_cutAll_87 fX5_97 hf.s0 rfl ?_
        refine aw_isub C dX5_cutAll_90 ?_
        refine aw_istore_n C dX5_cutAll_91 (by decide) ?_
        refine aw_aload_n C dX5_cutAll_92 rfl ?_
        refine aw_iload_n C dX5_cutAll_93 rfl ?_
        refine aw_call1 C dX5_cutAll_94 lX5_251 vX5_keepIf (ki S r D (Or.inl rfl)) rfl rfl rfl ⟨rfl, by decide⟩ rfl ⟨by decide, by decide⟩ (Nat.le_of_ble_eq_true rfl) ?_
        rw [if_pos rfl]
        refine aw_if_eq C dX5_cutAll_97 (tgt := 104) (by decide) ⟨by omega, by omega⟩ (fun c4 => ?_) (fun c4 => ?_)
        · refine aw_iconst C dX5_cutAll_104 ?_
          exact aw_iret C E dX5_cutAll_105 rfl ⟨rfl, act_n S hg eg D.w (by rw [wr_at, if_pos ⟨rfl, rfl⟩]) (by decide)⟩
        · exfalso; omega
      · exfalso; omega
  have loop : 0 < mu f 0 → oV (fv mu f) → CR K (NC, 0, 0) mX5_cutAll (fun r m2 => r = some (vi (if (caP (fv mu f) (fv mu f).1.toNat 0 (fv mu f)).2 = -1 then ((-1 : Int), (3 : Int)) else ((caP (fv mu f) (fv mu f).1.toNat 0 (fv mu f)).1.1 - (fv mu f).1, 0)).1) ∧ actR mu m2 (fv mu f) a H (if (caP (fv mu f) (fv mu f).1.toNat 0 (fv mu f)).2 = -1 then ((-1 : Int), (3 : Int)) else ((caP (fv mu f) (fv mu f).1.toNat 0 (fv mu f)).1.1 - (fv mu f).1, 0)).2 (wCa (fv mu f))) → ∀ (k : Nat) (i : Int) (X : FV) (m : Mem), 0 ≤ i → i + k = mu f 0 → CA (fv mu f) i X → dfr g mu m → m 0 11 = 0 → fv m g = X → caP (fv mu f) k i X = caP (fv mu f) (fv mu f).1.toNat 0 (fv mu f) → AW K mX5_cutAll (NC, 0, 0) 40 [vr 0, vi 1, vi i] [] m := by
    intro q0 ho E k
    induction k with
    | zero =>
      intro i X m q1 q2 q3 D e11 y1 q4
      have q4 : (X, (0 : Int)) = caP (fv mu f) (fv mu f).1.toNat 0 (fv mu f) := q4
      unfold wCa at E
      rw [← q4, if_neg (show ¬ (0 : Int) = -1 by decide)] at E
      have e5c : m 0 5 = (f : Int) := (D.c0 hg (by decide)).trans ef
      have e6c : m 0 6 = (g : Int) := (D.c0 hg (by decide)).trans eg
      have evc : fv m f = fv mu f := D.fv hg hf fne
      have enc : m f 0 = mu f 0 := congrArg (fun z : FV => z.1) evc
      have eng : m g 0 = X.1 := congrArg (fun z : FV => z.1) y1
      refine aw_iload_n C dX5_cutAll_40 rfl ?_
      refine aw_aload_n C dX5_cutAll_41 rfl ?_
      refine aw_getR C dX5_cutAll_42 fX5_43 ⟨rfl, by decide⟩ rfl e5c ?_
      refine aw_getI C dX5_cutAll_45 fX5_97 hf.s0 rfl ?_
      refine aw_icmp_ge C dX5_cutAll_48 (tgt := 76) (by decide) ⟨by omega, by omega⟩ ⟨by omega, by omega⟩ (fun c1 => ?_) (fun c1 => ?_)
      · refine aw_aload_n C dX5_cutAll_76 rfl ?_
        refine aw_getR C dX5_cutAll_77 fX5_47 ⟨rfl, by decide⟩ rfl e6c ?_
        refine aw_getI C dX5_cutAll_80 fX5_97 hg.s0 rfl ?_
        rw [eng]
        refine aw_aload_n C dX5_cutAll_83 rfl ?_
        refine aw_getR C dX5_cutAll_84 fX5_43 ⟨rfl, by decide⟩ rfl e5c ?_
        refine aw_getI C dX5_cutAll_87 fX5_97 hf.s0 rfl ?_
        rw [enc]
        refine aw_isub C dX5_cutAll_90 ?_
        refine aw_istore_n C dX5_cutAll_91 (by decide) ?_
        refine aw_aload_n C dX5_cutAll_92 rfl ?_
        refine aw_iload_n C dX5_cutAll_93 rfl ?_
        refine aw_call1 C dX5_cutAll_94 lX5_251 vX5_keepIf (ki S r D (Or.inr rfl)) rfl rfl rfl ⟨rfl, by decide⟩ rfl ⟨by decide, by decide⟩ (Nat.le_of_ble_eq_true rfl) ?_
        rw [if_neg (by decide)]
        refine aw_if_eq C dX5_cutAll_97 (tgt := 104) (by decide) ⟨by omega, by omega⟩ (fun c2 => ?_) (fun c2 => ?_)
        · exfalso; omega
        · refine aw_iload_n C dX5_cutAll_100 rfl ?_
          refine aw_goto C dX5_cutAll_101 (tgt := 105) (by decide) ?_
          exact aw_iret C E dX5_cutAll_105 rfl ⟨rfl, act_k S r D e11 q0 y1 q3.1.g⟩
      · exfalso; omega
    | succ k ih =>
      intro i X m q1 q2 q3 D e11 y1 q4
      have e : caP (fv mu f) (k + 1) i X = if (cutV (fv mu f) i X).2 = -1 then (X, -1) else caP (fv mu f) k (i + 1) (cutV (fv mu f) i X).1 := rfl
      rw [e] at q4
      have e5c : m 0 5 = (f : Int) := (D.c0 hg (by decide)).trans ef
      have e6c : m 0 6 = (g : Int) := (D.c0 hg (by decide)).trans eg
      have evc : fv m f = fv mu f := D.fv hg hf fne
      have enc : m f 0 = mu f 0 := congrArg (fun z : FV => z.1) evc
      have hi2 : i < (fv mu f).1 := by omega
      have cr := cutV_r hV ho.2.1 ho.2.2.1 q3.1 q3.2.1 q1 hi2 (q3.2.2 i (by omega) hi2)
      have st := q3.step ho q1 hi2
      refine aw_iload_n C dX5_cutAll_40 rfl ?_
      refine aw_aload_n C dX5_cutAll_41 rfl ?_
      refine aw_getR C dX5_cutAll_42 fX5_43 ⟨rfl, by decide⟩ rfl e5c ?_
      refine aw_getI C dX5_cutAll_45 fX5_97 hf.s0 rfl ?_
      refine aw_icmp_ge C dX5_cutAll_48 (tgt := 76) (by decide) ⟨by omega, by omega⟩ ⟨by omega, by omega⟩ (fun c1 => ?_) (fun c1 => ?_)
      · exfalso; omega
      · refine aw_iload_n C dX5_cutAll_51 rfl ?_
        refine aw_if_eq C dX5_cutAll_52 (tgt := 76) (by decide) ⟨by omega, by omega⟩ (fun c2 => ?_) (fun c2 => ?_)
        · exfalso; omega
        · refine aw_aload_n C dX5_cutAll_55 rfl ?_
          refine aw_iload_n C dX5_cutAll_56 rfl ?_
          refine aw_call C dX5_cutAll_57 lX5_265 vX5_cutInDraft (t_X5_cutInDraft hf hg fne e5c e6c evc y1 hV ho.2.1 ho.2.2.1 q3.1 q3.2.1 q1 hi2 (q3.2.2 i (by omega) hi2)) rfl rfl rfl ⟨rfl, by decide⟩ rfl ⟨by decide, by decide⟩ (Nat.le_of_ble_eq_true rfl) (fun r3 mu3 hq3 => ?_)
          obtain ⟨rfl, w1, w3⟩ := hq3
          have D3 : dfr g mu mu3 := ctf.df D w1
          have e11c : mu3 0 11 = 0 := (ctf.e11 hg w1 11).trans e11
          have c24 : (cutV (fv mu f) i X).2 ≤ 24 := cutV_24 _ _ _
          generalize mu3 = m3 at *
          show AW _ _ _ _ _ (vi (cutV (fv mu f) i X).2 :: []) _
          refine aw_iconst C dX5_cutAll_60 ?_
          refine aw_icmp_eq C dX5_cutAll_61 (tgt := 68) (by decide) ⟨by omega, by omega⟩ ⟨by omega, by omega⟩ (fun cz => ?_) (fun cz => ?_)
          · --go
            refine aw_iconst C dX5_cutAll_68 ?_
            refine aw_istore_n C dX5_cutAll_69 (by decide) ?_
            refine aw_iinc C dX5_cutAll_70 rfl ?_
            refine aw_goto C dX5_cutAll_73 (tgt := 40) (by decide) ?_
            exact bad q0 E i X m3 D3 (by omega) (by omega) (by rw [if_pos cz] at q4; exact q4)
          · --go
            refine aw_iconst C dX5_cutAll_64 ?_
            refine aw_goto C dX5_cutAll_65 (tgt := 69) (by decide) ?_
            refine aw_istore_n C dX5_cutAll_69 (by decide) ?_
            refine aw_iinc C dX5_cutAll_70 rfl ?_
            refine aw_goto C dX5_cutAll_73 (tgt := 40) (by decide) ?_
            exact ih (i + 1) _ m3 (by omega) (by omega) st D3 e11c (w3 cz) (by rw [if_neg cz] at q4; exact q4)
  have fin : ∀ {v90 v91 : Vv} (c : Int), (c = 0 ∧ 0 < mu f 0) ∨ (c = 1 ∧ ¬ 0 < mu f 0) → AW K mX5_cutAll (NC, 0, 0) 13 [vr 0, v90, v91] [vi c, vr 0] mu := by
    rintro v90 v91 c (⟨rfl, q⟩ | ⟨rfl, q⟩)
    · rw [if_neg (show ¬ ¬ 0 < (fv mu f).1 from fun z => z q)] at E
      have cl := h.2.2.cl (Or.inl (show 0 < (fv mu f).1 by omega))
      have ho : oV (fv mu f) := ⟨hV, cl.1, cl.2, hs⟩
      refine aw_putI C dX5_cutAll_13 fX5_62 ⟨rfl, by decide⟩ rfl rfl rfl ?_
      have hc : cE mu (wr mu 0 11 0) 0 := cE_w
      generalize wr mu 0 11 0 = m1 at *
      obtain ⟨e5, ev, hV1, en, el, e11⟩ := hc.all h
      have e6 : m1 0 6 = (g : Int) := ((hc.df (g := g)).c0 hg (by decide)).trans eg
      refine aw_aload_n C dX5_cutAll_16 rfl ?_
      refine aw_getI C dX5_cutAll_17 fX5_62 ⟨rfl, by decide⟩ rfl ?_
      rw [e11]
      refine aw_if_eq C dX5_cutAll_20 (tgt := 25) (by decide) ⟨by omega, by omega⟩ (fun c1 => ?_) (fun c1 => ?_)
      · refine aw_aload_n C dX5_cutAll_25 rfl ?_
        refine aw_getR C dX5_cutAll_26 fX5_47 ⟨rfl, by decide⟩ rfl e6 ?_
        refine aw_aload_n C dX5_cutAll_29 rfl ?_
        refine aw_getR C dX5_cutAll_30 fX5_43 ⟨rfl, by decide⟩ rfl e5 ?_
        refine aw_call C dX5_cutAll_33 lX5_234 vX1_copyFrom (t_X1_copyFrom hg hf (fun w => fne w.symm) (by omega) (by omega)) rfl rfl rfl hg.s0 rfl ⟨by decide, by decide⟩ (Nat.le_of_ble_eq_true rfl) (fun r2 mu2 hq2 => ?_)
        obtain ⟨rfl, y1, y2⟩ := hq2
        have D2 : dfr g mu mu2 := (hc.df (g := g)).m y2
        have e5b : mu2 0 5 = (f : Int) := (D2.c0 hg (by decide)).trans ef
        have e6b : mu2 0 6 = (g : Int) := (D2.c0 hg (by decide)).trans eg
        have e11b : mu2 0 11 = 0 := by have := hg.ge; rw [y2 0 (by unfold fanS; omega)]; exact e11
        have n2 : mu2 g 0 = mu f 0 := by rw [ev] at y1; exact congrArg (fun z : FV => z.1) y1
        have l2 : mu2 g 1 = mu f 1 := by rw [ev] at y1; exact congrArg (fun z : FV => z.2.1) y1
        rw [ev] at y1
        have hVg : bV (fv mu2 g) := by rw [y1]; exact hV
        have evb : fv mu2 f = fv mu f := D2.fv hg hf fne
        have hVf : bV (fv mu2 f) := by rw [evb]; exact hV
        have n2f : mu2 f 0 = mu f 0 := congrArg (fun z : FV => z.1) evb
        have l2f : mu2 f 1 = mu f 1 := congrArg (fun z : FV => z.2.1) evb
        generalize mu2 = m2 at *
        show AW _ _ _ _ _ [] _
        refine aw_iconst C dX5_cutAll_36 ?_
        refine aw_istore_n C dX5_cutAll_37 (by decide) ?_
        refine aw_iconst C dX5_cutAll_38 ?_
        refine aw_istore_n C dX5_cutAll_39 (by decide) ?_
        exact loop q ho E (mu f 0).toNat 0 (fv mu f) m2 (by omega) (by omega) (CA.start ho) D2 e11b y1 rfl
      · exfalso; omega
    · rw [if_pos (show ¬ 0 < (fv mu f).1 from q)] at E
      refine aw_putI C dX5_cutAll_13 fX5_62 ⟨rfl, by decide⟩ rfl rfl rfl ?_
      have hc : cE mu (wr mu 0 11 1) 1 := cE_w
      generalize wr mu 0 11 1 = m1 at *
      obtain ⟨e5, ev, hV1, en, el, e11⟩ := hc.all h
      have e6 : m1 0 6 = (g : Int) := ((hc.df (g := g)).c0 hg (by decide)).trans eg
      refine aw_aload_n C dX5_cutAll_16 rfl ?_
      refine aw_getI C dX5_cutAll_17 fX5_62 ⟨rfl, by decide⟩ rfl ?_
      rw [e11]
      refine aw_if_eq C dX5_cutAll_20 (tgt := 25) (by decide) ⟨by omega, by omega⟩ (fun c1 => ?_) (fun c1 => ?_)
      · exfalso; omega
      · refine aw_iconst C dX5_cutAll_23 ?_
        exact aw_iret C E dX5_cutAll_24 rfl ⟨rfl, act_n S hg eg hc.df e11 (by decide)⟩
  refine aw_aload_n C dX5_cutAll_0 rfl ?_
  refine aw_aload_n C dX5_cutAll_1 rfl ?_
  refine aw_call1 C dX5_cutAll_2 lX5_100 vX5_isThere (t_X5_isThere h) rfl rfl rfl ⟨rfl, by decide⟩ rfl ⟨by decide, by decide⟩ (Nat.le_of_ble_eq_true rfl) ?_
  refine aw_if_eq C dX5_cutAll_5 (tgt := 12) (by decide) ⟨by omega, by omega⟩ (fun c1 => ?_) (fun c1 => ?_)
  · refine aw_iconst C dX5_cutAll_12 ?_
    first
    | exact fin 1 (Or.inr ⟨rfl, k2f (by omega)⟩)
    | exact fin 0 (Or.inl ⟨rfl, k2t (by omega)⟩)
  · refine aw_iconst C dX5_cutAll_8 ?_
    refine aw_goto C dX5_cutAll_9 (tgt := 13) (by decide) ?_
    first
    | exact fin 1 (Or.inr ⟨rfl, k2f (by omega)⟩)
    | exact fin 0 (Or.inl ⟨rfl, k2t (by omega)⟩)

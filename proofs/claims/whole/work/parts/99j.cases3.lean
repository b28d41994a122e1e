section LawCases
variable {K : KT} {c9 s9 b Ln : Nat} {xs : Nat → Int32} {i : Int} {v5 v6 : Vv} {mu : Mem} {V : FV} {a : Int} {H : Nat → FV}
theorem lc_feed (C : CX K (NC, c9, s9) mL_law 15) (hc : Lc K b Ln xs i) (I : Iv mu V a H) (kk : Kon K c9 s9 b i) : AW K mL_law (NC, c9, s9) 196 (LL b i v5 v6) [] mu := by
  obtain ⟨hX, hL, i0, i1⟩ := hc
  refine aw_aload_n C dL_law_196 rfl ?_
  refine aw_arg C hX hL rfl rfl i0 i1 (by decide) (by decide) dL_law_197 dL_law_198 dL_law_200 dL_law_201 dL_law_202 ?_
  refine aw_arg C hX hL rfl rfl i0 i1 (by decide) (by decide) dL_law_203 dL_law_204 dL_law_206 dL_law_207 dL_law_208 ?_
  refine aw_arg C hX hL rfl rfl i0 i1 (by decide) (by decide) dL_law_209 dL_law_210 dL_law_212 dL_law_213 dL_law_214 ?_
  refine aw_arg C hX hL rfl rfl i0 i1 (by decide) (by decide) dL_law_215 dL_law_216 dL_law_218 dL_law_219 dL_law_220 ?_
  refine aw_arg C hX hL rfl rfl i0 i1 (by decide) (by decide) dL_law_221 dL_law_222 dL_law_224 dL_law_225 dL_law_226 ?_
  have u6 := I.2.2.2.2.2.1
  obtain ⟨u, hu⟩ : ∃ u, mu 1 4 = u := ⟨_, rfl⟩
  refine aw_call1 C dL_law_227 lL_19 vX5_feed (t_X5_feed hu ⟨by omega, by omega⟩ (r32i _) (r32i _) (r32i _) (r32i _) (r32i _)) rfl rfl rfl ⟨rfl, lt77_0⟩ rfl ⟨by decide, by decide⟩ (Nat.le_of_ble_eq_true rfl) ?_
  have hm : (if u + 20 ≤ 500 then apF mu u (xs (i + 1).toNat).toInt (xs (i + 2).toNat).toInt (xs (i + 3).toNat).toInt (xs (i + 4).toNat).toInt (xs (i + 5).toNat).toInt else mu) 55 4 = u := by
    split
    · unfold apF
      rw [if_neg (by omega), if_neg (by omega)]; omega
    · omega
  refine aw_aload_n C dL_law_230 rfl ?_
  refine aw_arg C hX hL rfl rfl i0 i1 (by decide) (by decide) dL_law_231 dL_law_232 dL_law_234 dL_law_235 dL_law_236 ?_
  refine aw_arg C hX hL rfl rfl i0 i1 (by decide) (by decide) dL_law_237 dL_law_238 dL_law_240 dL_law_241 dL_law_242 ?_
  refine aw_arg C hX hL rfl rfl i0 i1 (by decide) (by decide) dL_law_243 dL_law_244 dL_law_246 dL_law_247 dL_law_248 ?_
  refine aw_arg C hX hL rfl rfl i0 i1 (by decide) (by decide) dL_law_249 dL_law_250 dL_law_252 dL_law_253 dL_law_254 ?_
  refine aw_arg C hX hL rfl rfl i0 i1 (by decide) (by decide) dL_law_255 dL_law_256 dL_law_258 dL_law_259 dL_law_260 ?_
  refine aw_call1 C dL_law_261 lL_23 vX6_feed (t_X6_feed hm ⟨by omega, by omega⟩ (r32i _) (r32i _) (r32i _) (r32i _) (r32i _)) rfl rfl rfl ⟨rfl, lt77_55⟩ rfl ⟨by decide, by decide⟩ (Nat.le_of_ble_eq_true rfl) ?_
  refine aw_icmp_self C dL_law_264 (tgt := 1453) (by decide) ?_
  by_cases h : u + 20 ≤ 500
  · rw [if_pos h, if_pos h]
    exact kk _ _ _ _ _ _ (I.fd hu h)
  · rw [if_neg h, if_neg h]
    exact kk _ _ _ _ _ _ I.t
theorem lc_fan (C : CX K (NC, c9, s9) mL_law 15) (hc : Lc K b Ln xs i) (hXS : XK K) (I : Iv mu V a H) (kk : Kon K c9 s9 b i) : AW K mL_law (NC, c9, s9) 269 (LL b i v5 v6) [] mu := by
  obtain ⟨hX, hL, i0, i1⟩ := hc
  refine aw_aload_n C dL_law_269 rfl ?_
  refine aw_arg C hX hL rfl rfl i0 i1 (by decide) (by decide) dL_law_270 dL_law_271 dL_law_273 dL_law_274 dL_law_275 ?_
  have u6 := I.2.2.2.2.2.1
  have u5 := I.2.2.2.2.1
  refine aw_call C dL_law_276 lL_24 vX5_fan (t_X5_fan I.1 (r32i _) ⟨by omega, by omega⟩ (fun j _ => by have w := u5 j; rw [w.1]; unfold sby; split <;> omega)) rfl rfl rfl ⟨rfl, lt77_0⟩ rfl ⟨by decide, by decide⟩ (Nat.le_of_ble_eq_true rfl) (fun r m1 hq => ?_)
  have fm := fnP_m hq
  have S1 : mSt m1 V a H := mSt_fr I.2.1 (fun x y w => fm x y (by unfold kpM2 at w; omega))
  have nb : nbM m1 := by unfold nbM; rw [fm 55 12 (by omega), fm 55 9 (by omega)]; exact I.2.2.2.2.2.2.2.2.2.2
  have fx := fun (r2 : Option Vv) (m2 : Mem) (h2 : mfP m1 m2 V a H (mu 6) (xs (i + 1).toNat).toInt r2) => I.fn hq h2
  obtain ⟨x, rfl⟩ : ∃ x, r = some (vi x) := by
    rcases hq with ⟨-, h, -⟩ | ⟨-, -, -, -, -, -, -, ⟨-, h, -⟩ | ⟨-, h, -⟩⟩
    · exact ⟨_, h⟩
    · exact ⟨_, h⟩
    · exact ⟨_, h⟩
  refine aw_aload_n C dL_law_279 rfl ?_
  refine aw_arg C hX hL rfl rfl i0 i1 (by decide) (by decide) dL_law_280 dL_law_281 dL_law_283 dL_law_284 dL_law_285 ?_
  refine aw_callX C hXS dL_law_286 lL_28 vX6_fan (t_X6_fan (A := mu 6) S1 (r32i _) ⟨by rw [fm 55 4 (by omega)]; omega, by rw [fm 55 4 (by omega)]; omega⟩ (fun j => by rw [fm 56 j (by omega)]; exact (u5 j).1) (fun j => by rw [fm 56 j (by omega)]; exact (u5 j).2) nb) rfl rfl rfl rfl ⟨rfl, lt77_55⟩ rfl ⟨by decide, by decide⟩ (Nat.le_of_ble_eq_true rfl) (fun r m2 h2 => ?_)
  obtain ⟨rfl, -, V2, a2, H2, I2⟩ := fx r m2 h2
  refine aw_icmp_self C dL_law_289 (tgt := 1453) (by decide) ?_
  exact kk _ _ _ _ _ _ I2
theorem ltH {m : Mem} {f : Nat} {j k : Int} (I : Iv mu V a H) (eV : fv mu f = V) (hm : ∀ d, m 59 d = mu 59 d) : ltP mu f j k ↔ hasLt m V j k := by
  have e1 : mu f 1 = V.2.1 := by rw [← eV]; rfl
  unfold ltP hasLt
  rw [e1, hm]
  constructor
  · intro ⟨w1, w2⟩
    rw [(I.2.2.2.2.2.2.1 j.toNat (by omega)).1] at w2
    exact ⟨w1, w2⟩
  · intro ⟨w1, w2⟩
    rw [← (I.2.2.2.2.2.2.1 j.toNat (by omega)).1] at w2
    exact ⟨w1, w2⟩
theorem lc_letter (C : CX K (NC, c9, s9) mL_law 15) (hT : TQ K) (hrm : c9 + 1 ≤ (KR K).cells ∧ s9 + 6 ≤ (KR K).slots) (hc : Lc K b Ln xs i) (I : Iv mu V a H) (kk : Kon K (c9 + 1) (s9 + 6) b i) : AW K mL_law (NC, c9, s9) 1359 (LL b i v5 v6) [] mu := by
  obtain ⟨hX, hL, i0, i1⟩ := hc
  obtain ⟨f, hF, eV⟩ := I.1.f
  have nl := I.2.2.2.2.2.2.1
  have e1 : mu f 1 = V.2.1 := by rw [← eV]; rfl
  refine aw_aload_n C dL_law_1359 rfl ?_
  refine aw_arg C hX hL rfl rfl i0 i1 (by decide) (by decide) dL_law_1360 dL_law_1361 dL_law_1363 dL_law_1364 dL_law_1365 ?_
  refine aw_arg C hX hL rfl rfl i0 i1 (by decide) (by decide) dL_law_1366 dL_law_1367 dL_law_1369 dL_law_1370 dL_law_1371 ?_
  refine aw_aload_n C dL_law_1372 rfl ?_
  refine aw_callL C hT rfl dL_law_1373 (t_L_letter hF (r32i _) (r32i _) (fun d hd => by have w := nl d (by omega); rw [w.1]; exact w.2)) rfl rfl ⟨by decide, by decide⟩ (Nat.le_of_ble_eq_true rfl) hrm (fun r m1 hq => ?_)
  have C := C.up (w2 := (NC, c9 + 1, s9 + 6)) hrm
  obtain ⟨R, rfl, hR⟩ : ∃ R : Int, r = some (vi R) ∧ ((ltP mu f (xs (i + 1).toNat).toInt (xs (i + 2).toNat).toInt ∧ R = 0 ∧ m1 = wr mu 76 0 (letW (mu 13 (xs (i + 1).toNat).toInt.toNat).toNat (xs (i + 2).toNat).toInt.toNat)) ∨ (¬ ltP mu f (xs (i + 1).toNat).toInt (xs (i + 2).toNat).toInt ∧ R = 1 ∧ m1 = mu)) := by
    rcases hq with ⟨h1, h2, h3⟩ | ⟨h1, h2, h3⟩
    · exact ⟨0, h2, Or.inl ⟨h1, rfl, h3⟩⟩
    · exact ⟨1, h2, Or.inr ⟨h1, rfl, h3⟩⟩
  have fm : ∀ x y, x ≠ 76 → m1 x y = mu x y := fun x y w => by
    rcases hR with ⟨-, -, rfl⟩ | ⟨-, -, rfl⟩
    · rw [wr_at, if_neg (by omega)]
    · rfl
  have S1 : mSt m1 V a H := mSt_fr I.2.1 (fun x y w => fm x y (by unfold kpM2 at w; omega))
  have eq := ltH (j := (xs (i + 1).toNat).toInt) (k := (xs (i + 2).toNat).toInt) I eV (fun d => fm 59 d (by omega))
  have rR : R32 R := by rcases hR with ⟨-, rfl, -⟩ | ⟨-, rfl, -⟩ <;> (unfold R32; omega)
  refine aw_istore C dL_law_1376 (by decide) ?_
  refine aw_aload_n C dL_law_1378 rfl ?_
  refine aw_arg C hX hL rfl rfl i0 i1 (by decide) (by decide) dL_law_1379 dL_law_1380 dL_law_1382 dL_law_1383 dL_law_1384 ?_
  refine aw_arg C hX hL rfl rfl i0 i1 (by decide) (by decide) dL_law_1385 dL_law_1386 dL_law_1388 dL_law_1389 dL_law_1390 ?_
  refine aw_call C dL_law_1391 lL_164 vX6_letter (t_X6_letter S1.1 (r32i _) (r32i _) (fun d hd => by rw [fm 59 d (by omega)]; exact (nl d hd).2)) rfl rfl rfl ⟨rfl, lt77_55⟩ rfl ⟨by decide, by decide⟩ (Nat.le_of_ble_eq_true rfl) (fun r m2 hq => ?_)
  obtain ⟨Z, rfl, rZ, hZ⟩ : ∃ Z : Int, r = some (vi Z) ∧ R32 Z ∧ ((hasLt m1 V (xs (i + 1).toNat).toInt (xs (i + 2).toNat).toInt ∧ Z = letW (m1 59 (xs (i + 1).toNat).toInt.toNat).toNat (xs (i + 2).toNat).toInt.toNat ∧ m2 = wr m1 55 0 0) ∨ (¬ hasLt m1 V (xs (i + 1).toNat).toInt (xs (i + 2).toNat).toInt ∧ m2 = wr (wr m1 55 0 0) 55 0 1)) := by
    rcases hq with ⟨h1, h2, h3⟩ | ⟨h1, h2, h3⟩
    · exact ⟨_, h2, letW_r _ _, Or.inl ⟨h1, rfl, h3⟩⟩
    · exact ⟨0, h2, by unfold R32; omega, Or.inr ⟨h1, h3⟩⟩
  have e0 : m2 55 0 = R := by
    rcases hZ with ⟨z1, z2, rfl⟩ | ⟨z1, rfl⟩
    · rcases hR with ⟨w1, w2, w3⟩ | ⟨w1, w2, w3⟩
      · rw [w2, wr_at, if_pos ⟨rfl, rfl⟩]
      · exact absurd (eq.mpr z1) w1
    · rcases hR with ⟨w1, w2, w3⟩ | ⟨w1, w2, w3⟩
      · exact absurd (eq.mp w1) z1
      · rw [w2, wr_at, if_pos ⟨rfl, rfl⟩]
  have I2 : Iv m2 V a H := I.fr (fun x y w => by
    have w5 : ¬ (x = 55 ∧ y = 0) ∧ x ≠ 76 := by unfold Ik at w; omega
    rw [← fm x y w5.2]
    rcases hZ with ⟨-, -, rfl⟩ | ⟨-, rfl⟩
    · rw [wr_at, if_neg w5.1]
    · rw [wr_at, if_neg w5.1, wr_at, if_neg w5.1])
  refine aw_istore C dL_law_1394 (by decide) ?_
  refine aw_aload_n C dL_law_1396 rfl ?_
  refine aw_call1 C dL_law_1397 lL_165 vX6_thrown t_X6_thrown rfl rfl rfl ⟨rfl, lt77_55⟩ rfl ⟨by decide, by decide⟩ (Nat.le_of_ble_eq_true rfl) ?_
  rw [e0]
  refine aw_iload C dL_law_1400 rfl ?_
  refine aw_icmp_self C dL_law_1402 (tgt := 1407) (by decide) ?_
  refine aw_iload C dL_law_1407 rfl ?_
  have fin : AW K mL_law (NC, c9 + 1, s9 + 6) 1424 (LL b i (vi R) (vi Z)) [] m2 := by
    refine aw_goto C dL_law_1424 (tgt := 1453) (by decide) ?_
    exact kk _ _ _ _ _ _ I2
  refine aw_if_ne C dL_law_1409 (tgt := 1424) (by decide) rR (fun _ => fin) (fun h0 => ?_)
  rcases hR with ⟨w1, w2, w3⟩ | ⟨w1, w2, w3⟩
  · have e76 : m2 76 0 = Z := by
      rcases hZ with ⟨z1, z2, rfl⟩ | ⟨z1, rfl⟩
      · rw [wr_at, if_neg (by omega), w3, wr_at, if_pos ⟨rfl, rfl⟩, z2, fm 59 _ (by omega), (nl (xs (i + 1).toNat).toInt.toNat (by have := w1.1; omega)).1]
      · exact absurd (eq.mp w1) z1
    refine aw_aload_n C dL_law_1412 rfl ?_
    refine aw_iconst C dL_law_1413 ?_
    refine aw_lald (k := 76) (len := 1) C dL_law_1414 ⟨rfl, show 76 < 77 by decide⟩ (by decide) (by decide) (by decide) ?_
    rw [show (0 : Int).toNat = 0 from rfl, e76]
    refine aw_iload C dL_law_1415 rfl ?_
    refine aw_i2l C dL_law_1417 rZ ?_
    exact aw_lcmp_self C dL_law_1418 dL_law_1419 (tgt := 1424) (by decide) fin
  · omega
end LawCases

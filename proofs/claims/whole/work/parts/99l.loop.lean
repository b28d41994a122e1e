/-! the law's loop -/
section LawLoop
variable {K : KT} {b Ln : Nat} {xs : Nat → Int32}
theorem Kon.w {c9 s9 c8 s8 : Nat} {i : Int} (h1 : c9 ≤ c8) (h2 : s9 ≤ s8) (kk : Kon K c8 s8 b i) : Kon K c9 s9 b i := fun v5 v6 m V a H I => aw_widen h1 h2 (kk v5 v6 m V a H I)
theorem lc_all {c9 s9 : Nat} {i : Int} {v5 v6 : Vv} {mu : Mem} {V : FV} {a : Int} {H : Nat → FV} (C : CX K (NC, c9, s9) mL_law 15) (hXS : XK K) (hT : TQ K) (hrm : c9 + 1 ≤ (KR K).cells ∧ s9 + 6 ≤ (KR K).slots) (hc : Lc K b Ln xs i) (I : Iv mu V a H) (kk : Kon K (c9 + 1) (s9 + 6) b i) {op : Int} (ho : R32 op) : AW K mL_law (NC, c9, s9) 40 (LL b i v5 v6) [vi op] mu := by
  have k0 : Kon K c9 s9 b i := kk.w (by omega) (by omega)
  refine aw_tsw C [196, 269, 294, 307, 320, 345, 358, 396, 433, 470, 508, 570, 620, 645, 670, 707, 745, 783, 821, 859, 897, 991, 1060, 1110, 1147, 1196, 1245, 1270, 1295, 1308, 1333, 1346, 1359, 1427, 1440] dL_law_40 ho (by decide) (by decide) (tgt := 1453) (by decide) ⟨fun _ => lc_feed C hc I k0, fun _ => lc_fan C hc hXS I k0, fun _ => lc_fault C hc I k0, fun _ => lc_where C hc I k0, fun _ => lc_about C hc I k0, fun _ => lc_measure C hc I k0, fun _ => lc_ray C hc I k0, fun _ => lc_chain C hc I k0, fun _ => lc_cone C hc I k0, fun _ => lc_load C hc I k0, fun _ => lc_function C hc I k0, fun _ => lc_piece C hc I k0, fun _ => lc_broken C hc I k0, fun _ => lc_bent C hc I k0, fun _ => lc_alike C hc I k0, fun _ => lc_meets C hc I k0, fun _ => lc_touches C hc I k0, fun _ => lc_rays C hc I k0, fun _ => lc_points C hc I k0, fun _ => lc_inner C hc I k0, fun _ => lc_point C hc I k0, fun _ => lc_needs C hc I k0, fun _ => lc_set C hc I k0, fun _ => lc_fill C hc I k0, fun _ => lc_adds C hc I k0, fun _ => lc_shifts C hc I k0, fun _ => lc_star C hc I k0, fun _ => lc_cut C hc I k0, fun _ => lc_cutAll C hc I k0, fun _ => lc_drop C hc I k0, fun _ => lc_lean C hc I k0, fun _ => lc_undo C hc I k0, fun _ => lc_letter C hT hrm hc I kk, fun _ => lc_size C hc I k0, fun _ => lc_trouble C hc I k0, trivial⟩ (fun _ => k0 _ _ _ _ _ _ I)
/-- the law's end is reached from every turn -/
theorem lc_loop (hX : KX K b Ln xs) (hL : Ln ≤ 3072) (hXS : XK K) (hT : TQ K) (hR : (KR K).cells = 601024 ∧ (KR K).slots = 7293034) (C0 : CX K (NC, 0, 0) mL_law 15)
    (fin : ∀ (w2 w3 : Nat) (L : List Vv) (mu : Mem), w2 ≤ 601024 → w3 ≤ 7293034 → AW K mL_law (NC, w2, w3) 1460 L [vi 1] mu) :
    ∀ (n t : Nat) (v5 v6 : Vv) (mu : Mem) (V : FV) (a : Int) (H : Nat → FV), n + t = 513 → Iv mu V a H → AW K mL_law (NC, 77 + t, 5415 + 6 * t) 23 (LL b (6 * (t : Int)) v5 v6) [] mu := by
  intro n
  induction n with
  | zero =>
    intro t v5 v6 mu V a H e I
    have C := C0.up (w2 := (NC, 77 + t, 5415 + 6 * t)) ⟨by rw [hR.1]; show 77 + t ≤ 601024; omega, by rw [hR.2]; show 5415 + 6 * t ≤ 7293034; omega⟩
    refine aw_iload C dL_law_23 rfl ?_
    refine aw_qload_n C dL_law_25 rfl ?_
    refine aw_scrlen C hX dL_law_26 ?_
    refine aw_bipush C dL_law_27 (by decide) ?_
    refine aw_isub C dL_law_29 ?_
    refine aw_icmp_gt C dL_law_30 (tgt := 1459) (by decide) (by unfold R32; omega) (by unfold R32; omega) (fun c1 => ?_) (fun c1 => ?_)
    · refine aw_iconst C dL_law_1459 ?_
      exact fin _ _ _ _ (by omega) (by omega)
    · exfalso; omega
  | succ n ih =>
    intro t v5 v6 mu V a H e I
    have C := C0.up (w2 := (NC, 77 + t, 5415 + 6 * t)) ⟨by rw [hR.1]; show 77 + t ≤ 601024; omega, by rw [hR.2]; show 5415 + 6 * t ≤ 7293034; omega⟩
    refine aw_iload C dL_law_23 rfl ?_
    refine aw_qload_n C dL_law_25 rfl ?_
    refine aw_scrlen C hX dL_law_26 ?_
    refine aw_bipush C dL_law_27 (by decide) ?_
    refine aw_isub C dL_law_29 ?_
    refine aw_icmp_gt C dL_law_30 (tgt := 1459) (by decide) (by unfold R32; omega) (by unfold R32; omega) (fun c1 => ?_) (fun c1 => ?_)
    · refine aw_iconst C dL_law_1459 ?_
      exact fin _ _ _ _ (by omega) (by omega)
    · refine aw_qload_n C dL_law_33 rfl ?_
      refine aw_iload C dL_law_34 rfl ?_
      refine aw_scrld C hX dL_law_36 (by omega) (by omega) hL ?_
      refine aw_bipush C dL_law_37 (by decide) ?_
      refine aw_iand C dL_law_39 ?_
      refine lc_all (xs := xs) C hXS hT ⟨by rw [hR.1]; omega, by rw [hR.2]; omega⟩ ⟨hX, hL, by omega, by omega⟩ I (fun v5 v6 m V a H I2 => ?_) (r32i _)
      have C2 := C0.up (w2 := (NC, 77 + t + 1, 5415 + 6 * t + 6)) ⟨by rw [hR.1]; show 77 + t + 1 ≤ 601024; omega, by rw [hR.2]; show 5415 + 6 * t + 6 ≤ 7293034; omega⟩
      refine aw_iinc C2 dL_law_1453 rfl ?_
      refine aw_goto C2 dL_law_1456 (tgt := 23) (by decide) ?_
      have k := ih (t + 1) v5 v6 m V a H (by omega) I2
      rw [show 77 + (t + 1) = 77 + t + 1 by omega, show 5415 + 6 * (t + 1) = 5415 + 6 * t + 6 by omega, show 6 * ((t + 1 : Nat) : Int) = 6 * (t : Int) + 6 by omega] at k
      exact k
end LawLoop
/-! the start -/
theorem clL_8 : Cond.classLink RL 8 RX5 ∈ TB := tb_t 18 (by decide +kernel) (by decide +kernel)
theorem clL_16 : Cond.classLink RL 16 RX6 ∈ TB := tb_t 838 (by decide +kernel) (by decide +kernel)
theorem mA_hi {a : Nat} (h : 55 ≤ a) : mA a = dz a := by
  unfold mA
  rw [wr_ne (by omega), fanI_ne (by omega), wr_ne (by omega), fanI_ne (by omega), lpF_hi (by omega), bM_hi (by omega)]
theorem dz_r {a : Nat} (h1 : 55 < a) (h2 : a ≤ 76) (j : Nat) : dz a j = 0 := by
  rcases show a = 56 ∨ a = 57 ∨ a = 58 ∨ a = 59 ∨ a = 60 ∨ a = 61 ∨ a = 62 ∨ a = 63 ∨ a = 64 ∨ a = 65 ∨ a = 66 ∨ a = 67 ∨ a = 68 ∨ a = 69 ∨ a = 70 ∨ a = 71 ∨ a = 72 ∨ a = 73 ∨ a = 74 ∨ a = 75 ∨ a = 76 by omega with rfl | rfl | rfl | rfl | rfl | rfl | rfl | rfl | rfl | rfl | rfl | rfl | rfl | rfl | rfl | rfl | rfl | rfl | rfl | rfl | rfl <;> rfl
theorem mB_hi {a : Nat} (h : 55 < a) : mB a = dz a := by
  unfold mB
  rw [wr_ne (by omega), wr_ne (by omega), wr_ne (by omega), wr_ne (by omega), wr_ne (by omega), wr_ne (by omega), wr_ne (by omega), wr_ne (by omega), wr_ne (by omega), wr_ne (by omega), wr_ne (by omega), wr_ne (by omega), wr_ne (by omega), wr_ne (by omega), wr_ne (by omega), wr_ne (by omega), wr_ne (by omega), wr_ne (by omega), wr_ne (by omega), wr_ne (by omega), wr_ne (by omega), mA_hi (by omega)]
theorem mB_6z (j : Nat) : mB 6 j = 0 := by
  unfold mB
  rw [wr_ne (by decide), wr_ne (by decide), wr_ne (by decide), wr_ne (by decide), wr_ne (by decide), wr_ne (by decide), wr_ne (by decide), wr_ne (by decide), wr_ne (by decide), wr_ne (by decide), wr_ne (by decide), wr_ne (by decide), wr_ne (by decide), wr_ne (by decide), wr_ne (by decide), wr_ne (by decide), wr_ne (by decide), wr_ne (by decide), wr_ne (by decide), wr_ne (by decide), wr_ne (by decide)]
  unfold mA
  rw [wr_ne (by decide), fanI_ne (by decide), wr_ne (by decide), fanI_ne (by decide)]
  unfold lpF
  rw [if_neg (by omega), if_neg (by omega)]
  unfold bM
  rw [wr_ne (by decide), wr_ne (by decide), wr_ne (by decide), wr_ne (by decide), wr_ne (by decide), wr_ne (by decide), wr_ne (by decide), wr_ne (by decide), wr_ne (by decide), wr_ne (by decide), wr_ne (by decide), wr_ne (by decide), wr_ne (by decide), wr_ne (by decide)]
  rfl
theorem mB_Iv (H : Nat → FV) : Iv mB V0 0 H := by
  refine ⟨mB_cSt H, mB_mSt H, srt0, fun j hj => by omega, fun j => ?_, ?_, fun d hd => ?_, ?_, ?_, ?_, mB_nb⟩
  · rw [mB_6z, mB_hi (by decide), dz_r (by decide) (by decide)]
    exact ⟨rfl, by decide, by decide⟩
  · rw [mB_t, mB_m 4 (by decide) (by decide)]; exact ⟨rfl, by decide, by decide⟩
  · have hd : (d : Int) < 0 := hd
    omega
  · rw [mB_r 9 (by decide) (by decide), mB_m 7 (by decide) (by decide)]
  · rw [mB_r 11 (by decide) (by decide), mB_m 1 (by decide) (by decide)]; exact ⟨rfl, by decide, by decide⟩
  · rw [mB_r 11 (by decide) (by decide), mB_2]; rfl
theorem law_go {K : KT} {b Ln : Nat} {xs : Nat → Int32} (hX : KX K b Ln xs) (hL : Ln ≤ 3072) (hXS : XK K) (hT : TQ K) (hR : (KR K).cells = 601024 ∧ (KR K).slots = 7293034) (hz : KZ K (0, 0, 0)) (hNW : NW K.2.2.2.2.1) (C0 : CX K (0, 0, 0) mL_law 15)
    (fin : ∀ (w2 w3 : Nat) (L : List Vv) (mu : Mem), w2 ≤ 601024 → w3 ≤ 7293034 → AW K mL_law (NC, w2, w3) 1460 L [vi 1] mu) : AW K mL_law (0, 0, 0) 0 (padL 7 (entL [vq b])) [] dz := by
  have up : ∀ w2 : Nat × Nat × Nat, w2.2.1 ≤ 601024 → w2.2.2 ≤ 7293034 → CX K w2 mL_law 15 := fun w2 h1 h2 => C0.up ⟨by rw [hR.1]; exact h1, by rw [hR.2]; exact h2⟩
  have hz : K.2.2.2.2.1.heap.size + 0 = gb K.2.2.2.2.2.2.2.2.2.2.1 + 0 := hz
  have hzz : ∀ n s9 : Nat, KZ K (n, n, s9) := fun n s9 => by
    show K.2.2.2.2.1.heap.size + n = gb K.2.2.2.2.2.2.2.2.2.2.1 + n
    omega
  have rm : ∀ x y : Nat, x ≤ 601024 → y ≤ 7293034 → x ≤ (KR K).cells ∧ y ≤ (KR K).slots := fun x y h1 h2 => ⟨by rw [hR.1]; exact h1, by rw [hR.2]; exact h2⟩
  refine aw_new C0 (hzz 0 0) dL_law_0 clsX5 clL_8 ia_X5 iz_X5 rfl (fun b j hj => df_X5 j hj b) (rm 1 12 (by decide) (by decide)) (fun h => absurd h (by decide)) ?_
  have C := up (1, 1, 12) (by decide) (by decide)
  refine aw_dup_a C dL_law_3 ?_
  refine aw_callIW C (hzz 1 12) hNW dL_law_4 lL_15 ii_X5 iz_X5 vX5_init rfl rfl (t_X5_init (fun a j _ _ => rfl)) ⟨by decide, by decide⟩ (by decide) (rm 55 2706 (by decide) (by decide)) (fun r m hq => ?_)
  obtain ⟨rfl, rfl⟩ := hq
  have C := up (55, 55, 2706) (by decide) (by decide)
  show AW K mL_law (55, 55, 2706) 7 _ [vr 0] mA
  refine aw_astore_n C dL_law_7 (by decide) ?_
  refine aw_new C (hzz 55 2706) dL_law_8 clsX6 clL_16 ia_X6 iz_X6 rfl (fun b j hj => (df_X6 j hj b).trans (by rw [mA_hi (by decide)]; rfl)) (rm 56 2749 (by decide) (by decide)) (fun h => absurd h (by decide)) ?_
  have C := up (56, 56, 2749) (by decide) (by decide)
  refine aw_dup_a C dL_law_11 ?_
  refine aw_callI C (hzz 56 2749) dL_law_12 lL_18 ii_X6 iz_X6 vX6_init rfl rfl (t_X6_init (fun a j h1 h2 => by rw [mA_hi (by omega), dz_r h1 (by omega)])) ⟨by decide, by decide⟩ (by decide) (rm 76 5414 (by decide) (by decide)) (fun r m hq => ?_)
  obtain ⟨rfl, rfl⟩ := hq
  have C := up (76, 76, 5414) (by decide) (by decide)
  show AW K mL_law (76, 76, 5414) 15 _ [vr 55] mB
  refine aw_astore_n C dL_law_15 (by decide) ?_
  refine aw_iconst C dL_law_16 ?_
  refine aw_newL (N := 1) C (hzz 76 5414) dL_law_17 arc_long rfl (by decide) (fun j => by rw [mB_hi (by decide), dz_r (by decide) (by decide)]) (rm 77 5415 (by decide) (by decide)) (fun _ => mB_GI) ?_
  have C := up (77, 77, 5415) (by decide) (by decide)
  show AW K mL_law (77, 77, 5415) 19 _ [vr 76] mB
  refine aw_astore_n C dL_law_19 (by decide) ?_
  refine aw_iconst C dL_law_20 ?_
  refine aw_istore C dL_law_21 (by decide) ?_
  exact lc_loop hX hL hXS hT hR (C0.up (w2 := (NC, 0, 0)) ⟨Nat.zero_le _, Nat.zero_le _⟩) fin 513 0 vx vx mB V0 0 (fun _ => V0) rfl (mB_Iv _)

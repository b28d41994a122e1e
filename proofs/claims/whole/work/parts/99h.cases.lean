/-! the law: its calls, one by one -/
theorem lt77_0 : 0 < 77 := by decide
theorem lt77_55 : 55 < 77 := by decide
abbrev LL (b : Nat) (i : Int) (v5 v6 : Vv) : List Vv := [vq b, vr 0, vr 55, vr 76, vi i, v5, v6]
def Kon (K : KT) (c9 s9 b : Nat) (i : Int) : Prop := ∀ (v5 v6 : Vv) (m : Mem) (V : FV) (a : Int) (H : Nat → FV), Iv m V a H → AW K mL_law (NC, c9, s9) 1453 (LL b i v5 v6) [] m
def Lc (K : KT) (b Ln : Nat) (xs : Nat → Int32) (i : Int) : Prop := KX K b Ln xs ∧ Ln ≤ 3072 ∧ 0 ≤ i ∧ i + 5 < (Ln : Int)
section LawCases
variable {K : KT} {c9 s9 b Ln : Nat} {xs : Nat → Int32} {i : Int} {v5 v6 : Vv} {mu : Mem} {V : FV} {a : Int} {H : Nat → FV}
theorem lc_about (C : CX K (NC, c9, s9) mL_law 15) (hc : Lc K b Ln xs i) (I : Iv mu V a H) (kk : Kon K c9 s9 b i) : AW K mL_law (NC, c9, s9) 320 (LL b i v5 v6) [] mu := by
  obtain ⟨hX, hL, i0, i1⟩ := hc
  obtain ⟨f, hF, eV⟩ := I.1.f
  have e8 := I.1.2.2.2.1
  subst eV
  refine aw_aload_n C dL_law_320 rfl ?_
  refine aw_arg C hX hL rfl rfl i0 i1 (by decide) (by decide) dL_law_321 dL_law_322 dL_law_324 dL_law_325 dL_law_326 ?_
  refine aw_call C dL_law_327 lL_38 vX5_about (t_X5_about hF (r32i _)) rfl rfl rfl ⟨rfl, lt77_0⟩ rfl ⟨by decide, by decide⟩ (Nat.le_of_ble_eq_true rfl) (fun r m1 hq => ?_)
  obtain ⟨rfl, hE⟩ := hq
  rw [e8] at hE ⊢
  refine aw_aload_n C dL_law_330 rfl ?_
  refine aw_arg C hX hL rfl rfl i0 i1 (by decide) (by decide) dL_law_331 dL_law_332 dL_law_334 dL_law_335 dL_law_336 ?_
  have TM := t_X6_about (I.qm hE).1 (r32i (xs (i + 1).toNat))
  rw [(I.qm hE).2] at TM
  refine aw_call1 C dL_law_337 lL_41 vX6_about TM rfl rfl rfl ⟨rfl, lt77_55⟩ rfl ⟨by decide, by decide⟩ (Nat.le_of_ble_eq_true rfl) ?_
  refine aw_icmp_self C dL_law_340 (tgt := 1453) (by decide) ?_
  exact kk _ _ _ _ _ _ (I.q (qAb_c _ _ _) hE mE_g0)
theorem lc_measure (C : CX K (NC, c9, s9) mL_law 15) (hc : Lc K b Ln xs i) (I : Iv mu V a H) (kk : Kon K c9 s9 b i) : AW K mL_law (NC, c9, s9) 345 (LL b i v5 v6) [] mu := by
  obtain ⟨hX, hL, i0, i1⟩ := hc
  obtain ⟨f, hF, eV⟩ := I.1.f
  subst eV
  refine aw_aload_n C dL_law_345 rfl ?_
  refine aw_call C dL_law_346 lL_42 vX5_measure (t_X5_measure hF ) rfl rfl rfl ⟨rfl, lt77_0⟩ rfl ⟨by decide, by decide⟩ (Nat.le_of_ble_eq_true rfl) (fun r m1 hq => ?_)
  obtain ⟨rfl, hE⟩ := hq
  refine aw_aload_n C dL_law_349 rfl ?_
  refine aw_call1 C dL_law_350 lL_45 vX6_measure (t_X6_measure (I.qm hE).1 ) rfl rfl rfl ⟨rfl, lt77_55⟩ rfl ⟨by decide, by decide⟩ (Nat.le_of_ble_eq_true rfl) ?_
  refine aw_icmp_self C dL_law_353 (tgt := 1453) (by decide) ?_
  exact kk _ _ _ _ _ _ (I.q (qMs_c _) hE mE_g0)
theorem lc_ray (C : CX K (NC, c9, s9) mL_law 15) (hc : Lc K b Ln xs i) (I : Iv mu V a H) (kk : Kon K c9 s9 b i) : AW K mL_law (NC, c9, s9) 358 (LL b i v5 v6) [] mu := by
  obtain ⟨hX, hL, i0, i1⟩ := hc
  obtain ⟨f, hF, eV⟩ := I.1.f
  subst eV
  refine aw_aload_n C dL_law_358 rfl ?_
  refine aw_arg C hX hL rfl rfl i0 i1 (by decide) (by decide) dL_law_359 dL_law_360 dL_law_362 dL_law_363 dL_law_364 ?_
  refine aw_arg C hX hL rfl rfl i0 i1 (by decide) (by decide) dL_law_365 dL_law_366 dL_law_368 dL_law_369 dL_law_370 ?_
  refine aw_call C dL_law_371 lL_46 vX5_ray (t_X5_ray hF (r32i _) (r32i _)) rfl rfl rfl ⟨rfl, lt77_0⟩ rfl ⟨by decide, by decide⟩ (Nat.le_of_ble_eq_true rfl) (fun r m1 hq => ?_)
  obtain ⟨rfl, hE⟩ := hq
  refine aw_aload_n C dL_law_374 rfl ?_
  refine aw_arg C hX hL rfl rfl i0 i1 (by decide) (by decide) dL_law_375 dL_law_376 dL_law_378 dL_law_379 dL_law_380 ?_
  refine aw_arg C hX hL rfl rfl i0 i1 (by decide) (by decide) dL_law_381 dL_law_382 dL_law_384 dL_law_385 dL_law_386 ?_
  refine aw_call1 C dL_law_387 lL_50 vX6_ray (t_X6_ray (I.qm hE).1 (r32i _) (r32i _)) rfl rfl rfl ⟨rfl, lt77_55⟩ rfl ⟨by decide, by decide⟩ (Nat.le_of_ble_eq_true rfl) ?_
  refine aw_lcmp_self C dL_law_390 dL_law_391 (tgt := 1453) (by decide) ?_
  exact kk _ _ _ _ _ _ (I.q (qRy_c _ _ _) hE mE_g0)
theorem lc_chain (C : CX K (NC, c9, s9) mL_law 15) (hc : Lc K b Ln xs i) (I : Iv mu V a H) (kk : Kon K c9 s9 b i) : AW K mL_law (NC, c9, s9) 396 (LL b i v5 v6) [] mu := by
  obtain ⟨hX, hL, i0, i1⟩ := hc
  obtain ⟨f, hF, eV⟩ := I.1.f
  subst eV
  refine aw_aload_n C dL_law_396 rfl ?_
  refine aw_arg C hX hL rfl rfl i0 i1 (by decide) (by decide) dL_law_397 dL_law_398 dL_law_400 dL_law_401 dL_law_402 ?_
  refine aw_arg C hX hL rfl rfl i0 i1 (by decide) (by decide) dL_law_403 dL_law_404 dL_law_406 dL_law_407 dL_law_408 ?_
  refine aw_call C dL_law_409 lL_51 vX5_chain (t_X5_chain hF (r32i _) (r32i _)) rfl rfl rfl ⟨rfl, lt77_0⟩ rfl ⟨by decide, by decide⟩ (Nat.le_of_ble_eq_true rfl) (fun r m1 hq => ?_)
  obtain ⟨rfl, hE⟩ := hq
  refine aw_aload_n C dL_law_412 rfl ?_
  refine aw_arg C hX hL rfl rfl i0 i1 (by decide) (by decide) dL_law_413 dL_law_414 dL_law_416 dL_law_417 dL_law_418 ?_
  refine aw_arg C hX hL rfl rfl i0 i1 (by decide) (by decide) dL_law_419 dL_law_420 dL_law_422 dL_law_423 dL_law_424 ?_
  refine aw_call1 C dL_law_425 lL_54 vX6_chain (t_X6_chain (I.qm hE).1 (r32i _) (r32i _)) rfl rfl rfl ⟨rfl, lt77_55⟩ rfl ⟨by decide, by decide⟩ (Nat.le_of_ble_eq_true rfl) ?_
  refine aw_icmp_self C dL_law_428 (tgt := 1453) (by decide) ?_
  exact kk _ _ _ _ _ _ (I.q (qCh_c _ _ _) hE mE_g0)
theorem lc_cone (C : CX K (NC, c9, s9) mL_law 15) (hc : Lc K b Ln xs i) (I : Iv mu V a H) (kk : Kon K c9 s9 b i) : AW K mL_law (NC, c9, s9) 433 (LL b i v5 v6) [] mu := by
  obtain ⟨hX, hL, i0, i1⟩ := hc
  obtain ⟨f, hF, eV⟩ := I.1.f
  subst eV
  refine aw_aload_n C dL_law_433 rfl ?_
  refine aw_arg C hX hL rfl rfl i0 i1 (by decide) (by decide) dL_law_434 dL_law_435 dL_law_437 dL_law_438 dL_law_439 ?_
  refine aw_arg C hX hL rfl rfl i0 i1 (by decide) (by decide) dL_law_440 dL_law_441 dL_law_443 dL_law_444 dL_law_445 ?_
  refine aw_call C dL_law_446 lL_55 vX5_cone (t_X5_cone hF (r32i _) (r32i _)) rfl rfl rfl ⟨rfl, lt77_0⟩ rfl ⟨by decide, by decide⟩ (Nat.le_of_ble_eq_true rfl) (fun r m1 hq => ?_)
  obtain ⟨rfl, hE⟩ := hq
  refine aw_aload_n C dL_law_449 rfl ?_
  refine aw_arg C hX hL rfl rfl i0 i1 (by decide) (by decide) dL_law_450 dL_law_451 dL_law_453 dL_law_454 dL_law_455 ?_
  refine aw_arg C hX hL rfl rfl i0 i1 (by decide) (by decide) dL_law_456 dL_law_457 dL_law_459 dL_law_460 dL_law_461 ?_
  refine aw_call1 C dL_law_462 lL_58 vX6_cone (t_X6_cone (I.qm hE).1 (r32i _) (r32i _)) rfl rfl rfl ⟨rfl, lt77_55⟩ rfl ⟨by decide, by decide⟩ (Nat.le_of_ble_eq_true rfl) ?_
  refine aw_icmp_self C dL_law_465 (tgt := 1453) (by decide) ?_
  exact kk _ _ _ _ _ _ (I.q (qCo_c _ _ _) hE mE_g0)
theorem lc_load (C : CX K (NC, c9, s9) mL_law 15) (hc : Lc K b Ln xs i) (I : Iv mu V a H) (kk : Kon K c9 s9 b i) : AW K mL_law (NC, c9, s9) 470 (LL b i v5 v6) [] mu := by
  obtain ⟨hX, hL, i0, i1⟩ := hc
  obtain ⟨f, hF, eV⟩ := I.1.f
  subst eV
  refine aw_aload_n C dL_law_470 rfl ?_
  refine aw_arg C hX hL rfl rfl i0 i1 (by decide) (by decide) dL_law_471 dL_law_472 dL_law_474 dL_law_475 dL_law_476 ?_
  refine aw_arg C hX hL rfl rfl i0 i1 (by decide) (by decide) dL_law_477 dL_law_478 dL_law_480 dL_law_481 dL_law_482 ?_
  refine aw_call C dL_law_483 lL_59 vX5_load (t_X5_load hF (r32i _) (r32i _)) rfl rfl rfl ⟨rfl, lt77_0⟩ rfl ⟨by decide, by decide⟩ (Nat.le_of_ble_eq_true rfl) (fun r m1 hq => ?_)
  obtain ⟨rfl, hE⟩ := hq
  refine aw_aload_n C dL_law_486 rfl ?_
  refine aw_arg C hX hL rfl rfl i0 i1 (by decide) (by decide) dL_law_487 dL_law_488 dL_law_490 dL_law_491 dL_law_492 ?_
  refine aw_arg C hX hL rfl rfl i0 i1 (by decide) (by decide) dL_law_493 dL_law_494 dL_law_496 dL_law_497 dL_law_498 ?_
  refine aw_call1 C dL_law_499 lL_62 vX6_load (t_X6_load (I.qm hE).1 (r32i _) (r32i _)) rfl rfl rfl ⟨rfl, lt77_55⟩ rfl ⟨by decide, by decide⟩ (Nat.le_of_ble_eq_true rfl) ?_
  refine aw_lcmp_self C dL_law_502 dL_law_503 (tgt := 1453) (by decide) ?_
  exact kk _ _ _ _ _ _ (I.q (qLd_c _ _ _) hE mE_g0)
theorem lc_function (C : CX K (NC, c9, s9) mL_law 15) (hc : Lc K b Ln xs i) (I : Iv mu V a H) (kk : Kon K c9 s9 b i) : AW K mL_law (NC, c9, s9) 508 (LL b i v5 v6) [] mu := by
  obtain ⟨hX, hL, i0, i1⟩ := hc
  obtain ⟨f, hF, eV⟩ := I.1.f
  subst eV
  refine aw_aload_n C dL_law_508 rfl ?_
  refine aw_arg C hX hL rfl rfl i0 i1 (by decide) (by decide) dL_law_509 dL_law_510 dL_law_512 dL_law_513 dL_law_514 ?_
  refine aw_arg C hX hL rfl rfl i0 i1 (by decide) (by decide) dL_law_515 dL_law_516 dL_law_518 dL_law_519 dL_law_520 ?_
  refine aw_arg C hX hL rfl rfl i0 i1 (by decide) (by decide) dL_law_521 dL_law_522 dL_law_524 dL_law_525 dL_law_526 ?_
  refine aw_arg C hX hL rfl rfl i0 i1 (by decide) (by decide) dL_law_527 dL_law_528 dL_law_530 dL_law_531 dL_law_532 ?_
  refine aw_call C dL_law_533 lL_63 vX5_function (t_X5_function hF (r32i _) (r32i _) (r32i _) (r32i _)) rfl rfl rfl ⟨rfl, lt77_0⟩ rfl ⟨by decide, by decide⟩ (Nat.le_of_ble_eq_true rfl) (fun r m1 hq => ?_)
  obtain ⟨rfl, hE⟩ := hq
  refine aw_aload_n C dL_law_536 rfl ?_
  refine aw_arg C hX hL rfl rfl i0 i1 (by decide) (by decide) dL_law_537 dL_law_538 dL_law_540 dL_law_541 dL_law_542 ?_
  refine aw_arg C hX hL rfl rfl i0 i1 (by decide) (by decide) dL_law_543 dL_law_544 dL_law_546 dL_law_547 dL_law_548 ?_
  refine aw_arg C hX hL rfl rfl i0 i1 (by decide) (by decide) dL_law_549 dL_law_550 dL_law_552 dL_law_553 dL_law_554 ?_
  refine aw_arg C hX hL rfl rfl i0 i1 (by decide) (by decide) dL_law_555 dL_law_556 dL_law_558 dL_law_559 dL_law_560 ?_
  refine aw_call1 C dL_law_561 lL_67 vX6_function (t_X6_function (I.qm hE).1 (r32i _) (r32i _) (r32i _) (r32i _)) rfl rfl rfl ⟨rfl, lt77_55⟩ rfl ⟨by decide, by decide⟩ (Nat.le_of_ble_eq_true rfl) ?_
  refine aw_lcmp_self C dL_law_564 dL_law_565 (tgt := 1453) (by decide) ?_
  exact kk _ _ _ _ _ _ (I.q (qFn_c _ _ _ _ _) hE mE_g0)
theorem lc_piece (C : CX K (NC, c9, s9) mL_law 15) (hc : Lc K b Ln xs i) (I : Iv mu V a H) (kk : Kon K c9 s9 b i) : AW K mL_law (NC, c9, s9) 570 (LL b i v5 v6) [] mu := by
  obtain ⟨hX, hL, i0, i1⟩ := hc
  obtain ⟨f, hF, eV⟩ := I.1.f
  subst eV
  refine aw_aload_n C dL_law_570 rfl ?_
  refine aw_arg C hX hL rfl rfl i0 i1 (by decide) (by decide) dL_law_571 dL_law_572 dL_law_574 dL_law_575 dL_law_576 ?_
  refine aw_arg C hX hL rfl rfl i0 i1 (by decide) (by decide) dL_law_577 dL_law_578 dL_law_580 dL_law_581 dL_law_582 ?_
  refine aw_arg C hX hL rfl rfl i0 i1 (by decide) (by decide) dL_law_583 dL_law_584 dL_law_586 dL_law_587 dL_law_588 ?_
  refine aw_call C dL_law_589 lL_68 vX5_piece (t_X5_piece hF (r32i _) (r32i _) (r32i _)) rfl rfl rfl ⟨rfl, lt77_0⟩ rfl ⟨by decide, by decide⟩ (Nat.le_of_ble_eq_true rfl) (fun r m1 hq => ?_)
  obtain ⟨rfl, hE⟩ := hq
  refine aw_aload_n C dL_law_592 rfl ?_
  refine aw_arg C hX hL rfl rfl i0 i1 (by decide) (by decide) dL_law_593 dL_law_594 dL_law_596 dL_law_597 dL_law_598 ?_
  refine aw_arg C hX hL rfl rfl i0 i1 (by decide) (by decide) dL_law_599 dL_law_600 dL_law_602 dL_law_603 dL_law_604 ?_
  refine aw_arg C hX hL rfl rfl i0 i1 (by decide) (by decide) dL_law_605 dL_law_606 dL_law_608 dL_law_609 dL_law_610 ?_
  refine aw_call1 C dL_law_611 lL_72 vX6_piece (t_X6_piece (I.qm hE).1 (r32i _) (r32i _) (r32i _)) rfl rfl rfl ⟨rfl, lt77_55⟩ rfl ⟨by decide, by decide⟩ (Nat.le_of_ble_eq_true rfl) ?_
  refine aw_lcmp_self C dL_law_614 dL_law_615 (tgt := 1453) (by decide) ?_
  exact kk _ _ _ _ _ _ (I.q (qPc_c _ _ _ _) hE mE_g0)
theorem lc_broken (C : CX K (NC, c9, s9) mL_law 15) (hc : Lc K b Ln xs i) (I : Iv mu V a H) (kk : Kon K c9 s9 b i) : AW K mL_law (NC, c9, s9) 620 (LL b i v5 v6) [] mu := by
  obtain ⟨hX, hL, i0, i1⟩ := hc
  obtain ⟨f, hF, eV⟩ := I.1.f
  subst eV
  refine aw_aload_n C dL_law_620 rfl ?_
  refine aw_arg C hX hL rfl rfl i0 i1 (by decide) (by decide) dL_law_621 dL_law_622 dL_law_624 dL_law_625 dL_law_626 ?_
  refine aw_call C dL_law_627 lL_73 vX5_broken (t_X5_broken hF (r32i _)) rfl rfl rfl ⟨rfl, lt77_0⟩ rfl ⟨by decide, by decide⟩ (Nat.le_of_ble_eq_true rfl) (fun r m1 hq => ?_)
  obtain ⟨rfl, hE⟩ := hq
  refine aw_aload_n C dL_law_630 rfl ?_
  refine aw_arg C hX hL rfl rfl i0 i1 (by decide) (by decide) dL_law_631 dL_law_632 dL_law_634 dL_law_635 dL_law_636 ?_
  refine aw_call1 C dL_law_637 lL_76 vX6_broken (t_X6_broken (I.qm hE).1 (r32i _)) rfl rfl rfl ⟨rfl, lt77_55⟩ rfl ⟨by decide, by decide⟩ (Nat.le_of_ble_eq_true rfl) ?_
  refine aw_icmp_self C dL_law_640 (tgt := 1453) (by decide) ?_
  exact kk _ _ _ _ _ _ (I.q (qBr_c _ _) hE mE_g0)
theorem lc_bent (C : CX K (NC, c9, s9) mL_law 15) (hc : Lc K b Ln xs i) (I : Iv mu V a H) (kk : Kon K c9 s9 b i) : AW K mL_law (NC, c9, s9) 645 (LL b i v5 v6) [] mu := by
  obtain ⟨hX, hL, i0, i1⟩ := hc
  obtain ⟨f, hF, eV⟩ := I.1.f
  subst eV
  refine aw_aload_n C dL_law_645 rfl ?_
  refine aw_arg C hX hL rfl rfl i0 i1 (by decide) (by decide) dL_law_646 dL_law_647 dL_law_649 dL_law_650 dL_law_651 ?_
  refine aw_call C dL_law_652 lL_77 vX5_bent (t_X5_bent hF (r32i _)) rfl rfl rfl ⟨rfl, lt77_0⟩ rfl ⟨by decide, by decide⟩ (Nat.le_of_ble_eq_true rfl) (fun r m1 hq => ?_)
  obtain ⟨rfl, hE⟩ := hq
  refine aw_aload_n C dL_law_655 rfl ?_
  refine aw_arg C hX hL rfl rfl i0 i1 (by decide) (by decide) dL_law_656 dL_law_657 dL_law_659 dL_law_660 dL_law_661 ?_
  refine aw_call1 C dL_law_662 lL_80 vX6_bent (t_X6_bent (I.qm hE).1 (r32i _)) rfl rfl rfl ⟨rfl, lt77_55⟩ rfl ⟨by decide, by decide⟩ (Nat.le_of_ble_eq_true rfl) ?_
  refine aw_icmp_self C dL_law_665 (tgt := 1453) (by decide) ?_
  exact kk _ _ _ _ _ _ (I.q (qBe_c _ _) hE mE_g0)
theorem lc_alike (C : CX K (NC, c9, s9) mL_law 15) (hc : Lc K b Ln xs i) (I : Iv mu V a H) (kk : Kon K c9 s9 b i) : AW K mL_law (NC, c9, s9) 670 (LL b i v5 v6) [] mu := by
  obtain ⟨hX, hL, i0, i1⟩ := hc
  obtain ⟨f, hF, eV⟩ := I.1.f
  subst eV
  refine aw_aload_n C dL_law_670 rfl ?_
  refine aw_arg C hX hL rfl rfl i0 i1 (by decide) (by decide) dL_law_671 dL_law_672 dL_law_674 dL_law_675 dL_law_676 ?_
  refine aw_arg C hX hL rfl rfl i0 i1 (by decide) (by decide) dL_law_677 dL_law_678 dL_law_680 dL_law_681 dL_law_682 ?_
  refine aw_call C dL_law_683 lL_81 vX5_alike (t_X5_alike hF (r32i _) (r32i _)) rfl rfl rfl ⟨rfl, lt77_0⟩ rfl ⟨by decide, by decide⟩ (Nat.le_of_ble_eq_true rfl) (fun r m1 hq => ?_)
  obtain ⟨rfl, hE⟩ := hq
  refine aw_aload_n C dL_law_686 rfl ?_
  refine aw_arg C hX hL rfl rfl i0 i1 (by decide) (by decide) dL_law_687 dL_law_688 dL_law_690 dL_law_691 dL_law_692 ?_
  refine aw_arg C hX hL rfl rfl i0 i1 (by decide) (by decide) dL_law_693 dL_law_694 dL_law_696 dL_law_697 dL_law_698 ?_
  refine aw_call1 C dL_law_699 lL_84 vX6_alike (t_X6_alike (I.qm hE).1 (r32i _) (r32i _)) rfl rfl rfl ⟨rfl, lt77_55⟩ rfl ⟨by decide, by decide⟩ (Nat.le_of_ble_eq_true rfl) ?_
  refine aw_icmp_self C dL_law_702 (tgt := 1453) (by decide) ?_
  exact kk _ _ _ _ _ _ (I.q (qAl_c _ _ _) hE mE_g0)
theorem lc_meets (C : CX K (NC, c9, s9) mL_law 15) (hc : Lc K b Ln xs i) (I : Iv mu V a H) (kk : Kon K c9 s9 b i) : AW K mL_law (NC, c9, s9) 707 (LL b i v5 v6) [] mu := by
  obtain ⟨hX, hL, i0, i1⟩ := hc
  obtain ⟨f, hF, eV⟩ := I.1.f
  subst eV
  refine aw_aload_n C dL_law_707 rfl ?_
  refine aw_arg C hX hL rfl rfl i0 i1 (by decide) (by decide) dL_law_708 dL_law_709 dL_law_711 dL_law_712 dL_law_713 ?_
  refine aw_arg C hX hL rfl rfl i0 i1 (by decide) (by decide) dL_law_714 dL_law_715 dL_law_717 dL_law_718 dL_law_719 ?_
  refine aw_call C dL_law_720 lL_85 vX5_meets (t_X5_meets hF (r32i _) (r32i _)) rfl rfl rfl ⟨rfl, lt77_0⟩ rfl ⟨by decide, by decide⟩ (Nat.le_of_ble_eq_true rfl) (fun r m1 hq => ?_)
  obtain ⟨rfl, hE⟩ := hq
  refine aw_aload_n C dL_law_723 rfl ?_
  refine aw_arg C hX hL rfl rfl i0 i1 (by decide) (by decide) dL_law_724 dL_law_725 dL_law_727 dL_law_728 dL_law_729 ?_
  refine aw_arg C hX hL rfl rfl i0 i1 (by decide) (by decide) dL_law_730 dL_law_731 dL_law_733 dL_law_734 dL_law_735 ?_
  refine aw_call1 C dL_law_736 lL_88 vX6_meets (t_X6_meets (I.qm hE).1 (r32i _) (r32i _)) rfl rfl rfl ⟨rfl, lt77_55⟩ rfl ⟨by decide, by decide⟩ (Nat.le_of_ble_eq_true rfl) ?_
  refine aw_lcmp_self C dL_law_739 dL_law_740 (tgt := 1453) (by decide) ?_
  exact kk _ _ _ _ _ _ (I.q (qMt_c _ _ _) hE mE_g0)
theorem lc_touches (C : CX K (NC, c9, s9) mL_law 15) (hc : Lc K b Ln xs i) (I : Iv mu V a H) (kk : Kon K c9 s9 b i) : AW K mL_law (NC, c9, s9) 745 (LL b i v5 v6) [] mu := by
  obtain ⟨hX, hL, i0, i1⟩ := hc
  obtain ⟨f, hF, eV⟩ := I.1.f
  subst eV
  refine aw_aload_n C dL_law_745 rfl ?_
  refine aw_arg C hX hL rfl rfl i0 i1 (by decide) (by decide) dL_law_746 dL_law_747 dL_law_749 dL_law_750 dL_law_751 ?_
  refine aw_arg C hX hL rfl rfl i0 i1 (by decide) (by decide) dL_law_752 dL_law_753 dL_law_755 dL_law_756 dL_law_757 ?_
  refine aw_call C dL_law_758 lL_89 vX5_touches (t_X5_touches hF (r32i _) (r32i _)) rfl rfl rfl ⟨rfl, lt77_0⟩ rfl ⟨by decide, by decide⟩ (Nat.le_of_ble_eq_true rfl) (fun r m1 hq => ?_)
  obtain ⟨rfl, hE⟩ := hq
  refine aw_aload_n C dL_law_761 rfl ?_
  refine aw_arg C hX hL rfl rfl i0 i1 (by decide) (by decide) dL_law_762 dL_law_763 dL_law_765 dL_law_766 dL_law_767 ?_
  refine aw_arg C hX hL rfl rfl i0 i1 (by decide) (by decide) dL_law_768 dL_law_769 dL_law_771 dL_law_772 dL_law_773 ?_
  refine aw_call1 C dL_law_774 lL_92 vX6_touches (t_X6_touches (I.qm hE).1 (r32i _) (r32i _)) rfl rfl rfl ⟨rfl, lt77_55⟩ rfl ⟨by decide, by decide⟩ (Nat.le_of_ble_eq_true rfl) ?_
  refine aw_lcmp_self C dL_law_777 dL_law_778 (tgt := 1453) (by decide) ?_
  exact kk _ _ _ _ _ _ (I.q (qTo_c _ _ _) hE mE_g0)
theorem lc_rays (C : CX K (NC, c9, s9) mL_law 15) (hc : Lc K b Ln xs i) (I : Iv mu V a H) (kk : Kon K c9 s9 b i) : AW K mL_law (NC, c9, s9) 783 (LL b i v5 v6) [] mu := by
  obtain ⟨hX, hL, i0, i1⟩ := hc
  obtain ⟨f, hF, eV⟩ := I.1.f
  subst eV
  refine aw_aload_n C dL_law_783 rfl ?_
  refine aw_arg C hX hL rfl rfl i0 i1 (by decide) (by decide) dL_law_784 dL_law_785 dL_law_787 dL_law_788 dL_law_789 ?_
  refine aw_arg C hX hL rfl rfl i0 i1 (by decide) (by decide) dL_law_790 dL_law_791 dL_law_793 dL_law_794 dL_law_795 ?_
  refine aw_call C dL_law_796 lL_93 vX5_rays (t_X5_rays hF (r32i _) (r32i _)) rfl rfl rfl ⟨rfl, lt77_0⟩ rfl ⟨by decide, by decide⟩ (Nat.le_of_ble_eq_true rfl) (fun r m1 hq => ?_)
  obtain ⟨rfl, hE⟩ := hq
  refine aw_aload_n C dL_law_799 rfl ?_
  refine aw_arg C hX hL rfl rfl i0 i1 (by decide) (by decide) dL_law_800 dL_law_801 dL_law_803 dL_law_804 dL_law_805 ?_
  refine aw_arg C hX hL rfl rfl i0 i1 (by decide) (by decide) dL_law_806 dL_law_807 dL_law_809 dL_law_810 dL_law_811 ?_
  refine aw_call1 C dL_law_812 lL_96 vX6_rays (t_X6_rays (I.qm hE).1 (r32i _) (r32i _)) rfl rfl rfl ⟨rfl, lt77_55⟩ rfl ⟨by decide, by decide⟩ (Nat.le_of_ble_eq_true rfl) ?_
  refine aw_lcmp_self C dL_law_815 dL_law_816 (tgt := 1453) (by decide) ?_
  exact kk _ _ _ _ _ _ (I.q (qRs_c _ _ _) hE mE_g0)
theorem lc_points (C : CX K (NC, c9, s9) mL_law 15) (hc : Lc K b Ln xs i) (I : Iv mu V a H) (kk : Kon K c9 s9 b i) : AW K mL_law (NC, c9, s9) 821 (LL b i v5 v6) [] mu := by
  obtain ⟨hX, hL, i0, i1⟩ := hc
  obtain ⟨f, hF, eV⟩ := I.1.f
  subst eV
  refine aw_aload_n C dL_law_821 rfl ?_
  refine aw_arg C hX hL rfl rfl i0 i1 (by decide) (by decide) dL_law_822 dL_law_823 dL_law_825 dL_law_826 dL_law_827 ?_
  refine aw_arg C hX hL rfl rfl i0 i1 (by decide) (by decide) dL_law_828 dL_law_829 dL_law_831 dL_law_832 dL_law_833 ?_
  refine aw_call C dL_law_834 lL_97 vX5_points (t_X5_points hF (r32i _) (r32i _)) rfl rfl rfl ⟨rfl, lt77_0⟩ rfl ⟨by decide, by decide⟩ (Nat.le_of_ble_eq_true rfl) (fun r m1 hq => ?_)
  obtain ⟨rfl, hE⟩ := hq
  refine aw_aload_n C dL_law_837 rfl ?_
  refine aw_arg C hX hL rfl rfl i0 i1 (by decide) (by decide) dL_law_838 dL_law_839 dL_law_841 dL_law_842 dL_law_843 ?_
  refine aw_arg C hX hL rfl rfl i0 i1 (by decide) (by decide) dL_law_844 dL_law_845 dL_law_847 dL_law_848 dL_law_849 ?_
  refine aw_call C dL_law_850 lL_100 vX6_points (t_X6_points (I.qm hE).1 (r32i _) (r32i _)) rfl rfl rfl ⟨rfl, lt77_55⟩ rfl ⟨by decide, by decide⟩ (Nat.le_of_ble_eq_true rfl) (fun r m2 hq => ?_)
  obtain ⟨rfl, hM⟩ := hq
  refine aw_lcmp_self C dL_law_853 dL_law_854 (tgt := 1453) (by decide) ?_
  exact kk _ _ _ _ _ _ (I.q (qPo_c _ _ _ _) hE hM)
theorem lc_inner (C : CX K (NC, c9, s9) mL_law 15) (hc : Lc K b Ln xs i) (I : Iv mu V a H) (kk : Kon K c9 s9 b i) : AW K mL_law (NC, c9, s9) 859 (LL b i v5 v6) [] mu := by
  obtain ⟨hX, hL, i0, i1⟩ := hc
  obtain ⟨f, hF, eV⟩ := I.1.f
  subst eV
  refine aw_aload_n C dL_law_859 rfl ?_
  refine aw_arg C hX hL rfl rfl i0 i1 (by decide) (by decide) dL_law_860 dL_law_861 dL_law_863 dL_law_864 dL_law_865 ?_
  refine aw_arg C hX hL rfl rfl i0 i1 (by decide) (by decide) dL_law_866 dL_law_867 dL_law_869 dL_law_870 dL_law_871 ?_
  refine aw_call C dL_law_872 lL_101 vX5_inner (t_X5_inner hF (r32i _) (r32i _)) rfl rfl rfl ⟨rfl, lt77_0⟩ rfl ⟨by decide, by decide⟩ (Nat.le_of_ble_eq_true rfl) (fun r m1 hq => ?_)
  obtain ⟨rfl, hE⟩ := hq
  refine aw_aload_n C dL_law_875 rfl ?_
  refine aw_arg C hX hL rfl rfl i0 i1 (by decide) (by decide) dL_law_876 dL_law_877 dL_law_879 dL_law_880 dL_law_881 ?_
  refine aw_arg C hX hL rfl rfl i0 i1 (by decide) (by decide) dL_law_882 dL_law_883 dL_law_885 dL_law_886 dL_law_887 ?_
  refine aw_call C dL_law_888 lL_104 vX6_inner (t_X6_inner (I.qm hE).1 (r32i _) (r32i _)) rfl rfl rfl ⟨rfl, lt77_55⟩ rfl ⟨by decide, by decide⟩ (Nat.le_of_ble_eq_true rfl) (fun r m2 hq => ?_)
  obtain ⟨rfl, hM⟩ := hq
  refine aw_lcmp_self C dL_law_891 dL_law_892 (tgt := 1453) (by decide) ?_
  exact kk _ _ _ _ _ _ (I.q (qPo_c _ _ _ _) hE hM)
theorem lc_point (C : CX K (NC, c9, s9) mL_law 15) (hc : Lc K b Ln xs i) (I : Iv mu V a H) (kk : Kon K c9 s9 b i) : AW K mL_law (NC, c9, s9) 897 (LL b i v5 v6) [] mu := by
  obtain ⟨hX, hL, i0, i1⟩ := hc
  obtain ⟨f, hF, eV⟩ := I.1.f
  subst eV
  refine aw_aload_n C dL_law_897 rfl ?_
  refine aw_arg C hX hL rfl rfl i0 i1 (by decide) (by decide) dL_law_898 dL_law_899 dL_law_901 dL_law_902 dL_law_903 ?_
  refine aw_arg C hX hL rfl rfl i0 i1 (by decide) (by decide) dL_law_904 dL_law_905 dL_law_907 dL_law_908 dL_law_909 ?_
  refine aw_arg C hX hL rfl rfl i0 i1 (by decide) (by decide) dL_law_910 dL_law_911 dL_law_913 dL_law_914 dL_law_915 ?_
  refine aw_i2l C dL_law_916 (r32i _) ?_
  refine aw_bipush C dL_law_917 (by decide) ?_
  refine aw_lshl C dL_law_919 ?_
  refine aw_arg C hX hL rfl rfl i0 i1 (by decide) (by decide) dL_law_920 dL_law_921 dL_law_923 dL_law_924 dL_law_925 ?_
  refine aw_i2l C dL_law_926 (r32i _) ?_
  refine aw_ldc2 (z := 4294967295) C dL_law_927 cLlong (by decide +kernel) ?_
  refine aw_land C dL_law_930 ?_
  refine aw_lor C dL_law_931 ?_
  refine aw_arg C hX hL rfl rfl i0 i1 (by decide) (by decide) dL_law_932 dL_law_933 dL_law_935 dL_law_936 dL_law_937 ?_
  refine aw_call C dL_law_938 lL_107 vX5_point (t_X5_point hF (r32i _) (r32i _) (r64i _) (r32i _)) rfl rfl rfl ⟨rfl, lt77_0⟩ rfl ⟨by decide, by decide⟩ (Nat.le_of_ble_eq_true rfl) (fun r m1 hq => ?_)
  obtain ⟨rfl, hE⟩ := hq
  refine aw_aload_n C dL_law_941 rfl ?_
  refine aw_arg C hX hL rfl rfl i0 i1 (by decide) (by decide) dL_law_942 dL_law_943 dL_law_945 dL_law_946 dL_law_947 ?_
  refine aw_arg C hX hL rfl rfl i0 i1 (by decide) (by decide) dL_law_948 dL_law_949 dL_law_951 dL_law_952 dL_law_953 ?_
  refine aw_arg C hX hL rfl rfl i0 i1 (by decide) (by decide) dL_law_954 dL_law_955 dL_law_957 dL_law_958 dL_law_959 ?_
  refine aw_i2l C dL_law_960 (r32i _) ?_
  refine aw_bipush C dL_law_961 (by decide) ?_
  refine aw_lshl C dL_law_963 ?_
  refine aw_arg C hX hL rfl rfl i0 i1 (by decide) (by decide) dL_law_964 dL_law_965 dL_law_967 dL_law_968 dL_law_969 ?_
  refine aw_i2l C dL_law_970 (r32i _) ?_
  refine aw_ldc2 (z := 4294967295) C dL_law_971 cLlong (by decide +kernel) ?_
  refine aw_land C dL_law_974 ?_
  refine aw_lor C dL_law_975 ?_
  refine aw_arg C hX hL rfl rfl i0 i1 (by decide) (by decide) dL_law_976 dL_law_977 dL_law_979 dL_law_980 dL_law_981 ?_
  refine aw_call C dL_law_982 lL_111 vX6_point (t_X6_point (I.qm hE).1 (r32i _) (r32i _) (r64i _) (r32i _)) rfl rfl rfl ⟨rfl, lt77_55⟩ rfl ⟨by decide, by decide⟩ (Nat.le_of_ble_eq_true rfl) (fun r m2 hq => ?_)
  obtain ⟨rfl, hM⟩ := hq
  refine aw_lcmp_self C dL_law_985 dL_law_986 (tgt := 1453) (by decide) ?_
  exact kk _ _ _ _ _ _ (I.q (qPt_c _ _ _ _ _) hE hM)
theorem lc_needs (C : CX K (NC, c9, s9) mL_law 15) (hc : Lc K b Ln xs i) (I : Iv mu V a H) (kk : Kon K c9 s9 b i) : AW K mL_law (NC, c9, s9) 991 (LL b i v5 v6) [] mu := by
  obtain ⟨hX, hL, i0, i1⟩ := hc
  obtain ⟨f, hF, eV⟩ := I.1.f
  subst eV
  refine aw_aload_n C dL_law_991 rfl ?_
  refine aw_arg C hX hL rfl rfl i0 i1 (by decide) (by decide) dL_law_992 dL_law_993 dL_law_995 dL_law_996 dL_law_997 ?_
  refine aw_arg C hX hL rfl rfl i0 i1 (by decide) (by decide) dL_law_998 dL_law_999 dL_law_1001 dL_law_1002 dL_law_1003 ?_
  refine aw_i2l C dL_law_1004 (r32i _) ?_
  refine aw_bipush C dL_law_1005 (by decide) ?_
  refine aw_lshl C dL_law_1007 ?_
  refine aw_arg C hX hL rfl rfl i0 i1 (by decide) (by decide) dL_law_1008 dL_law_1009 dL_law_1011 dL_law_1012 dL_law_1013 ?_
  refine aw_i2l C dL_law_1014 (r32i _) ?_
  refine aw_ldc2 (z := 4294967295) C dL_law_1015 cLlong (by decide +kernel) ?_
  refine aw_land C dL_law_1018 ?_
  refine aw_lor C dL_law_1019 ?_
  refine aw_call C dL_law_1020 lL_112 vX5_needs (t_X5_needs hF (r32i _) (r64i _)) rfl rfl rfl ⟨rfl, lt77_0⟩ rfl ⟨by decide, by decide⟩ (Nat.le_of_ble_eq_true rfl) (fun r m1 hq => ?_)
  obtain ⟨rfl, hE⟩ := hq
  refine aw_aload_n C dL_law_1023 rfl ?_
  refine aw_arg C hX hL rfl rfl i0 i1 (by decide) (by decide) dL_law_1024 dL_law_1025 dL_law_1027 dL_law_1028 dL_law_1029 ?_
  refine aw_arg C hX hL rfl rfl i0 i1 (by decide) (by decide) dL_law_1030 dL_law_1031 dL_law_1033 dL_law_1034 dL_law_1035 ?_
  refine aw_i2l C dL_law_1036 (r32i _) ?_
  refine aw_bipush C dL_law_1037 (by decide) ?_
  refine aw_lshl C dL_law_1039 ?_
  refine aw_arg C hX hL rfl rfl i0 i1 (by decide) (by decide) dL_law_1040 dL_law_1041 dL_law_1043 dL_law_1044 dL_law_1045 ?_
  refine aw_i2l C dL_law_1046 (r32i _) ?_
  refine aw_ldc2 (z := 4294967295) C dL_law_1047 cLlong (by decide +kernel) ?_
  refine aw_land C dL_law_1050 ?_
  refine aw_lor C dL_law_1051 ?_
  refine aw_call C dL_law_1052 lL_116 vX6_needs_ (t_X6_needs_ (I.qm hE).1 (r32i _) (r64i _)) rfl rfl rfl ⟨rfl, lt77_55⟩ rfl ⟨by decide, by decide⟩ (Nat.le_of_ble_eq_true rfl) (fun r m2 hq => ?_)
  obtain ⟨rfl, hM⟩ := hq
  refine aw_icmp_self C dL_law_1055 (tgt := 1453) (by decide) ?_
  exact kk _ _ _ _ _ _ (I.q (qNd_c _ _ _) hE hM)
end LawCases

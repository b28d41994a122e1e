/-! what the law's entry gives -/
theorem all4 {P : Nat → Prop} (h0 : P 0) (h1 : P 1) (h2 : P 2) (h3 : P 3) : ∀ i : Nat, i < 4 → P i := fun i hi => by
  rcases show i = 0 ∨ i = 1 ∨ i = 2 ∨ i = 3 by omega with rfl | rfl | rfl | rfl
  · exact h0
  · exact h1
  · exact h2
  · exact h3
def tmS (i : Nat) : Term := .string RX6 (ixT.getD i 0)
def gvC : Cond := Jvm.Cond.and given_1 narrow_1
section Entry
variable {args : Array Value} {s : State}
theorem ent_str {A : Nat → Prop} (hg : gvC.before args s = true) (hA : ∀ a : Nat, a < s.heap.size → ¬ A a) : ∃ adK adV : Nat → Nat, vk_S 4 lenS bytS adK adV A s s.heap ∧ ∀ i : Nat, i < 4 → (tmS i).eval args s none [] s = some (.ref (adK i)) := by
  have hs := flat_of_before _ hg
  refine vk_Sof (tm := tmS) (by refine all4 ?_ ?_ ?_ ?_ <;> decide) ?_ ?_ ?_ ?_ ?_ ?_ hA
  · refine all4 ?_ ?_ ?_ ?_ <;> exact hs _ (by decide +kernel)
  · refine all4 ?_ ?_ ?_ ?_ <;> exact hs _ (by decide +kernel)
  · refine all4 ?_ ?_ ?_ ?_ <;> exact hs _ (by decide +kernel)
  · refine all4 ?_ ?_ ?_ ?_ <;> exact hs _ (by decide +kernel)
  · refine all4 ?_ ?_ ?_ ?_ <;> intro j hj
    · have hj : j < 3 := hj
      rcases show j = 0 ∨ j = 1 ∨ j = 2 by omega with rfl | rfl | rfl
      · exact hs _ (by decide +kernel)
      · exact hs _ (by decide +kernel)
      · exact hs _ (by decide +kernel)
    · have hj : j < 2 := hj
      rcases show j = 0 ∨ j = 1 by omega with rfl | rfl
      · exact hs _ (by decide +kernel)
      · exact hs _ (by decide +kernel)
    · have hj : j < 4 := hj
      rcases show j = 0 ∨ j = 1 ∨ j = 2 ∨ j = 3 by omega with rfl | rfl | rfl | rfl
      · exact hs _ (by decide +kernel)
      · exact hs _ (by decide +kernel)
      · exact hs _ (by decide +kernel)
      · exact hs _ (by decide +kernel)
    · have hj : j < 2 := hj
      rcases show j = 0 ∨ j = 1 by omega with rfl | rfl
      · exact hs _ (by decide +kernel)
      · exact hs _ (by decide +kernel)
  · intro i j hi hj hij
    rcases show i = 0 ∨ i = 1 ∨ i = 2 ∨ i = 3 by omega with rfl | rfl | rfl | rfl <;> rcases show j = 0 ∨ j = 1 ∨ j = 2 ∨ j = 3 by omega with rfl | rfl | rfl | rfl
    · exact absurd rfl hij
    · exact Or.inl (hs _ (by decide +kernel))
    · exact Or.inl (hs _ (by decide +kernel))
    · exact Or.inl (hs _ (by decide +kernel))
    · exact Or.inr (hs _ (by decide +kernel))
    · exact absurd rfl hij
    · exact Or.inl (hs _ (by decide +kernel))
    · exact Or.inl (hs _ (by decide +kernel))
    · exact Or.inr (hs _ (by decide +kernel))
    · exact Or.inr (hs _ (by decide +kernel))
    · exact absurd rfl hij
    · exact Or.inl (hs _ (by decide +kernel))
    · exact Or.inr (hs _ (by decide +kernel))
    · exact Or.inr (hs _ (by decide +kernel))
    · exact Or.inr (hs _ (by decide +kernel))
    · exact absurd rfl hij
theorem ent_arr {ty : FieldType} (h : (Cond.arrayClass ty).before args s = true) : ∃ c : ClassId, ArrOfT s c ty ∧ s.vm.findClass ("[" ++ ty.toString) = some c := by
  obtain ⟨c, k, comp, h1, h2, h3⟩ := Cond.arrayClass_spec h
  exact ⟨c, fun n z => ⟨fun k h => (by cases h), k, h2, comp, h3⟩, h1⟩
theorem ent_arrO {C : String} (h : (Cond.arrayOver (.object C)).before args s = true) : ∃ c : ClassId, ArrOfT s c (.object C) ∧ va_RA s c (.object C) := by
  obtain ⟨comp, c, k, h1, -, h3, h4, h5⟩ := Cond.arrayOver_spec h
  exact ⟨c, fun n z => ⟨fun k h => (by cases h), k, h3, comp, h4⟩, k, comp, h3, h4, h1, h5⟩
theorem inT (i : Nat) {w : Cond} (h : tables_1[i]? = some w) : w ∈ lw_tbl := List.mem_append_right _ (List.mem_of_getElem? h)
theorem ent_NW (hts : ∀ w ∈ lw_tbl, w.before args s = true) : NW s :=
  ⟨va_Nw.of rfl (hts _ (inT 28 (by decide +kernel))), va_Nw.of rfl (hts _ (inT 89 (by decide +kernel))), va_Nw.of rfl (hts _ (inT 105 (by decide +kernel))), va_Nw.of rfl (hts _ (inT 132 (by decide +kernel))), va_AO.of (hts _ (inT 130 (by decide +kernel)))⟩
theorem ent_BX (hts : ∀ w ∈ lw_tbl, w.before args s = true) : BX s :=
  ⟨va_Nw.of rfl (hts _ (inT 775 (by decide +kernel))), va_Nw.of rfl (hts _ (inT 776 (by decide +kernel))), va_Nw.of rfl (hts _ (inT 778 (by decide +kernel))), va_Nw.of rfl (hts _ (inT 780 (by decide +kernel)))⟩
theorem ent_TX {G : Gv} (hgb : gb G = s.heap.size) (hts : ∀ w ∈ lw_tbl, w.before args s = true) (hg : gvC.before args s = true) : TX G s s.heap := by
  have hs := flat_of_before _ hg
  have hA : ∀ a : Nat, a < s.heap.size → ¬ AG G a := fun a ha h => by
    have h : gb G ≤ a := h
    omega
  exact ⟨vx_Zqof (hts _ (inT 800 (by decide +kernel))) (hts _ (inT 14 (by decide +kernel))) (hs _ (by decide +kernel)) hA, vx_Zqof (hts _ (inT 802 (by decide +kernel))) (hts _ (inT 14 (by decide +kernel))) (hs _ (by decide +kernel)) hA, ent_BX hts⟩
theorem ent_G (hts : ∀ w ∈ lw_tbl, w.before args s = true) (hg : gvC.before args s = true) : ∃ G : Gv, gb G = s.heap.size ∧ va_K (G.1, G.2.1) vwCl (tyG G) s ∧ XS G s s.heap := by
  have hB : ∀ w ∈ TB, w.before args s = true := fun w hw => hts w (tb_in hw)
  have hs := flat_of_before _ hg
  obtain ⟨c0, j0, k0⟩ := u_known (N := 3) (T := TX0) hB clsX0.2.1 (hB _ ia_X0)
  obtain ⟨c1, j1, k1⟩ := u_known (N := 5) (T := TX1) hB clsX1.2.1 (hB _ ia_X1)
  obtain ⟨c2, j2, k2⟩ := u_known (N := 6) (T := TX2) hB clsX2.2.1 (hB _ ia_X2)
  obtain ⟨c3, j3, k3⟩ := u_known (N := 15) (T := TX3) hB clsX3.2.1 (hB _ ia_X3)
  obtain ⟨c4, j4, k4⟩ := u_known (N := 12) (T := TX5) hB clsX5.2.1 (hB _ ia_X5)
  obtain ⟨c5, j5, k5⟩ := u_known (N := 43) (T := TX6) hB clsX6.2.1 (hB _ ia_X6)
  obtain ⟨a0, p0⟩ := ent_arr (ty := .int) (hB _ arc_int)
  obtain ⟨a1, p1⟩ := ent_arr (ty := .long) (hB _ arc_long)
  obtain ⟨a2, p2⟩ := ent_arr (ty := .byte) (hB _ arc_byte)
  obtain ⟨a3, p3⟩ := ent_arrO (C := "FanCones$Fan") (hts _ (inT 130 (by decide +kernel)))
  have hA : ∀ a : Nat, a < s.heap.size → ¬ (fun q : Nat => s.heap.size ≤ q) a := fun a ha h => by
    have h : s.heap.size ≤ a := h
    omega
  obtain ⟨adK, adV, S, hev⟩ := ent_str hg hA
  refine ⟨(fun n => if n = 0 then c0 else if n = 1 then c1 else if n = 2 then c2 else if n = 3 then c3 else if n = 4 then c4 else c5, fun n => if n = 0 then j0 else if n = 1 then j1 else if n = 2 then j2 else if n = 3 then j3 else if n = 4 then j4 else if n = 5 then j5 else if n = 100 then adK else adV, fun n => if n = 0 then a0 else if n = 1 then a1 else if n = 2 then a2 else a3, s.heap.size), rfl, ⟨fun c q hq => ?_, fun k q hk => ?_⟩, S, fun i hi => ?_, ?_, ?_⟩
  · have hc : c < 6 := (List.getElem?_eq_some_iff.mp hq).1
    rcases show c = 0 ∨ c = 1 ∨ c = 2 ∨ c = 3 ∨ c = 4 ∨ c = 5 by omega with rfl | rfl | rfl | rfl | rfl | rfl
    · have hq : some ((RX0, TX0, 3) : vw_C) = some q := hq
      cases hq
      exact k0
    · have hq : some ((RX1, TX1, 5) : vw_C) = some q := hq
      cases hq
      exact k1
    · have hq : some ((RX2, TX2, 6) : vw_C) = some q := hq
      cases hq
      exact k2
    · have hq : some ((RX3, TX3, 15) : vw_C) = some q := hq
      cases hq
      exact k3
    · have hq : some ((RX5, TX5, 12) : vw_C) = some q := hq
      cases hq
      exact k4
    · have hq : some ((RX6, TX6, 43) : vw_C) = some q := hq
      cases hq
      exact k5
  · have hc : k < 4 := (List.getElem?_eq_some_iff.mp hk).1
    rcases show k = 0 ∨ k = 1 ∨ k = 2 ∨ k = 3 by omega with rfl | rfl | rfl | rfl
    · have hk : some ((a0, .int) : ClassId × FieldType) = some q := hk
      cases hk
      exact p0
    · have hk : some ((a1, .long) : ClassId × FieldType) = some q := hk
      cases hk
      exact p1
    · have hk : some ((a2, .byte) : ClassId × FieldType) = some q := hk
      cases hk
      exact p2
    · have hk : some ((a3, .object "FanCones$Fan") : ClassId × FieldType) = some q := hk
      cases hk
      exact p3
  · have hR : ∀ i : Nat, i < 4 → (Cond.stringRef RX6 (ixT.getD i 0) (txS.getD i "")).before args s = true := by
      refine all4 ?_ ?_ ?_ ?_
      · exact hts _ (inT 1034 (by decide +kernel))
      · exact hts _ (inT 1106 (by decide +kernel))
      · exact hts _ (inT 1107 (by decide +kernel))
      · exact hts _ (inT 1108 (by decide +kernel))
    exact vk_R.of (hR i hi) (hev i hi)
  · exact va_Zof (hts _ (inT 1051 (by decide +kernel))) (hts _ (inT 10 (by decide +kernel))) (va_eqt (hs _ (by decide +kernel))) hA
  · exact va_Zqof (hts _ (inT 1067 (by decide +kernel))) (hts _ (inT 12 (by decide +kernel))) (hs _ (by decide +kernel)) hA
end Entry

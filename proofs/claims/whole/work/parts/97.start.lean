/-! the memory behind both constructors -/
def mA : Mem := wr (fanI (wr (fanI (lpF (bM dz) 8) 47) 0 5 ((47 : Nat) : Int)) 51) 0 6 ((51 : Nat) : Int)
def mB : Mem := (wr (wr (wr (wr (wr (wr (wr (wr (wr (wr (wr (wr (wr (wr (wr (wr (wr (wr (wr (wr (wr mA 55 2 (-1)) 55 3 ((56 : Nat) : Int)) 55 14 ((57 : Nat) : Int)) 55 15 ((58 : Nat) : Int)) 55 16 ((59 : Nat) : Int)) 55 17 ((60 : Nat) : Int)) 55 18 ((61 : Nat) : Int)) 55 19 ((62 : Nat) : Int)) 55 20 ((63 : Nat) : Int)) 55 23 ((64 : Nat) : Int)) 55 24 ((65 : Nat) : Int)) 55 25 ((66 : Nat) : Int)) 55 26 ((67 : Nat) : Int)) 55 27 ((68 : Nat) : Int)) 55 28 ((69 : Nat) : Int)) 55 34 ((70 : Nat) : Int)) 55 35 ((71 : Nat) : Int)) 55 36 ((72 : Nat) : Int)) 55 37 ((73 : Nat) : Int)) 55 38 ((74 : Nat) : Int)) 55 42 ((75 : Nat) : Int))
theorem mB_s : ∀ q ∈ srl, mB q.1 q.2.1 = (q.2.2 : Int) := by decide +kernel
theorem mB_f : ∀ t, t < 10 → mB (15 + 4 * t) 2 = ((15 + 4 * t + 1 : Nat) : Int) ∧ mB (15 + 4 * t) 3 = ((15 + 4 * t + 2 : Nat) : Int) ∧ mB (15 + 4 * t) 4 = ((15 + 4 * t + 3 : Nat) : Int) := by decide +kernel
theorem mB_p : ∀ i, i < 8 → mB 14 i = ((15 + 4 * i : Nat) : Int) := by decide +kernel
theorem mB_5 : mB 0 5 = ((47 : Nat) : Int) := by decide +kernel
theorem mB_6 : mB 0 6 = ((51 : Nat) : Int) := by decide +kernel
theorem mB_GI : GI mB := ⟨mB_s, mB_f, ⟨47, ⟨8, by decide, rfl⟩, mB_5⟩, ⟨51, ⟨9, by decide, rfl⟩, mB_6⟩, fun i hi => ⟨15 + 4 * i, ⟨i, by omega, rfl⟩, mB_p i hi⟩⟩
theorem mB_r : ∀ y, y < 12 → 7 ≤ y → mB 0 y = 0 := by decide +kernel
theorem mB_t : mB 1 4 = 0 := by decide +kernel
theorem mB_m : ∀ y, y < 43 → (y < 2 ∨ (4 ≤ y ∧ y < 14) ∨ (y = 21 ∨ y = 22) ∨ (29 ≤ y ∧ y < 34) ∨ (39 ≤ y ∧ y < 42)) → mB 55 y = 0 := by decide +kernel
theorem mB_2 : mB 55 2 = -1 := by decide +kernel
theorem mB_47 : mB 47 0 = 0 ∧ mB 47 1 = 0 := by decide +kernel
def V0 : FV := (0, 0, fun _ => 0, fun _ => 0, fun _ _ => 0)
theorem gV0 : gV V0 := ⟨⟨⟨by show (0 : Int) ≤ 0; decide, by show (0 : Int) ≤ 24; decide⟩, ⟨by show (0 : Int) ≤ 0; decide, by show (0 : Int) ≤ 6; decide⟩, fun _ => ⟨by show -60 ≤ (0 : Int); decide, by show (0 : Int) ≤ 60; decide⟩, fun _ => ⟨by show -60 ≤ (0 : Int); decide, by show (0 : Int) ≤ 60; decide⟩, fun _ _ => ⟨by show -2000 ≤ (0 : Int); decide, by show (0 : Int) ≤ 2000; decide⟩⟩, Or.inl ⟨rfl, rfl⟩⟩
theorem cut0 (A : Nat → Int) : cut1 0 A = fun _ => 0 := funext fun j => by unfold cut1; rw [if_neg (by omega)]
theorem cut00 (A : Nat → Nat → Int) : cut2 0 0 A = fun _ _ => 0 := funext fun d => funext fun j => by unfold cut2; rw [if_neg (by omega)]
theorem mB_fv : fv mB 47 = V0 := by
  unfold fv V0
  rw [mB_47.1, mB_47.2, cut0, cut0, cut00]
theorem mB_mv : mv mB = V0 := by
  unfold mv V0
  rw [mB_m 29 (by decide) (by decide), mB_m 30 (by decide) (by decide), cut0, cut0, cut00]
theorem mB_slt0 : ∀ s, s < 10 → ∀ t, t < 10 → slt mB s = slt mB t → s = t := by decide +kernel
theorem mB_slt : rg mB := fun s t hs ht h => mB_slt0 s hs t ht h
theorem mB_cSt (H : Nat → FV) : cSt mB V0 0 H := by
  refine ⟨⟨mB_slt, fun t ht => ?_⟩, ⟨47, ⟨8, by decide, rfl⟩, mB_5, mB_fv⟩, gV0, mB_r 8 (by decide) (by decide), ⟨by decide, by decide⟩, by rw [mB_r 7 (by decide) (by decide)]; exact ⟨by decide, by decide⟩, fun j hj => by omega⟩
  unfold slt
  by_cases h0 : t = 0
  · rw [if_pos h0]; exact mB_GI.2.2.1
  · rw [if_neg h0]
    by_cases h1 : t = 1
    · rw [if_pos h1]; exact mB_GI.2.2.2.1
    · rw [if_neg h1]; exact mB_GI.2.2.2.2 (t - 2) (by omega)
theorem mB_mSt (H : Nat → FV) : mSt mB V0 0 H := by
  refine ⟨⟨mB_mv, gV0, Or.inr ⟨mB_m 32 (by decide) (by decide), rfl, rfl⟩⟩, mB_m 39 (by decide) (by decide), fun j hj => by omega, fun d i hd hi => ?_, fun j hj => by omega⟩
  rw [mB_m 29 (by decide) (by decide)] at hi
  omega
theorem mB_nb : nbM mB := by
  unfold nbM
  rw [mB_m 12 (by decide) (by decide), mB_m 9 (by decide) (by decide)]
  exact ⟨⟨by decide, by decide⟩, ⟨by decide, by decide⟩⟩
theorem srt0 : srt V0 := fun i j i0 ij j1 => by have : j < 0 := j1; omega

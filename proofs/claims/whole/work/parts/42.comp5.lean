/-! the ring of fans -/
def nx8 (n : Int) : Int := if n = 7 then 0 else n + 1
def pv8 (n : Int) : Int := if n = 0 then 7 else n - 1
def kpM (mu : Mem) (f g p : Nat) (n : Int) : Mem := wr (wr (wr (wr (wr mu 14 n.toNat f) 0 5 g) 0 6 p) 0 7 (nx8 n)) 0 8 (min 8 (mu 0 8 + 1))
def pr8 (n : Int) : Int := if n < 0 then 7 else if n < 8 then n else 0
theorem pr8_id {n : Int} (h0 : 0 ≤ n) (h1 : n < 8) : pr8 n = n := by unfold pr8; rw [if_neg (by omega), if_pos h1]
theorem pr8_nx {n : Int} (h0 : 0 ≤ n) (h1 : n < 8) : pr8 (n + 1) = nx8 n := by
  unfold pr8 nx8
  split
  · omega
  · split <;> split <;> omega
theorem pr8_pv {n : Int} (h0 : 0 ≤ n) (h1 : n < 8) : pr8 (n - 1) = pv8 n := by
  unfold pr8 pv8
  split
  · split <;> omega
  · split <;> split <;> omega
theorem t_X5_placeInRing {mu : Mem} {n : Int} (h : R32 n) : TrE 0 mX5_placeInRing [vi n] mu (some (vi (pr8 n))) mu := by
  refine Tr.of (by decide +kernel) (Nat.le_of_ble_eq_true rfl) (fun K C E => ?_)
  unfold R32 at h
  unfold pr8 at E
  refine aw_iload_n C dX5_placeInRing_0 rfl ?_
  refine aw_if_ge C dX5_placeInRing_1 (tgt := 9) (by decide) ⟨by omega, by omega⟩ (fun c1 => ?_) (fun c1 => ?_)
  · rw [if_neg (show ¬ n < 0 by omega)] at E
    --go
    refine aw_iload_n C dX5_placeInRing_9 rfl ?_
    refine aw_bipush C dX5_placeInRing_10 rfl ?_
    refine aw_icmp_lt C dX5_placeInRing_12 (tgt := 19) (by decide) ⟨by omega, by omega⟩ ⟨by omega, by omega⟩ (fun c2 => ?_) (fun c2 => ?_)
    · rw [if_pos (show n < 8 by omega)] at E
      --go
      refine aw_iload_n C dX5_placeInRing_19 rfl ?_
      exact aw_iret C E dX5_placeInRing_20 rfl ⟨rfl, rfl⟩
    · rw [if_neg (show ¬ n < 8 by omega)] at E
      --go
      refine aw_iconst C dX5_placeInRing_15 ?_
      refine aw_goto C dX5_placeInRing_16 (tgt := 20) (by decide) ?_
      exact aw_iret C E dX5_placeInRing_20 rfl ⟨rfl, rfl⟩
  · rw [if_pos (show n < 0 by omega)] at E
    --go
    refine aw_bipush C dX5_placeInRing_4 rfl ?_
    refine aw_goto C dX5_placeInRing_6 (tgt := 20) (by decide) ?_
    exact aw_iret C E dX5_placeInRing_20 rfl ⟨rfl, rfl⟩
theorem t_X5_keepDraft {mu : Mem} {f g p : Nat} {n : Int} (hf : isF f) (hg : isF g) (hp : isF p) (efn : mu 0 5 = (f : Int)) (egd : mu 0 6 = (g : Int)) (en : mu 0 7 = n) (h0 : 0 ≤ n) (h1 : n < 8) (ep : mu 14 n.toNat = (p : Int)) (ha : 0 ≤ mu 0 8 ∧ mu 0 8 ≤ 8) : TrE 1 mX5_keepDraft [vr 0] mu none (kpM mu f g p n) := by
  refine Tr.of (by decide +kernel) (Nat.le_of_ble_eq_true rfl) (fun K C E => ?_)
  unfold kpM at E
  refine aw_aload_n C dX5_keepDraft_0 rfl ?_
  refine aw_getI C dX5_keepDraft_1 fX5_277 ⟨rfl, by decide⟩ rfl ?_
  rw [en]
  refine aw_callS1 C dX5_keepDraft_4 lX5_280 vX5_placeInRing (t_X5_placeInRing ⟨by omega, by omega⟩) rfl rfl rfl ⟨by decide, by decide⟩ (Nat.le_of_ble_eq_true rfl) ?_
  rw [pr8_id h0 h1]
  refine aw_istore_n C dX5_keepDraft_7 (by decide) ?_
  refine aw_aload_n C dX5_keepDraft_8 rfl ?_
  refine aw_getS C dX5_keepDraft_9 fX5_38 ⟨rfl, by decide⟩ rfl rfl (srf 0 4 14 (by decide)) ?_
  refine aw_iload_n C dX5_keepDraft_12 rfl ?_
  refine aw_aald C dX5_keepDraft_13 rfl (by omega) (by omega) (fun g1 hg1 eg1 => ?_)
  obtain rfl : g1 = p := by rw [ep] at eg1; omega
  refine aw_astore_n C dX5_keepDraft_14 (by decide) ?_
  refine aw_aload_n C dX5_keepDraft_15 rfl ?_
  refine aw_getS C dX5_keepDraft_16 fX5_38 ⟨rfl, by decide⟩ rfl rfl (srf 0 4 14 (by decide)) ?_
  refine aw_iload_n C dX5_keepDraft_19 rfl ?_
  refine aw_aload_n C dX5_keepDraft_20 rfl ?_
  refine aw_getR C dX5_keepDraft_21 fX5_43 ⟨rfl, by decide⟩ rfl efn ?_
  refine aw_aast C dX5_keepDraft_24 rfl hf (by omega) (by omega) ?_
  refine aw_aload_n C dX5_keepDraft_25 rfl ?_
  refine aw_aload_n C dX5_keepDraft_26 rfl ?_
  refine aw_getR C dX5_keepDraft_27 fX5_47 ⟨rfl, by decide⟩ rfl egd ?_
  refine aw_putD C dX5_keepDraft_30 fX5_43 rfl (by decide) hg rfl rfl ?_
  refine aw_aload_n C dX5_keepDraft_33 rfl ?_
  refine aw_aload_n C dX5_keepDraft_34 rfl ?_
  refine aw_putD C dX5_keepDraft_35 fX5_47 rfl (by decide) hg1 rfl rfl ?_
  refine aw_aload_n C dX5_keepDraft_38 rfl ?_
  refine aw_iload_n C dX5_keepDraft_39 rfl ?_
  refine aw_iconst C dX5_keepDraft_40 ?_
  refine aw_iadd C dX5_keepDraft_41 ?_
  refine aw_callS1 C dX5_keepDraft_42 lX5_280 vX5_placeInRing (t_X5_placeInRing ⟨by omega, by omega⟩) rfl rfl rfl ⟨by decide, by decide⟩ (Nat.le_of_ble_eq_true rfl) ?_
  rw [pr8_nx h0 h1]
  refine aw_putI C dX5_keepDraft_45 fX5_277 ⟨rfl, by decide⟩ rfl rfl rfl ?_
  refine aw_aload_n C dX5_keepDraft_48 rfl ?_
  refine aw_bipush C dX5_keepDraft_49 rfl ?_
  refine aw_aload_n C dX5_keepDraft_51 rfl ?_
  refine aw_getI C dX5_keepDraft_52 fX5_94 ⟨rfl, by decide⟩ rfl ?_
  rw [wr_at, if_neg (by omega), wr_at, if_neg (by omega), wr_at, if_neg (by omega), wr_ne (by omega)]
  refine aw_iconst C dX5_keepDraft_55 ?_
  refine aw_iadd C dX5_keepDraft_56 ?_
  refine aw_callS1 C dX5_keepDraft_57 lX5_303 vJ9_min_7cf53 (t_J9_min_7cf53 ⟨by omega, by omega⟩ ⟨by omega, by omega⟩) rfl rfl rfl ⟨by decide, by decide⟩ (Nat.le_of_ble_eq_true rfl) ?_
  refine aw_putI C dX5_keepDraft_60 fX5_94 ⟨rfl, by decide⟩ rfl rfl rfl ?_
  exact aw_vret C E dX5_keepDraft_63 rfl ⟨rfl, rfl⟩
theorem t_X5_keepIf {mu : Mem} {f g p : Nat} {n : Int} (hf : isF f) (hg : isF g) (hp : isF p) (efn : mu 0 5 = (f : Int)) (egd : mu 0 6 = (g : Int)) (en : mu 0 7 = n) (h0 : 0 ≤ n) (h1 : n < 8) (ep : mu 14 n.toNat = (p : Int)) (ha : 0 ≤ mu 0 8 ∧ mu 0 8 ≤ 8) {b : Int} (hb : b = 0 ∨ b = 1) : TrE 2 mX5_keepIf [vr 0, vi b] mu (some (vi b)) (if b = 0 then wr mu 0 11 3 else kpM mu f g p n) := by
  refine Tr.of (by decide +kernel) (Nat.le_of_ble_eq_true rfl) (fun K C E => ?_)
  refine aw_iload_n C dX5_keepIf_0 rfl ?_
  refine aw_if_ne C dX5_keepIf_1 (tgt := 11) (by decide) ⟨by omega, by omega⟩ (fun c1 => ?_) (fun c1 => ?_)
  · rw [if_neg c1, show b = 1 by omega] at E
    --go
    refine aw_aload_n C dX5_keepIf_11 rfl ?_
    refine aw_call0 C dX5_keepIf_12 lX5_242 vX5_keepDraft (t_X5_keepDraft hf hg hp efn egd en h0 h1 ep ha) rfl rfl rfl ⟨rfl, by decide⟩ rfl ⟨by decide, by decide⟩ (Nat.le_of_ble_eq_true rfl) ?_
    refine aw_iconst C dX5_keepIf_15 ?_
    exact aw_zret C E dX5_keepIf_16 rfl (by omega) ⟨rfl, rfl⟩
  · rw [if_pos c1, c1] at E
    --go
    refine aw_aload_n C dX5_keepIf_4 rfl ?_
    refine aw_iconst C dX5_keepIf_5 ?_
    refine aw_putI C dX5_keepIf_6 fX5_62 ⟨rfl, by decide⟩ rfl rfl rfl ?_
    refine aw_iconst C dX5_keepIf_9 ?_
    exact aw_zret C E dX5_keepIf_10 rfl (by omega) ⟨rfl, rfl⟩
/-- the fan's cells in their places: 0 the standing fan, 1 the draft, then the past -/
def slt (mu : Mem) (t : Nat) : Int := if t = 0 then mu 0 5 else if t = 1 then mu 0 6 else mu 14 (t - 2)
def rg (mu : Mem) : Prop := ∀ s t, s < 10 → t < 10 → slt mu s = slt mu t → s = t
theorem slt_0 (mu : Mem) : slt mu 0 = mu 0 5 := rfl
theorem slt_1 (mu : Mem) : slt mu 1 = mu 0 6 := rfl
theorem slt_p (mu : Mem) (i : Nat) : slt mu (i + 2) = mu 14 i := by unfold slt; rw [if_neg (by omega), if_neg (by omega)]; rfl
/-- keeping turns three places round -/
theorem slt_kp {mu : Mem} {f g p : Nat} {n : Int} (efn : mu 0 5 = (f : Int)) (egd : mu 0 6 = (g : Int)) (h0 : 0 ≤ n) (h1 : n < 8) (ep : mu 14 n.toNat = (p : Int)) : ∃ q : Nat → Nat, (∀ t, t < 10 → q t < 10) ∧ (∀ s t, q s = q t → s = t) ∧ ∀ t, slt (kpM mu f g p n) t = slt mu (q t) := by
  let q : Nat → Nat := fun t => if t = 0 then 1 else if t = 1 then n.toNat + 2 else if t = n.toNat + 2 then 0 else t
  have hq : ∀ t, t < 10 → q t < 10 := fun t ht => by show (if t = 0 then 1 else if t = 1 then n.toNat + 2 else if t = n.toNat + 2 then 0 else t) < 10; split; omega; split; omega; split <;> omega
  have hi : ∀ s t, q s = q t → s = t := fun s t e => by
    have e : (if s = 0 then 1 else if s = 1 then n.toNat + 2 else if s = n.toNat + 2 then 0 else s) = (if t = 0 then 1 else if t = 1 then n.toNat + 2 else if t = n.toNat + 2 then 0 else t) := e
    split at e <;> split at e <;> (try split at e) <;> (try split at e) <;> (try split at e) <;> (try split at e) <;> omega
  have e : ∀ t, slt (kpM mu f g p n) t = slt mu (q t) := fun t => by
    show _ = slt mu (if t = 0 then 1 else if t = 1 then n.toNat + 2 else if t = n.toNat + 2 then 0 else t)
    have k : ∀ b, b ≠ 7 → b ≠ 8 → kpM mu f g p n 0 b = wr (wr mu 0 5 g) 0 6 p 0 b := fun b b1 b2 => by
      unfold kpM
      rw [wr_at, if_neg (by omega), wr_at, if_neg (by omega), wr_at, wr_at, wr_ne (by omega), wr_at, wr_at]
    have k14 : ∀ b, kpM mu f g p n 14 b = wr mu 14 n.toNat f 14 b := fun b => by
      unfold kpM
      rw [wr_ne (by omega), wr_ne (by omega), wr_ne (by omega), wr_ne (by omega)]
    by_cases t0 : t = 0
    · subst t0
      rw [if_pos rfl, slt_0, slt_1, k 5 (by decide) (by decide), wr_at, if_neg (by omega), wr_at, if_pos ⟨rfl, rfl⟩, egd]
    · rw [if_neg t0]
      by_cases t1 : t = 1
      · subst t1
        rw [if_pos rfl, slt_1, slt_p, k 6 (by decide) (by decide), wr_at, if_pos ⟨rfl, rfl⟩, ep]
      · rw [if_neg t1]
        obtain ⟨i, rfl⟩ : ∃ i, t = i + 2 := ⟨t - 2, by omega⟩
        rw [slt_p, k14, wr_at]
        by_cases ti : i = n.toNat
        · rw [if_pos ⟨rfl, ti⟩, if_pos (by omega), slt_0, efn]
        · rw [if_neg (by omega), if_neg (by omega), slt_p]
  exact ⟨q, hq, hi, e⟩
def rgF (mu : Mem) : Prop := rg mu ∧ ∀ t, t < 10 → isFz (slt mu t)
theorem rg_kp {mu : Mem} {f g p : Nat} {n : Int} (h : rgF mu) (efn : mu 0 5 = (f : Int)) (egd : mu 0 6 = (g : Int)) (h0 : 0 ≤ n) (h1 : n < 8) (ep : mu 14 n.toNat = (p : Int)) : rgF (kpM mu f g p n) := by
  obtain ⟨q, hq, hi, e⟩ := slt_kp efn egd h0 h1 ep
  refine ⟨fun s t hs ht est => ?_, fun t ht => ?_⟩
  · rw [e, e] at est
    exact hi s t (h.1 _ _ (hq s hs) (hq t ht) est)
  · rw [e]; exact h.2 _ (hq t ht)
theorem rg_ne {mu : Mem} (h : rgF mu) {s t : Nat} {a b : Nat} (hs : s < 10) (ht : t < 10) (ea : slt mu s = (a : Int)) (eb : slt mu t = (b : Int)) (hne : s ≠ t) : a ≠ b := fun w => hne (h.1 s t hs ht (by rw [ea, eb, w]))

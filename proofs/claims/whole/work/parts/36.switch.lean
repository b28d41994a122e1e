/-! switches -/
def tsk (P : Nat → Prop) (x : Int) : Int → List Nat → Prop
  | _, [] => True
  | a, t :: r => (x = a → P t) ∧ tsk P x (a + 1) r
theorem tsk_at {P : Nat → Prop} {x : Int} : ∀ (tl : List Nat) (a : Int) (j t : Nat), tsk P x a tl → x = a + j → tl[j]? = some t → P t
  | [], _, _, _, _, _, h => by simp at h
  | t0 :: r, a, 0, t, h, hx, ht => by
    have e : t0 = t := by simpa using ht
    rw [← e]
    exact h.1 (by omega)
  | t0 :: r, a, j + 1, t, h, hx, ht => tsk_at r (a + 1) j t h.2 (by omega) (by simpa using ht)
theorem aw_tsw {K : KT} {M : MI} {w : Nat × Nat × Nat} {pc dd : Nat} {L S : List Vv} {mu : Mem} (C : CX K w M dd) {x dflt lo hi : Int} {offs : Array Int} {len tgt : Nat} (tl : List Nat) (hd : decode M.2.1 pc = .ok (.tableswitch dflt lo hi offs, len)) (rx : R32 x) (hm : offs.toList.map (fun o => (pc : Int) + o) = tl.map (fun t : Nat => (t : Int))) (hh : hi + 1 = lo + (tl.length : Int)) (ht : (pc : Int) + dflt = (tgt : Int)) (kin : tsk (fun t => AW K M w t L S mu) x lo tl) (kout : x < lo ∨ hi < x → AW K M w tgt L S mu) : AW K M w pc L (vi x :: S) mu := by
  by_cases h : x < lo ∨ hi < x
  · exact aw_tableOut C hd rx h ht (kout h)
  · have hj : (x - lo).toNat < tl.length := by omega
    have e := congrArg (fun l : List Int => l[(x - lo).toNat]?) hm
    have e1 : (tl.map (fun t : Nat => (t : Int)))[(x - lo).toNat]? = some ((tl[(x - lo).toNat] : Nat) : Int) := by
      rw [List.getElem?_map, List.getElem?_eq_getElem hj]; rfl
    have e : (offs.toList.map (fun o => (pc : Int) + o))[(x - lo).toNat]? = some ((tl[(x - lo).toNat] : Nat) : Int) := e.trans e1
    rw [List.getElem?_map] at e
    obtain ⟨off, h1, h2⟩ := Option.map_eq_some_iff.mp e
    exact aw_tableIn C hd rx (by omega) (by omega) (by rw [← Array.getElem?_toList]; exact h1) h2 (tsk_at tl lo (x - lo).toNat _ kin (by omega) (List.getElem?_eq_getElem hj))
theorem aw_lsw2 {K : KT} {M : MI} {w : Nat × Nat × Nat} {pc dd : Nat} {L S : List Vv} {mu : Mem} (C : CX K w M dd) {x dflt a1 o1 a2 o2 : Int} {len t1 t2 tgt : Nat} (hd : decode M.2.1 pc = .ok (.lookupswitch dflt #[(a1, o1), (a2, o2)], len)) (rx : R32 x) (hlt : a1 < a2) (h1 : (pc : Int) + o1 = (t1 : Int)) (h2 : (pc : Int) + o2 = (t2 : Int)) (ht : (pc : Int) + dflt = (tgt : Int)) (k1 : x = a1 → AW K M w t1 L S mu) (k2 : x = a2 → AW K M w t2 L S mu) (k3 : x ≠ a1 → x ≠ a2 → AW K M w tgt L S mu) : AW K M w pc L (vi x :: S) mu := by
  have C0 := C
  obtain ⟨p, l, e, R, s, m, args, below, meth, c, G, Q⟩ := K
  obtain ⟨hx, hb, hml, hown, hts, hK, hlk, hgb, hRm, hw⟩ := C
  intro ls H locs hl hW hS
  have hp : (([(a1, o1), (a2, o2)] : List (Int × Int)).zip (([(a1, o1), (a2, o2)] : List (Int × Int)).drop 1)).all (fun (a, next) => a.1 < next.1) = true := by simp [hlt]
  by_cases c1 : x = a1
  · exact lv_lookup hx hb hd hp (by rw [r32 rx]; show Op.lookupswitch.offset [(a1, o1), (a2, o2)] dflt x = o1; rw [Op.lookupswitch.offset_cons, if_pos c1.symm]) h1 (k1 c1 ls H locs hl hW hS)
  · by_cases c2 : x = a2
    · exact lv_lookup hx hb hd hp (by rw [r32 rx]; show Op.lookupswitch.offset [(a1, o1), (a2, o2)] dflt x = o2; rw [Op.lookupswitch.offset_cons, if_neg (fun z => c1 z.symm), Op.lookupswitch.offset_cons, if_pos c2.symm]) h2 (k2 c2 ls H locs hl hW hS)
    · exact lv_lookup hx hb hd hp (by rw [r32 rx]; show Op.lookupswitch.offset [(a1, o1), (a2, o2)] dflt x = dflt; rw [Op.lookupswitch.offset_cons, if_neg (fun z => c1 z.symm), Op.lookupswitch.offset_cons, if_neg (fun z => c2 z.symm)]; first | rfl | simp [Op.lookupswitch.offset]) ht (k3 c1 c2 ls H locs hl hW hS)

/-! the words of a throw -/
def nse : String := "java/util/NoSuchElementException"
def nmX : List String := ["java/lang/RuntimeException", "java/lang/Exception"]
def atX : List Cond := vx_at0 RX5 291 nse nmX
def tabX : List Cond := (tables_1.drop 760).take 80
theorem atX_g : (atX.filter goodWord).all (fun w => decide (w ∈ tabX) || decide (w ∈ tables_1.take 30)) = true := by decide +kernel
theorem atX_tb : ∀ w ∈ atX.filter goodWord, w ∈ TB := fun w hw => by
  have h := List.all_eq_true.mp atX_g w hw
  have g := (List.mem_filter.mp hw).2
  have m : w ∈ tables_1 := by
    rcases (Bool.or_eq_true _ _).mp h with h | h
    · exact List.mem_of_mem_drop (List.mem_of_mem_take (of_decide_eq_true h))
    · exact List.mem_of_mem_take (of_decide_eq_true h)
  exact List.mem_filter.mpr ⟨List.mem_append_right _ m, g⟩
def dcl (c : String) : Cond := .declares ⟨c, "<init>", "()V"⟩
def BXl : List Cond := [Cond.castable nse nse, dcl "java/lang/RuntimeException", dcl "java/lang/Exception", dcl "java/lang/Throwable"]
theorem atX_b : (atX.filter (fun w => !goodWord w)).all (fun w => decide (w ∈ BXl)) = true := by decide +kernel
/-- the words of a throw that a contract must carry -/
def BX (U : State) : Prop := va_Nw (Cond.castable nse nse) U ∧ va_Nw (dcl "java/lang/RuntimeException") U ∧ va_Nw (dcl "java/lang/Exception") U ∧ va_Nw (dcl "java/lang/Throwable") U
theorem BX.warm {s U : State} (hW : s.WarmedH U.vm) (h : BX s) : BX U := ⟨va_Nw.warmC hW h.1, va_Nw.warmD hW h.2.1, va_Nw.warmD hW h.2.2.1, va_Nw.warmD hW h.2.2.2⟩
theorem BX.same {u U : State} (hv : u.vm = U.vm) (h : BX u) : BX U := ⟨va_Nw.same rfl hv h.1, va_Nw.same rfl hv h.2.1, va_Nw.same rfl hv h.2.2.1, va_Nw.same rfl hv h.2.2.2⟩
theorem atX_all {args : Array Value} {s : State} (hts : ∀ w ∈ TB, w.before args s = true) (hB : BX s) : ∀ w ∈ atX, w.before args s = true :=
  vx_hat (fun w hw => hts w (atX_tb w hw)) (fun w hw => of_decide_eq_true (List.all_eq_true.mp atX_b w hw)) (vx_c (va_Nw.use rfl hB.1) (vx_c (va_Nw.use rfl hB.2.1) (vx_c (va_Nw.use rfl hB.2.2.1) (vx_c (va_Nw.use rfl hB.2.2.2) vx_n))))
theorem izX : Cond.initialized nse ∈ TB := tb_t 17 (by decide +kernel) (by decide +kernel)
theorem atX_ot : (Cond.classLink RX5 289 nse :: Cond.initialized nse :: atX).all vx_ot = true := by decide +kernel
theorem clX : Cond.classLink RX5 289 nse ∈ TB := tb_t 773 (by decide +kernel) (by decide +kernel)

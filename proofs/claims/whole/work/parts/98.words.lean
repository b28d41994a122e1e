/-! the words of a throw -/
def nse : String := "java/util/NoSuchElementException"
def nmX : List String := ["java/lang/RuntimeException", "java/lang/Exception"]
def atX : List Cond := vx_at0 RX5 288 nse nmX
def tabX : List Cond := (tables_1.drop 760).take 80
theorem atX_g : (atX.filter goodWord).all (fun w => decide (w ∈ tabX) || decide (w ∈ tables_1.take 30)) = true := by decide +kernel

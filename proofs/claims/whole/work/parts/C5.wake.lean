/-! ===== run: the numbers of the wakes ===== -/
def wkE (p : Int32) : UInt64 := FP.dadd 4607182418800017408 (FP.dmul (FP.i2d p) 4591870180066957722)
def wkO (p : Int32) : UInt64 := FP.ddiv 4603579539098121011 (FP.dmul (wkE p) (wkE p))
def wkW (p : Int32) : UInt64 := FP.dmul (wkO p) (wkO p)
/-- a number that is finite, from the bits -/
def finB (x : UInt64) : Bool := decide (x.toNat % 2 ^ 63 < 9218868437227405312)
def wkB (p : Int32) : Bool := finB (FP.dmul (FP.i2d p) 4591870180066957722) && finB (wkE p) && finB (FP.dmul (wkE p) (wkE p)) && finB (wkO p) && decide (2 ^ 52 * 900 ≤ (wkW p).toNat) && decide ((wkW p).toNat ≤ 4600000000000000000)
theorem wk_tab : ((List.range 400).all fun k => wkB (nI (k + 1))) = true := by decide +kernel

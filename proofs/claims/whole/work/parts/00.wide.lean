/-! ===== names a law of doubles, so that a round reads the whole library from the start ===== -/
theorem wide_0 (s : Bool) (A B : Nat) (e : Int) : FP.Core.roundRatio FP.Core.b64 s A B e ≠ .nan := FP.Core.roundRatio_ne_nan _ _ _ _ _

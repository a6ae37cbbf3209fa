/-! ===== the fixed world behind stores of an act ===== -/
theorem FX.sR9 {n : Nat} {ad sa : Nat → Nat} {z0 : Nat} {h : mH} (fx : FX n ad sa z0 h) {k : Nat} {v : Option Nat} (hf : ((fxR.all fun r => fp [(9, k)] [] r.1 r.2.1) && fr [(9, k)] [] 7 && ft [(9, k)] []) = true) : FX n ad sa z0 (sR h (ad 9) k v) := by
  have c : Chg n ad [(9, k)] [] h (sR h (ad 9) k v) := Chg.rf.sR (fx_j fx) (.inl (by decide))
  exact fx.k c.1 c.2.1 c.2.2 hf
theorem FX.sRT {n : Nat} {ad sa : Nat → Nat} {z0 : Nat} {h : mH} (fx : FX n ad sa z0 h) {t k : Nat} {v : Option Nat} (ht : t < n) : FX n ad sa z0 (sR h (ad (101 + 5 * t)) k v) := by
  obtain ⟨x1, x2, x3, x4, x5, x6, x7, x8, x9⟩ := id fx
  have ne : ∀ i, i ≠ 101 + 5 * t → ∀ j, hR (sR h (ad (101 + 5 * t)) k v) (ad i) j = hR h (ad i) j := fun i hi j => R_ne (fx_ne fx hi)
  refine ⟨x1, x2, fun r hr => ?_, fun u hu => ?_, fun j hj => ?_, x6, x7, x8, x9⟩
  · have : ∀ r ∈ fxR, (r.1 < 23 ∨ 30 ≤ r.1) ∧ r.1 < 76 := by decide
    have := this r hr
    rw [ne _ (by omega)]; exact x3 r hr
  · obtain ⟨y1, y2, y3, y4, y5, y6, y7, y8, y9, y10⟩ := x4 u hu
    refine ⟨?_, y2, y3, y4, y5, y6, ?_, ?_, ?_, ?_⟩
    · rw [ne _ (by omega)]; exact y1
    · rw [ne _ (by omega)]; exact y7
    · rw [ne _ (by omega)]; exact y8
    · rw [ne _ (by omega)]; exact y9
    · rw [ne _ (by omega)]; exact y10
  · obtain ⟨y1, y2, y3⟩ := x5 j hj
    have z := (fx_lt fx (i := 101 + 5 * t) (.inr ⟨by omega, by omega⟩)).2.1
    rw [R_ne (show (0 : Nat) ≠ ad (101 + 5 * t) by omega)]
    exact ⟨y1, y2, y3⟩

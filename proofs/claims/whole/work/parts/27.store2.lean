/-! ===== from a change of fixed objects to the store's sameness ===== -/
theorem smS_of {n : Nat} {ad sa : Nat → Nat} {z0 : Nat} {P : List (Nat × Nat)} {A : List Nat} {h h2 : mH} (fx : FX n ad sa z0 h) (c : Chg n ad P A h h2) (hf : (fp P A 0 5 && fp P A 30 6 && fr P A 37 && fr P A 38 && fr P A 33 && fr P A 34 && fr P A 35 && fr P A 36) = true) : smS ad z0 h h2 := by
  simp only [Bool.and_eq_true] at hf
  obtain ⟨⟨⟨⟨⟨⟨⟨f1, f2⟩, f37⟩, f38⟩, f33⟩, f34⟩, f35⟩, f36⟩ := hf
  obtain ⟨⟨s1, s2, s3, s4⟩, c, y⟩ := c
  refine ⟨fun a ha => ?_, fun t => ⟨c.rI f33 t, c.rI f34 t, c.rI f35 t, fun i _ => c.rL f36 _⟩, ⟨c.pI f1, c.pI f2, fun q => ⟨c.rI f37 q, c.rL f38 q⟩⟩, s1, s3⟩
  obtain ⟨y1, y2, y3, y4⟩ := y a (fun i hi e => by have := (fx_lt fx hi).1; omega)
  exact ⟨by rw [s1], by rw [s2], y1, y2, y4⟩

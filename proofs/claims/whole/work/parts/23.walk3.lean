/-! ===== more helpers of the second walker ===== -/
theorem ix_of {x : Int32} {n : Nat} (h0 : 0 ≤ x.toInt) (h1 : x.toInt < n) : ∃ k, k < n ∧ x = nI k := by
  obtain ⟨j, hj, e⟩ := nI_of (x := x) (fun q => by have := i_lt q; have : (0 : Int32).toInt = 0 := rfl; omega)
  refine ⟨j, ?_, e⟩
  have := i_eq e; have : (nI j).toInt = j := nI_toInt hj; omega
theorem i_inj {x y : Int32} (q : x.toInt = y.toInt) : x = y := Int32.toInt_inj.mp q
theorem l_inj {x y : Int64} (q : x.toInt = y.toInt) : x = y := Int64.toInt_inj.mp q
theorem fx_j {n : Nat} {ad sa : Nat → Nat} {z0 : Nat} {h : mH} (fx : FX n ad sa z0 h) : ∀ i j, ad i = ad j → i = j := fun _ _ e => fx_inj fx e
/-- a store of a reference into the cases keeps the fixed world -/
theorem FX.sRA {n : Nat} {ad sa : Nat → Nat} {z0 : Nat} {h : mH} (fx : FX n ad sa z0 h) {i k : Nat} {v : Option Nat} (hd : dom n i) (hf : ((fxR.all fun r => fp [] [i] r.1 r.2.1) && fr [] [i] 7 && ft [] [i]) = true) : FX n ad sa z0 (sR h (ad i) k v) := by
  have c : Chg n ad [] [i] h (sR h (ad i) k v) := (Chg.rf.sR (fx_j fx) hd).row
  exact fx.k c.1 c.2.1 c.2.2 hf
/-- a store of a reference into what is no fixed object keeps the fixed world -/
theorem FX.dyR {n : Nat} {ad sa : Nat → Nat} {z0 : Nat} {h : mH} (fx : FX n ad sa z0 h) {a k : Nat} {v : Option Nat} (ha : z0 ≤ a) : FX n ad sa z0 (sR h a k v) := by
  obtain ⟨x1, x2, x3, x4, x5, x6, x7, x8, x9⟩ := id fx
  have q : ∀ i j, dom n i → hR (sR h a k v) (ad i) j = hR h (ad i) j := fun i j hd => R_ne (ad_dy fx hd ha)
  refine ⟨x1, x2, fun r hr => ?_, fun t ht => ?_, fun j hj => ?_, x6, x7, x8, x9⟩
  · rw [q _ _ ?_]; exact x3 r hr
    have : ∀ r ∈ fxR, (r.1 < 23 ∨ 30 ≤ r.1) ∧ r.1 < 76 := by decide
    exact .inl (this r hr)
  · obtain ⟨y1, y2, y3, y4, y5, y6, y7, y8, y9, y10⟩ := x4 t ht
    have d0 : dom n (100 + 5 * t) := .inr ⟨by omega, by omega⟩
    refine ⟨?_, y2, y3, y4, y5, y6, ?_, ?_, ?_, ?_⟩
    · rw [q _ _ (.inl (by decide))]; exact y1
    · rw [q _ _ d0]; exact y7
    · rw [q _ _ d0]; exact y8
    · rw [q _ _ d0]; exact y9
    · rw [q _ _ d0]; exact y10
  · obtain ⟨y1, y2, y3⟩ := x5 j hj
    have : (0 : Nat) ≠ a := by have := (x7 0 (.inl (by decide))); omega
    rw [R_ne this]
    exact ⟨y1, y2, y3⟩

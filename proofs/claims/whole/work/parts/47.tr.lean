/-! ===== what pushes of traces keep ===== -/
section TR
variable {n : Nat} {ad sa : Nat → Nat} {z0 : Nat} {mid pa : Nat → Nat} {np : Nat} {h h2 h3 : mH} {P P2 : List (Nat × Nat)} {A A2 : List Nat}
theorem Chf.rf : Chf n ad [] [] h h := fun _ _ _ _ _ => ⟨rfl, rfl, rfl, rfl⟩
theorem Chf.t (c : Chf n ad P A h h2) (c2 : Chf n ad P2 A2 h2 h3) : Chf n ad (P ++ P2) (A ++ A2) h h3 := by
  intro i j hd p q
  simp only [List.mem_append, not_or] at p q
  obtain ⟨e1, e2, e3, e4⟩ := c i j hd p.1 q.1
  obtain ⟨g1, g2, g3, g4⟩ := c2 i j hd p.2 q.2
  exact ⟨g1.trans e1, g2.trans e2, g3.trans e3, g4.trans e4⟩
theorem Chf.m (c : Chf n ad P A h h2) (hf : ((P.all fun p => P2.contains p) && A.all fun a => A2.contains a) = true) : Chf n ad P2 A2 h h2 := by
  simp only [Bool.and_eq_true, List.all_eq_true, List.contains_iff_mem] at hf
  exact fun i j hd p q => c i j hd (fun z => p (hf.1 _ z)) (fun z => q (hf.2 _ z))
theorem Chf.pCs (fx : FX n ad sa z0 h) (L : List Int32) : Chf n ad [(2, 1)] [3] h (pCs ad L h) := by
  intro i j hd p q
  simp only [List.mem_cons, List.not_mem_nil, or_false] at p q
  refine ⟨pCs_I (fx_ne fx q) (fun z => p (by rw [fx_inj fx z.1, z.2])) L h, ?_, ?_, ?_⟩
  · rw [pCs_L]
  · rw [pCs_D]
  · rw [pCs_R]
theorem Chf.pMs (fx : FX n ad sa z0 h) (L : List Int32) : Chf n ad [(30, 9)] [39] h (pMs ad L h) := by
  intro i j hd p q
  simp only [List.mem_cons, List.not_mem_nil, or_false] at p q
  refine ⟨pMs_I (fx_ne fx q) (fun z => p (by rw [fx_inj fx z.1, z.2])) L h, ?_, ?_, ?_⟩
  · rw [pMs_L]
  · rw [pMs_D]
  · rw [pMs_R]
theorem Chf.dL (fx : FX n ad sa z0 h2) {a k : Nat} {v : Int64} (ha : z0 ≤ a) : Chf n ad [] [] h (sL h a k v) := fun i j hd _ _ => ⟨rfl, L_ne (ad_dy fx hd ha), rfl, rfl⟩
theorem Rel_push {L : List Int32} (fx : FX n ad sa z0 h) (rt : Rt ad h) (ra : Ra ad h) (rp : Rp n ad h) (rf : Rf ad h) (rst : Rst sa h) (ru : Ru n ad pa np h) (c : smC ad (pCs ad L h) h2) (m : smM ad (pMs ad L h) h2)
    (cf : Chf n ad [(2, 1), (30, 9), (0, 6), (30, 11), (30, 15)] [3, 39, 38] h h2) (eT : hT h2 = hT h) (eN : hN h2 = hN h) (eZ : hZ h2 = hZ h) (eR : hR h2 = hR h)
    (hs : ∀ j, j < 4 → ∀ i, hI h2 (sa j) i = hI h (sa j) i) (ry : hI h2 (ad 0) 6 = hI h2 (ad 30) 11) (rs : Rs ad z0 mid pa np h2) : Rel n ad sa z0 h2 := by
  refine ⟨mid, pa, np, ?_, ry, rt.ps fx L c m, ra.k cf (by decide), rp.k cf (by decide), rf.k cf (by decide), fun j hj i hi => (hs j hj i).trans (rst j hj i hi), Ru.k fx ru cf (by decide), rs⟩
  unfold FX
  rw [eT, eN, eZ, eR]; exact fx
theorem smS_push (fx : FX n ad sa z0 h) (cf : Chf n ad [(2, 1), (30, 9), (0, 6), (30, 11), (30, 15)] [3, 39] h h2) (eT : hT h2 = hT h) (eN : hN h2 = hN h) (eZ : hZ h2 = hZ h)
    (dy : ∀ a, z0 ≤ a → hI h2 a = hI h a ∧ hL h2 a = hL h a ∧ hR h2 a = hR h a) : smS ad z0 h h2 := by
  refine ⟨fun a ha => ?_, fun t => ⟨cf.rI (by decide) t, cf.rI (by decide) t, cf.rI (by decide) t, fun i _ => cf.rL (by decide) _⟩, ⟨cf.pI (by decide), cf.pI (by decide), fun q => ⟨cf.rI (by decide) q, cf.rL (by decide) q⟩⟩, eT, eZ⟩
  obtain ⟨y1, y2, y4⟩ := dy a ha
  exact ⟨by rw [eT], by rw [eN], y1, y2, y4⟩
end TR

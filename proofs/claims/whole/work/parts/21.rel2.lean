/-! ===== the relation: turbines, parts, the store ===== -/
/-- a double that is a number: its size in units of 2^-1074 -/
def mg (x : UInt64) : Nat := match FP.Core.decode FP.Core.b64 x.toNat with
  | .fin _ c q => c * 2 ^ (q + 1074).toNat
  | _ => 0
def isF (x : UInt64) : Prop := ∃ s c q, FP.Core.decode FP.Core.b64 x.toNat = .fin s c q
/-- not below 0, or a zero -/
def isNN (x : UInt64) : Prop := ∃ c q, FP.Core.decode FP.Core.b64 x.toNat = .fin false c q ∨ FP.Core.decode FP.Core.b64 x.toNat = .fin true 0 q
def uU : Nat := 2 ^ 1074
/-- the one that is no number, or a number -/
def canD (x : UInt64) : Prop := x = 9221120237041090560 ∨ ¬ FP.Core.decode FP.Core.b64 x.toNat = .nan
def rdOK (x : UInt64) : Prop := x = 9221120237041090560 ∨ (isF x ∧ mg x ≤ 1000 * uU)
/-- a turbine's numbers behind s steps of the farm -/
def NB (s : Nat) (w p q u e b : UInt64) : Prop := (isF w ∧ mg w ≤ 1000 * uU) ∧ (isF p ∧ mg p ≤ (90 + 12 * s) * uU) ∧ (isF q ∧ mg q ≤ s * uU) ∧ (isF u ∧ isNN u ∧ mg u ≤ s * 2 ^ 40 * uU) ∧ (isF e ∧ mg e ≤ s * 2 ^ 80 * uU) ∧ (b = 9218868437227405312 ∨ isNN b)
/-- the bits of an item of a lane are such as a store leaves -/
def canL (ln : Nat) (v : Int64) : Prop := (ln = 5 → v.toInt32.toInt64 = v ∧ (v = 2143289344 ∨ ¬ (v.toInt32.toUInt32 &&& 2147483647 > 2139095040))) ∧ (ln = 6 → canD v.toUInt64)
/-- kinds: a part of kind k is of kind g -/
def ofK (k g : Nat) : Bool := k == g || (k == 2 && g == 1) || (k == 4 && g == 3) || (k == 6 && g == 5) || (decide (k < 3) && g == 7)
section RM
variable (n : Nat) (ad : Nat → Nat) (z0 : Nat) (mid pa : Nat → Nat) (np : Nat)
def slR (v : Int32) (r : Option Nat) : Prop := (v = -1 ∧ r = none) ∨ ∃ q, q < np ∧ v = nI q ∧ r = some (pa q)
def tuR (h : mH) (t : Nat) : Prop :=
  (hI h (ad (100 + 5 * t)) 0 = nI t ∧ hI h (ad (100 + 5 * t)) 1 = hI h (ad 61) t ∧ hI h (ad (100 + 5 * t)) 2 = hI h (ad 62) t ∧ (¬ hI h (ad 61) t < -100 ∧ ¬ 100 < hI h (ad 61) t ∧ ¬ hI h (ad 62) t < -100 ∧ ¬ 100 < hI h (ad 62) t)) ∧
  (hI h (ad (100 + 5 * t)) 9 = 0 ∧ hI h (ad 56) t = 0) ∧ (hI h (ad (100 + 5 * t)) 10 = hI h (ad 66) t ∧ ∃ s, s ≤ 4 ∧ hI h (ad 66) t = nI s) ∧
  (hL h (ad (100 + 5 * t)) 11 = (hD h (ad 72) t).toInt64 ∧ canD (hD h (ad 72) t)) ∧
  (hD h (ad (100 + 5 * t)) 12 = hD h (ad 73) t ∧ hD h (ad (100 + 5 * t)) 13 = hD h (ad 67) t ∧ hD h (ad (100 + 5 * t)) 14 = hD h (ad 68) t ∧ hD h (ad (100 + 5 * t)) 15 = hD h (ad 69) t ∧ hD h (ad (100 + 5 * t)) 16 = hD h (ad 70) t ∧ hD h (ad (100 + 5 * t)) 17 = hD h (ad 71) t ∧ ∃ s, hI h (ad 30) 63 = nI s ∧ s ≤ 20480 ∧ NB s (hD h (ad 73) t) (hD h (ad 67) t) (hD h (ad 68) t) (hD h (ad 69) t) (hD h (ad 70) t) (hD h (ad 71) t)) ∧
  (∀ s, s < 3 → hL h (ad (102 + 5 * t)) s = (hD h (ad 63) (3 * t + s)).toInt64 ∧ rdOK (hD h (ad 63) (3 * t + s)) ∧ hL h (ad (103 + 5 * t)) s = hL h (ad 64) (3 * t + s) ∧ hL h (ad (104 + 5 * t)) s = hL h (ad 65) (3 * t + s)) ∧
  ∀ s, s < 5 → slR pa np (hI h (ad 57) (5 * t + s)) (hR h (ad (101 + 5 * t)) s)
def Ru (h : mH) : Prop := hI h (ad 30) 12 = nI n ∧ ∀ t, t < n → tuR ad pa np h t
def paR (h : mH) : Prop := np ≤ 60 ∧ hI h (ad 0) 5 = nI np ∧ hI h (ad 30) 6 = nI np ∧ (∀ q, q < np → hT h (pa q) = 4 ∧ z0 ≤ pa q ∧ hI h (pa q) 1 = nI q ∧ hI h (pa q) 0 = hI h (ad 37) q ∧ (∃ k, k < 7 ∧ hI h (ad 37) q = nI k) ∧ hL h (pa q) 2 = hL h (ad 38) q) ∧ ∀ q r, q < np → r < np → pa q = pa r → q = r
def rowR (h : mH) (t a ln : Nat) : Prop := hT h a = 5 ∧ z0 ≤ a ∧ hR h a 1 = some (a + 1) ∧ hT h (a + 1) = 21 ∧ (ln < 8 ∧ hI h a 0 = nI ln ∧ hI h (ad 33) t = nI ln ∧ hI h (ad 34) t = 0) ∧ ∃ sz, sz ≤ 30 ∧ hN h (a + 1) = sz ∧ hI h (ad 35) t = nI sz ∧ ∀ i, i < sz → hL h (a + 1) i = hL h (ad 36) (30 * t + i) ∧ canL ln (hL h (a + 1) i)
def grdR (h : mH) (t a : Nat) : Prop := hT h a = 6 ∧ z0 ≤ a ∧ hR h a 1 = some (a + 1) ∧ hT h (a + 1) = 24 ∧ (hI h a 0 = -1 ∧ hI h (ad 33) t = 8 ∧ hI h (ad 34) t = 0) ∧ ∃ sz, sz ≤ 8 ∧ hN h (a + 1) = sz ∧ hI h (ad 35) t = nI sz ∧ ∀ i, i < sz → (hL h (ad 36) (30 * t + i) = -1 ∧ hR h (a + 1) i = none) ∨ ∃ t', t' < 250 ∧ hL h (ad 36) (30 * t + i) = lN t' ∧ hR h (a + 1) i = some (mid t') ∧ rowR ad z0 h t' (mid t') 3
def craR (h : mH) (t a : Nat) : Prop := hT h a = 6 ∧ z0 ≤ a ∧ hR h a 1 = some (a + 1) ∧ hT h (a + 1) = 24 ∧ ∃ k, (k < 8 ∧ hI h a 0 = nI k ∧ hI h (ad 33) t = 9 ∧ hI h (ad 34) t = nI k) ∧ ∃ sz, sz ≤ 8 ∧ hN h (a + 1) = sz ∧ hI h (ad 35) t = nI sz ∧ ∀ i, i < sz → (hL h (ad 36) (30 * t + i) = -1 ∧ hR h (a + 1) i = none) ∨ ∃ q, q < np ∧ hL h (ad 36) (30 * t + i) = lN (1000 + q) ∧ hR h (a + 1) i = some (pa q) ∧ ∃ kq, hI h (ad 37) q = nI kq ∧ kq < 7 ∧ ofK kq k = true
def thR (h : mH) (t a : Nat) : Prop := (∃ ln, rowR ad z0 h t a ln) ∨ grdR ad z0 mid h t a ∨ craR ad z0 pa np h t a
/-- what a case holds: the reference's number v, the class's reference r -/
def caR (h : mH) (v : Int32) (r : Option Nat) : Prop := (v = -1 ∧ r = none) ∨ (∃ q, q < np ∧ v = nI (1000 + q) ∧ r = some (pa q)) ∨ ∃ t, t < 250 ∧ v = nI t ∧ r = some (mid t) ∧ thR ad z0 mid pa np h t (mid t)
def live (h : mH) (t : Nat) : Prop := (∃ c, c < 24 ∧ hI h (ad 31) c = nI t) ∨ ∃ c g i sz, c < 24 ∧ g < 250 ∧ hI h (ad 31) c = nI g ∧ hI h (ad 33) g = 8 ∧ hI h (ad 35) g = nI sz ∧ sz ≤ 8 ∧ i < sz ∧ hL h (ad 36) (30 * g + i) = lN t
def Rs (h : mH) : Prop := paR ad z0 pa np h ∧ (∀ c, c < 24 → caR ad z0 mid pa np h (hI h (ad 31) c) (hR h (ad 1) c)) ∧ (∀ t u, t < 250 → u < 250 → live ad h t → live ad h u → mid t = mid u → t = u) ∧ ∀ a, hZ h ≤ a → hT h a = 0
end RM
/-- the whole of it -/
def Rel (n : Nat) (ad sa : Nat → Nat) (z0 : Nat) (h : mH) : Prop := ∃ mid pa np, FX n ad sa z0 h ∧ Ry ad h ∧ Rt ad h ∧ Ra ad h ∧ Rp n ad h ∧ Rf ad h ∧ Rst sa h ∧ Ru n ad pa np h ∧ Rs ad z0 mid pa np h
section RN
variable {n : Nat} {ad sa : Nat → Nat} {z0 : Nat} {mid pa : Nat → Nat} {np : Nat} {P : List (Nat × Nat)} {A : List Nat} {h h2 : mH}
theorem Ru.k (fx : FX n ad sa z0 h) (r : Ru n ad pa np h) (c : Chf n ad P A h h2) (hf : (fp P A 30 12 && fp P A 30 63 && ft P A && fr P A 61 && fr P A 62 && fr P A 56 && fr P A 66 && fr P A 72 && fr P A 73 && fr P A 67 && fr P A 68 && fr P A 69 && fr P A 70 && fr P A 71 && fr P A 63 && fr P A 64 && fr P A 65 && fr P A 57) = true) : Ru n ad pa np h2 := by
  simp only [Bool.and_eq_true] at hf
  obtain ⟨⟨⟨⟨⟨⟨⟨⟨⟨⟨⟨⟨⟨⟨⟨⟨⟨f1, f2⟩, f3⟩, f61⟩, f62⟩, f56⟩, f66⟩, f72⟩, f73⟩, f67⟩, f68⟩, f69⟩, f70⟩, f71⟩, f63⟩, f64⟩, f65⟩, f57⟩ := hf
  refine ⟨(c.pI f1).trans r.1, fun t ht => ?_⟩
  have q : ∀ k j, k < 5 → hI h2 (ad (100 + k + 5 * t)) j = hI h (ad (100 + k + 5 * t)) j ∧ hL h2 (ad (100 + k + 5 * t)) j = hL h (ad (100 + k + 5 * t)) j ∧ hD h2 (ad (100 + k + 5 * t)) j = hD h (ad (100 + k + 5 * t)) j ∧ hR h2 (ad (100 + k + 5 * t)) j = hR h (ad (100 + k + 5 * t)) j := fun k j hk => c _ _ (.inr ⟨by omega, by omega⟩) (ft_p f3 (by omega) j).1 (ft_p f3 (by omega) j).2
  have e0 : ∀ j, hI h2 (ad (100 + 5 * t)) j = hI h (ad (100 + 5 * t)) j := fun j => (q 0 j (by decide)).1
  have e1 : ∀ j, hL h2 (ad (100 + 5 * t)) j = hL h (ad (100 + 5 * t)) j := fun j => (q 0 j (by decide)).2.1
  have e2 : ∀ j, hD h2 (ad (100 + 5 * t)) j = hD h (ad (100 + 5 * t)) j := fun j => (q 0 j (by decide)).2.2.1
  have e3 : ∀ j, hR h2 (ad (101 + 5 * t)) j = hR h (ad (101 + 5 * t)) j := fun j => (q 1 j (by decide)).2.2.2
  have e4 : ∀ j, hL h2 (ad (102 + 5 * t)) j = hL h (ad (102 + 5 * t)) j := fun j => (q 2 j (by decide)).2.1
  have e5 : ∀ j, hL h2 (ad (103 + 5 * t)) j = hL h (ad (103 + 5 * t)) j := fun j => (q 3 j (by decide)).2.1
  have e6 : ∀ j, hL h2 (ad (104 + 5 * t)) j = hL h (ad (104 + 5 * t)) j := fun j => (q 4 j (by decide)).2.1
  have r2 := r.2 t ht
  unfold tuR at r2 ⊢
  simp only [e0, e1, e2, e3, e4, e5, e6, c.rI f61, c.rI f62, c.rI f56, c.rI f66, c.rD f72, c.rD f73, c.rD f67, c.rD f68, c.rD f69, c.rD f70, c.rD f71, c.rD f63, c.rL f64, c.rL f65, c.rI f57, c.pI f2]
  exact r2
theorem Rs.k (fx : FX n ad sa z0 h) (r : Rs ad z0 mid pa np h) (s : Cst h h2) (c : Chf n ad P A h h2) (y : Cdy n ad h h2) (hf : (fp P A 0 5 && fp P A 30 6 && fr P A 37 && fr P A 38 && fr P A 33 && fr P A 34 && fr P A 35 && fr P A 36 && fr P A 31 && fr P A 1) = true) : Rs ad z0 mid pa np h2 := by
  simp only [Bool.and_eq_true] at hf
  obtain ⟨⟨⟨⟨⟨⟨⟨⟨⟨f1, f2⟩, f37⟩, f38⟩, f33⟩, f34⟩, f35⟩, f36⟩, f31⟩, f1'⟩ := hf
  obtain ⟨s1, s2, s3, s4⟩ := s
  obtain ⟨⟨p1, p2, p3, p4, p5⟩, r2, r3, r4⟩ := r
  have dy : ∀ a, z0 ≤ a → hI h2 a = hI h a ∧ hL h2 a = hL h a ∧ hD h2 a = hD h a ∧ hR h2 a = hR h a := fun a ha => y a (fun i hi e => by have := (fx_lt fx hi).1; omega)
  have hrow : ∀ t a ln, rowR ad z0 h t a ln → rowR ad z0 h2 t a ln := by
    intro t a ln q
    have hz := q.2.1
    unfold rowR at q ⊢
    rw [s1, s2, (dy a hz).1, (dy a hz).2.2.2, (dy (a + 1) (by omega)).2.1]
    simp only [c.rI f33, c.rI f34, c.rI f35, c.rL f36]
    exact q
  have hth : ∀ t a, thR ad z0 mid pa np h t a → thR ad z0 mid pa np h2 t a := by
    intro t a q
    rcases q with ⟨ln, q⟩ | q | q
    · exact .inl ⟨ln, hrow _ _ _ q⟩
    · refine .inr (.inl ?_)
      obtain ⟨q1, q2, q3, q4, ⟨q5, q6, q7⟩, sz, q8, q9, q10, q11⟩ := q
      refine ⟨by rw [s1]; exact q1, q2, by rw [(dy a q2).2.2.2]; exact q3, by rw [s1]; exact q4, ⟨by rw [(dy a q2).1]; exact q5, by rw [c.rI f33]; exact q6, by rw [c.rI f34]; exact q7⟩, sz, q8, by rw [s2]; exact q9, by rw [c.rI f35]; exact q10, fun i hi => ?_⟩
      rw [c.rL f36, (dy (a + 1) (by omega)).2.2.2]
      rcases q11 i hi with w | ⟨t', w1, w2, w3, w4⟩
      · exact .inl w
      · exact .inr ⟨t', w1, w2, w3, hrow _ _ _ w4⟩
    · refine .inr (.inr ?_)
      obtain ⟨q1, q2, q3, q4, k, ⟨q5, q6, q7, q7'⟩, sz, q8, q9, q10, q11⟩ := q
      refine ⟨by rw [s1]; exact q1, q2, by rw [(dy a q2).2.2.2]; exact q3, by rw [s1]; exact q4, k, ⟨q5, by rw [(dy a q2).1]; exact q6, by rw [c.rI f33]; exact q7, by rw [c.rI f34]; exact q7'⟩, sz, q8, by rw [s2]; exact q9, by rw [c.rI f35]; exact q10, fun i hi => ?_⟩
      rw [c.rL f36, (dy (a + 1) (by omega)).2.2.2]
      rcases q11 i hi with w | ⟨t', w1, w2, w3, kq, w4, w5⟩
      · exact .inl w
      · exact .inr ⟨t', w1, w2, w3, kq, by rw [c.rI f37]; exact w4, w5⟩
  have hlive : ∀ t, live ad h2 t → live ad h t := by
    intro t q
    unfold live at q ⊢
    simp only [c.rI f31, c.rI f33, c.rI f35, c.rL f36] at q
    exact q
  refine ⟨⟨p1, (c.pI f1).trans p2, (c.pI f2).trans p3, fun q hq => ?_, p5⟩, fun cc hc => ?_, fun t u ht hu l1 l2 => r3 t u ht hu (hlive t l1) (hlive u l2), by rw [s1, s3]; exact r4⟩
  · obtain ⟨w1, w2, w3, w4, w5, w6⟩ := p4 q hq
    rw [s1, (dy _ w2).1, (dy _ w2).2.1, c.rI f37, c.rL f38]
    exact ⟨w1, w2, w3, w4, w5, w6⟩
  · rw [c.rI f31, c.rR f1']
    rcases r2 cc hc with w | w | ⟨t, w1, w2, w3, w4⟩
    · exact .inl w
    · exact .inr (.inl w)
    · exact .inr (.inr ⟨t, w1, w2, w3, hth _ _ w4⟩)
/-- the places that no call keeps for later: reason and why -/
theorem Rel.why (r : Rel n ad sa z0 h) (c : Chg n ad P A h h2) (hf : A = [] ∧ ∀ p ∈ P, p = (0, 6) ∨ p = (30, 11)) (hy : hI h2 (ad 0) 6 = hI h2 (ad 30) 11) : Rel n ad sa z0 h2 := by
  obtain ⟨rfl, hP⟩ := hf
  obtain ⟨s, c, y⟩ := c
  have c0 : Chf n ad [(0, 6), (30, 11)] [] h h2 := by
    intro i j hd p q
    refine c i j hd (fun z => p ?_) q
    rcases hP _ z with e | e <;> rw [e] <;> simp
  obtain ⟨mid, pa, np, fx, -, r2, r3, r4, r5, r6, r7, r8⟩ := r
  exact ⟨mid, pa, np, fx.k s c0 y (by decide), hy, r2.k c0 (by decide), r3.k c0 (by decide), r4.k c0 (by decide), r5.k c0 (by decide), Rst.k fx r6 y, Ru.k fx r7 c0 (by decide), Rs.k fx r8 s c0 y (by decide)⟩
end RN

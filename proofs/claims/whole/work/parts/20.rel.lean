/-! ===== what a step changes of the fixed world; the relation between class and reference ===== -/
theorem hI_sI (h : mH) (a k : Nat) (v : Int32) (b j : Nat) : hI (sI h a k v) b j = if b = a ∧ j = k then v else hI h b j := rfl
theorem hL_sL (h : mH) (a k : Nat) (v : Int64) (b j : Nat) : hL (sL h a k v) b j = if b = a ∧ j = k then v else hL h b j := rfl
theorem hD_sD (h : mH) (a k : Nat) (v : UInt64) (b j : Nat) : hD (sD h a k v) b j = if b = a ∧ j = k then v else hD h b j := rfl
theorem hR_sR (h : mH) (a k : Nat) (v : Option Nat) (b j : Nat) : hR (sR h a k v) b j = if b = a ∧ j = k then v else hR h b j := rfl
theorem hI_sL (h : mH) (a k : Nat) (v : Int64) : hI (sL h a k v) = hI h := rfl
theorem hI_sD (h : mH) (a k : Nat) (v : UInt64) : hI (sD h a k v) = hI h := rfl
theorem hI_sR (h : mH) (a k : Nat) (v : Option Nat) : hI (sR h a k v) = hI h := rfl
theorem hL_sI (h : mH) (a k : Nat) (v : Int32) : hL (sI h a k v) = hL h := rfl
theorem hL_sD (h : mH) (a k : Nat) (v : UInt64) : hL (sD h a k v) = hL h := rfl
theorem hL_sR (h : mH) (a k : Nat) (v : Option Nat) : hL (sR h a k v) = hL h := rfl
theorem hD_sI (h : mH) (a k : Nat) (v : Int32) : hD (sI h a k v) = hD h := rfl
theorem hD_sL (h : mH) (a k : Nat) (v : Int64) : hD (sL h a k v) = hD h := rfl
theorem hD_sR (h : mH) (a k : Nat) (v : Option Nat) : hD (sR h a k v) = hD h := rfl
theorem hR_sI (h : mH) (a k : Nat) (v : Int32) : hR (sI h a k v) = hR h := rfl
theorem hR_sL (h : mH) (a k : Nat) (v : Int64) : hR (sL h a k v) = hR h := rfl
theorem hR_sD (h : mH) (a k : Nat) (v : UInt64) : hR (sD h a k v) = hR h := rfl
/-- of the fixed objects' contents only the places P and the rows A have changed -/
def Chf (n : Nat) (ad : Nat → Nat) (P : List (Nat × Nat)) (A : List Nat) (h h2 : mH) : Prop :=
  ∀ i j, dom n i → (i, j) ∉ P → i ∉ A → hI h2 (ad i) j = hI h (ad i) j ∧ hL h2 (ad i) j = hL h (ad i) j ∧ hD h2 (ad i) j = hD h (ad i) j ∧ hR h2 (ad i) j = hR h (ad i) j
/-- what is no fixed object has its contents as before -/
def Cdy (n : Nat) (ad : Nat → Nat) (h h2 : mH) : Prop := ∀ a, (∀ i, dom n i → a ≠ ad i) → hI h2 a = hI h a ∧ hL h2 a = hL h a ∧ hD h2 a = hD h a ∧ hR h2 a = hR h a
/-- no cell is new -/
def Cst (h h2 : mH) : Prop := hT h2 = hT h ∧ hN h2 = hN h ∧ hZ h2 = hZ h ∧ hU h2 = hU h
/-- a change of fixed objects alone -/
def Chg (n : Nat) (ad : Nat → Nat) (P : List (Nat × Nat)) (A : List Nat) (h h2 : mH) : Prop := Cst h h2 ∧ Chf n ad P A h h2 ∧ Cdy n ad h h2
section CH
variable {n : Nat} {ad : Nat → Nat} {P : List (Nat × Nat)} {A : List Nat} {h h2 : mH}
theorem Chg.rf : Chg n ad [] [] h h := ⟨⟨rfl, rfl, rfl, rfl⟩, fun _ _ _ _ _ => ⟨rfl, rfl, rfl, rfl⟩, fun _ _ => ⟨rfl, rfl, rfl, rfl⟩⟩
theorem u2_row {α : Type} (f : Nat → Nat → α) {a b k : Nat} (hne : b ≠ a) (v : α) : u2 f a k v b = f b := by funext j; exact u2_ne f hne k j v
theorem Chg.sI (c : Chg n ad P A h h2) (hj : ∀ i j, ad i = ad j → i = j) {i k : Nat} {v : Int32} (hd : dom n i) : Chg n ad ((i, k) :: P) A h (sI h2 (ad i) k v) := by
  obtain ⟨c1, c2, c3⟩ := c
  refine ⟨c1, fun i' j hd' p q => ?_, fun a ha => ?_⟩
  · simp only [List.mem_cons, not_or] at p
    obtain ⟨e1, e2, e3, e4⟩ := c2 i' j hd' p.2 q
    refine ⟨?_, e2, e3, e4⟩
    rw [hI_sI, if_neg (fun z => p.1 (by rw [hj _ _ z.1, z.2])), e1]
  · obtain ⟨e1, e2, e3, e4⟩ := c3 a ha
    exact ⟨(u2_row _ (ha i hd) v).trans e1, e2, e3, e4⟩
theorem Chg.sL (c : Chg n ad P A h h2) (hj : ∀ i j, ad i = ad j → i = j) {i k : Nat} {v : Int64} (hd : dom n i) : Chg n ad ((i, k) :: P) A h (sL h2 (ad i) k v) := by
  obtain ⟨c1, c2, c3⟩ := c
  refine ⟨c1, fun i' j hd' p q => ?_, fun a ha => ?_⟩
  · simp only [List.mem_cons, not_or] at p
    obtain ⟨e1, e2, e3, e4⟩ := c2 i' j hd' p.2 q
    refine ⟨e1, ?_, e3, e4⟩
    rw [hL_sL, if_neg (fun z => p.1 (by rw [hj _ _ z.1, z.2])), e2]
  · obtain ⟨e1, e2, e3, e4⟩ := c3 a ha
    exact ⟨e1, (u2_row _ (ha i hd) v).trans e2, e3, e4⟩
theorem Chg.sD (c : Chg n ad P A h h2) (hj : ∀ i j, ad i = ad j → i = j) {i k : Nat} {v : UInt64} (hd : dom n i) : Chg n ad ((i, k) :: P) A h (sD h2 (ad i) k v) := by
  obtain ⟨c1, c2, c3⟩ := c
  refine ⟨c1, fun i' j hd' p q => ?_, fun a ha => ?_⟩
  · simp only [List.mem_cons, not_or] at p
    obtain ⟨e1, e2, e3, e4⟩ := c2 i' j hd' p.2 q
    refine ⟨e1, e2, ?_, e4⟩
    rw [hD_sD, if_neg (fun z => p.1 (by rw [hj _ _ z.1, z.2])), e3]
  · obtain ⟨e1, e2, e3, e4⟩ := c3 a ha
    exact ⟨e1, e2, (u2_row _ (ha i hd) v).trans e3, e4⟩
theorem Chg.sR (c : Chg n ad P A h h2) (hj : ∀ i j, ad i = ad j → i = j) {i k : Nat} {v : Option Nat} (hd : dom n i) : Chg n ad ((i, k) :: P) A h (sR h2 (ad i) k v) := by
  obtain ⟨c1, c2, c3⟩ := c
  refine ⟨c1, fun i' j hd' p q => ?_, fun a ha => ?_⟩
  · simp only [List.mem_cons, not_or] at p
    obtain ⟨e1, e2, e3, e4⟩ := c2 i' j hd' p.2 q
    refine ⟨e1, e2, e3, ?_⟩
    rw [hR_sR, if_neg (fun z => p.1 (by rw [hj _ _ z.1, z.2])), e4]
  · obtain ⟨e1, e2, e3, e4⟩ := c3 a ha
    exact ⟨e1, e2, e3, (u2_row _ (ha i hd) v).trans e4⟩
theorem Chg.row {i k : Nat} (c : Chg n ad ((i, k) :: P) A h h2) : Chg n ad P (i :: A) h h2 := by
  obtain ⟨c1, c2, c3⟩ := c
  refine ⟨c1, fun i' j hd p q => ?_, c3⟩
  simp only [List.mem_cons, not_or] at q
  exact c2 i' j hd (by simp only [List.mem_cons, not_or]; exact ⟨fun z => q.1 (by cases z; rfl), p⟩) q.2
theorem Chg.trans {P2 : List (Nat × Nat)} {A2 : List Nat} {h3 : mH} (c : Chg n ad P A h h2) (c' : Chg n ad P2 A2 h2 h3) : Chg n ad (P ++ P2) (A ++ A2) h h3 := by
  obtain ⟨⟨a1, a2, a3, a4⟩, c2, c3⟩ := c
  obtain ⟨⟨b1, b2, b3, b4⟩, d2, d3⟩ := c'
  refine ⟨⟨b1.trans a1, b2.trans a2, b3.trans a3, b4.trans a4⟩, fun i j hd p q => ?_, fun a ha => ?_⟩
  · simp only [List.mem_append, not_or] at p q
    obtain ⟨e1, e2, e3, e4⟩ := c2 i j hd p.1 q.1
    obtain ⟨g1, g2, g3, g4⟩ := d2 i j hd p.2 q.2
    exact ⟨g1.trans e1, g2.trans e2, g3.trans e3, g4.trans e4⟩
  · obtain ⟨e1, e2, e3, e4⟩ := c3 a ha
    obtain ⟨g1, g2, g3, g4⟩ := d3 a ha
    exact ⟨g1.trans e1, g2.trans e2, g3.trans e3, g4.trans e4⟩
/-- no place of row i has changed -/
def fr (P : List (Nat × Nat)) (A : List Nat) (i : Nat) : Bool := decide ((i < 23 ∨ 30 ≤ i) ∧ i < 76) && (!A.contains i && P.all fun p => p.1 != i)
theorem fr_p {i : Nat} (hf : fr P A i = true) (j : Nat) : dom n i ∧ (i, j) ∉ P ∧ i ∉ A := by
  unfold fr at hf
  simp only [Bool.and_eq_true, Bool.not_eq_true', List.all_eq_true, bne_iff_ne, ne_eq, decide_eq_true_eq] at hf
  refine ⟨.inl hf.1, fun q => hf.2.2 _ q rfl, fun q => ?_⟩
  have := List.contains_iff_mem.mpr q
  rw [hf.2.1] at this; cases this
theorem Chf.rI (c : Chf n ad P A h h2) {i : Nat} (hf : fr P A i = true) (j : Nat) : hI h2 (ad i) j = hI h (ad i) j := (c i j (fr_p hf j).1 (fr_p (n := n) hf j).2.1 (fr_p (n := n) hf j).2.2).1
theorem Chf.rL (c : Chf n ad P A h h2) {i : Nat} (hf : fr P A i = true) (j : Nat) : hL h2 (ad i) j = hL h (ad i) j := (c i j (fr_p hf j).1 (fr_p (n := n) hf j).2.1 (fr_p (n := n) hf j).2.2).2.1
theorem Chf.rD (c : Chf n ad P A h h2) {i : Nat} (hf : fr P A i = true) (j : Nat) : hD h2 (ad i) j = hD h (ad i) j := (c i j (fr_p hf j).1 (fr_p (n := n) hf j).2.1 (fr_p (n := n) hf j).2.2).2.2.1
theorem Chf.rR (c : Chf n ad P A h h2) {i : Nat} (hf : fr P A i = true) (j : Nat) : hR h2 (ad i) j = hR h (ad i) j := (c i j (fr_p hf j).1 (fr_p (n := n) hf j).2.1 (fr_p (n := n) hf j).2.2).2.2.2
/-- one place has not changed -/
def fp (P : List (Nat × Nat)) (A : List Nat) (i j : Nat) : Bool := decide ((i < 23 ∨ 30 ≤ i) ∧ i < 76) && (!A.contains i && !P.contains (i, j))
theorem fp_p {i j : Nat} (hf : fp P A i j = true) : dom n i ∧ (i, j) ∉ P ∧ i ∉ A := by
  unfold fp at hf
  simp only [Bool.and_eq_true, Bool.not_eq_true', decide_eq_true_eq] at hf
  refine ⟨.inl hf.1, fun q => ?_, fun q => ?_⟩
  · have := List.contains_iff_mem.mpr q
    rw [hf.2.2] at this; cases this
  · have := List.contains_iff_mem.mpr q
    rw [hf.2.1] at this; cases this
theorem Chf.pI (c : Chf n ad P A h h2) {i j : Nat} (hf : fp P A i j = true) : hI h2 (ad i) j = hI h (ad i) j := (c i j (fp_p hf).1 (fp_p (n := n) hf).2.1 (fp_p (n := n) hf).2.2).1
theorem Chf.pL (c : Chf n ad P A h h2) {i j : Nat} (hf : fp P A i j = true) : hL h2 (ad i) j = hL h (ad i) j := (c i j (fp_p hf).1 (fp_p (n := n) hf).2.1 (fp_p (n := n) hf).2.2).2.1
theorem Chf.pR (c : Chf n ad P A h h2) {i j : Nat} (hf : fp P A i j = true) : hR h2 (ad i) j = hR h (ad i) j := (c i j (fp_p hf).1 (fp_p (n := n) hf).2.1 (fp_p (n := n) hf).2.2).2.2.2
/-- nothing of the turbines' objects has changed -/
def ft (P : List (Nat × Nat)) (A : List Nat) : Bool := (P.all fun p => decide (p.1 < 100)) && A.all fun a => decide (a < 100)
theorem ft_p (hf : ft P A = true) {i : Nat} (hi : 100 ≤ i) (j : Nat) : (i, j) ∉ P ∧ i ∉ A := by
  unfold ft at hf
  simp only [Bool.and_eq_true, List.all_eq_true, decide_eq_true_eq] at hf
  exact ⟨fun q => by have := hf.1 _ q; simp only at this; omega, fun q => by have := hf.2 _ q; omega⟩
end CH
section RL
variable (n : Nat) (ad sa : Nat → Nat) (z0 : Nat)
def Ry (h : mH) : Prop := hI h (ad 0) 6 = hI h (ad 30) 11
def Rt (h : mH) : Prop := ∃ k, k ≤ 60 ∧ hI h (ad 2) 1 = nI k ∧ hI h (ad 30) 9 = nI k ∧ ∀ i, i < k → hI h (ad 3) i = hI h (ad 39) i
def Ra (h : mH) : Prop := hI h (ad 9) 8 = hI h (ad 30) 42 ∧ hI h (ad 9) 9 = hI h (ad 30) 31 ∧ hI h (ad 9) 10 = hI h (ad 30) 32 ∧ hI h (ad 9) 12 = hI h (ad 30) 34 ∧ hI h (ad 9) 13 = hI h (ad 30) 43 ∧ ∃ s, s ≤ 100 ∧ hI h (ad 9) 11 = nI s ∧ hI h (ad 30) 35 = nI s ∧ ∀ i, i < s → i < 60 → hI h (ad 12) i = hI h (ad 53) i
def isC (c : Int32) : Prop := ¬ c < 0 ∧ ¬ 24 ≤ c
def isP (c : Int32) : Prop := ¬ c < 0 ∧ ¬ 10 ≤ c
def isB (c : Int32) : Prop := ¬ c < 0 ∧ ¬ nI n ≤ c
def isS (c : Int32) : Prop := ¬ c < 0 ∧ ¬ 5 ≤ c
/-- a step that the call step has let in -/
def okS (op a b c : Int32) : Prop := (¬ op < 0 ∧ op ≤ 13) ∧ ((op = 0 ∨ op = 1 ∨ op = 2) → isC a) ∧ (op = 7 → isP a) ∧ (op = 8 → isP a ∧ isP c ∧ ¬ b < 0 ∧ b ≤ 8) ∧ (op = 9 → isP a ∧ isP b) ∧ (op = 10 → isB n a ∧ isP b) ∧ (op = 11 → isB n a) ∧ ((op = 12 ∨ op = 13) → isB n a ∧ isS b) ∧ (op = 6 → ¬ a < 1 ∧ a ≤ 8)
def Rp (h : mH) : Prop := ∀ p, p < 10 → ∃ l, l ≤ 16 ∧ hI h (ad 11) p = nI l ∧ hI h (ad 43) p = nI l ∧ ∀ s, s < l → hI h (ad 10) ((p * 16 + s) * 4) = hI h (ad 44) (16 * p + s) ∧ hI h (ad 10) ((p * 16 + s) * 4 + 1) = hI h (ad 45) (16 * p + s) ∧ hI h (ad 10) ((p * 16 + s) * 4 + 2) = hI h (ad 46) (16 * p + s) ∧ hI h (ad 10) ((p * 16 + s) * 4 + 3) = hI h (ad 47) (16 * p + s) ∧ okS n (hI h (ad 44) (16 * p + s)) (hI h (ad 45) (16 * p + s)) (hI h (ad 46) (16 * p + s)) (hI h (ad 47) (16 * p + s))
def Rf (h : mH) : Prop := (∃ f, f ≤ 40 ∧ hI h (ad 4) 2 = nI f ∧ hI h (ad 30) 64 = nI f ∧ ∀ i, i < 4 * f → hI h (ad 5) i = hI h (ad 74) i) ∧ hI h (ad 4) 3 = hI h (ad 30) 63 ∧ (hI h (ad 4) 4 = hI h (ad 30) 61 ∧ ∃ v, v < 8 ∧ hI h (ad 4) 4 = nI v) ∧ (hI h (ad 4) 5 = hI h (ad 30) 62 ∧ (hI h (ad 4) 5 = 0 ∨ hI h (ad 4) 5 = 1))
def Rst (h : mH) : Prop := ∀ j, j < 4 → ∀ i, i < (stA j).length → hI h (sa j) i = (stA j).getD i 0
end RL
section RK
variable {n : Nat} {ad sa : Nat → Nat} {z0 : Nat} {P : List (Nat × Nat)} {A : List Nat} {h h2 : mH}
theorem Rt.k (r : Rt ad h) (c : Chf n ad P A h h2) (hf : (fp P A 2 1 && fp P A 30 9 && fr P A 3 && fr P A 39) = true) : Rt ad h2 := by
  simp only [Bool.and_eq_true] at hf
  obtain ⟨k, r1, r2, r3, r4⟩ := r
  exact ⟨k, r1, (c.pI hf.1.1.1).trans r2, (c.pI hf.1.1.2).trans r3, fun i hi => by rw [c.rI hf.1.2, c.rI hf.2]; exact r4 i hi⟩
theorem Ra.k (r : Ra ad h) (c : Chf n ad P A h h2) (hf : (fr P A 9 && (fp P A 30 42 && fp P A 30 31 && fp P A 30 32 && fp P A 30 34 && fp P A 30 43 && fp P A 30 35) && fr P A 12 && fr P A 53) = true) : Ra ad h2 := by
  simp only [Bool.and_eq_true] at hf
  obtain ⟨r1, r2, r3, r4, r5, s, r6, r7, r8, r9⟩ := r
  obtain ⟨⟨⟨f1, ⟨⟨⟨⟨f2, f3⟩, f4⟩, f5⟩, f6⟩, f7⟩, f8⟩, f9⟩ := hf
  unfold Ra
  rw [c.rI f1, c.rI f1, c.rI f1, c.rI f1, c.rI f1, c.rI f1, c.pI f2, c.pI f3, c.pI f4, c.pI f5, c.pI f6, c.pI f7]
  exact ⟨r1, r2, r3, r4, r5, s, r6, r7, r8, fun i a b => by rw [c.rI f8, c.rI f9]; exact r9 i a b⟩
theorem Rp.k (r : Rp n ad h) (c : Chf n ad P A h h2) (hf : (fr P A 11 && fr P A 43 && fr P A 10 && fr P A 44 && fr P A 45 && fr P A 46 && fr P A 47) = true) : Rp n ad h2 := by
  simp only [Bool.and_eq_true] at hf
  obtain ⟨⟨⟨⟨⟨⟨f1, f2⟩, f3⟩, f4⟩, f5⟩, f6⟩, f7⟩ := hf
  intro p hp
  obtain ⟨l, r1, r2, r3, r4⟩ := r p hp
  refine ⟨l, r1, (c.rI f1 p).trans r2, (c.rI f2 p).trans r3, fun s hs => ?_⟩
  rw [c.rI f3, c.rI f3, c.rI f3, c.rI f3, c.rI f4, c.rI f5, c.rI f6, c.rI f7]
  exact r4 s hs
theorem Rf.k (r : Rf ad h) (c : Chf n ad P A h h2) (hf : (fr P A 4 && (fp P A 30 64 && fp P A 30 63 && fp P A 30 61 && fp P A 30 62) && fr P A 5 && fr P A 74) = true) : Rf ad h2 := by
  simp only [Bool.and_eq_true] at hf
  obtain ⟨⟨⟨f1, ⟨⟨f2, f3⟩, f4⟩, f5⟩, f6⟩, f7⟩ := hf
  obtain ⟨⟨f, r1, r2, r3, r4⟩, r5, r6, r7⟩ := r
  unfold Rf
  rw [c.rI f1, c.rI f1, c.rI f1, c.rI f1, c.pI f2, c.pI f3, c.pI f4, c.pI f5]
  exact ⟨⟨f, r1, r2, r3, fun i hi => by rw [c.rI f6, c.rI f7]; exact r4 i hi⟩, r5, r6, r7⟩
theorem FX.k (fx : FX n ad sa z0 h) (s : Cst h h2) (c : Chf n ad P A h h2) (y : Cdy n ad h h2) (hf : ((fxR.all fun r => fp P A r.1 r.2.1) && fr P A 7 && ft P A) = true) : FX n ad sa z0 h2 := by
  simp only [Bool.and_eq_true, List.all_eq_true] at hf
  obtain ⟨⟨f1, f2⟩, f3⟩ := hf
  obtain ⟨x1, x2, x3, x4, x5, x6, x7, x8, x9⟩ := fx
  obtain ⟨e1, e2, e3, e4⟩ := s
  have c2 : ∀ i j, dom n i → (i, j) ∉ P → i ∉ A → hR h2 (ad i) j = hR h (ad i) j := fun i j a b c' => (c i j a b c').2.2.2
  have dm : ∀ t k, t < n → k < 5 → dom n (100 + k + 5 * t) := fun t k ht hk => .inr ⟨by omega, by omega⟩
  unfold FX FXc
  rw [e1, e2, e3]
  refine ⟨x1, x2, fun r hr => ?_, fun t ht => ?_, fun j hj => ?_, x6, x7, x8, x9⟩
  · have q := fp_p (n := n) (f1 r hr)
    rw [c2 _ _ q.1 q.2.1 q.2.2]; exact x3 r hr
  · obtain ⟨y1, y2, y3, y4, y5, y6, y7, y8, y9, y10⟩ := x4 t ht
    have q7 := fr_p (n := n) f2 t
    have q : ∀ j, hR h2 (ad (100 + 5 * t)) j = hR h (ad (100 + 5 * t)) j := fun j => c2 _ _ (dm t 0 ht (by decide)) (ft_p f3 (by omega) j).1 (ft_p f3 (by omega) j).2
    refine ⟨?_, y2, y3, y4, y5, y6, ?_, ?_, ?_, ?_⟩
    · rw [c2 7 t q7.1 q7.2.1 q7.2.2]; exact y1
    · rw [q]; exact y7
    · rw [q]; exact y8
    · rw [q]; exact y9
    · rw [q]; exact y10
  · obtain ⟨y1, y2, y3⟩ := x5 j hj
    have q := (y 0 (fun i hi => Nat.ne_of_lt (x7 i hi).2.1)).2.2.2
    rw [q]
    exact ⟨y1, y2, y3⟩
theorem Rst.k (fx : FX n ad sa z0 h) (r : Rst sa h) (y : Cdy n ad h h2) : Rst sa h2 := by
  intro j hj i hi
  rw [(y (sa j) (fun i hi => (fx.2.2.2.2.2.2.1 i hi).2.2 j hj)).1]
  exact r j hj i hi
end RK

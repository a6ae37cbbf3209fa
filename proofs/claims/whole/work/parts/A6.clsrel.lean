/-! ===== the class's side of an act: the relation to the pure picture ===== -/
theorem FX.of2 {n : Nat} {ad sa : Nat → Nat} {z0 : Nat} {h C : mH} (fx : FX n ad sa z0 h) (e1 : hT C = hT h) (e2 : hN C = hN h) (e3 : hZ C = hZ h) (q : ∀ i, i = 0 ∨ i = 2 ∨ i = 4 ∨ i = 7 ∨ i = 9 ∨ i = 13 ∨ i = 16 ∨ i = 30 ∨ (∃ t, t < n ∧ i = 100 + 5 * t) → ∀ j, hR C (ad i) j = hR h (ad i) j) (q0 : ∀ j, hR C 0 j = hR h 0 j) : FX n ad sa z0 C := by
  obtain ⟨x1, x2, x3, x4, x5, x6, x7, x8, x9⟩ := id fx
  unfold FX FXc
  rw [e1, e2, e3]
  refine ⟨x1, x2, fun r hr => ?_, fun t ht => ?_, fun j hj => ?_, x6, x7, x8, x9⟩
  · have k : ∀ r ∈ fxR, r.1 = 0 ∨ r.1 = 2 ∨ r.1 = 4 ∨ r.1 = 7 ∨ r.1 = 9 ∨ r.1 = 13 ∨ r.1 = 16 ∨ r.1 = 30 := by decide
    rw [q _ (by have := k r hr; omega)]; exact x3 r hr
  · obtain ⟨y1, y2, y3, y4, y5, y6, y7, y8, y9, y10⟩ := x4 t ht
    have d0 : 100 + 5 * t = 0 ∨ 100 + 5 * t = 2 ∨ 100 + 5 * t = 4 ∨ 100 + 5 * t = 7 ∨ 100 + 5 * t = 9 ∨ 100 + 5 * t = 13 ∨ 100 + 5 * t = 16 ∨ 100 + 5 * t = 30 ∨ (∃ u, u < n ∧ 100 + 5 * t = 100 + 5 * u) := by
      exact .inr (.inr (.inr (.inr (.inr (.inr (.inr (.inr ⟨t, ht, rfl⟩)))))))
    refine ⟨?_, y2, y3, y4, y5, y6, ?_, ?_, ?_, ?_⟩
    · rw [q 7 (by omega)]; exact y1
    · rw [q _ d0]; exact y7
    · rw [q _ d0]; exact y8
    · rw [q _ d0]; exact y9
    · rw [q _ d0]; exact y10
  · rw [q0]; exact x5 j hj
/-- a place of ints that no act of the class changes; a row of references -/
def cI (n : Nat) (ad : Nat → Nat) (a j : Nat) : Prop := a ≠ ad 12 ∧ a ≠ ad 13 ∧ a ≠ ad 15 ∧ a ≠ ad 16 ∧ a ≠ ad 20 ∧ ¬ (a = ad 9 ∧ 7 ≤ j ∧ j ≤ 12) ∧ ∀ t, t < n → ¬ (a = ad (100 + 5 * t) ∧ j = 9)
def cR (n : Nat) (ad : Nat → Nat) (a : Nat) : Prop := a ≠ ad 1 ∧ a ≠ ad 14 ∧ a ≠ ad 19 ∧ ∀ t, t < n → a ≠ ad (101 + 5 * t)
def CF (n : Nat) (ad : Nat → Nat) (h hc : mH) : Prop := (hT hc = hT h ∧ hN hc = hN h ∧ hZ hc = hZ h ∧ hU hc = hU h) ∧ hD hc = hD h ∧ (∀ a j, cI n ad a j → hI hc a j = hI h a j) ∧ ∀ a, cR n ad a → hR hc a = hR h a
/-- the undoing of k writings -/
def unN (ad : Nat → Nat) (hc : mH) : Nat → (Nat → Nat → Int64) → Nat → Nat → Int64
  | 0, f => f
  | k + 1, f => unN ad hc k (u2 f ((hR hc (ad 19) k).getD 0 + 1) (hI hc (ad 20) k).toNatClampNeg (hL hc (ad 21) k))
section RCD
variable (n np : Nat) (ad : Nat → Nat) (mid pa : Nat → Nat) (LV : Nat → Prop) (P : aP) (h : mH)
/-- what the reference's number v is in the class -/
def vR (v : Int32) (r : Option Nat) : Prop := (v = -1 ∧ r = none) ∨ (∃ q, q < np ∧ v = nI (1000 + q) ∧ r = some (pa q)) ∨ ∃ t, t < 250 ∧ LV t ∧ v = nI t ∧ r = some (mid t)
/-- an item that an act may write -/
def wri (t j : Nat) : Prop := t < 250 ∧ LV t ∧ P.so t = 3 ∧ j < P.sz t
/-- items and what is kept of them -/
def IT (hc : mH) (w : Nat) (S : aS) : Prop := ∃ W, W + w ≤ S.1 1 ∧ hI hc (ad 16) 5 = nI W ∧ (∀ t j, wri LV P t j → hL hc (mid t + 1) j = S.2.2 (30 * t + j)) ∧ (∀ a j, a ≠ ad 21 → (∀ t, wri LV P t j → a ≠ mid t + 1) → hL hc a j = hL h a j) ∧ (∀ k, (∀ t j, wri LV P t j → k ≠ 30 * t + j) → S.2.2 k = hL h (ad 36) k) ∧
  (∀ k, k < W → ∃ t b, wri LV P t b ∧ hR hc (ad 19) k = some (mid t) ∧ hI hc (ad 20) k = nI b) ∧ ∀ a j, a ≠ ad 21 → unN ad hc W (hL hc) a j = hL h a j
def RC (hc : mH) (w : Nat) (S : aS) : Prop := CF n ad h hc ∧ ((hI hc (ad 13) 2 = nI (S.1 0) ∧ hI hc (ad 9) 9 = nI (S.1 1) ∧ hI hc (ad 9) 11 = nI (S.1 2) ∧ hI hc (ad 9) 10 = nI (S.1 3) ∧ hI hc (ad 9) 7 = S.2.1 33 0 ∧ hI hc (ad 9) 12 = S.2.1 34 0) ∧ (∀ i, i < S.1 2 → i < 60 → hI hc (ad 12) i = S.2.1 53 i) ∧ (∀ i, i < S.1 0 → hI hc (ad 15) i = S.2.1 55 i) ∧ ∀ t, t < n → hI hc (ad (100 + 5 * t)) 9 = S.2.1 56 t) ∧
  ((∀ c, c < 24 → vR np mid pa LV (S.2.1 31 c) (hR hc (ad 1) c)) ∧ (∀ i, i < S.1 0 → vR np mid pa LV (S.2.1 54 i) (hR hc (ad 14) i)) ∧ ∀ t s, t < n → s < 5 → slR pa np (S.2.1 57 (5 * t + s)) (hR hc (ad (101 + 5 * t)) s)) ∧ IT ad mid LV P h hc w S
/-- what stands still while the class acts -/
def CW (sa : Nat → Nat) (z0 : Nat) : Prop := Rst sa h ∧ (hR h (ad 9) 5 = some (ad 1) ∧ hR h (ad 9) 6 = some (ad 7)) ∧ (∀ q, q < np → hT h (pa q) = 4 ∧ z0 ≤ pa q ∧ hI h (pa q) 0 = nI (P.kd q)) ∧
  (∀ t, t < 250 → LV t → z0 ≤ mid t ∧ ((hT h (mid t) = 5 ∧ hR h (mid t) 1 = some (mid t + 1) ∧ hT h (mid t + 1) = 21 ∧ P.so t < 8 ∧ hI h (mid t) 0 = nI (P.so t) ∧ hN h (mid t + 1) = P.sz t) ∨ (hT h (mid t) = 6 ∧ 8 ≤ P.so t))) ∧ (∀ t u, t < 250 → u < 250 → LV t → LV u → mid t = mid u → t = u) ∧
  ∀ p, p < 10 → hI h (ad 11) p = nI (P.len p) ∧ ∀ i, i < P.len p → hI h (ad 10) (64 * p + 4 * i) = nI (P.op (16 * p + i)) ∧ hI h (ad 10) (64 * p + 4 * i + 1) = P.a (16 * p + i) ∧ hI h (ad 10) (64 * p + 4 * i + 2) = P.b (16 * p + i) ∧ hI h (ad 10) (64 * p + 4 * i + 3) = P.c (16 * p + i)
end RCD
section RCL
variable {n np : Nat} {ad sa : Nat → Nat} {z0 : Nat} {mid pa : Nat → Nat} {LV : Nat → Prop} {P : aP} {h hc hc' : mH} {w : Nat} {S : aS}
theorem CF.rf : CF n ad h h := ⟨⟨rfl, rfl, rfl, rfl⟩, rfl, fun _ _ _ => rfl, fun _ _ => rfl⟩
theorem CF.i {a j : Nat} {v : Int32} (x : CF n ad h hc) (hn : ¬ cI n ad a j) : CF n ad h (sI hc a j v) := ⟨x.1, x.2.1, fun a' j' c => by
  have ne : ¬ (a' = a ∧ j' = j) := fun e => hn (by rw [← e.1, ← e.2]; exact c)
  rw [hI_sI, if_neg ne]; exact x.2.2.1 a' j' c, x.2.2.2⟩
theorem CF.r {a j : Nat} {v : Option Nat} (x : CF n ad h hc) (hn : ¬ cR n ad a) : CF n ad h (sR hc a j v) := ⟨x.1, x.2.1, x.2.2.1, fun a' c => (u2_row _ (fun e => hn (by rw [← e]; exact c)) v).trans (x.2.2.2 a' c)⟩
theorem CF.l {a j : Nat} {v : Int64} (x : CF n ad h hc) : CF n ad h (sL hc a j v) := x
theorem nc12 {j : Nat} : ¬ cI n ad (ad 12) j := fun c => c.1 rfl
theorem nc13 {j : Nat} : ¬ cI n ad (ad 13) j := fun c => c.2.1 rfl
theorem nc15 {j : Nat} : ¬ cI n ad (ad 15) j := fun c => c.2.2.1 rfl
theorem nc16 {j : Nat} : ¬ cI n ad (ad 16) j := fun c => c.2.2.2.1 rfl
theorem nc20 {j : Nat} : ¬ cI n ad (ad 20) j := fun c => c.2.2.2.2.1 rfl
theorem nc9 {j : Nat} (hj : 7 ≤ j) (hk : j ≤ 12) : ¬ cI n ad (ad 9) j := fun c => c.2.2.2.2.2.1 ⟨rfl, hj, hk⟩
theorem nch {t : Nat} (ht : t < n) : ¬ cI n ad (ad (100 + 5 * t)) 9 := fun c => c.2.2.2.2.2.2 t ht ⟨rfl, rfl⟩
theorem nr1 : ¬ cR n ad (ad 1) := fun c => c.1 rfl
theorem nr14 : ¬ cR n ad (ad 14) := fun c => c.2.1 rfl
theorem nr19 : ¬ cR n ad (ad 19) := fun c => c.2.2.1 rfl
theorem nrs {t : Nat} (ht : t < n) : ¬ cR n ad (ad (101 + 5 * t)) := fun c => c.2.2.2 t ht rfl
theorem cI_ad (fx : FX n ad sa z0 h) {i j : Nat} (h1 : i ≠ 12 ∧ i ≠ 13 ∧ i ≠ 15 ∧ i ≠ 16 ∧ i ≠ 20 ∧ i ≠ 9) (h2 : i < 100) : cI n ad (ad i) j := ⟨fx_ne fx h1.1, fx_ne fx h1.2.1, fx_ne fx h1.2.2.1, fx_ne fx h1.2.2.2.1, fx_ne fx h1.2.2.2.2.1, fun e => h1.2.2.2.2.2 (fx_inj fx e.1), fun t _ e => by have := fx_inj fx e.1; omega⟩
theorem cI_dy (fx : FX n ad sa z0 h) {a j : Nat} (ha : z0 ≤ a) : cI n ad a j := ⟨dy_ad fx (.inl (by decide)) ha, dy_ad fx (.inl (by decide)) ha, dy_ad fx (.inl (by decide)) ha, dy_ad fx (.inl (by decide)) ha, dy_ad fx (.inl (by decide)) ha, fun e => dy_ad fx (i := 9) (.inl (by decide)) ha e.1, fun t ht e => dy_ad fx (i := 100 + 5 * t) (.inr ⟨by omega, by omega⟩) ha e.1⟩
theorem cR_ad (fx : FX n ad sa z0 h) {i : Nat} (h1 : i ≠ 1 ∧ i ≠ 14 ∧ i ≠ 19) (h2 : ∀ t, t < n → i ≠ 101 + 5 * t) : cR n ad (ad i) := ⟨fx_ne fx h1.1, fx_ne fx h1.2.1, fx_ne fx h1.2.2, fun t ht e => h2 t ht (fx_inj fx e)⟩
theorem cR_dy (fx : FX n ad sa z0 h) {a : Nat} (ha : z0 ≤ a) : cR n ad a := ⟨dy_ad fx (.inl (by decide)) ha, dy_ad fx (.inl (by decide)) ha, dy_ad fx (.inl (by decide)) ha, fun t ht => dy_ad fx (i := 101 + 5 * t) (.inr ⟨by omega, by omega⟩) ha⟩
theorem CF.fx (fx : FX n ad sa z0 h) (x : CF n ad h hc) : FX n ad sa z0 hc := by
  refine FX.of2 fx x.1.1 x.1.2.1 x.1.2.2.1 (fun i hi j => ?_) (fun j => ?_)
  · have c : cR n ad (ad i) := by
      have k : i ≠ 1 ∧ i ≠ 14 ∧ i ≠ 19 := by rcases hi with e | e | e | e | e | e | e | e | ⟨u, hu, e⟩ <;> omega
      refine cR_ad fx k (fun t ht => ?_)
      rcases hi with e | e | e | e | e | e | e | e | ⟨u, hu, e⟩ <;> omega
    rw [x.2.2.2 _ c]
  · have c : cR n ad 0 := by
      have z : ∀ i, dom n i → (0 : Nat) ≠ ad i := fun i hd => by have := (fx_lt fx hd).2.1; omega
      exact ⟨z 1 (.inl (by decide)), z 14 (.inl (by decide)), z 19 (.inl (by decide)), fun t ht => z (101 + 5 * t) (.inr ⟨by omega, by omega⟩)⟩
    rw [x.2.2.2 _ c]
theorem unN_c (ek : ∀ k, k < w → hR hc' (ad 19) k = hR hc (ad 19) k ∧ hI hc' (ad 20) k = hI hc (ad 20) k ∧ hL hc' (ad 21) k = hL hc (ad 21) k) : ∀ f g : Nat → Nat → Int64, (∀ a j, a ≠ ad 21 → f a j = g a j) → ∀ a j, a ≠ ad 21 → unN ad hc' w f a j = unN ad hc w g a j := by
  induction w with
  | zero => intro f g e; exact e
  | succ w ih =>
    intro f g e a j ha
    unfold unN
    refine ih (fun k hk => ek k (by omega)) _ _ (fun a' j' ha' => ?_) a j ha
    obtain ⟨e1, e2, e3⟩ := ek w (by omega)
    rw [e1, e2, e3]
    unfold u2
    split
    · rfl
    · exact e a' j' ha'
theorem IT.k {S' : aS} {w' : Nat} (x : IT ad mid LV P h hc w S) (e16 : hI hc' (ad 16) 5 = hI hc (ad 16) 5) (e20 : ∀ k, hI hc' (ad 20) k = hI hc (ad 20) k) (e19 : ∀ k, hR hc' (ad 19) k = hR hc (ad 19) k) (eL : hL hc' = hL hc) (eS : S'.2.2 = S.2.2) (hw : S.1 1 + w' ≤ S'.1 1 + w) : IT ad mid LV P h hc' w' S' := by
  obtain ⟨W, x1, x2, x3, x4, x5, x6, x7⟩ := x
  refine ⟨W, by omega, e16.trans x2, fun t j q => by rw [eL, eS]; exact x3 t j q, fun a j h1 h2 => by rw [eL]; exact x4 a j h1 h2, fun k q => by rw [eS]; exact x5 k q, fun k hk => ?_, fun a j ha => ?_⟩
  · obtain ⟨t, b, y1, y2, y3⟩ := x6 k hk
    exact ⟨t, b, y1, (e19 k).trans y2, (e20 k).trans y3⟩
  · rw [unN_c (hc := hc) (fun k _ => ⟨e19 k, e20 k, by rw [eL]⟩) (hL hc') (hL hc) (fun _ _ _ => by rw [eL]) a j ha]
    exact x7 a j ha
theorem RC.wk (r : RC n np ad mid pa LV P h hc 1 S) : RC n np ad mid pa LV P h hc 0 S := ⟨r.1, r.2.1, r.2.2.1, r.2.2.2.k rfl (fun _ => rfl) (fun _ => rfl) rfl rfl (by omega)⟩
/-- a place of the acts' own that is an int -/
theorem RC.n9 {j : Nat} {v : Int32} {S' : aS} {w' : Nat} (fx : FX n ad sa z0 h) (r : RC n np ad mid pa LV P h hc w S) (hj : 7 ≤ j) (hk : j ≤ 12) (e0 : S'.1 0 = S.1 0) (e2 : S'.1 2 = S.1 2) (eI : ∀ i, i ≠ 33 → i ≠ 34 → ∀ k, S'.2.1 i k = S.2.1 i k) (eL : S'.2.2 = S.2.2) (hw : S.1 1 + w' ≤ S'.1 1 + w)
    (a9 : (if 9 = j then v else nI (S.1 1)) = nI (S'.1 1)) (a11 : (if 11 = j then v else nI (S.1 2)) = nI (S'.1 2)) (a10 : (if 10 = j then v else nI (S.1 3)) = nI (S'.1 3)) (a7 : (if 7 = j then v else S.2.1 33 0) = S'.2.1 33 0) (a12 : (if 12 = j then v else S.2.1 34 0) = S'.2.1 34 0) : RC n np ad mid pa LV P h (sI hc (ad 9) j v) w' S' := by
  obtain ⟨cf, ⟨⟨b1, b2, b3, b4, b5, b6⟩, b7, b8, b9⟩, ⟨c1, c2, c3⟩, it⟩ := r
  have q : ∀ f, hI (sI hc (ad 9) j v) (ad 9) f = if f = j then v else hI hc (ad 9) f := fun f => by
    rw [hI_sI]
    by_cases e : f = j
    · rw [if_pos ⟨rfl, e⟩, if_pos e]
    · rw [if_neg (fun z => e z.2), if_neg e]
  have o : ∀ i k, i ≠ 9 → hI (sI hc (ad 9) j v) (ad i) k = hI hc (ad i) k := fun i k hi => I_ne (fx_ne fx hi)
  refine ⟨cf.i (nc9 hj hk), ⟨⟨?_, ?_, ?_, ?_, ?_, ?_⟩, fun i h1 h2 => ?_, fun i hi => ?_, fun t ht => ?_⟩, ⟨fun c hc => ?_, fun i hi => ?_, fun t s ht hs => ?_⟩, it.k (o 16 5 (by decide)) (fun k => o 20 k (by decide)) (fun _ => rfl) rfl eL hw⟩
  · rw [o 13 2 (by decide), e0]; exact b1
  · rw [q, b2]; exact a9
  · rw [q, b3]; exact a11
  · rw [q, b4]; exact a10
  · rw [q, b5]; exact a7
  · rw [q, b6]; exact a12
  · rw [o 12 i (by decide), eI 53 (by decide) (by decide)]; exact b7 i (by omega) h2
  · rw [o 15 i (by decide), eI 55 (by decide) (by decide)]; exact b8 i (by omega)
  · rw [o _ 9 (by omega), eI 56 (by decide) (by decide)]; exact b9 t ht
  · rw [eI 31 (by decide) (by decide)]; exact c1 c hc
  · rw [eI 54 (by decide) (by decide)]; exact c2 i (by omega)
  · rw [eI 57 (by decide) (by decide)]; exact c3 t s ht hs
theorem RC.ans {v : Int32} (fx : FX n ad sa z0 h) (r : RC n np ad mid pa LV P h hc w S) : RC n np ad mid pa LV P h (sI hc (ad 9) 8 v) w S := r.n9 fx (by decide) (by decide) rfl rfl (fun _ _ _ _ => rfl) rfl (by omega) rfl rfl rfl rfl rfl
theorem RC.beg (fx : FX n ad sa z0 h) (r : RC n np ad mid pa LV P h hc 0 S) : RC n np ad mid pa LV P h (sI hc (ad 9) 9 (nI (S.1 1 + 1))) 1 (uN S 1 (S.1 1 + 1)) := r.n9 fx (by decide) (by decide) rfl rfl (fun _ _ _ _ => rfl) rfl (by rw [uN_s]; omega) rfl rfl rfl rfl rfl
theorem RC.dep {k : Nat} (fx : FX n ad sa z0 h) (r : RC n np ad mid pa LV P h hc w S) : RC n np ad mid pa LV P h (sI hc (ad 9) 10 (nI k)) w (uN S 3 k) := r.n9 fx (by decide) (by decide) rfl rfl (fun _ _ _ _ => rfl) rfl (by rw [uN_n (by decide)]; omega) rfl rfl rfl rfl rfl
theorem RC.lst {v : Int32} (fx : FX n ad sa z0 h) (r : RC n np ad mid pa LV P h hc w S) : RC n np ad mid pa LV P h (sI hc (ad 9) 7 v) w (uI S 33 0 v) := r.n9 fx (by decide) (by decide) rfl rfl (fun _ e _ _ => uI_n e) rfl (Nat.le_refl _) rfl rfl rfl rfl rfl
theorem RC.cau {v : Int32} (fx : FX n ad sa z0 h) (r : RC n np ad mid pa LV P h hc w S) : RC n np ad mid pa LV P h (sI hc (ad 9) 12 v) w (uI S 34 0 v) := r.n9 fx (by decide) (by decide) rfl rfl (fun _ _ e _ => uI_n e) rfl (Nat.le_refl _) rfl rfl rfl rfl rfl
/-- one thing said -/
theorem RC.sy {v : Int32} (fx : FX n ad sa z0 h) (r : RC n np ad mid pa LV P h hc w S) : RC n np ad mid pa LV P h (sI (sI hc (ad 12) (S.1 2) v) (ad 9) 11 (nI (S.1 2 + 1))) w (uN (uI S 53 (S.1 2) v) 2 (S.1 2 + 1)) := by
  obtain ⟨cf, ⟨⟨b1, b2, b3, b4, b5, b6⟩, b7, b8, b9⟩, ⟨c1, c2, c3⟩, it⟩ := r
  have o : ∀ i k, i ≠ 9 → i ≠ 12 → hI (sI (sI hc (ad 12) (S.1 2) v) (ad 9) 11 (nI (S.1 2 + 1))) (ad i) k = hI hc (ad i) k := fun i k h1 h2 => (I_ne (fx_ne fx h1)).trans (I_ne (fx_ne fx h2))
  have o9 : ∀ k, k ≠ 11 → hI (sI (sI hc (ad 12) (S.1 2) v) (ad 9) 11 (nI (S.1 2 + 1))) (ad 9) k = hI hc (ad 9) k := fun k h1 => (I_nk h1).trans (I_ne (fx_ne fx (by decide)))
  have n5 : ∀ i j, i ≠ 53 → (uN (uI S 53 (S.1 2) v) 2 (S.1 2 + 1)).2.1 i j = S.2.1 i j := fun i j hi => uI_n hi
  have n0 : ∀ k, k ≠ 2 → (uN (uI S 53 (S.1 2) v) 2 (S.1 2 + 1)).1 k = S.1 k := fun k hk => uN_n hk
  refine ⟨(cf.i nc12).i (nc9 (by decide) (by decide)), ⟨⟨?_, ?_, ?_, ?_, ?_, ?_⟩, fun i h1 h2 => ?_, fun i hi => ?_, fun t ht => ?_⟩, ⟨fun c hc => ?_, fun i hi => ?_, fun t s ht hs => ?_⟩, it.k (o 16 5 (by decide) (by decide)) (fun k => o 20 k (by decide) (by decide)) (fun _ => rfl) rfl rfl (by rw [n0 1 (by decide)]; omega)⟩
  · rw [o 13 2 (by decide) (by decide), n0 0 (by decide)]; exact b1
  · rw [o9 _ (by decide), n0 1 (by decide)]; exact b2
  · rw [I_eq, uN_s]
  · rw [o9 _ (by decide), n0 3 (by decide)]; exact b4
  · rw [o9 _ (by decide), n5 _ _ (by decide)]; exact b5
  · rw [o9 _ (by decide), n5 _ _ (by decide)]; exact b6
  · rw [uN_s] at h1
    rw [I_ne (fx_ne fx (by decide))]
    show _ = (uI S 53 (S.1 2) v).2.1 53 i
    by_cases e : i = S.1 2
    · rw [e, I_eq, uI_s]
    · rw [I_nk e, uI_k e]; exact b7 i (by omega) h2
  · rw [n0 0 (by decide)] at hi
    rw [o 15 i (by decide) (by decide), n5 _ _ (by decide)]; exact b8 i hi
  · rw [o _ 9 (by omega) (by omega), n5 _ _ (by decide)]; exact b9 t ht
  · rw [n5 _ _ (by decide)]; exact c1 c hc
  · rw [n0 0 (by decide)] at hi
    rw [n5 _ _ (by decide)]; exact c2 i hi
  · rw [n5 _ _ (by decide)]; exact c3 t s ht hs
theorem RC.sn (fx : FX n ad sa z0 h) (r : RC n np ad mid pa LV P h hc w S) (h60 : ¬ S.1 2 < 60) : RC n np ad mid pa LV P h (sI hc (ad 9) 11 (nI (S.1 2 + 1))) w (uN S 2 (S.1 2 + 1)) := by
  obtain ⟨cf, ⟨⟨b1, b2, b3, b4, b5, b6⟩, b7, b8, b9⟩, ⟨c1, c2, c3⟩, it⟩ := r
  have o : ∀ i k, i ≠ 9 → hI (sI hc (ad 9) 11 (nI (S.1 2 + 1))) (ad i) k = hI hc (ad i) k := fun i k h1 => I_ne (fx_ne fx h1)
  have o9 : ∀ k, k ≠ 11 → hI (sI hc (ad 9) 11 (nI (S.1 2 + 1))) (ad 9) k = hI hc (ad 9) k := fun k h1 => I_nk h1
  have n0 : ∀ k, k ≠ 2 → (uN S 2 (S.1 2 + 1)).1 k = S.1 k := fun k hk => uN_n hk
  refine ⟨cf.i (nc9 (by decide) (by decide)), ⟨⟨?_, ?_, ?_, ?_, ?_, ?_⟩, fun i h1 h2 => ?_, fun i hi => ?_, fun t ht => ?_⟩, ⟨c1, fun i hi => ?_, c3⟩, it.k (o 16 5 (by decide)) (fun k => o 20 k (by decide)) (fun _ => rfl) rfl rfl (by rw [n0 1 (by decide)]; omega)⟩
  · rw [o 13 2 (by decide), n0 0 (by decide)]; exact b1
  · rw [o9 _ (by decide), n0 1 (by decide)]; exact b2
  · rw [I_eq, uN_s]
  · rw [o9 _ (by decide), n0 3 (by decide)]; exact b4
  · rw [o9 _ (by decide)]; exact b5
  · rw [o9 _ (by decide)]; exact b6
  · rw [o 12 i (by decide)]; exact b7 i (by omega) h2
  · rw [n0 0 (by decide)] at hi
    rw [o 15 i (by decide)]; exact b8 i hi
  · rw [o _ 9 (by omega)]; exact b9 t ht
  · rw [n0 0 (by decide)] at hi
    exact c2 i hi
/-- a thing taken up -/
theorem RC.psh {x : Nat} {v o' : Int32} (fx : FX n ad sa z0 h) (r : RC n np ad mid pa LV P h hc w S) (hv : vR np mid pa LV v (some x)) : RC n np ad mid pa LV P h (sI (sI (sR hc (ad 14) (S.1 0) (some x)) (ad 15) (S.1 0) o') (ad 13) 2 (nI (S.1 0 + 1))) w (gPush S v o') := by
  obtain ⟨cf, ⟨⟨b1, b2, b3, b4, b5, b6⟩, b7, b8, b9⟩, ⟨c1, c2, c3⟩, it⟩ := r
  have o : ∀ i k, i ≠ 13 → i ≠ 15 → hI (sI (sI (sR hc (ad 14) (S.1 0) (some x)) (ad 15) (S.1 0) o') (ad 13) 2 (nI (S.1 0 + 1))) (ad i) k = hI hc (ad i) k := fun i k h1 h2 => (I_ne (fx_ne fx h1)).trans (I_ne (fx_ne fx h2))
  have oR : ∀ i k, i ≠ 14 → hR (sI (sI (sR hc (ad 14) (S.1 0) (some x)) (ad 15) (S.1 0) o') (ad 13) 2 (nI (S.1 0 + 1))) (ad i) k = hR hc (ad i) k := fun i k h1 => R_ne (fx_ne fx h1)
  have n5 : ∀ i j, i ≠ 54 → i ≠ 55 → (gPush S v o').2.1 i j = S.2.1 i j := fun i j h4 h5 => (uI_n (S := uI S 54 (S.1 0) v) h5).trans (uI_n h4)
  have n0 : ∀ k, k ≠ 0 → (gPush S v o').1 k = S.1 k := fun k hk => uN_n hk
  have z0 : (gPush S v o').1 0 = S.1 0 + 1 := uN_s
  refine ⟨((cf.r nr14).i nc15).i nc13, ⟨⟨?_, ?_, ?_, ?_, ?_, ?_⟩, fun i h1 h2 => ?_, fun i hi => ?_, fun t ht => ?_⟩, ⟨fun c hc => ?_, fun i hi => ?_, fun t s ht hs => ?_⟩, it.k (o 16 5 (by decide) (by decide)) (fun k => o 20 k (by decide) (by decide)) (fun k => oR 19 k (by decide)) rfl rfl (by rw [n0 1 (by decide)]; omega)⟩
  · rw [I_eq, z0]
  · rw [o _ _ (by decide) (by decide), n0 1 (by decide)]; exact b2
  · rw [o _ _ (by decide) (by decide), n0 2 (by decide)]; exact b3
  · rw [o _ _ (by decide) (by decide), n0 3 (by decide)]; exact b4
  · rw [o _ _ (by decide) (by decide), n5 _ _ (by decide) (by decide)]; exact b5
  · rw [o _ _ (by decide) (by decide), n5 _ _ (by decide) (by decide)]; exact b6
  · rw [n0 2 (by decide)] at h1
    rw [o _ _ (by decide) (by decide), n5 _ _ (by decide) (by decide)]; exact b7 i h1 h2
  · rw [z0] at hi
    rw [I_ne (fx_ne fx (by decide))]
    show _ = (uI (uI S 54 (S.1 0) v) 55 (S.1 0) o').2.1 55 i
    by_cases e : i = S.1 0
    · rw [e, I_eq, uI_s]
    · rw [I_nk e, uI_k e, uI_n (by decide)]; exact b8 i (by omega)
  · rw [o _ 9 (by omega) (by omega), n5 _ _ (by decide) (by decide)]; exact b9 t ht
  · rw [oR _ _ (by decide), n5 _ _ (by decide) (by decide)]; exact c1 c hc
  · rw [z0] at hi
    show vR np mid pa LV ((uI (uI S 54 (S.1 0) v) 55 (S.1 0) o').2.1 54 i) (hR (sR hc (ad 14) (S.1 0) (some x)) (ad 14) i)
    rw [uI_n (by decide), hR_sR]
    by_cases e : i = S.1 0
    · rw [if_pos ⟨rfl, e⟩, e, uI_s]; exact hv
    · rw [if_neg (fun z => e z.2), uI_k e]; exact c2 i (by omega)
  · rw [oR _ _ (by omega), n5 _ _ (by decide) (by decide)]; exact c3 t s ht hs
theorem RC.pop (fx : FX n ad sa z0 h) (r : RC n np ad mid pa LV P h hc w S) : RC n np ad mid pa LV P h (sI hc (ad 13) 2 (nI (S.1 0 - 1))) w (uN S 0 (S.1 0 - 1)) := by
  obtain ⟨cf, ⟨⟨b1, b2, b3, b4, b5, b6⟩, b7, b8, b9⟩, ⟨c1, c2, c3⟩, it⟩ := r
  have o : ∀ i k, i ≠ 13 → hI (sI hc (ad 13) 2 (nI (S.1 0 - 1))) (ad i) k = hI hc (ad i) k := fun i k h1 => I_ne (fx_ne fx h1)
  have n0 : ∀ k, k ≠ 0 → (uN S 0 (S.1 0 - 1)).1 k = S.1 k := fun k hk => uN_n hk
  have z0 : (uN S 0 (S.1 0 - 1)).1 0 = S.1 0 - 1 := uN_s
  refine ⟨cf.i nc13, ⟨⟨?_, ?_, ?_, ?_, ?_, ?_⟩, fun i h1 h2 => ?_, fun i hi => ?_, fun t ht => ?_⟩, ⟨c1, fun i hi => ?_, c3⟩, it.k (o 16 5 (by decide)) (fun k => o 20 k (by decide)) (fun _ => rfl) rfl rfl (by rw [n0 1 (by decide)]; omega)⟩
  · rw [I_eq, z0]
  · rw [o _ _ (by decide), n0 1 (by decide)]; exact b2
  · rw [o _ _ (by decide), n0 2 (by decide)]; exact b3
  · rw [o _ _ (by decide), n0 3 (by decide)]; exact b4
  · rw [o _ _ (by decide)]; exact b5
  · rw [o _ _ (by decide)]; exact b6
  · rw [n0 2 (by decide)] at h1
    rw [o _ _ (by decide)]; exact b7 i h1 h2
  · rw [z0] at hi
    rw [o _ _ (by decide)]; exact b8 i (by omega)
  · rw [o _ 9 (by omega)]; exact b9 t ht
  · rw [z0] at hi
    exact c2 i (by omega)
theorem RC.cas {a : Nat} {v : Int32} {x : Option Nat} (fx : FX n ad sa z0 h) (r : RC n np ad mid pa LV P h hc w S) (hv : vR np mid pa LV v x) : RC n np ad mid pa LV P h (sR hc (ad 1) a x) w (uI S 31 a v) := by
  obtain ⟨cf, ⟨⟨b1, b2, b3, b4, b5, b6⟩, b7, b8, b9⟩, ⟨c1, c2, c3⟩, it⟩ := r
  have oR : ∀ i k, i ≠ 1 → hR (sR hc (ad 1) a x) (ad i) k = hR hc (ad i) k := fun i k h1 => R_ne (fx_ne fx h1)
  refine ⟨cf.r nr1, ⟨⟨b1, b2, b3, b4, ?_, ?_⟩, fun i h1 h2 => ?_, fun i hi => ?_, fun t ht => ?_⟩, ⟨fun c hc => ?_, fun i hi => ?_, fun t s ht hs => ?_⟩, it.k rfl (fun _ => rfl) (fun k => oR 19 k (by decide)) rfl rfl (Nat.le_refl _)⟩
  · rw [uI_n (by decide)]; exact b5
  · rw [uI_n (by decide)]; exact b6
  · rw [uI_n (by decide)]; exact b7 i h1 h2
  · rw [uI_n (by decide)]; exact b8 i hi
  · rw [uI_n (by decide)]; exact b9 t ht
  · rw [hR_sR]
    by_cases e : c = a
    · rw [if_pos ⟨rfl, e⟩, e, uI_s]; exact hv
    · rw [if_neg (fun z => e z.2), uI_k e]; exact c1 c hc
  · rw [oR _ _ (by decide), uI_n (by decide)]; exact c2 i hi
  · rw [oR _ _ (by omega), uI_n (by decide)]; exact c3 t s ht hs
theorem RC.slt {a b : Nat} {v : Int32} {x : Option Nat} (fx : FX n ad sa z0 h) (r : RC n np ad mid pa LV P h hc w S) (ha : a < n) (hb : b < 5) (hv : slR pa np v x) : RC n np ad mid pa LV P h (sR hc (ad (101 + 5 * a)) b x) w (uI S 57 (5 * a + b) v) := by
  obtain ⟨cf, ⟨⟨b1, b2, b3, b4, b5, b6⟩, b7, b8, b9⟩, ⟨c1, c2, c3⟩, it⟩ := r
  have oR : ∀ i k, i ≠ 101 + 5 * a → hR (sR hc (ad (101 + 5 * a)) b x) (ad i) k = hR hc (ad i) k := fun i k h1 => R_ne (fx_ne fx h1)
  refine ⟨cf.r (nrs ha), ⟨⟨b1, b2, b3, b4, ?_, ?_⟩, fun i h1 h2 => ?_, fun i hi => ?_, fun t ht => ?_⟩, ⟨fun c hc => ?_, fun i hi => ?_, fun t s ht hs => ?_⟩, it.k rfl (fun _ => rfl) (fun k => oR 19 k (by omega)) rfl rfl (Nat.le_refl _)⟩
  · rw [uI_n (by decide)]; exact b5
  · rw [uI_n (by decide)]; exact b6
  · rw [uI_n (by decide)]; exact b7 i h1 h2
  · rw [uI_n (by decide)]; exact b8 i hi
  · rw [uI_n (by decide)]; exact b9 t ht
  · rw [oR _ _ (by omega), uI_n (by decide)]; exact c1 c hc
  · rw [oR _ _ (by omega), uI_n (by decide)]; exact c2 i hi
  · rw [hR_sR]
    by_cases e : t = a ∧ s = b
    · rw [if_pos ⟨by rw [e.1], e.2⟩, e.1, e.2, uI_s]; exact hv
    · rw [if_neg (fun z => e ⟨by have := fx_inj fx z.1; omega, z.2⟩), uI_k (by omega)]; exact c3 t s ht hs
theorem RC.hld {a : Nat} {v : Int32} (fx : FX n ad sa z0 h) (r : RC n np ad mid pa LV P h hc w S) (ha : a < n) : RC n np ad mid pa LV P h (sI hc (ad (100 + 5 * a)) 9 v) w (uI S 56 a v) := by
  obtain ⟨cf, ⟨⟨b1, b2, b3, b4, b5, b6⟩, b7, b8, b9⟩, ⟨c1, c2, c3⟩, it⟩ := r
  have o : ∀ i k, i ≠ 100 + 5 * a → hI (sI hc (ad (100 + 5 * a)) 9 v) (ad i) k = hI hc (ad i) k := fun i k h1 => I_ne (fx_ne fx h1)
  refine ⟨cf.i (nch ha), ⟨⟨?_, ?_, ?_, ?_, ?_, ?_⟩, fun i h1 h2 => ?_, fun i hi => ?_, fun t ht => ?_⟩, ⟨fun c hc => ?_, fun i hi => ?_, fun t s ht hs => ?_⟩, it.k (o 16 5 (by omega)) (fun k => o 20 k (by omega)) (fun _ => rfl) rfl rfl (Nat.le_refl _)⟩
  · rw [o _ _ (by omega)]; exact b1
  · rw [o _ _ (by omega)]; exact b2
  · rw [o _ _ (by omega)]; exact b3
  · rw [o _ _ (by omega)]; exact b4
  · rw [o _ _ (by omega), uI_n (by decide)]; exact b5
  · rw [o _ _ (by omega), uI_n (by decide)]; exact b6
  · rw [o _ _ (by omega), uI_n (by decide)]; exact b7 i h1 h2
  · rw [o _ _ (by omega), uI_n (by decide)]; exact b8 i hi
  · rw [hI_sI]
    by_cases e : t = a
    · rw [if_pos ⟨by rw [e], rfl⟩, e, uI_s]
    · rw [if_neg (fun z => e (by have := fx_inj fx z.1; omega)), uI_k e]; exact b9 t ht
  · rw [uI_n (by decide)]; exact c1 c hc
  · rw [uI_n (by decide)]; exact c2 i hi
  · rw [uI_n (by decide)]; exact c3 t s ht hs
end RCL

/-! ===== the store: what a change keeps ===== -/
def smA (h h2 : mH) (a : Nat) : Prop := hT h2 a = hT h a ∧ hN h2 a = hN h a ∧ hI h2 a = hI h a ∧ hL h2 a = hL h a ∧ hR h2 a = hR h a
def smT (ad : Nat → Nat) (h h2 : mH) (t : Nat) : Prop := hI h2 (ad 33) t = hI h (ad 33) t ∧ hI h2 (ad 34) t = hI h (ad 34) t ∧ hI h2 (ad 35) t = hI h (ad 35) t ∧ ∀ i, i < 30 → hL h2 (ad 36) (30 * t + i) = hL h (ad 36) (30 * t + i)
theorem smA.rf (h : mH) (a : Nat) : smA h h a := ⟨rfl, rfl, rfl, rfl, rfl⟩
section ST
variable {n : Nat} {ad sa : Nat → Nat} {z0 : Nat} {mid mid' pa pa' : Nat → Nat} {np np' : Nat} {h h2 : mH}
theorem rowR.c {t a ln : Nat} (q : rowR ad z0 h t a ln) (s1 : smA h h2 a) (s2 : smA h h2 (a + 1)) (s3 : smT ad h h2 t) : rowR ad z0 h2 t a ln := by
  obtain ⟨w1, w2, w3, w4, ⟨w5, w6, w7, w8⟩, sz, w9, w10, w11, w12⟩ := q
  obtain ⟨a1, a2, a3, a4, a5⟩ := s1
  obtain ⟨b1, b2, b3, b4, b5⟩ := s2
  obtain ⟨c1, c2, c3, c4⟩ := s3
  refine ⟨a1.trans w1, w2, by rw [a5]; exact w3, b1.trans w4, ⟨w5, by rw [a3]; exact w6, c1.trans w7, c2.trans w8⟩, sz, w9, b2.trans w10, c3.trans w11, fun i hi => ?_⟩
  rw [b4, c4 i (by omega)]
  exact w12 i hi
theorem grdR.c {t a : Nat} (q : grdR ad z0 mid h t a) (s1 : smA h h2 a) (s2 : smA h h2 (a + 1)) (s3 : smT ad h h2 t)
    (he : ∀ i t' sz, sz ≤ 8 → hI h (ad 35) t = nI sz → i < sz → t' < 250 → hL h (ad 36) (30 * t + i) = lN t' → rowR ad z0 h t' (mid t') 3 → mid' t' = mid t' ∧ rowR ad z0 h2 t' (mid t') 3) : grdR ad z0 mid' h2 t a := by
  obtain ⟨w1, w2, w3, w4, ⟨w6, w7, w8⟩, sz, w9, w10, w11, w12⟩ := q
  obtain ⟨a1, a2, a3, a4, a5⟩ := s1
  obtain ⟨b1, b2, b3, b4, b5⟩ := s2
  obtain ⟨c1, c2, c3, c4⟩ := s3
  refine ⟨a1.trans w1, w2, by rw [a5]; exact w3, b1.trans w4, ⟨by rw [a3]; exact w6, c1.trans w7, c2.trans w8⟩, sz, w9, b2.trans w10, c3.trans w11, fun i hi => ?_⟩
  rw [b5, c4 i (by omega)]
  rcases w12 i hi with e | ⟨t', e1, e2, e3, e4⟩
  · exact .inl e
  · obtain ⟨g1, g2⟩ := he i t' sz w9 w11 hi e1 e2 e4
    exact .inr ⟨t', e1, e2, by rw [g1]; exact e3, by rw [g1]; exact g2⟩
theorem craR.c {t a : Nat} (q : craR ad z0 pa np h t a) (s1 : smA h h2 a) (s2 : smA h h2 (a + 1)) (s3 : smT ad h h2 t) (hn : np ≤ np')
    (he : ∀ q, q < np → pa' q = pa q ∧ hI h2 (ad 37) q = hI h (ad 37) q) : craR ad z0 pa' np' h2 t a := by
  obtain ⟨w1, w2, w3, w4, k, ⟨w5, w6, w7, w8⟩, sz, w9, w10, w11, w12⟩ := q
  obtain ⟨a1, a2, a3, a4, a5⟩ := s1
  obtain ⟨b1, b2, b3, b4, b5⟩ := s2
  obtain ⟨c1, c2, c3, c4⟩ := s3
  refine ⟨a1.trans w1, w2, by rw [a5]; exact w3, b1.trans w4, k, ⟨w5, by rw [a3]; exact w6, c1.trans w7, c2.trans w8⟩, sz, w9, b2.trans w10, c3.trans w11, fun i hi => ?_⟩
  rw [b5, c4 i (by omega)]
  rcases w12 i hi with e | ⟨q, e1, e2, e3, kq, e4, e5⟩
  · exact .inl e
  · obtain ⟨g1, g2⟩ := he q e1
    exact .inr ⟨q, by omega, e2, by rw [g1]; exact e3, kq, g2.trans e4, e5⟩
/-- the things that are held stay as they are -/
theorem Rs.gen (r : Rs ad z0 mid pa np h) (hp : paR ad z0 pa' np' h2) (hn : np ≤ np') (hpp : ∀ q, q < np → pa' q = pa q)
    (hc : ∀ c, c < 24 → (hI h2 (ad 31) c = hI h (ad 31) c ∧ hR h2 (ad 1) c = hR h (ad 1) c) ∨ caR ad z0 mid' pa' np' h2 (hI h2 (ad 31) c) (hR h2 (ad 1) c))
    (ht : ∀ t, t < 250 → live ad h t → thR ad z0 mid pa np h t (mid t) → mid' t = mid t ∧ thR ad z0 mid' pa' np' h2 t (mid t))
    (hi : ∀ t u, t < 250 → u < 250 → live ad h2 t → live ad h2 u → mid' t = mid' u → t = u) (hz : ∀ a, hZ h2 ≤ a → hT h2 a = 0) : Rs ad z0 mid' pa' np' h2 := by
  refine ⟨hp, fun c hc' => ?_, hi, hz⟩
  rcases hc c hc' with ⟨e1, e2⟩ | e
  · rw [e1, e2]
    rcases r.2.1 c hc' with w | ⟨q, w1, w2, w3⟩ | ⟨t, w1, w2, w3, w4⟩
    · exact .inl w
    · exact .inr (.inl ⟨q, by omega, w2, by rw [hpp q w1]; exact w3⟩)
    · obtain ⟨g1, g2⟩ := ht t w1 (.inl ⟨c, hc', w2⟩) w4
      exact .inr (.inr ⟨t, w1, w2, by rw [g1]; exact w3, by rw [g1]; exact g2⟩)
  · exact e
/-- everything of the store but the cases is as before -/
def smS (ad : Nat → Nat) (z0 : Nat) (h h2 : mH) : Prop := (∀ a, z0 ≤ a → smA h h2 a) ∧ (∀ t, smT ad h h2 t) ∧ (hI h2 (ad 0) 5 = hI h (ad 0) 5 ∧ hI h2 (ad 30) 6 = hI h (ad 30) 6 ∧ (∀ q, hI h2 (ad 37) q = hI h (ad 37) q ∧ hL h2 (ad 38) q = hL h (ad 38) q)) ∧ hT h2 = hT h ∧ hZ h2 = hZ h
theorem thR.s (s : smS ad z0 h h2) {t a : Nat} (q : thR ad z0 mid pa np h t a) : thR ad z0 mid pa np h2 t a := by
  obtain ⟨s1, s2, ⟨s3, s4, s5⟩, s6, s7⟩ := s
  rcases q with ⟨ln, q⟩ | q | q
  · exact .inl ⟨ln, q.c (s1 _ q.2.1) (s1 _ (by have := q.2.1; omega)) (s2 _)⟩
  · exact .inr (.inl (q.c (s1 _ q.2.1) (s1 _ (by have := q.2.1; omega)) (s2 _) (fun i t' sz _ _ _ _ _ w => ⟨rfl, w.c (s1 _ w.2.1) (s1 _ (by have := w.2.1; omega)) (s2 _)⟩)))
  · exact .inr (.inr (q.c (s1 _ q.2.1) (s1 _ (by have := q.2.1; omega)) (s2 _) (Nat.le_refl _) (fun q _ => ⟨rfl, (s5 q).1⟩)))
theorem caR.s (s : smS ad z0 h h2) {v : Int32} {r : Option Nat} (q : caR ad z0 mid pa np h v r) : caR ad z0 mid pa np h2 v r := by
  rcases q with w | w | ⟨t, w1, w2, w3, w4⟩
  · exact .inl w
  · exact .inr (.inl w)
  · exact .inr (.inr ⟨t, w1, w2, w3, w4.s s⟩)
theorem paR.s (s : smS ad z0 h h2) (q : paR ad z0 pa np h) : paR ad z0 pa np h2 := by
  obtain ⟨s1, s2, ⟨s3, s4, s5⟩, s6, s7⟩ := s
  obtain ⟨p1, p2, p3, p4, p5⟩ := q
  refine ⟨p1, s3.trans p2, s4.trans p3, fun q hq => ?_, p5⟩
  obtain ⟨w1, w2, w3, w4, w5, w6⟩ := p4 q hq
  obtain ⟨a1, a2, a3, a4, a5⟩ := s1 _ w2
  rw [a1, a3, a4, (s5 q).1, (s5 q).2]
  exact ⟨w1, w2, w3, w4, w5, w6⟩
/-- what is held behind a change of cases alone was held before -/
theorem live.s (s : smS ad z0 h h2) (hc : ∀ c t, c < 24 → t < 250 → hI h2 (ad 31) c = nI t → ∃ c', c' < 24 ∧ hI h (ad 31) c' = nI t) {t : Nat} (ht : t < 250) (q : live ad h2 t) : live ad h t := by
  obtain ⟨s1, s2, s3⟩ := s
  rcases q with ⟨c, q1, q2⟩ | ⟨c, g, i, sz, q1, q2, q3, q4, q5, q6, q7, q8⟩
  · obtain ⟨c', w1, w2⟩ := hc c t q1 ht q2
    exact .inl ⟨c', w1, w2⟩
  · obtain ⟨c', w1, w2⟩ := hc c g q1 q2 q3
    obtain ⟨e1, e2, e3, e4⟩ := s2 g
    exact .inr ⟨c', g, i, sz, w1, q2, w2, e1 ▸ q4, e3 ▸ q5, q6, q7, (e4 i (by omega)) ▸ q8⟩
/-- cases are written: with nothing, with a part, or with what a case holds -/
theorem Rs.cases (r : Rs ad z0 mid pa np h) (s : smS ad z0 h h2)
    (hc : ∀ c, c < 24 → (∃ c', c' < 24 ∧ hI h2 (ad 31) c = hI h (ad 31) c' ∧ hR h2 (ad 1) c = hR h (ad 1) c') ∨ (hI h2 (ad 31) c = -1 ∧ hR h2 (ad 1) c = none) ∨ ∃ q, q < np ∧ hI h2 (ad 31) c = nI (1000 + q) ∧ hR h2 (ad 1) c = some (pa q)) : Rs ad z0 mid pa np h2 := by
  have hc' : ∀ c, c < 24 → caR ad z0 mid pa np h2 (hI h2 (ad 31) c) (hR h2 (ad 1) c) := by
    intro c hcc
    rcases hc c hcc with ⟨c', w1, w2, w3⟩ | w | w
    · rw [w2, w3]; exact (r.2.1 c' w1).s s
    · exact .inl w
    · exact .inr (.inl w)
  have hl : ∀ t, t < 250 → live ad h2 t → live ad h t := fun t ht q => q.s s (by
    intro c t hcc ht e
    rcases hc c hcc with ⟨c', w1, w2, w3⟩ | w | ⟨q, w1, w2, w3⟩
    · exact ⟨c', w1, w2 ▸ e⟩
    · rw [w.1] at e
      have := i_eq e; have e2 : (nI t).toInt = t := nI_toInt (by omega); have : (-1 : Int32).toInt = -1 := rfl; omega
    · rw [w2] at e
      have hnp := r.1.1
      have := (nI_eq (by omega) (by omega)).mp e; omega) ht
  exact ⟨r.1.s s, hc', fun t u ht hu l1 l2 => r.2.2.1 t u ht hu (hl t ht l1) (hl u hu l2), by rw [s.2.2.2.1, s.2.2.2.2]; exact r.2.2.2⟩
end ST

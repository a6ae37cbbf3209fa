/-! ===== new cells ===== -/
section NW
variable {n : Nat} {ad sa : Nat → Nat} {z0 : Nat} {h : mH} {t k m : Nat}
theorem nw_T0 : hT (nw h t k m) (hZ h) = t := by show u1 (hT h) (hZ h) t (hZ h) = t; unfold u1; rw [if_pos rfl]
theorem nw_N0 : hN (nw h t k m) (hZ h) = k := by show u1 (hN h) (hZ h) k (hZ h) = k; unfold u1; rw [if_pos rfl]
theorem nw_T {a : Nat} (ha : a ≠ hZ h) : hT (nw h t k m) a = hT h a := by show u1 (hT h) (hZ h) t a = _; unfold u1; rw [if_neg ha]
theorem nw_N {a : Nat} (ha : a ≠ hZ h) : hN (nw h t k m) a = hN h a := by show u1 (hN h) (hZ h) k a = _; unfold u1; rw [if_neg ha]
theorem nw_I {a j : Nat} (ha : a ≠ hZ h) : hI (nw h t k m) a j = hI h a j := by show u1 (hI h) (hZ h) (fun _ => 0) a j = _; unfold u1; rw [if_neg ha]
theorem nw_L {a j : Nat} (ha : a ≠ hZ h) : hL (nw h t k m) a j = hL h a j := by show u1 (hL h) (hZ h) (fun _ => 0) a j = _; unfold u1; rw [if_neg ha]
theorem nw_D {a j : Nat} (ha : a ≠ hZ h) : hD (nw h t k m) a j = hD h a j := by show u1 (hD h) (hZ h) (fun _ => 0) a j = _; unfold u1; rw [if_neg ha]
theorem nw_R {a j : Nat} (ha : a ≠ hZ h) : hR (nw h t k m) a j = hR h a j := by show u1 (hR h) (hZ h) (fun _ => none) a j = _; unfold u1; rw [if_neg ha]
theorem nw_I0 {j : Nat} : hI (nw h t k m) (hZ h) j = 0 := by show u1 (hI h) (hZ h) (fun _ => 0) (hZ h) j = _; unfold u1; rw [if_pos rfl]
theorem nw_L0 {j : Nat} : hL (nw h t k m) (hZ h) j = 0 := by show u1 (hL h) (hZ h) (fun _ => 0) (hZ h) j = _; unfold u1; rw [if_pos rfl]
theorem nw_R0 {j : Nat} : hR (nw h t k m) (hZ h) j = none := by show u1 (hR h) (hZ h) (fun _ => none) (hZ h) j = _; unfold u1; rw [if_pos rfl]
theorem nw_Z : hZ (nw h t k m) = hZ h + 1 := rfl
theorem nw_U : hU (nw h t k m) = hU h + m := rfl
/-- no cell has a tag from here on -/
def hzO (h : mH) : Prop := ∀ a, hZ h ≤ a → hT h a = 0
theorem hzO.nw (z : hzO h) : hzO (nw h t k m) := fun a ha => by
  rw [nw_Z] at ha
  rw [nw_T (by omega)]
  exact z a (by omega)
theorem hzO.lt (z : hzO h) {a : Nat} (ha : hT h a ≠ 0) : a < hZ h := Nat.lt_of_not_le (fun w => ha (z a w))
theorem ad_lt (fx : FX n ad sa z0 h) {i : Nat} (hd : dom n i) : ad i < hZ h := by
  have := (fx_lt fx hd).1; have := fx_z fx; omega
theorem FX.nw (fx : FX n ad sa z0 h) (z : hzO h) : FX n ad sa z0 (nw h t k m) := by
  obtain ⟨x1, x2, x3, x4, x5, x6, x7, x8, x9⟩ := id fx
  have al : ∀ i, dom n i → ad i ≠ hZ h := fun i hd => by have := ad_lt fx hd; omega
  have lL : ∀ r ∈ fxL, (r.1 < 23 ∨ 30 ≤ r.1) ∧ r.1 < 76 := by decide
  have lR : ∀ r ∈ fxR, (r.1 < 23 ∨ 30 ≤ r.1) ∧ r.1 < 76 := by decide
  refine ⟨fun r hr => ?_, ?_, fun r hr => ?_, fun t ht => ?_, fun j hj => ?_, x6, x7, x8, ?_⟩
  · rw [nw_T (al _ (.inl (lL r hr))), nw_N (al _ (.inl (lL r hr)))]; exact x1 r hr
  · rw [nw_T (al _ (.inl (by decide))), nw_N (al _ (.inl (by decide))), nw_T (al _ (.inl (by decide))), nw_N (al _ (.inl (by decide)))]; exact x2
  · rw [nw_R (al _ (.inl (lR r hr)))]; exact x3 r hr
  · have d : ∀ k, k < 5 → ad (100 + k + 5 * t) ≠ hZ h := fun k hk => al _ (.inr ⟨by omega, by omega⟩)
    have d0 := d 0 (by decide)
    rw [nw_R (al 7 (.inl (by decide))), nw_T d0, nw_T (d 1 (by decide)), nw_N (d 1 (by decide)), nw_T (d 2 (by decide)), nw_N (d 2 (by decide)), nw_T (d 3 (by decide)), nw_N (d 3 (by decide)), nw_T (d 4 (by decide)), nw_N (d 4 (by decide)), nw_R d0, nw_R d0, nw_R d0, nw_R d0]
    exact x4 t ht
  · obtain ⟨y1, y2, y3⟩ := x5 j hj
    have s : sa j ≠ hZ h := by have := z.lt (a := sa j) (by rw [y2]; decide); omega
    have o : 0 ≠ hZ h := by have := ad_lt fx (i := 0) (.inl (by decide)); omega
    rw [nw_R o, nw_T s, nw_N s]
    exact ⟨y1, y2, y3⟩
  · rw [nw_Z]; omega
end NW
section NP
variable {n : Nat} {ad sa : Nat → Nat} {z0 : Nat} {mid pa pa' : Nat → Nat} {np np' : Nat} {h h2 : mH}
theorem Ru.mono (r : Ru n ad pa np h) (hn : np ≤ np') (hp : ∀ q, q < np → pa' q = pa q) : Ru n ad pa' np' h := by
  refine ⟨r.1, fun t ht => ?_⟩
  obtain ⟨g1, g2, g3, g4, g5, g6, g7⟩ := (tuR_i _ _ _ _ _).mp (r.2 t ht)
  refine (tuR_i _ _ _ _ _).mpr ⟨g1, g2, g3, g4, g5, g6, fun s hs => ?_⟩
  rcases g7 s hs with w | ⟨q, w1, w2, w3⟩
  · exact .inl w
  · exact .inr ⟨q, by omega, w2, by rw [hp q w1]; exact w3⟩
/-- what is held stays, and lies below the next address -/
theorem thR.lt (z : hzO h) {t : Nat} (w : thR ad z0 mid pa np h t (mid t)) : mid t + 1 < hZ h := by
  rcases w with ⟨ln, w⟩ | w | w
  · exact z.lt (by rw [w.2.2.2.1]; decide)
  · exact z.lt (by rw [w.2.2.2.1]; decide)
  · exact z.lt (by rw [w.2.2.2.1]; decide)
theorem thR.up (hn : np ≤ np') (hp : ∀ q, q < np → pa' q = pa q) (z : hzO h) (f1 : ∀ a, z0 ≤ a → a < hZ h → smA h h2 a) (s2 : ∀ t, smT ad h h2 t) (s5 : ∀ q, q < np → hI h2 (ad 37) q = hI h (ad 37) q) {t : Nat} (w : thR ad z0 mid pa np h t (mid t)) : thR ad z0 mid pa' np' h2 t (mid t) := by
  have lt := w.lt z
  rcases w with ⟨ln, w⟩ | w | w
  · exact .inl ⟨ln, w.c (f1 _ w.2.1 (by omega)) (f1 _ (by have := w.2.1; omega) lt) (s2 t)⟩
  · refine .inr (.inl (w.c (f1 _ w.2.1 (by omega)) (f1 _ (by have := w.2.1; omega) lt) (s2 t) (fun i t' sz _ _ _ _ _ q => ⟨rfl, ?_⟩)))
    have l2 := z.lt (a := mid t' + 1) (by rw [q.2.2.2.1]; decide)
    exact q.c (f1 _ q.2.1 (by omega)) (f1 _ (by have := q.2.1; omega) l2) (s2 t')
  · exact .inr (.inr (w.c (f1 _ w.2.1 (by omega)) (f1 _ (by have := w.2.1; omega) lt) (s2 t) hn (fun q hq => ⟨hp q hq, s5 q hq⟩)))
theorem Rs.newpart (fx : FX n ad sa z0 h) (r : Rs ad z0 mid pa np h) {c kd : Nat} (hc : c < 24) (hk : kd < 7) (hnp : np < 60) (f1 : ∀ a, z0 ≤ a → a < hZ h → smA h h2 a)
    (t0 : hT h2 (hZ h) = 4) (t1 : hI h2 (hZ h) 0 = nI kd) (t2 : hI h2 (hZ h) 1 = nI np) (t3 : hL h2 (hZ h) 2 = 0) (s2 : ∀ t, smT ad h h2 t) (s3 : hI h2 (ad 0) 5 = nI (np + 1)) (s4 : hI h2 (ad 30) 6 = nI (np + 1))
    (s5 : ∀ q, q ≠ np → hI h2 (ad 37) q = hI h (ad 37) q ∧ hL h2 (ad 38) q = hL h (ad 38) q) (s6 : hI h2 (ad 37) np = nI kd) (s7 : hL h2 (ad 38) np = 0)
    (c1 : ∀ k, k ≠ c → hI h2 (ad 31) k = hI h (ad 31) k ∧ hR h2 (ad 1) k = hR h (ad 1) k) (c2 : hI h2 (ad 31) c = nI (1000 + np)) (c3 : hR h2 (ad 1) c = some (hZ h)) (hz : ∀ a, hZ h2 ≤ a → hT h2 a = 0) : Rs ad z0 mid (u1 pa np (hZ h)) (np + 1) h2 := by
  have z : hzO h := r.2.2.2
  have pe : ∀ q, q < np → u1 pa np (hZ h) q = pa q := fun q hq => by unfold u1; rw [if_neg (by omega)]
  have pn : u1 pa np (hZ h) np = hZ h := by unfold u1; rw [if_pos rfl]
  have pl : ∀ q, q < np → pa q < hZ h := fun q hq => z.lt (by rw [(r.1.2.2.2.1 q hq).1]; decide)
  have hl : ∀ t, t < 250 → live ad h2 t → live ad h t := by
    intro t ht w
    have nt : ∀ u, u < 250 → ¬ nI (1000 + np) = nI u := fun u hu e => by have := (nI_eq (by omega) (by omega)).mp e; omega
    rcases w with ⟨k, w1, w2⟩ | ⟨k, g, i, sz, w1, w2, w3, w4, w5, w6, w7, w8⟩
    · by_cases e : k = c
      · rw [e, c2] at w2; exact absurd w2 (nt t ht)
      · rw [(c1 k e).1] at w2; exact .inl ⟨k, w1, w2⟩
    · by_cases e : k = c
      · rw [e, c2] at w3; exact absurd w3 (nt g w2)
      · rw [(c1 k e).1] at w3
        obtain ⟨g1, g2, g3, g4⟩ := s2 g
        exact .inr ⟨k, g, i, sz, w1, w2, w3, g1 ▸ w4, g3 ▸ w5, w6, w7, (g4 i (by omega)) ▸ w8⟩
  refine Rs.gen r ⟨by omega, s3, s4, fun q hq => ?_, fun q q' hq hq' e => ?_⟩ (Nat.le_succ _) pe (fun k hk' => ?_) (fun t ht _ w => ⟨rfl, w.up (Nat.le_succ _) pe z f1 s2 (fun q hq => (s5 q (by omega)).1)⟩) (fun t u ht hu l1 l2 => r.2.2.1 t u ht hu (hl t ht l1) (hl u hu l2)) hz
  · by_cases e : q = np
    · subst e
      rw [pn, t0, t1, t2, t3, s6, s7]
      exact ⟨rfl, fx_z fx, rfl, rfl, ⟨kd, hk, rfl⟩, rfl⟩
    · have hq' : q < np := by omega
      obtain ⟨w1, w2, w3, w4, w5, w6⟩ := r.1.2.2.2.1 q hq'
      obtain ⟨a1, a2, a3, a4, a5⟩ := f1 _ w2 (pl q hq')
      rw [pe q hq', a1, a3, a4, (s5 q e).1, (s5 q e).2]
      exact ⟨w1, w2, w3, w4, w5, w6⟩
  · by_cases e1 : q = np
    · by_cases e2 : q' = np
      · omega
      · have := pl q' (by omega); rw [e1, pn, pe q' (by omega)] at e; omega
    · by_cases e2 : q' = np
      · have := pl q (by omega); rw [e2, pn, pe q (by omega)] at e; omega
      · rw [pe q (by omega), pe q' (by omega)] at e
        exact r.1.2.2.2.2 q q' (by omega) (by omega) e
  · by_cases e : k = c
    · right
      rw [e, c2, c3]
      exact .inr (.inl ⟨np, by omega, rfl, by rw [pn]⟩)
    · exact .inl (c1 k e)
end NP
theorem I_nx {n : Nat} {ad sa : Nat → Nat} {z0 : Nat} {h h0 : mH} (fx : FX n ad sa z0 h0) {i i' j k : Nat} {v : Int32} (hne : ¬ (i' = i ∧ j = k)) : hI (sI h (ad i) k v) (ad i') j = hI h (ad i') j := by rw [hI_sI, if_neg (fun z => hne ⟨fx_inj fx z.1, z.2⟩)]
theorem L_nx {n : Nat} {ad sa : Nat → Nat} {z0 : Nat} {h h0 : mH} (fx : FX n ad sa z0 h0) {i i' j k : Nat} {v : Int64} (hne : ¬ (i' = i ∧ j = k)) : hL (sL h (ad i) k v) (ad i') j = hL h (ad i') j := by rw [hL_sL, if_neg (fun z => hne ⟨fx_inj fx z.1, z.2⟩)]
theorem hT_sI {h : mH} {a k : Nat} {v : Int32} : hT (sI h a k v) = hT h := rfl
theorem hT_sL {h : mH} {a k : Nat} {v : Int64} : hT (sL h a k v) = hT h := rfl
theorem hT_sD {h : mH} {a k : Nat} {v : UInt64} : hT (sD h a k v) = hT h := rfl
theorem hT_sR {h : mH} {a k : Nat} {v : Option Nat} : hT (sR h a k v) = hT h := rfl
theorem hN_sI {h : mH} {a k : Nat} {v : Int32} : hN (sI h a k v) = hN h := rfl
theorem hN_sL {h : mH} {a k : Nat} {v : Int64} : hN (sL h a k v) = hN h := rfl
theorem hN_sD {h : mH} {a k : Nat} {v : UInt64} : hN (sD h a k v) = hN h := rfl
theorem hN_sR {h : mH} {a k : Nat} {v : Option Nat} : hN (sR h a k v) = hN h := rfl
theorem hZ_sI {h : mH} {a k : Nat} {v : Int32} : hZ (sI h a k v) = hZ h := rfl
theorem hZ_sL {h : mH} {a k : Nat} {v : Int64} : hZ (sL h a k v) = hZ h := rfl
theorem hZ_sD {h : mH} {a k : Nat} {v : UInt64} : hZ (sD h a k v) = hZ h := rfl
theorem hZ_sR {h : mH} {a k : Nat} {v : Option Nat} : hZ (sR h a k v) = hZ h := rfl
theorem hU_sI {h : mH} {a k : Nat} {v : Int32} : hU (sI h a k v) = hU h := rfl
theorem hU_sL {h : mH} {a k : Nat} {v : Int64} : hU (sL h a k v) = hU h := rfl
theorem hU_sD {h : mH} {a k : Nat} {v : UInt64} : hU (sD h a k v) = hU h := rfl
theorem hU_sR {h : mH} {a k : Nat} {v : Option Nat} : hU (sR h a k v) = hU h := rfl
section FK
variable {n : Nat} {ad sa : Nat → Nat} {z0 : Nat} {h : mH} {a k : Nat}
theorem FX.sI {v : Int32} (fx : FX n ad sa z0 h) : FX n ad sa z0 (sI h a k v) := fx
theorem FX.sL {v : Int64} (fx : FX n ad sa z0 h) : FX n ad sa z0 (sL h a k v) := fx
theorem FX.sD {v : UInt64} (fx : FX n ad sa z0 h) : FX n ad sa z0 (sD h a k v) := fx
theorem hzO.sI {v : Int32} (z : hzO h) : hzO (sI h a k v) := z
theorem hzO.sL {v : Int64} (z : hzO h) : hzO (sL h a k v) := z
theorem hzO.sD {v : UInt64} (z : hzO h) : hzO (sD h a k v) := z
theorem hzO.sR {v : Option Nat} (z : hzO h) : hzO (sR h a k v) := z
end FK

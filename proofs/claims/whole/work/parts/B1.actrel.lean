/-! ===== behind an act the relation holds again ===== -/
/-- a place of ints that an act of neither side changes -/
def aI (n : Nat) (ad : Nat → Nat) (a j : Nat) : Prop := (cI n ad a j ∧ a ≠ ad 9) ∧ ¬ (a = ad 0 ∧ j = 6) ∧ (∀ i, (i = 31 ∨ 48 ≤ i ∧ i ≤ 59) → a ≠ ad i) ∧ ¬ (a = ad 30 ∧ (j = 11 ∨ j = 23 ∨ (29 ≤ j ∧ j ≤ 35) ∨ j = 37 ∨ j = 42 ∨ j = 43 ∨ j = 47))
section AR
variable {n np : Nat} {ad sa : Nat → Nat} {z0 : Nat} {mid pa : Nat → Nat} {LV : Nat → Prop} {P : aP} {h G : mH}
theorem aI_ad (fx : FX n ad sa z0 h) {i j : Nat} (h1 : i ≠ 0 ∧ i ≠ 12 ∧ i ≠ 13 ∧ i ≠ 15 ∧ i ≠ 16 ∧ i ≠ 20 ∧ i ≠ 9 ∧ i ≠ 30 ∧ i ≠ 31) (h2 : i < 48 ∨ 59 < i ∧ i < 100) : aI n ad (ad i) j := by
  refine ⟨⟨cI_ad fx (by omega) (by omega), fx_ne fx (by omega)⟩, fun e => h1.1 (fx_inj fx e.1), fun k hk => fx_ne fx (by omega), fun e => h1.2.2.2.2.2.2.2.1 (fx_inj fx e.1)⟩
theorem aI_30 (fx : FX n ad sa z0 h) {j : Nat} (h1 : ¬ (j = 11 ∨ j = 23 ∨ (29 ≤ j ∧ j ≤ 35) ∨ j = 37 ∨ j = 42 ∨ j = 43 ∨ j = 47)) : aI n ad (ad 30) j := ⟨⟨cI_ad fx (by decide) (by decide), fx_ne fx (by decide)⟩, fun e => absurd (fx_inj fx e.1) (by decide), fun k hk => fx_ne fx (by omega), fun e => h1 e.2⟩
theorem aI_0 (fx : FX n ad sa z0 h) {j : Nat} (h1 : j ≠ 6) : aI n ad (ad 0) j := ⟨⟨cI_ad fx (by decide) (by decide), fx_ne fx (by decide)⟩, fun e => h1 e.2, fun k hk => fx_ne fx (by omega), fun e => absurd (fx_inj fx e.1) (by decide)⟩
theorem aI_dy (fx : FX n ad sa z0 h) {a j : Nat} (ha : z0 ≤ a) : aI n ad a j := ⟨⟨cI_dy fx ha, dy_ad fx (.inl (by decide)) ha⟩, fun e => dy_ad fx (i := 0) (.inl (by decide)) ha e.1, fun k hk => dy_ad fx (.inl (by omega)) ha, fun e => dy_ad fx (i := 30) (.inl (by decide)) ha e.1⟩
theorem aI_tu (fx : FX n ad sa z0 h) {t j : Nat} (ht : t < n) (hj : j ≠ 9) : aI n ad (ad (100 + 5 * t)) j := by
  refine ⟨⟨⟨fx_ne fx (by omega), fx_ne fx (by omega), fx_ne fx (by omega), fx_ne fx (by omega), fx_ne fx (by omega), fun e => by have := fx_inj fx e.1; omega, fun u hu e => hj e.2⟩, fx_ne fx (by omega)⟩, fun e => by have := fx_inj fx e.1; omega, fun k hk => fx_ne fx (by omega), fun e => by have := fx_inj fx e.1; omega⟩
theorem act_rel (fx : FX n ad sa z0 h) (rt : Rt ad h) (rp : Rp n ad h) (rf : Rf ad h) (rst : Rst sa h) (ru : Ru n ad pa np h) (rs : Rs ad z0 mid pa np h) (eLV : ∀ t, LV t ↔ ∃ c, c < 24 ∧ hI h (ad 31) c = nI t) (eso : ∀ t, P.so t = (hI h (ad 33) t).toNatClampNeg) (esz : ∀ t, P.sz t = (hI h (ad 35) t).toNatClampNeg)
    (fxG : FX n ad sa z0 G) (sT : hT G = hT h) (sN : hN G = hN h) (sZ : hZ G = hZ h) (eD : hD G = hD h) (eI : ∀ a j, aI n ad a j → hI G a j = hI h a j) (eR : ∀ a, cR n ad a → a ≠ ad 9 → a ≠ ad 17 → a ≠ ad 18 → hR G a = hR h a)
    (ry : Ry ad G) (ra : Ra ad G) (hld : ∀ t, t < n → hI G (ad (100 + 5 * t)) 9 = 0 ∧ hI G (ad 56) t = 0) (f1 : ∀ c, c < 24 → vR np mid pa LV (hI G (ad 31) c) (hR G (ad 1) c)) (f2 : ∀ t s, t < n → s < 5 → slR pa np (hI G (ad 57) (5 * t + s)) (hR G (ad (101 + 5 * t)) s))
    (f3 : ∀ t j, wri LV P t j → hL G (mid t + 1) j = hL G (ad 36) (30 * t + j)) (f4 : ∀ a j, a ≠ ad 21 → a ≠ ad 36 → a ≠ ad 60 → (∀ t, wri LV P t j → a ≠ mid t + 1) → hL G a j = hL h a j) (f5 : ∀ k, k < 7500 → (∀ t j, wri LV P t j → k ≠ 30 * t + j) → hL G (ad 36) k = hL h (ad 36) k) : Rel n ad sa z0 G := by
  have ad' : ∀ i j, (i ≠ 0 ∧ i ≠ 12 ∧ i ≠ 13 ∧ i ≠ 15 ∧ i ≠ 16 ∧ i ≠ 20 ∧ i ≠ 9 ∧ i ≠ 30 ∧ i ≠ 31) ∧ (i < 48 ∨ 59 < i ∧ i < 100) → hI G (ad i) j = hI h (ad i) j := fun i j hi => eI _ _ (aI_ad fx hi.1 hi.2)
  have zl : ∀ t, wri LV P t 0 ∨ True → True := fun _ _ => trivial
  -- case-held things are live, and things
  have cas : ∀ t, t < 250 → LV t → ∃ c, c < 24 ∧ hI h (ad 31) c = nI t ∧ hR h (ad 1) c = some (mid t) ∧ thR ad z0 mid pa np h t (mid t) := by
    intro t ht lt
    obtain ⟨c, hc, e⟩ := (eLV t).mp lt
    have p60 := rs.1.1
    rcases rs.2.1 c hc with ⟨q, -⟩ | ⟨q, hq, q1, -⟩ | ⟨u, hu, q1, q2, q3⟩
    · rw [e] at q; exact absurd q (nI_nm1 (by omega))
    · rw [e] at q1
      have := congrArg Int32.toNatClampNeg q1
      rw [nI_clamp (by omega), nI_clamp (by omega)] at this; omega
    · rw [e] at q1
      have := congrArg Int32.toNatClampNeg q1
      rw [nI_clamp (by omega), nI_clamp (by omega)] at this
      subst this
      exact ⟨c, hc, e, q2, q3⟩
  have lv : ∀ t, t < 250 → LV t → live ad h t := fun t ht lt => by
    obtain ⟨c, hc, e, -⟩ := cas t ht lt
    exact .inl ⟨c, hc, e⟩
  have zt : ∀ t, t < 250 → LV t → z0 ≤ mid t := fun t ht lt => by
    obtain ⟨-, -, -, -, q⟩ := cas t ht lt
    rcases q with ⟨ln, q⟩ | q | q
    · exact q.2.1
    · exact q.2.1
    · exact q.2.1
  -- what is written lies in things
  have fxl : ∀ i j, dom n i → i ≠ 21 → i ≠ 36 → i ≠ 60 → hL G (ad i) j = hL h (ad i) j := fun i j hd h1 h2 h3 => f4 _ _ (fx_ne fx h1) (fx_ne fx h2) (fx_ne fx h3) (fun t wt e => by
    have := zt t wt.1 wt.2.1
    exact ad_dy fx hd (show z0 ≤ mid t + 1 by omega) e)
  have d5 : ∀ t k, t < n → k < 5 → dom n (100 + k + 5 * t) := fun t k ht hk => .inr ⟨by omega, by omega⟩
  -- the items of a thing of the reference's
  have it : ∀ t j, t < 250 → j < 30 → (¬ wri LV P t j) → hL G (ad 36) (30 * t + j) = hL h (ad 36) (30 * t + j) := fun t j ht hj hw => f5 _ (by omega) (fun u i wu e => by
    have w3 := wu.2.2.2
    have w4 := wu.2.2.1
    have s30 : P.sz u ≤ 30 := by
      obtain ⟨-, -, -, -, q⟩ := cas u wu.1 wu.2.1
      rw [esz]
      rcases q with ⟨ln, q⟩ | q | q
      · obtain ⟨-, -, -, -, -, sz, k1, -, k2, -⟩ := q
        rw [k2, nI_clamp (by omega)]; exact k1
      · obtain ⟨-, -, -, -, -, sz, k1, -, k2, -⟩ := q
        rw [k2, nI_clamp (by omega)]; omega
      · obtain ⟨-, -, -, -, k, -, sz, k1, -, k2, -⟩ := q
        rw [k2, nI_clamp (by omega)]; omega
    have e1 : u = t := by omega
    have e2 : i = j := by omega
    subst e1 e2
    exact hw wu)
  -- rows
  have row : ∀ t ln, t < 250 → live ad h t → rowR ad z0 h t (mid t) ln → rowR ad z0 G t (mid t) ln := by
    intro t ln ht lt q
    obtain ⟨q1, q2, q3, q4, ⟨q5, q6, q7, q8⟩, sz, q9, q10, q11, q12⟩ := q
    refine ⟨by rw [sT]; exact q1, q2, by rw [eR _ (cR_dy fx q2) (dy_ad fx (.inl (by decide)) q2) (dy_ad fx (.inl (by decide)) q2) (dy_ad fx (.inl (by decide)) q2)]; exact q3, by rw [sT]; exact q4, ⟨q5, by rw [eI _ _ (aI_dy fx q2)]; exact q6, by rw [ad' 33 _ (by decide)]; exact q7, by rw [ad' 34 _ (by decide)]; exact q8⟩, sz, q9, by rw [sN]; exact q10, by rw [ad' 35 _ (by decide)]; exact q11, fun i hi => ?_⟩
    have es : P.so t = ln := by rw [eso, q7]; exact nI_clamp (by omega)
    have ez : P.sz t = sz := by rw [esz, q11]; exact nI_clamp (by omega)
    by_cases w : wri LV P t i
    · have l3 : ln = 3 := by rw [← es]; exact w.2.2.1
      refine ⟨f3 t i w, ?_⟩
      subst l3
      exact ⟨fun z => absurd z (by decide), fun z => absurd z (by decide)⟩
    · have e1 : hL G (mid t + 1) i = hL h (mid t + 1) i := f4 _ _ (dy_ad fx (.inl (by decide)) (by omega)) (dy_ad fx (.inl (by decide)) (by omega)) (dy_ad fx (.inl (by decide)) (by omega)) (fun u wu e => by
        have : u = t := rs.2.2.1 u t wu.1 ht (lv u wu.1 wu.2.1) lt (by omega)
        subst this
        exact w wu)
      rw [e1, it t i ht (by omega) w]
      exact q12 i hi
  have nw8 : ∀ t j k, hI h (ad 33) t = nI k → 8 ≤ k → k < 100 → ¬ wri LV P t j := fun t j k e k8 k9 w => by
    have := w.2.2.1
    rw [eso, e, nI_clamp (by omega)] at this; omega
  have thg : ∀ t, t < 250 → LV t → thR ad z0 mid pa np G t (mid t) := by
    intro t ht lt
    obtain ⟨c, hc, e, -, q⟩ := cas t ht lt
    rcases q with ⟨ln, q⟩ | q | q
    · exact .inl ⟨ln, row t ln ht (lv t ht lt) q⟩
    · obtain ⟨q1, q2, q3, q4, ⟨q5, q6, q7⟩, sz, q9, q10, q11, q12⟩ := q
      refine .inr (.inl ⟨by rw [sT]; exact q1, q2, by rw [eR _ (cR_dy fx q2) (dy_ad fx (.inl (by decide)) q2) (dy_ad fx (.inl (by decide)) q2) (dy_ad fx (.inl (by decide)) q2)]; exact q3, by rw [sT]; exact q4, ⟨by rw [eI _ _ (aI_dy fx q2)]; exact q5, by rw [ad' 33 _ (by decide)]; exact q6, by rw [ad' 34 _ (by decide)]; exact q7⟩, sz, q9, by rw [sN]; exact q10, by rw [ad' 35 _ (by decide)]; exact q11, fun i hi => ?_⟩)
      have z1 : z0 ≤ mid t + 1 := by omega
      rw [it t i ht (by omega) (nw8 t i 8 q6 (by decide) (by decide)), eR _ (cR_dy fx z1) (dy_ad fx (.inl (by decide)) z1) (dy_ad fx (.inl (by decide)) z1) (dy_ad fx (.inl (by decide)) z1)]
      rcases q12 i hi with a | ⟨t', ht', a1, a2, a3⟩
      · exact .inl a
      · exact .inr ⟨t', ht', a1, a2, row t' 3 ht' (.inr ⟨c, t, i, sz, hc, ht, e, q6, q11, q9, hi, a1⟩) a3⟩
    · obtain ⟨q1, q2, q3, q4, k, ⟨q5, q6, q7, q8⟩, sz, q9, q10, q11, q12⟩ := q
      refine .inr (.inr ⟨by rw [sT]; exact q1, q2, by rw [eR _ (cR_dy fx q2) (dy_ad fx (.inl (by decide)) q2) (dy_ad fx (.inl (by decide)) q2) (dy_ad fx (.inl (by decide)) q2)]; exact q3, by rw [sT]; exact q4, k, ⟨q5, by rw [eI _ _ (aI_dy fx q2)]; exact q6, by rw [ad' 33 _ (by decide)]; exact q7, by rw [ad' 34 _ (by decide)]; exact q8⟩, sz, q9, by rw [sN]; exact q10, by rw [ad' 35 _ (by decide)]; exact q11, fun i hi => ?_⟩)
      have z1 : z0 ≤ mid t + 1 := by omega
      rw [it t i ht (by omega) (nw8 t i 9 q7 (by decide) (by decide)), eR _ (cR_dy fx z1) (dy_ad fx (.inl (by decide)) z1) (dy_ad fx (.inl (by decide)) z1) (dy_ad fx (.inl (by decide)) z1)]
      rcases q12 i hi with a | ⟨q', hq', a1, a2, kq, a3, a4⟩
      · exact .inl a
      · exact .inr ⟨q', hq', a1, a2, kq, by rw [ad' 37 _ (by decide)]; exact a3, a4⟩
  have caG : ∀ c, c < 24 → ∀ t, t < 250 → hI G (ad 31) c = nI t → LV t := by
    intro c hc t ht e
    have p60 := rs.1.1
    rcases f1 c hc with ⟨q, -⟩ | ⟨q, hq, q1, -⟩ | ⟨u, hu, lu, q1, -⟩
    · rw [e] at q; exact absurd q (nI_nm1 (by omega))
    · rw [e] at q1
      have := congrArg Int32.toNatClampNeg q1
      rw [nI_clamp (by omega), nI_clamp (by omega)] at this; omega
    · rw [e] at q1
      have := congrArg Int32.toNatClampNeg q1
      rw [nI_clamp (by omega), nI_clamp (by omega)] at this
      subst this
      exact lu
  have lvG : ∀ t, t < 250 → live ad G t → live ad h t := by
    intro t ht lt
    rcases lt with ⟨c, hc, e⟩ | ⟨c, g, i, sz, hc, hg, e1, e2, e3, e4, e5, e6⟩
    · exact lv t ht (caG c hc t ht e)
    · have lg := caG c hc g hg e1
      rw [ad' 33 _ (by decide)] at e2
      rw [ad' 35 _ (by decide)] at e3
      rw [it g i hg (by omega) (nw8 g i 8 e2 (by decide) (by decide))] at e6
      obtain ⟨c', hc', e', -⟩ := cas g hg lg
      exact .inr ⟨c', g, i, sz, hc', hg, e', e2, e3, e4, e5, e6⟩
  have p30 : ∀ j, ¬ (j = 11 ∨ j = 23 ∨ (29 ≤ j ∧ j ≤ 35) ∨ j = 37 ∨ j = 42 ∨ j = 43 ∨ j = 47) → hI G (ad 30) j = hI h (ad 30) j := fun j hj => eI _ _ (aI_30 fx hj)
  have rtG : Rt ad G := by
    obtain ⟨k, a1, a2, a3, a4⟩ := rt
    exact ⟨k, a1, by rw [ad' 2 _ (by decide)]; exact a2, by rw [p30 9 (by decide)]; exact a3, fun i hi => by rw [ad' 3 _ (by decide), ad' 39 _ (by decide)]; exact a4 i hi⟩
  have rpG : Rp n ad G := by
    intro p hp
    obtain ⟨l, a1, a2, a3, a4⟩ := rp p hp
    refine ⟨l, a1, by rw [ad' 11 _ (by decide)]; exact a2, by rw [ad' 43 _ (by decide)]; exact a3, fun s hs => ?_⟩
    rw [ad' 10 _ (by decide), ad' 10 _ (by decide), ad' 10 _ (by decide), ad' 10 _ (by decide), ad' 44 _ (by decide), ad' 45 _ (by decide), ad' 46 _ (by decide), ad' 47 _ (by decide)]
    exact a4 s hs
  have rfG : Rf ad G := by
    unfold Rf at rf ⊢
    rw [ad' 4 _ (by decide), ad' 4 _ (by decide), ad' 4 _ (by decide), ad' 4 _ (by decide), p30 64 (by decide), p30 63 (by decide), p30 61 (by decide), p30 62 (by decide)]
    obtain ⟨⟨f, a1, a2, a3, a4⟩, a5⟩ := rf
    exact ⟨⟨f, a1, a2, a3, fun i hi => by rw [ad' 5 _ (by decide), ad' 74 _ (by decide)]; exact a4 i hi⟩, a5⟩
  have rstG : Rst sa G := by
    intro j hj i hi
    have ne : ∀ k, dom n k → sa j ≠ ad k := fun k hk => (fx_lt fx hk).2.2 j hj
    rw [eI (sa j) i ⟨⟨⟨ne 12 (.inl (by decide)), ne 13 (.inl (by decide)), ne 15 (.inl (by decide)), ne 16 (.inl (by decide)), ne 20 (.inl (by decide)), fun e => ne 9 (.inl (by decide)) e.1, fun t ht e => ne (100 + 5 * t) (.inr ⟨by omega, by omega⟩) e.1⟩, ne 9 (.inl (by decide))⟩, fun e => ne 0 (.inl (by decide)) e.1, fun k hk => ne k (.inl (by omega)), fun e => ne 30 (.inl (by decide)) e.1⟩]
    exact rst j hj i hi
  have ruG : Ru n ad pa np G := by
    refine ⟨by rw [p30 12 (by decide)]; exact ru.1, fun t ht => ?_⟩
    obtain ⟨⟨a1, a2, a3, a4⟩, -, a6, a7, a8, a9, -⟩ := ru.2 t ht
    have tI : ∀ j, j ≠ 9 → hI G (ad (100 + 5 * t)) j = hI h (ad (100 + 5 * t)) j := fun j hj => eI _ _ (aI_tu fx ht hj)
    have t0 : ∀ j, hL G (ad (100 + 5 * t)) j = hL h (ad (100 + 5 * t)) j := fun j => fxl _ j (d5 t 0 ht (by decide)) (by omega) (by omega) (by omega)
    have t2 : ∀ j, hL G (ad (102 + 5 * t)) j = hL h (ad (102 + 5 * t)) j := fun j => fxl _ j (d5 t 2 ht (by decide)) (by omega) (by omega) (by omega)
    have t3 : ∀ j, hL G (ad (103 + 5 * t)) j = hL h (ad (103 + 5 * t)) j := fun j => fxl _ j (d5 t 3 ht (by decide)) (by omega) (by omega) (by omega)
    have t4 : ∀ j, hL G (ad (104 + 5 * t)) j = hL h (ad (104 + 5 * t)) j := fun j => fxl _ j (d5 t 4 ht (by decide)) (by omega) (by omega) (by omega)
    have r4 : ∀ j, hL G (ad 64) j = hL h (ad 64) j := fun j => fxl _ j (.inl (by decide)) (by decide) (by decide) (by decide)
    have r5 : ∀ j, hL G (ad 65) j = hL h (ad 65) j := fun j => fxl _ j (.inl (by decide)) (by decide) (by decide) (by decide)
    refine ⟨⟨?_, ?_, ?_, ?_⟩, hld t ht, ?_, ?_, ?_, fun s hs => ?_, fun s hs => f2 t s ht hs⟩
    · rw [tI 0 (by decide)]; exact a1
    · rw [tI 1 (by decide), ad' 61 _ (by decide)]; exact a2
    · rw [tI 2 (by decide), ad' 62 _ (by decide)]; exact a3
    · rw [ad' 61 _ (by decide), ad' 62 _ (by decide)]; exact a4
    · rw [tI 10 (by decide), ad' 66 _ (by decide)]; exact a6
    · rw [t0, eD]; exact a7
    · rw [eD, p30 63 (by decide)]; exact a8
    · rw [t2, t3, t4, eD, r4, r5]; exact a9 s hs
  have rsG : Rs ad z0 mid pa np G := by
    refine ⟨?_, fun c hc => ?_, fun t u ht hu lt lu e => rs.2.2.1 t u ht hu (lvG t ht lt) (lvG u hu lu) e, fun a ha => by rw [sT]; rw [sZ] at ha; exact rs.2.2.2 a ha⟩
    · obtain ⟨a1, a2, a3, a4, a5⟩ := rs.1
      refine ⟨a1, by rw [eI _ _ (aI_0 fx (by decide))]; exact a2, by rw [p30 6 (by decide)]; exact a3, fun q hq => ?_, a5⟩
      obtain ⟨b1, b2, b3, b4, b5, b6⟩ := a4 q hq
      refine ⟨by rw [sT]; exact b1, b2, by rw [eI _ _ (aI_dy fx b2)]; exact b3, by rw [eI _ _ (aI_dy fx b2), ad' 37 _ (by decide)]; exact b4, by rw [ad' 37 _ (by decide)]; exact b5, ?_⟩
      rw [fxl 38 q (.inl (by decide)) (by decide) (by decide) (by decide), f4 (pa q) 2 (dy_ad fx (.inl (by decide)) b2) (dy_ad fx (.inl (by decide)) b2) (dy_ad fx (.inl (by decide)) b2) (fun t wt e => ?_)]
      · exact b6
      · obtain ⟨-, -, -, -, q'⟩ := cas t wt.1 wt.2.1
        rcases q' with ⟨ln, q'⟩ | q' | q'
        · have := q'.2.2.2.1
          rw [← e, b1] at this; exact absurd this (by decide)
        · have := q'.2.2.2.1
          rw [← e, b1] at this; exact absurd this (by decide)
        · have := q'.2.2.2.1
          rw [← e, b1] at this; exact absurd this (by decide)
    · rcases f1 c hc with q | q | ⟨t, ht, lt, q1, q2⟩
      · exact .inl q
      · exact .inr (.inl q)
      · exact .inr (.inr ⟨t, ht, q1, q2, thg t ht lt⟩)
  exact ⟨mid, pa, np, fxG, ry, rtG, ra, rpG, rfG, rstG, ruG, rsG⟩
end AR

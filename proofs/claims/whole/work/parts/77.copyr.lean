/-! ===== a row of a thing is written in bulk: the relation ===== -/
section BK
variable {n : Nat} {ad sa : Nat → Nat} {z0 : Nat} {mid pa : Nat → Nat} {np : Nat} {h F : mH} {u : Nat}
theorem Rs.blk (fx : FX n ad sa z0 h) (r : Rs ad z0 mid pa np h) (hu : u < 250) (lu : live ad h u) (hth : thR ad z0 mid pa np h u (mid u)) (sT : hT F = hT h) (sN : hN F = hN h) (sZ : hZ F = hZ h)
    (eI : ∀ a j, ¬ (a = ad 0 ∧ j = 6) → ¬ (a = ad 30 ∧ j = 11) → hI F a j = hI h a j) (eL : ∀ a, z0 ≤ a → a ≠ mid u + 1 → hL F a = hL h a) (eR : ∀ a, z0 ≤ a → a ≠ mid u + 1 → hR F a = hR h a)
    (f38 : hL F (ad 38) = hL h (ad 38)) (g36 : ∀ v, v ≠ u → ∀ i, i < 30 → hL F (ad 36) (30 * v + i) = hL h (ad 36) (30 * v + i)) (g1 : hR F (ad 1) = hR h (ad 1))
    (own : thR ad z0 mid pa np F u (mid u)) (hl : ∀ v, v < 250 → live ad F v → live ad h v) : Rs ad z0 mid pa np F := by
  have iz : ∀ a, z0 ≤ a → hI F a = hI h a := fun a ha => funext fun j => eI a j (fun e => dy_ad fx (.inl (by decide)) ha e.1) (fun e => dy_ad fx (.inl (by decide)) ha e.1)
  have ii : ∀ i j, i ≠ 0 → i ≠ 30 → hI F (ad i) j = hI h (ad i) j := fun i j h0 h30 => eI _ j (fun e => h0 (fx_inj fx e.1)) (fun e => h30 (fx_inj fx e.1))
  have A : ∀ a, z0 ≤ a → a ≠ mid u + 1 → smA h F a := fun a ha ne => ⟨by rw [sT], by rw [sN], iz a ha, eL a ha ne, eR a ha ne⟩
  have T : ∀ v, v ≠ u → smT ad h F v := fun v ne => ⟨ii 33 v (by decide) (by decide), ii 34 v (by decide) (by decide), ii 35 v (by decide) (by decide), g36 v ne⟩
  have tg1 : hT h (mid u + 1) = 21 ∨ hT h (mid u + 1) = 24 := by
    rcases hth with ⟨ln, q⟩ | q | q
    · exact .inl q.2.2.2.1
    · exact .inr q.2.2.2.1
    · exact .inr q.2.2.2.1
  have ne0 : ∀ v, (hT h (mid v) = 5 ∨ hT h (mid v) = 6) → mid v ≠ mid u + 1 := by intro v hv e; rw [e] at hv; omega
  have ne1 : ∀ v, v < 250 → live ad h v → v ≠ u → mid v + 1 ≠ mid u + 1 := fun v hv lv ne e => ne (r.2.2.1 v u hv hu lv lu (by omega))
  have row : ∀ v ln, v < 250 → live ad h v → rowR ad z0 h v (mid v) ln → rowR ad z0 F v (mid v) ln := by
    intro v ln hv lv q
    by_cases e : v = u
    · subst e
      rcases own with ⟨ln', q'⟩ | q' | q'
      · have a1 := q.2.2.2.2.1
        have a2 := q'.2.2.2.2.1
        have : ln' = ln := (nI_eq (by omega) (by omega)).mp (by rw [← a1.2.1, ← a2.2.1, iz _ q.2.1])
        rw [← this]; exact q'
      · have a := q'.1; rw [sT, q.1] at a; cases a
      · have a := q'.1; rw [sT, q.1] at a; cases a
    · exact q.c (A _ q.2.1 (ne0 v (.inl q.1))) (A _ (by have := q.2.1; omega) (ne1 v hv lv e)) (T v e)
  have th : ∀ c v, c < 24 → v < 250 → hI h (ad 31) c = nI v → thR ad z0 mid pa np h v (mid v) → thR ad z0 mid pa np F v (mid v) := by
    intro c v hc hv ec q
    have lv : live ad h v := .inl ⟨c, hc, ec⟩
    by_cases e : v = u
    · rw [e]; exact own
    rcases q with ⟨ln, q⟩ | q | q
    · exact .inl ⟨ln, row v ln hv lv q⟩
    · exact .inr (.inl (q.c (A _ q.2.1 (ne0 v (.inr q.1))) (A _ (by have := q.2.1; omega) (ne1 v hv lv e)) (T v e) (fun i t' sz h8 hs hi ht' ex w => ⟨rfl, row t' 3 ht' (.inr ⟨c, v, i, sz, hc, hv, ec, q.2.2.2.2.1.2.1, hs, h8, hi, ex⟩) w⟩)))
    · exact .inr (.inr (q.c (A _ q.2.1 (ne0 v (.inr q.1))) (A _ (by have := q.2.1; omega) (ne1 v hv lv e)) (T v e) (Nat.le_refl _) (fun q _ => ⟨rfl, ii 37 q (by decide) (by decide)⟩)))
  refine ⟨?_, fun c hc => ?_, fun a b ha hb la lb => r.2.2.1 a b ha hb (hl a ha la) (hl b hb lb), by rw [sT, sZ]; exact r.2.2.2⟩
  · obtain ⟨p1, p2, p3, p4, p5⟩ := r.1
    refine ⟨p1, (eI _ _ (fun e => absurd e.2 (by decide)) (fun e => absurd e.2 (by decide))).trans p2, (eI _ _ (fun e => absurd (fx_inj fx e.1) (by decide)) (fun e => absurd e.2 (by decide))).trans p3, fun q hq => ?_, p5⟩
    obtain ⟨x1, x2, x3, x4, x5, x6⟩ := p4 q hq
    have ne : pa q ≠ mid u + 1 := fun e => by rw [e] at x1; omega
    rw [sT, iz _ x2, eL _ x2 ne, ii 37 q (by decide) (by decide), f38]
    exact ⟨x1, x2, x3, x4, x5, x6⟩
  · rw [ii 31 c (by decide) (by decide), g1]
    rcases r.2.1 c hc with w | w | ⟨v, w1, w2, w3, w4⟩
    · exact .inl w
    · exact .inr (.inl w)
    · exact .inr (.inr ⟨v, w1, w2, w3, th c v hc w1 w2 w4⟩)
theorem Rel.asm (fx : FX n ad sa z0 h) (rt : Rt ad h) (ra : Ra ad h) (rp : Rp n ad h) (rf : Rf ad h) (rst : Rst sa h) (ru : Ru n ad pa np h) (sT : hT F = hT h) (sN : hN F = hN h) (sZ : hZ F = hZ h)
    (eI : ∀ a j, ¬ (a = ad 0 ∧ j = 6) → ¬ (a = ad 30 ∧ j = 11) → hI F a j = hI h a j) (eL : ∀ i, dom n i → i ≠ 36 → i ≠ 41 → hL F (ad i) = hL h (ad i)) (eR : ∀ a, a < z0 → hR F a = hR h a) (eD : hD F = hD h) (ry : hI F (ad 0) 6 = hI F (ad 30) 11) (rs : Rs ad z0 mid pa np F) : Rel n ad sa z0 F := by
  have cf : Chf n ad [(0, 6), (30, 11)] [36, 41] h F := by
    intro i j hd hp hq
    simp only [List.mem_cons, List.not_mem_nil, or_false, not_or] at hp hq
    refine ⟨eI _ _ (fun e => hp.1 (by rw [fx_inj fx e.1, e.2])) (fun e => hp.2 (by rw [fx_inj fx e.1, e.2])), by rw [eL i hd hq.1 hq.2], by rw [eD], by rw [eR _ (fx_lt fx hd).1]⟩
  have z := (fx_lt fx (i := 0) (.inl (by decide)))
  refine ⟨mid, pa, np, fx.of sT sN sZ (fun i j hd => by rw [eR _ (fx_lt fx hd).1]) (fun j => by rw [eR _ (by omega)]), ry, rt.k cf (by decide), ra.k cf (by decide), rp.k cf (by decide), rf.k cf (by decide), fun j hj i hi => ?_, Ru.k fx ru cf (by decide), rs⟩
  rw [eI _ _ (fun e => (fx_lt fx (i := 0) (.inl (by decide))).2.2 j hj e.1) (fun e => (fx_lt fx (i := 30) (.inl (by decide))).2.2 j hj e.1)]
  exact rst j hj i hi
end BK
section BR
variable {n : Nat} {ad sa : Nat → Nat} {z0 : Nat} {mid pa : Nat → Nat} {np : Nat} {h C M : mH} {t u i j m k : Nat} {y : Int32}
/-- items of a row copied on both sides -/
theorem cp_rows {ln sA sB : Nat} (fx : FX n ad sa z0 h) (rt : Rt ad h) (ra : Ra ad h) (rp : Rp n ad h) (rf : Rf ad h) (rst : Rst sa h) (ru : Ru n ad pa np h) (rs : Rs ad z0 mid pa np h) (hu : u < 250) (lu : live ad h u) (q1 : rowR ad z0 h t (mid t) ln) (q2 : rowR ad z0 h u (mid u) ln) (z1 : hI h (ad 35) t = nI sA) (z2 : hI h (ad 35) u = nI sB) (hA : i + m ≤ sA) (hB : j + m ≤ sB) (sA3 : sA ≤ 30) (sB3 : sB ≤ 30)
    (x : XL (sI h (ad 0) 6 0) C (mid u + 1) (va_cpy (hL h (mid t + 1)) (hL h (mid u + 1)) i j m)) (mc : MC ad C M t u i j m m) : Rel n ad sa z0 (sI M (ad 30) 11 0) := by
  obtain ⟨⟨x1, x2, x3, x4⟩, xI, xR, xD, xL, xE⟩ := x
  obtain ⟨⟨m1, m2, m3, m4⟩, mI, mD, mR, mL, -, mE⟩ := mc
  obtain ⟨v1, v2, v3, v4, ⟨v5, v6, v7, v8⟩, sA', v9, v10, v11, v12⟩ := id q1
  obtain ⟨w1, w2, w3, w4, ⟨w5, w6, w7, w8⟩, sB', w9, w10, w11, w12⟩ := id q2
  obtain rfl : sA' = sA := (nI_eq (by omega) (by omega)).mp (v11.symm.trans z1)
  obtain rfl : sB' = sB := (nI_eq (by omega) (by omega)).mp (w11.symm.trans z2)
  have d36 : ad 36 ≠ mid u + 1 := ad_dy fx (.inl (by decide)) (by omega)
  have c36 : hL C (ad 36) = hL h (ad 36) := xL _ d36
  have eI : ∀ a j, ¬ (a = ad 0 ∧ j = 6) → ¬ (a = ad 30 ∧ j = 11) → hI (sI M (ad 30) 11 0) a j = hI h a j := by
    intro a j h0 h3
    rw [hI_sI, if_neg h3, mI, xI, hI_sI, if_neg h0]
  have gL : ∀ a, a ≠ ad 36 → a ≠ ad 41 → a ≠ mid u + 1 → hL (sI M (ad 30) 11 0) a = hL h a := fun a h1 h2 h3 => (mL a h1 h2).trans (xL a h3)
  have gR : hR (sI M (ad 30) 11 0) = hR h := mR.trans xR
  have e36 : ∀ p, hL (sI M (ad 30) 11 0) (ad 36) p = va_cpy (hL h (ad 36)) (hL h (ad 36)) (30 * t + i) (30 * u + j) m p := fun p => by
    show hL M (ad 36) p = _
    rw [mE, c36]
  have eU : hL (sI M (ad 30) 11 0) (mid u + 1) = va_cpy (hL h (mid t + 1)) (hL h (mid u + 1)) i j m := (mL _ d36.symm (dy_ad fx (.inl (by decide)) (by omega))).trans xE
  have ry : hI (sI M (ad 30) 11 0) (ad 0) 6 = hI (sI M (ad 30) 11 0) (ad 30) 11 := by
    rw [I_eq, I_ne (fx_ne fx (by decide)), mI, xI, I_eq]
  refine Rel.asm (h := h) (mid := mid) fx rt ra rp rf rst ru (m1.trans x1) (m2.trans x2) (m3.trans x3) eI (fun i hd h1 h2 => gL _ (fun e => h1 (fx_inj fx e)) (fun e => h2 (fx_inj fx e)) (ad_dy fx hd (by omega))) (fun a _ => by rw [gR]) (mD.trans xD) ry ?_
  refine Rs.blk fx rs hu lu (.inl ⟨ln, q2⟩) (m1.trans x1) (m2.trans x2) (m3.trans x3) eI (fun a ha h1 => gL a (dy_ad fx (.inl (by decide)) ha) (dy_ad fx (.inl (by decide)) ha) h1) (fun a _ _ => by rw [gR]) (gL _ (fx_ne fx (by decide)) (fx_ne fx (by decide)) (ad_dy fx (.inl (by decide)) (by omega))) (fun v hv p hp => ?_) (by rw [gR]) (.inl ⟨ln, ?_⟩) (fun v hv lv => ?_)
  · rw [e36]; exact pk_cpy_out (by omega)
  · have i0 : ∀ i j, i ≠ 0 → i ≠ 30 → hI (sI M (ad 30) 11 0) (ad i) j = hI h (ad i) j := fun i j h0 h30 => eI _ j (fun e => h0 (fx_inj fx e.1)) (fun e => h30 (fx_inj fx e.1))
    have iz : hI (sI M (ad 30) 11 0) (mid u) 0 = hI h (mid u) 0 := eI _ _ (fun e => absurd e.2 (by decide)) (fun e => absurd e.2 (by decide))
    refine ⟨by rw [show hT (sI M (ad 30) 11 0) = hT h from m1.trans x1]; exact w1, w2, by rw [gR]; exact w3, by rw [show hT (sI M (ad 30) 11 0) = hT h from m1.trans x1]; exact w4, ⟨w5, iz.trans w6, (i0 33 u (by decide) (by decide)).trans w7, (i0 34 u (by decide) (by decide)).trans w8⟩, sB', w9, by rw [show hN (sI M (ad 30) 11 0) = hN h from m2.trans x2]; exact w10, (i0 35 u (by decide) (by decide)).trans w11, fun p hp => ?_⟩
    rw [eU, e36]
    by_cases e : j ≤ p ∧ p < j + m
    · rw [pk_cpy_in e.1 e.2, pk_cpy_in (by omega) (by omega), show 30 * t + i + (30 * u + p - (30 * u + j)) = 30 * t + (i + (p - j)) by omega]
      exact v12 _ (by omega)
    · rw [pk_cpy_out (by omega), pk_cpy_out (by omega)]
      exact w12 p hp
  · rcases lv with ⟨c, c1, c2⟩ | ⟨c, g, p, sz, c1, c2, c3, c4, c5, c6, c7, c8⟩
    · exact .inl ⟨c, c1, by rw [← c2]; exact (eI _ _ (fun e => absurd (fx_inj fx e.1) (by decide)) (fun e => absurd (fx_inj fx e.1) (by decide))).symm⟩
    · have i0 : ∀ i j, i ≠ 0 → i ≠ 30 → hI (sI M (ad 30) 11 0) (ad i) j = hI h (ad i) j := fun i j h0 h30 => eI _ j (fun e => h0 (fx_inj fx e.1)) (fun e => h30 (fx_inj fx e.1))
      rw [i0 31 _ (by decide) (by decide)] at c3
      rw [i0 33 _ (by decide) (by decide)] at c4
      rw [i0 35 _ (by decide) (by decide)] at c5
      have gu : g ≠ u := fun e => by
        rw [e, w7] at c4
        have := (nI_eq (a := ln) (b := 8) (by omega) (by decide)).mp c4; omega
      rw [e36, pk_cpy_out (by omega)] at c8
      exact .inr ⟨c, g, p, sz, c1, c2, c3, c4, c5, c6, c7, c8⟩
end BR

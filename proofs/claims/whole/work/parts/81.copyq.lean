/-! ===== copy between shelves: the four ways ===== -/
section C4
variable {n : Nat} {ad sa : Nat → Nat} {z0 : Nat} {mid pa : Nat → Nat} {np : Nat} {h C : mH} {kc ke i j m t u sA sB k kt ku : Nat}
theorem grd_e (q : grdR ad z0 mid h t (mid t)) (z1 : hI h (ad 35) t = nI sA) (s8 : sA ≤ 8) (hi : i + k < sA) : (hL h (ad 36) (30 * t + i + k) = -1 ∧ hR h (mid t + 1) (i + k) = none) ∨ ∃ t', t' < 250 ∧ hL h (ad 36) (30 * t + i + k) = lN t' ∧ hR h (mid t + 1) (i + k) = some (mid t') ∧ rowR ad z0 h t' (mid t') 3 := by
  obtain ⟨-, -, -, -, -, sz, w9, -, w11, w12⟩ := q
  have : sz = sA := (nI_eq (by omega) (by omega)).mp (w11.symm.trans z1)
  have a := w12 (i + k) (by omega)
  rw [← Nat.add_assoc] at a
  exact a
theorem cra_e (q : craR ad z0 pa np h t (mid t)) (z1 : hI h (ad 35) t = nI sA) (hk : hI h (ad 34) t = nI kt) (k8 : kt < 8) (s8 : sA ≤ 8) (hi : i + k < sA) : (hL h (ad 36) (30 * t + i + k) = -1 ∧ hR h (mid t + 1) (i + k) = none) ∨ ∃ q, q < np ∧ hL h (ad 36) (30 * t + i + k) = lN (1000 + q) ∧ hR h (mid t + 1) (i + k) = some (pa q) ∧ ∃ kq, hI h (ad 37) q = nI kq ∧ kq < 7 ∧ ofK kq kt = true := by
  obtain ⟨-, -, -, -, kk, ⟨v5, -, -, v8⟩, sz, w9, -, w11, w12⟩ := q
  have : sz = sA := (nI_eq (by omega) (by omega)).mp (w11.symm.trans z1)
  have e : kk = kt := (nI_eq (by omega) (by omega)).mp (v8.symm.trans hk)
  subst e
  have a := w12 (i + k) (by omega)
  rw [← Nat.add_assoc] at a
  exact a
theorem BEL_m {st su : Nat} {O : Prop} {x : Int64} (e : x = -1) : BEL st su x O ↔ True := ⟨fun _ => trivial, fun _ => .inr (.inl e)⟩
theorem BEL_d {st su v : Nat} {O : Prop} (h1 : 8 ≤ st) (h2 : st ≠ su) (hv : v < 2000) : BEL st su (lN v) O ↔ False := by
  refine ⟨fun z => ?_, fun z => z.elim⟩
  rcases z with z | z | z
  · omega
  · exact lN_m1 (by omega) z.symm
  · exact h2 z.1
theorem BEL_8 {O : Prop} {x : Int64} : BEL 8 8 x O ↔ True := ⟨fun _ => trivial, fun _ => .inr (.inr ⟨rfl, .inl rfl⟩)⟩
theorem BEL_9 {O : Prop} {v : Nat} (hv : v < 2000) : BEL 9 9 (lN v) O ↔ O := by
  refine ⟨fun z => ?_, fun z => .inr (.inr ⟨rfl, .inr z⟩)⟩
  rcases z with z | z | ⟨-, z | z⟩
  · omega
  · exact absurd z.symm (lN_m1 (by omega))
  · omega
  · exact z
theorem t_cGG (fx : FX n ad sa z0 h) (rt : Rt ad h) (ra : Ra ad h) (rp : Rp n ad h) (rf : Rf ad h) (rst : Rst sa h) (ru : Ru n ad pa np h) (rs : Rs ad z0 mid pa np h) (hc : kc < 24) (he : ke < 24) (ht : t < 250) (hu : u < 250) (e1 : hI h (ad 31) kc = nI t) (e2 : hI h (ad 31) ke = nI u) (q1 : grdR ad z0 mid h t (mid t)) (q2 : grdR ad z0 mid h u (mid u)) (z1 : hI h (ad 35) t = nI sA) (z2 : hI h (ad 35) u = nI sB) (hA : i + m ≤ sA) (hB : j + m ≤ sB) (sA3 : sA ≤ 8) (sB3 : sB ≤ 8) :
    WR 99 cd_51 106 [some (.ref (ad 0)), some (.int (nI kc)), some (.int (nI i)), some (.int (nI ke)), some (.int (nI j)), some (.int (nI m)), some (.ref (mid t)), some (.ref (mid u)), none] [] (sI h (ad 0) 6 0) (fun v h1 => EV 100 179 [.ref (ad 30), .int (nI kc), .int (nI i), .int (nI ke), .int (nI j), .int (nI m)] h1 (fun v2 h2 => v2 = v ∧ Rel n ad sa z0 h2 ∧ hZ h2 ≤ hZ h + 20 ∧ hU h2 ≤ hU h + 150)) := by
  obtain ⟨v1, v2, v3, v4, ⟨v5, v6, v7⟩, sv, v9, v10, v11, v12⟩ := id q1
  obtain ⟨w1, w2, w3, w4, ⟨w5, w6, w7⟩, sw, w9, w10, w11, w12⟩ := id q2
  obtain rfl : sv = sA := (nI_eq (by omega) (by omega)).mp (v11.symm.trans z1)
  obtain rfl : sw = sB := (nI_eq (by omega) (by omega)).mp (w11.symm.trans z2)
  have hnp := rs.1.1
  refine t_copyX (st := 8) (su := 8) fx hc he ht hu e1 e2 v1 w1 v3 w3 v4 w4 w2 v10 w10 v6 w6 z1 z2 hA hB v9 w9 (by omega) (by omega) (fun _ => True) ?_ ?_ rst ?_ ?_ ?_
  · intro k x hk ex
    rcases grd_e (i := i) (k := k) q1 z1 v9 (by omega) with a | ⟨t', a1, a2, a3, a4⟩
    · rw [a.2] at ex; cases ex
    · rw [a3] at ex; cases ex; exact .inr (.inl a4.1)
  · intro k C hk fxC eT eI rC
    have tb : hT C (mid u) = 6 := by rw [eT]; exact w1
    have kb : hI C (mid u) 0 = -1 := by rw [eI _ w2]; exact w5
    rcases grd_e (i := i) (k := k) q1 z1 v9 (by omega) with a | ⟨t', a1, a2, a3, a4⟩
    · rw [a.2]
      exact DP.iff (BEL_m a.1).symm (wl_n (d := 97) fxC tb)
    · rw [a3]
      exact DP.iff BEL_8.symm (wl_gr (d := 96) fxC tb kb (by rw [eT]; exact a4.1) (by rw [eI _ a4.2.1]; exact a4.2.2.2.2.1.2.1))
  · intro _ k _; exact BEL_8.mpr trivial
  · intro k hk
    rcases grd_e (i := i) (k := k) q1 z1 v9 (by omega) with a | ⟨t', a1, a2, a3, a4⟩
    · exact .inl a.1
    · exact .inr ⟨t', by omega, a2, fun z => by omega⟩
  · intro k C M y hk hb c mc
    refine cp_grid (sA := sv) (sB := sw) fx rt ra rp rf rst ru rs hu (.inl ⟨ke, he, e2⟩) q2 z2 hk hA hB v9 w9 (fun p hp x r ex er => ?_) c mc
    subst ex; subst er
    rcases grd_e (i := i) (k := p) q1 z1 v9 (by omega) with a | ⟨t', a1, a2, a3, a4⟩
    · exact .inl a
    · exact .inr ⟨t', a1, a2, a3, a4, .inr ⟨kc, t, i + p, sv, hc, ht, e1, v6, z1, v9, by omega, by rw [← Nat.add_assoc]; exact a2⟩⟩
theorem t_cGC (fx : FX n ad sa z0 h) (rt : Rt ad h) (ra : Ra ad h) (rp : Rp n ad h) (rf : Rf ad h) (rst : Rst sa h) (ru : Ru n ad pa np h) (rs : Rs ad z0 mid pa np h) (hc : kc < 24) (he : ke < 24) (ht : t < 250) (hu : u < 250) (e1 : hI h (ad 31) kc = nI t) (e2 : hI h (ad 31) ke = nI u) (q1 : grdR ad z0 mid h t (mid t)) (q2 : craR ad z0 pa np h u (mid u)) (ku8 : ku < 8) (hku : hI h (ad 34) u = nI ku) (z1 : hI h (ad 35) t = nI sA) (z2 : hI h (ad 35) u = nI sB) (hA : i + m ≤ sA) (hB : j + m ≤ sB) (sA3 : sA ≤ 8) (sB3 : sB ≤ 8) :
    WR 99 cd_51 106 [some (.ref (ad 0)), some (.int (nI kc)), some (.int (nI i)), some (.int (nI ke)), some (.int (nI j)), some (.int (nI m)), some (.ref (mid t)), some (.ref (mid u)), none] [] (sI h (ad 0) 6 0) (fun v h1 => EV 100 179 [.ref (ad 30), .int (nI kc), .int (nI i), .int (nI ke), .int (nI j), .int (nI m)] h1 (fun v2 h2 => v2 = v ∧ Rel n ad sa z0 h2 ∧ hZ h2 ≤ hZ h + 20 ∧ hU h2 ≤ hU h + 150)) := by
  obtain ⟨v1, v2, v3, v4, ⟨v5, v6, v7⟩, sv, v9, v10, v11, v12⟩ := id q1
  obtain ⟨w1, w2, w3, w4, kw, ⟨w5, w6, w7, w8⟩, sw, w9, w10, w11, w12⟩ := id q2
  obtain rfl : sv = sA := (nI_eq (by omega) (by omega)).mp (v11.symm.trans z1)
  obtain rfl : sw = sB := (nI_eq (by omega) (by omega)).mp (w11.symm.trans z2)
  obtain rfl : kw = ku := (nI_eq (by omega) (by omega)).mp (w8.symm.trans hku)
  have hnp := rs.1.1
  refine t_copyX (st := 8) (su := 9) fx hc he ht hu e1 e2 v1 w1 v3 w3 v4 w4 w2 v10 w10 v6 w7 z1 z2 hA hB v9 w9 (by omega) (by omega) (fun _ => True) ?_ ?_ rst ?_ ?_ ?_
  · intro k x hk ex
    rcases grd_e (i := i) (k := k) q1 z1 v9 (by omega) with a | ⟨t', a1, a2, a3, a4⟩
    · rw [a.2] at ex; cases ex
    · rw [a3] at ex; cases ex; exact .inr (.inl a4.1)
  · intro k C hk fxC eT eI rC
    have tb : hT C (mid u) = 6 := by rw [eT]; exact w1
    have kb : hI C (mid u) 0 = nI kw := by rw [eI _ w2]; exact w6
    rcases grd_e (i := i) (k := k) q1 z1 v9 (by omega) with a | ⟨t', a1, a2, a3, a4⟩
    · rw [a.2]
      exact DP.iff (BEL_m a.1).symm (wl_n (d := 97) fxC tb)
    · rw [a3, a2]
      exact DP.iff (BEL_d (by decide) (by decide) (by omega)).symm (wl_cr (d := 97) fxC tb ku8 kb (by rw [eT]; exact a4.1))
  · intro e k hk
    have : u = t := rs.2.2.1 u t hu ht (.inl ⟨ke, he, e2⟩) (.inl ⟨kc, hc, e1⟩) e
    subst this
    have c := v6.symm.trans w7
    exact absurd c (by decide)
  · intro k hk
    rcases grd_e (i := i) (k := k) q1 z1 v9 (by omega) with a | ⟨t', a1, a2, a3, a4⟩
    · exact .inl a.1
    · exact .inr ⟨t', by omega, a2, fun z => by omega⟩
  · intro k C M y hk hb c mc
    refine cp_cra (sA := sv) (sB := sw) (ku := kw) hku ku8 fx rt ra rp rf rst ru rs hu (.inl ⟨ke, he, e2⟩) q2 z2 hk hA hB v9 w9 (fun p hp x r ex er => ?_) c mc
    subst ex; subst er
    rcases grd_e (i := i) (k := p) q1 z1 v9 (by omega) with a | ⟨t', a1, a2, a3, a4⟩
    · exact .inl a
    · have b := hb p hp
      rw [a2] at b
      exact absurd b (fun z => (BEL_d (by decide) (by decide) (by omega)).mp z)
theorem t_cCG (fx : FX n ad sa z0 h) (rt : Rt ad h) (ra : Ra ad h) (rp : Rp n ad h) (rf : Rf ad h) (rst : Rst sa h) (ru : Ru n ad pa np h) (rs : Rs ad z0 mid pa np h) (hc : kc < 24) (he : ke < 24) (ht : t < 250) (hu : u < 250) (e1 : hI h (ad 31) kc = nI t) (e2 : hI h (ad 31) ke = nI u) (q1 : craR ad z0 pa np h t (mid t)) (kt8 : kt < 8) (hkt : hI h (ad 34) t = nI kt) (q2 : grdR ad z0 mid h u (mid u)) (z1 : hI h (ad 35) t = nI sA) (z2 : hI h (ad 35) u = nI sB) (hA : i + m ≤ sA) (hB : j + m ≤ sB) (sA3 : sA ≤ 8) (sB3 : sB ≤ 8) :
    WR 99 cd_51 106 [some (.ref (ad 0)), some (.int (nI kc)), some (.int (nI i)), some (.int (nI ke)), some (.int (nI j)), some (.int (nI m)), some (.ref (mid t)), some (.ref (mid u)), none] [] (sI h (ad 0) 6 0) (fun v h1 => EV 100 179 [.ref (ad 30), .int (nI kc), .int (nI i), .int (nI ke), .int (nI j), .int (nI m)] h1 (fun v2 h2 => v2 = v ∧ Rel n ad sa z0 h2 ∧ hZ h2 ≤ hZ h + 20 ∧ hU h2 ≤ hU h + 150)) := by
  obtain ⟨v1, v2, v3, v4, kv, ⟨v5, v6, v7, v8⟩, sv, v9, v10, v11, v12⟩ := id q1
  obtain ⟨w1, w2, w3, w4, ⟨w5, w6, w7⟩, sw, w9, w10, w11, w12⟩ := id q2
  obtain rfl : sv = sA := (nI_eq (by omega) (by omega)).mp (v11.symm.trans z1)
  obtain rfl : sw = sB := (nI_eq (by omega) (by omega)).mp (w11.symm.trans z2)
  have hnp := rs.1.1
  refine t_copyX (st := 9) (su := 8) fx hc he ht hu e1 e2 v1 w1 v3 w3 v4 w4 w2 v10 w10 v7 w6 z1 z2 hA hB v9 w9 (by omega) (by omega) (fun _ => True) ?_ ?_ rst ?_ ?_ ?_
  · intro k x hk ex
    rcases cra_e (i := i) (k := k) q1 z1 hkt kt8 v9 (by omega) with a | ⟨q, a1, a2, a3, kq, a4, a5, a6⟩
    · rw [a.2] at ex; cases ex
    · rw [a3] at ex; cases ex; exact .inl (rs.1.2.2.2.1 q a1).1
  · intro k C hk fxC eT eI rC
    have tb : hT C (mid u) = 6 := by rw [eT]; exact w1
    have kb : hI C (mid u) 0 = -1 := by rw [eI _ w2]; exact w5
    rcases cra_e (i := i) (k := k) q1 z1 hkt kt8 v9 (by omega) with a | ⟨q, a1, a2, a3, kq, a4, a5, a6⟩
    · rw [a.2]
      exact DP.iff (BEL_m a.1).symm (wl_n (d := 97) fxC tb)
    · rw [a3, a2]
      exact DP.iff (BEL_d (by decide) (by decide) (by omega)).symm (wl_gp (d := 96) fxC tb kb (by rw [eT]; exact (rs.1.2.2.2.1 q a1).1))
  · intro e k hk
    have : u = t := rs.2.2.1 u t hu ht (.inl ⟨ke, he, e2⟩) (.inl ⟨kc, hc, e1⟩) e
    subst this
    have c := v7.symm.trans w6
    exact absurd c (by decide)
  · intro k hk
    rcases cra_e (i := i) (k := k) q1 z1 hkt kt8 v9 (by omega) with a | ⟨q, a1, a2, a3, kq, a4, a5, a6⟩
    · exact .inl a.1
    · exact .inr ⟨1000 + q, by omega, a2, fun _ z => by omega⟩
  · intro k C M y hk hb c mc
    refine cp_grid (sA := sv) (sB := sw) fx rt ra rp rf rst ru rs hu (.inl ⟨ke, he, e2⟩) q2 z2 hk hA hB v9 w9 (fun p hp x r ex er => ?_) c mc
    subst ex; subst er
    rcases cra_e (i := i) (k := p) q1 z1 hkt kt8 v9 (by omega) with a | ⟨q, a1, a2, a3, kq, a4, a5, a6⟩
    · exact .inl a
    · have b := hb p hp
      rw [a2] at b
      exact absurd b (fun z => (BEL_d (by decide) (by decide) (by omega)).mp z)
theorem t_cCC (fx : FX n ad sa z0 h) (rt : Rt ad h) (ra : Ra ad h) (rp : Rp n ad h) (rf : Rf ad h) (rst : Rst sa h) (ru : Ru n ad pa np h) (rs : Rs ad z0 mid pa np h) (hc : kc < 24) (he : ke < 24) (ht : t < 250) (hu : u < 250) (e1 : hI h (ad 31) kc = nI t) (e2 : hI h (ad 31) ke = nI u) (q1 : craR ad z0 pa np h t (mid t)) (kt8 : kt < 8) (hkt : hI h (ad 34) t = nI kt) (q2 : craR ad z0 pa np h u (mid u)) (ku8 : ku < 8) (hku : hI h (ad 34) u = nI ku) (z1 : hI h (ad 35) t = nI sA) (z2 : hI h (ad 35) u = nI sB) (hA : i + m ≤ sA) (hB : j + m ≤ sB) (sA3 : sA ≤ 8) (sB3 : sB ≤ 8) :
    WR 99 cd_51 106 [some (.ref (ad 0)), some (.int (nI kc)), some (.int (nI i)), some (.int (nI ke)), some (.int (nI j)), some (.int (nI m)), some (.ref (mid t)), some (.ref (mid u)), none] [] (sI h (ad 0) 6 0) (fun v h1 => EV 100 179 [.ref (ad 30), .int (nI kc), .int (nI i), .int (nI ke), .int (nI j), .int (nI m)] h1 (fun v2 h2 => v2 = v ∧ Rel n ad sa z0 h2 ∧ hZ h2 ≤ hZ h + 20 ∧ hU h2 ≤ hU h + 150)) := by
  obtain ⟨v1, v2, v3, v4, kv, ⟨v5, v6, v7, v8⟩, sv, v9, v10, v11, v12⟩ := id q1
  obtain ⟨w1, w2, w3, w4, kw, ⟨w5, w6, w7, w8⟩, sw, w9, w10, w11, w12⟩ := id q2
  obtain rfl : sv = sA := (nI_eq (by omega) (by omega)).mp (v11.symm.trans z1)
  obtain rfl : sw = sB := (nI_eq (by omega) (by omega)).mp (w11.symm.trans z2)
  obtain rfl : kw = ku := (nI_eq (by omega) (by omega)).mp (w8.symm.trans hku)
  have hnp := rs.1.1
  have oi : ∀ k q kq, k < m → q < np → hL h (ad 36) (30 * t + i + k) = lN (1000 + q) → hI h (ad 37) q = nI kq → kq < 7 → ((∃ q kq, q < np ∧ hL h (ad 36) (30 * t + i + k) = lN (1000 + q) ∧ hI h (ad 37) q = nI kq ∧ kq < 7 ∧ ofK kq kw = true) ↔ ofK kq kw = true) := by
    intro k q kq hk hq e1 e2 e3
    refine ⟨fun ⟨q', kq', g1, g2, g3, g4, g5⟩ => ?_, fun z => ⟨q, kq, hq, e1, e2, e3, z⟩⟩
    have : q' = q := by have := (lN_eq (by omega) (by omega)).mp (g2.symm.trans e1); omega
    subst this
    have : kq' = kq := (nI_eq (by omega) (by omega)).mp (g3.symm.trans e2)
    subst this
    exact g5
  refine t_copyX (st := 9) (su := 9) fx hc he ht hu e1 e2 v1 w1 v3 w3 v4 w4 w2 v10 w10 v7 w7 z1 z2 hA hB v9 w9 (by omega) (by omega) (fun k => ∃ q kq, q < np ∧ hL h (ad 36) (30 * t + i + k) = lN (1000 + q) ∧ hI h (ad 37) q = nI kq ∧ kq < 7 ∧ ofK kq kw = true) ?_ ?_ rst ?_ ?_ ?_
  · intro k x hk ex
    rcases cra_e (i := i) (k := k) q1 z1 hkt kt8 v9 (by omega) with a | ⟨q, a1, a2, a3, kq, a4, a5, a6⟩
    · rw [a.2] at ex; cases ex
    · rw [a3] at ex; cases ex; exact .inl (rs.1.2.2.2.1 q a1).1
  · intro k C hk fxC eT eI rC
    have tb : hT C (mid u) = 6 := by rw [eT]; exact w1
    have kb : hI C (mid u) 0 = nI kw := by rw [eI _ w2]; exact w6
    rcases cra_e (i := i) (k := k) q1 z1 hkt kt8 v9 (by omega) with a | ⟨q, a1, a2, a3, kq, a4, a5, a6⟩
    · rw [a.2]
      exact DP.iff (BEL_m a.1).symm (wl_n (d := 97) fxC tb)
    · have pq := rs.1.2.2.2.1 q a1
      have B : BEL 9 9 (hL h (ad 36) (30 * t + i + k)) (∃ q kq, q < np ∧ hL h (ad 36) (30 * t + i + k) = lN (1000 + q) ∧ hI h (ad 37) q = nI kq ∧ kq < 7 ∧ ofK kq kw = true) ↔ ofK kq kw = true := by
        have b := BEL_9 (O := ∃ q kq, q < np ∧ hL h (ad 36) (30 * t + i + k) = lN (1000 + q) ∧ hI h (ad 37) q = nI kq ∧ kq < 7 ∧ ofK kq kw = true) (v := 1000 + q) (by omega)
        rw [← a2] at b
        exact b.trans (oi k q kq hk a1 a2 a4 a5)
      rw [a3]
      exact DP.iff B.symm (wl_cp (d := 96) fxC rC tb ku8 kb (by rw [eT]; exact pq.1) (by rw [eI _ pq.2.1]; exact pq.2.2.2.1.trans a4) a5)
  · intro e k hk
    have : u = t := rs.2.2.1 u t hu ht (.inl ⟨ke, he, e2⟩) (.inl ⟨kc, hc, e1⟩) e
    subst this
    have : kt = kw := (nI_eq (by omega) (by omega)).mp (hkt.symm.trans hku)
    subst this
    rcases cra_e (i := i) (k := k) q1 z1 hkt kt8 v9 (by omega) with a | ⟨q, a1, a2, a3, kq, a4, a5, a6⟩
    · exact (BEL_m a.1).mpr trivial
    · exact .inr (.inr ⟨rfl, .inr ⟨q, kq, a1, a2, a4, a5, a6⟩⟩)
  · intro k hk
    rcases cra_e (i := i) (k := k) q1 z1 hkt kt8 v9 (by omega) with a | ⟨q, a1, a2, a3, kq, a4, a5, a6⟩
    · exact .inl a.1
    · exact .inr ⟨1000 + q, by omega, a2, fun _ _ => ⟨q, kq, kw, rfl, by omega, a4, a5, hku, ku8, oi k q kq hk a1 a2 a4 a5⟩⟩
  · intro k C M y hk hb c mc
    refine cp_cra (sA := sv) (sB := sw) (ku := kw) hku ku8 fx rt ra rp rf rst ru rs hu (.inl ⟨ke, he, e2⟩) q2 z2 hk hA hB v9 w9 (fun p hp x r ex er => ?_) c mc
    subst ex; subst er
    rcases cra_e (i := i) (k := p) q1 z1 hkt kt8 v9 (by omega) with a | ⟨q, a1, a2, a3, kq, a4, a5, a6⟩
    · exact .inl a
    · have b := hb p hp
      have B := BEL_9 (O := ∃ q kq, q < np ∧ hL h (ad 36) (30 * t + i + p) = lN (1000 + q) ∧ hI h (ad 37) q = nI kq ∧ kq < 7 ∧ ofK kq kw = true) (v := 1000 + q) (by omega)
      rw [← a2] at B
      exact .inr ⟨q, a1, a2, a3, kq, a4, a5, (oi p q kq (by omega) a1 a2 a4 a5).mp (B.mp b)⟩
end C4

/-! ===== the start of an act; the class's whole act ===== -/
def aLV (ad : Nat → Nat) (h : mH) (t : Nat) : Prop := ∃ c, c < 24 ∧ hI h (ad 31) c = nI t
def aPl (ad : Nat → Nat) (h : mH) : aP := (fun k => (hI h (ad 44) k).toNatClampNeg, hI h (ad 45), hI h (ad 46), hI h (ad 47), fun p => (hI h (ad 43) p).toNatClampNeg, fun q => (hI h (ad 37) q).toNatClampNeg, fun t => (hI h (ad 33) t).toNatClampNeg, fun t => (hI h (ad 35) t).toNatClampNeg)
def aS0 (ad : Nat → Nat) (h : mH) : aS := (fun _ => 0, fun i j => if i = 33 ∨ i = 34 then 0 else hI h (ad i) j, hL h (ad 36))
theorem cl_op {x : Int32} (h : ¬ x < 0 ∧ x ≤ 13) : x.toNatClampNeg ≤ 13 ∧ nI x.toNatClampNeg = x := by
  have b := i_le h.2
  have z : (13 : Int32).toInt = 13 := rfl
  obtain ⟨j, hj, e⟩ := nI_of h.1
  have tj : (nI j).toInt = j := nI_toInt hj
  rw [e, tj] at b
  rw [e, nI_clamp hj]
  exact ⟨by omega, rfl⟩
/-- the heap where the class begins to act -/
def HM (n : Nat) (ad sa : Nat → Nat) (z0 : Nat) (h hm : mH) : Prop := FX n ad sa z0 hm ∧ (hT hm = hT h ∧ hN hm = hN h ∧ hZ hm = hZ h ∧ hU hm = hU h) ∧ hD hm = hD h ∧ hL hm = hL h ∧ (∀ a j, cI n ad a j → ¬ (a = ad 0 ∧ j = 6) → a ≠ ad 9 → hI hm a j = hI h a j) ∧ ((hI hm (ad 13) 2 = 0 ∧ hI hm (ad 16) 5 = 0 ∧ hI hm (ad 0) 6 = 0) ∧ (∀ k, 7 ≤ k → k ≤ 13 → hI hm (ad 9) k = 0) ∧ ∀ t, t < n → hI hm (ad (100 + 5 * t)) 9 = hI h (ad (100 + 5 * t)) 9) ∧
  (∀ a, a ≠ ad 9 → a ≠ ad 17 → a ≠ ad 18 → hR hm a = hR h a) ∧ (hR hm (ad 9) 5 = some (ad 1) ∧ hR hm (ad 9) 6 = some (ad 7)) ∧ (∀ c, c < 24 → hR hm (ad 17) c = hR h (ad 1) c) ∧ ∀ t s, t < n → s < 5 → hR hm (ad 18) (5 * t + s) = hR h (ad (101 + 5 * t)) s
section AC
variable {n np : Nat} {ad sa : Nat → Nat} {z0 : Nat} {mid pa : Nat → Nat} {h hm hc : mH} {Q : mQ}
theorem lv_th (rs : Rs ad z0 mid pa np h) {t : Nat} (ht : t < 250) (lt : aLV ad h t) : ∃ c, c < 24 ∧ hI h (ad 31) c = nI t ∧ hR h (ad 1) c = some (mid t) ∧ thR ad z0 mid pa np h t (mid t) := by
  obtain ⟨c, hc, e⟩ := lt
  have p60 := rs.1.1
  rcases rs.2.1 c hc with ⟨q, -⟩ | ⟨q, hq, q1, -⟩ | ⟨u, hu, q1, q2, q3⟩
  · rw [e] at q; exact absurd q (nI_nm1 (by omega))
  · rw [e] at q1
    have := congrArg Int32.toNatClampNeg q1
    rw [nI_clamp (by omega), nI_clamp (by omega)] at this; omega
  · rw [e] at q1
    have := congrArg Int32.toNatClampNeg q1
    rw [nI_clamp (by omega), nI_clamp (by omega)] at this
    subst this
    exact ⟨c, hc, e, q2, q3⟩
theorem vr_h (rs : Rs ad z0 mid pa np h) {c : Nat} (hc : c < 24) : vR np mid pa (aLV ad h) (hI h (ad 31) c) (hR h (ad 1) c) := by
  rcases rs.2.1 c hc with q | q | ⟨u, hu, q1, q2, -⟩
  · exact .inl q
  · exact .inr (.inl q)
  · exact .inr (.inr ⟨u, hu, ⟨c, hc, q1⟩, q1, q2⟩)
theorem vp_h (fx : FX n ad sa z0 h) (rp : Rp n ad h) (rs : Rs ad z0 mid pa np h) : VP n np (aLV ad h) (aPl ad h) := by
  refine ⟨rs.1.1, (fx_k fx).2, fun p hp => ?_, fun q hq => ?_, fun t ht lt => ?_⟩
  · obtain ⟨l, a1, a2, a3, a4⟩ := rp p hp
    have el : (aPl ad h).len p = l := by show (hI h (ad 43) p).toNatClampNeg = l; rw [a3]; exact nI_clamp (by omega)
    rw [el]
    refine ⟨a1, fun i hi => ?_⟩
    obtain ⟨-, -, -, -, b⟩ := a4 i hi
    have o := cl_op b.1
    refine ⟨o.1, ?_⟩
    show okS n (nI (hI h (ad 44) (16 * p + i)).toNatClampNeg) _ _ _
    rw [o.2]
    exact b
  · obtain ⟨-, -, -, -, ⟨k, k7, e⟩, -⟩ := rs.1.2.2.2.1 q hq
    show (hI h (ad 37) q).toNatClampNeg < 7
    rw [e, nI_clamp (by omega)]; exact k7
  · show (hI h (ad 33) t).toNatClampNeg ≤ 9 ∧ (hI h (ad 35) t).toNatClampNeg ≤ 30
    obtain ⟨-, -, -, -, q⟩ := lv_th rs ht lt
    rcases q with ⟨ln, q⟩ | q | q
    · obtain ⟨-, -, -, -, ⟨k5, -, k7, -⟩, sz, k1, -, k2, -⟩ := q
      rw [k2, k7, nI_clamp (by omega), nI_clamp (by omega)]; omega
    · obtain ⟨-, -, -, -, ⟨-, k7, -⟩, sz, k1, -, k2, -⟩ := q
      rw [k2, k7, nI_clamp (by omega)]
      exact ⟨by decide, by omega⟩
    · obtain ⟨-, -, -, -, k, ⟨-, -, k7, -⟩, sz, k1, -, k2, -⟩ := q
      rw [k2, k7, nI_clamp (by omega)]
      exact ⟨by decide, by omega⟩
theorem vs_h (ru : Ru n ad pa np h) (rs : Rs ad z0 mid pa np h) : VS n np (aLV ad h) 0 (aS0 ad h) := by
  refine ⟨by show 0 ≤ 100; omega, Nat.le_refl 0, Nat.le_refl 0, by show 0 ≤ 8; omega, fun c hc => ?_, fun i hi => absurd hi (Nat.not_lt_zero _), fun s hs => ?_⟩
  · show hI h (ad 31) c = -1 ∨ okV np (aLV ad h) (hI h (ad 31) c)
    rcases vr_h rs hc with q | ⟨q, hq, q1, -⟩ | ⟨u, hu, lu, q1, -⟩
    · exact .inl q.1
    · exact .inr (.inl ⟨q, hq, q1⟩)
    · exact .inr (.inr ⟨u, hu, lu, q1⟩)
  · show okW np (hI h (ad 57) s)
    have q := (ru.2 (s / 5) (by omega)).2.2.2.2.2.2 (s % 5) (by omega)
    rw [show 5 * (s / 5) + s % 5 = s by omega] at q
    rcases q with q | ⟨q, hq, e, -⟩
    · exact .inl q.1
    · exact .inr ⟨q, hq, e⟩
theorem HM.i (fx : FX n ad sa z0 h) (x : HM n ad sa z0 h hm) {i j : Nat} (h1 : i ≠ 12 ∧ i ≠ 13 ∧ i ≠ 15 ∧ i ≠ 16 ∧ i ≠ 20 ∧ i ≠ 9 ∧ i ≠ 0) (h2 : i < 100) : hI hm (ad i) j = hI h (ad i) j := x.2.2.2.2.1 _ _ (cI_ad fx (by omega) h2) (fun e => h1.2.2.2.2.2.2 (fx_inj fx e.1)) (fx_ne fx h1.2.2.2.2.2.1)
theorem HM.d (fx : FX n ad sa z0 h) (x : HM n ad sa z0 h hm) {a j : Nat} (ha : z0 ≤ a) : hI hm a j = hI h a j := x.2.2.2.2.1 _ _ (cI_dy fx ha) (fun e => dy_ad fx (i := 0) (.inl (by decide)) ha e.1) (dy_ad fx (.inl (by decide)) ha)
theorem HM.r (fx : FX n ad sa z0 h) (x : HM n ad sa z0 h hm) {a : Nat} (ha : z0 ≤ a) : hR hm a = hR h a := x.2.2.2.2.2.2.1 _ (dy_ad fx (.inl (by decide)) ha) (dy_ad fx (.inl (by decide)) ha) (dy_ad fx (.inl (by decide)) ha)
theorem cw_h (fx : FX n ad sa z0 h) (rp : Rp n ad h) (rst : Rst sa h) (rs : Rs ad z0 mid pa np h) (x : HM n ad sa z0 h hm) : CW np ad mid pa (aLV ad h) (aPl ad h) hm sa z0 := by
  refine ⟨fun j hj i hi => ?_, x.2.2.2.2.2.2.2.1, fun q hq => ?_, fun t ht lt => ?_, fun t u ht hu lt lu e => rs.2.2.1 t u ht hu (.inl lt) (.inl lu) e, fun p hp => ?_⟩
  · have ne : ∀ k, dom n k → sa j ≠ ad k := fun k hk => (fx_lt fx hk).2.2 j hj
    rw [x.2.2.2.2.1 (sa j) i ⟨ne 12 (.inl (by decide)), ne 13 (.inl (by decide)), ne 15 (.inl (by decide)), ne 16 (.inl (by decide)), ne 20 (.inl (by decide)), fun e => ne 9 (.inl (by decide)) e.1, fun t ht e => ne (100 + 5 * t) (.inr ⟨by omega, by omega⟩) e.1⟩ (fun e => ne 0 (.inl (by decide)) e.1) (ne 9 (.inl (by decide)))]
    exact rst j hj i hi
  · obtain ⟨b1, b2, -, b4, ⟨k, k7, e⟩, -⟩ := rs.1.2.2.2.1 q hq
    refine ⟨by rw [x.2.1.1]; exact b1, b2, ?_⟩
    rw [x.d fx b2, b4]
    show _ = nI (hI h (ad 37) q).toNatClampNeg
    rw [e, nI_clamp (by omega)]
  · obtain ⟨-, -, -, -, q⟩ := lv_th rs ht lt
    show z0 ≤ mid t ∧ ((_ ∧ _ ∧ _ ∧ (hI h (ad 33) t).toNatClampNeg < 8 ∧ hI hm (mid t) 0 = nI (hI h (ad 33) t).toNatClampNeg ∧ hN hm (mid t + 1) = (hI h (ad 35) t).toNatClampNeg) ∨ (_ ∧ 8 ≤ (hI h (ad 33) t).toNatClampNeg))
    rcases q with ⟨ln, q⟩ | q | q
    · obtain ⟨q1, q2, q3, q4, ⟨k5, k6, k7, -⟩, sz, k1, k8, k2, -⟩ := q
      rw [x.2.1.1, x.2.1.2.1, x.r fx q2, x.d fx q2, k2, k7, nI_clamp (by omega), nI_clamp (by omega)]
      exact ⟨q2, .inl ⟨q1, q3, q4, k5, k6, k8⟩⟩
    · obtain ⟨q1, q2, -, -, ⟨-, k7, -⟩, -⟩ := q
      rw [x.2.1.1, k7]
      exact ⟨q2, .inr ⟨q1, by decide⟩⟩
    · obtain ⟨q1, q2, -, -, k, ⟨-, -, k7, -⟩, -⟩ := q
      rw [x.2.1.1, k7]
      exact ⟨q2, .inr ⟨q1, by decide⟩⟩
  · obtain ⟨l, a1, a2, a3, a4⟩ := rp p hp
    have el : (aPl ad h).len p = l := by show (hI h (ad 43) p).toNatClampNeg = l; rw [a3]; exact nI_clamp (by omega)
    rw [el, x.i fx (by decide) (by decide)]
    refine ⟨a2, fun i hi => ?_⟩
    obtain ⟨b1, b2, b3, b4, b⟩ := a4 i hi
    have o := cl_op b.1
    have e : (p * 16 + i) * 4 = 64 * p + 4 * i := by omega
    rw [e] at b1 b2 b3 b4
    rw [x.i fx (by decide) (by decide), x.i fx (by decide) (by decide), x.i fx (by decide) (by decide), x.i fx (by decide) (by decide)]
    refine ⟨?_, b2, b3, b4⟩
    show _ = nI (hI h (ad 44) (16 * p + i)).toNatClampNeg
    rw [o.2]; exact b1
theorem rc_h (fx : FX n ad sa z0 h) (ru : Ru n ad pa np h) (rs : Rs ad z0 mid pa np h) (x : HM n ad sa z0 h hm) : RC n np ad mid pa (aLV ad h) (aPl ad h) hm hm 0 (aS0 ad h) := by
  obtain ⟨x0, x1, x2, x3, x4, ⟨⟨y1, y2, -⟩, y3, y4⟩, x5, x6, x7, x8⟩ := id x
  refine ⟨CF.rf, ⟨⟨y1, y3 9 (by decide) (by decide), y3 11 (by decide) (by decide), y3 10 (by decide) (by decide), y3 7 (by decide) (by decide), y3 12 (by decide) (by decide)⟩, fun i hi => absurd hi (Nat.not_lt_zero _), fun i hi => absurd hi (Nat.not_lt_zero _), fun t ht => ?_⟩, ⟨fun c hc => ?_, fun i hi => absurd hi (Nat.not_lt_zero _), fun t s ht hs => ?_⟩, 0, Nat.le_refl 0, y2, fun t j w => ?_, fun _ _ _ _ => rfl, fun k _ => ?_, fun k hk => absurd hk (Nat.not_lt_zero _), fun _ _ _ => rfl⟩
  · show _ = hI h (ad 56) t
    rw [y4 t ht, (ru.2 t ht).2.1.1, (ru.2 t ht).2.1.2]
  · show vR np mid pa (aLV ad h) (hI h (ad 31) c) _
    rw [x5 _ (fx_ne fx (by decide)) (fx_ne fx (by decide)) (fx_ne fx (by decide))]
    exact vr_h rs hc
  · show slR pa np (hI h (ad 57) (5 * t + s)) _
    rw [x5 _ (fx_ne fx (by omega)) (fx_ne fx (by omega)) (fx_ne fx (by omega))]
    exact (ru.2 t ht).2.2.2.2.2.2 s hs
  · show hL hm (mid t + 1) j = hL h (ad 36) (30 * t + j)
    rw [x3]
    obtain ⟨-, -, -, -, q⟩ := lv_th rs w.1 w.2.1
    have w3 : (hI h (ad 33) t).toNatClampNeg = 3 := w.2.2.1
    have w4 : j < (hI h (ad 35) t).toNatClampNeg := w.2.2.2
    rcases q with ⟨ln, q⟩ | q | q
    · obtain ⟨q1, q2, q3, q4, ⟨k5, k6, k7, -⟩, sz, k1, k8, k2, k9⟩ := q
      rw [k2, nI_clamp (by omega)] at w4
      exact (k9 j w4).1
    · obtain ⟨q1, q2, -, -, ⟨-, k7, -⟩, -⟩ := q
      rw [k7] at w3; exact absurd w3 (by decide)
    · obtain ⟨q1, q2, -, -, k, ⟨-, -, k7, -⟩, -⟩ := q
      rw [k7] at w3; exact absurd w3 (by decide)
  · show hL h (ad 36) k = hL hm (ad 36) k
    rw [x3]
end AC

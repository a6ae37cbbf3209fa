/-! ===== entries of a shelf copied on both sides: the relation ===== -/
section BS
variable {n : Nat} {ad sa : Nat → Nat} {z0 : Nat} {mid pa : Nat → Nat} {np : Nat} {h C M : mH} {t u i j m k : Nat} {y : Int32}
/-- the class's heap behind k entries, with its reason -/
def CS (ad : Nat → Nat) (h C : mH) (b : Nat) (f : Nat → Option Nat) (y : Int32) : Prop := (hT C = hT h ∧ hN C = hN h ∧ hZ C = hZ h ∧ hU C = hU h) ∧ (∀ a j, ¬ (a = ad 0 ∧ j = 6) → hI C a j = hI h a j) ∧ hI C (ad 0) 6 = y ∧ hL C = hL h ∧ hD C = hD h ∧ (∀ a, a ≠ b → hR C a = hR h a) ∧ hR C b = f
theorem CS.of0 {b : Nat} {f : Nat → Option Nat} (x : XR (sI h (ad 0) 6 0) C b f) : CS ad h C b f 0 := by
  obtain ⟨x0, x1, x2, x3, x4, x5⟩ := x
  exact ⟨x0, fun a j e => by rw [x1, hI_sI, if_neg e], by rw [x1, I_eq], x2, x3, x4, x5⟩
theorem CS.of1 {b : Nat} {f : Nat → Option Nat} {v : Int32} (x : XR (sI h (ad 0) 6 0) C b f) : CS ad h (sI C (ad 0) 6 v) b f v := by
  obtain ⟨x0, x1, x2, x3, x4, x5⟩ := x
  exact ⟨x0, fun a j e => by rw [hI_sI, if_neg e, x1, hI_sI, if_neg e], I_eq, x2, x3, x4, x5⟩
theorem cp_grid {sA sB : Nat} (fx : FX n ad sa z0 h) (rt : Rt ad h) (ra : Ra ad h) (rp : Rp n ad h) (rf : Rf ad h) (rst : Rst sa h) (ru : Ru n ad pa np h) (rs : Rs ad z0 mid pa np h) (hu : u < 250) (lu : live ad h u) (q2 : grdR ad z0 mid h u (mid u)) (z2 : hI h (ad 35) u = nI sB) (hk : k ≤ m) (hA : i + m ≤ sA) (hB : j + m ≤ sB) (sA3 : sA ≤ 8) (sB3 : sB ≤ 8)
    (ent : ∀ p, p < k → ∀ x r, hL h (ad 36) (30 * t + i + p) = x → hR h (mid t + 1) (i + p) = r → (x = -1 ∧ r = none) ∨ ∃ t', t' < 250 ∧ x = lN t' ∧ r = some (mid t') ∧ rowR ad z0 h t' (mid t') 3 ∧ live ad h t')
    (c : CS ad h C (mid u + 1) (va_cpy (hR h (mid t + 1)) (hR h (mid u + 1)) i j k) y) (mc : MC ad C M t u i j m k) : Rel n ad sa z0 (sI M (ad 30) 11 y) := by
  obtain ⟨⟨x1, x2, x3, x4⟩, cI, cy, cL, cD, cR, cE⟩ := c
  obtain ⟨⟨m1, m2, m3, m4⟩, mI, mD, mR, mL, -, mE⟩ := mc
  obtain ⟨w1, w2, w3, w4, ⟨w5, w6, w7⟩, sB', w9, w10, w11, w12⟩ := id q2
  obtain rfl : sB' = sB := (nI_eq (by omega) (by omega)).mp (w11.symm.trans z2)
  have eI : ∀ a j, ¬ (a = ad 0 ∧ j = 6) → ¬ (a = ad 30 ∧ j = 11) → hI (sI M (ad 30) 11 y) a j = hI h a j := by
    intro a j h0 h3
    rw [hI_sI, if_neg h3, mI, cI a j h0]
  have gL : ∀ a, a ≠ ad 36 → a ≠ ad 41 → hL (sI M (ad 30) 11 y) a = hL h a := fun a h1 h2 => (mL a h1 h2).trans (congrFun cL a)
  have gR : ∀ a, a ≠ mid u + 1 → hR (sI M (ad 30) 11 y) a = hR h a := fun a h1 => (congrFun mR a).trans (cR a h1)
  have e36 : ∀ p, hL (sI M (ad 30) 11 y) (ad 36) p = va_cpy (hL h (ad 36)) (hL h (ad 36)) (30 * t + i) (30 * u + j) k p := fun p => by
    show hL M (ad 36) p = _
    rw [mE, cL]
  have eU : hR (sI M (ad 30) 11 y) (mid u + 1) = va_cpy (hR h (mid t + 1)) (hR h (mid u + 1)) i j k := (congrFun mR _).trans cE
  have ry : hI (sI M (ad 30) 11 y) (ad 0) 6 = hI (sI M (ad 30) 11 y) (ad 30) 11 := by
    rw [I_eq, I_ne (fx_ne fx (by decide)), mI, cy]
  have i0 : ∀ i j, i ≠ 0 → i ≠ 30 → hI (sI M (ad 30) 11 y) (ad i) j = hI h (ad i) j := fun i j h0 h30 => eI _ j (fun e => h0 (fx_inj fx e.1)) (fun e => h30 (fx_inj fx e.1))
  have eT : hT (sI M (ad 30) 11 y) = hT h := m1.trans x1
  have eN : hN (sI M (ad 30) 11 y) = hN h := m2.trans x2
  have ed : ∀ a, z0 ≤ a → hL (sI M (ad 30) 11 y) a = hL h a := fun a ha => gL a (dy_ad fx (.inl (by decide)) ha) (dy_ad fx (.inl (by decide)) ha)
  have ei : ∀ a, z0 ≤ a → hI (sI M (ad 30) 11 y) a = hI h a := fun a ha => funext fun j => eI a j (fun e => dy_ad fx (.inl (by decide)) ha e.1) (fun e => dy_ad fx (.inl (by decide)) ha e.1)
  have en : ∀ p, p < sB' → (hL (sI M (ad 30) 11 y) (ad 36) (30 * u + p) = hL h (ad 36) (30 * u + p) ∧ hR (sI M (ad 30) 11 y) (mid u + 1) p = hR h (mid u + 1) p) ∨ ∃ p', p' < k ∧ hL (sI M (ad 30) 11 y) (ad 36) (30 * u + p) = hL h (ad 36) (30 * t + i + p') ∧ hR (sI M (ad 30) 11 y) (mid u + 1) p = hR h (mid t + 1) (i + p') := by
    intro p hp
    rw [e36, eU]
    by_cases e : j ≤ p ∧ p < j + k
    · refine .inr ⟨p - j, by omega, ?_, pk_cpy_in e.1 e.2⟩
      rw [pk_cpy_in (by omega) (by omega), show 30 * t + i + (30 * u + p - (30 * u + j)) = 30 * t + i + (p - j) by omega]
    · exact .inl ⟨pk_cpy_out (by omega), pk_cpy_out (by omega)⟩
  have hrow : ∀ v, rowR ad z0 h v (mid v) 3 → rowR ad z0 (sI M (ad 30) 11 y) v (mid v) 3 := by
    intro v q
    have n1 : mid v ≠ mid u + 1 := fun e => by have a := q.1; rw [e, w4] at a; cases a
    have n2 : mid v + 1 ≠ mid u + 1 := fun e => by have a := q.2.2.2.1; rw [e, w4] at a; cases a
    have zz := q.2.1
    obtain ⟨a1, a2, a3, a4, ⟨a5, a6, a7, a8⟩, s3, a9, a10, a11, a12⟩ := q
    refine ⟨by rw [eT]; exact a1, a2, by rw [gR _ n1]; exact a3, by rw [eT]; exact a4, ⟨a5, by rw [ei _ zz]; exact a6, (i0 33 v (by decide) (by decide)).trans a7, (i0 34 v (by decide) (by decide)).trans a8⟩, s3, a9, by rw [eN]; exact a10, (i0 35 v (by decide) (by decide)).trans a11, fun p hp => ?_⟩
    have nu : v ≠ u := fun e => by
      rw [e, w6] at a7; exact absurd a7 (by decide)
    rw [ed _ (by omega), e36, pk_cpy_out (by omega)]
    exact a12 p hp
  refine Rel.asm (h := h) (mid := mid) fx rt ra rp rf rst ru eT eN (m3.trans x3) eI (fun i hd h1 h2 => gL _ (fun e => h1 (fx_inj fx e)) (fun e => h2 (fx_inj fx e))) (fun a ha => gR a (by omega)) (mD.trans cD) ry ?_
  refine Rs.blk fx rs hu lu (.inr (.inl q2)) eT eN (m3.trans x3) eI (fun a ha h1 => ed a ha) (fun a ha h1 => gR a h1) (gL _ (fx_ne fx (by decide)) (fx_ne fx (by decide))) (fun v hv p hp => ?_) (gR _ (ad_dy fx (.inl (by decide)) (by omega))) (.inr (.inl ⟨?_, w2, ?_, ?_, ⟨by rw [ei _ w2]; exact w5, (i0 33 u (by decide) (by decide)).trans w6, (i0 34 u (by decide) (by decide)).trans w7⟩, sB', w9, ?_, (i0 35 u (by decide) (by decide)).trans w11, fun p hp => ?_⟩)) (fun v hv lv => ?_)
  · rw [e36]; exact pk_cpy_out (by omega)
  · rw [eT]; exact w1
  · rw [gR _ (by omega)]; exact w3
  · rw [eT]; exact w4
  · rw [eN]; exact w10
  · rcases en p hp with ⟨e1, e2⟩ | ⟨p', hp', e1, e2⟩
    · rw [e1, e2]
      rcases w12 p hp with a | ⟨t', a1, a2, a3, a4⟩
      · exact .inl a
      · exact .inr ⟨t', a1, a2, a3, hrow _ a4⟩
    · rw [e1, e2]
      rcases ent p' hp' _ _ rfl rfl with a | ⟨t', a1, a2, a3, a4, a5⟩
      · exact .inl a
      · exact .inr ⟨t', a1, a2, a3, hrow _ a4⟩
  · rcases lv with ⟨c, c1, c2⟩ | ⟨c, g, p, sz, c1, c2, c3, c4, c5, c6, c7, c8⟩
    · exact .inl ⟨c, c1, by rw [← c2]; exact (i0 31 _ (by decide) (by decide)).symm⟩
    · rw [i0 31 _ (by decide) (by decide)] at c3
      rw [i0 33 _ (by decide) (by decide)] at c4
      rw [i0 35 _ (by decide) (by decide)] at c5
      by_cases gu : g = u
      · subst gu
        have es : sz = sB' := (nI_eq (by omega) (by omega)).mp (c5.symm.trans w11)
        rcases en p (by omega) with ⟨e1, -⟩ | ⟨p', hp', e1, -⟩
        · rw [e1] at c8; exact .inr ⟨c, g, p, sz, c1, c2, c3, c4, c5, c6, c7, c8⟩
        · rw [e1] at c8
          rcases ent p' hp' _ _ rfl rfl with a | ⟨t', a1, a2, a3, a4, a5⟩
          · rw [a.1] at c8; exact absurd c8 (lN_m1 (by omega))
          · rw [c8] at a2
            have : v = t' := (lN_eq (by omega) (by omega)).mp a2
            rw [this]; exact a5
      · rw [e36, pk_cpy_out (by omega)] at c8
        exact .inr ⟨c, g, p, sz, c1, c2, c3, c4, c5, c6, c7, c8⟩
theorem cp_cra {sA sB : Nat} {ku : Nat} (hku : hI h (ad 34) u = nI ku) (ku8 : ku < 8) (fx : FX n ad sa z0 h) (rt : Rt ad h) (ra : Ra ad h) (rp : Rp n ad h) (rf : Rf ad h) (rst : Rst sa h) (ru : Ru n ad pa np h) (rs : Rs ad z0 mid pa np h) (hu : u < 250) (lu : live ad h u) (q2 : craR ad z0 pa np h u (mid u)) (z2 : hI h (ad 35) u = nI sB) (hk : k ≤ m) (hA : i + m ≤ sA) (hB : j + m ≤ sB) (sA3 : sA ≤ 8) (sB3 : sB ≤ 8)
    (ent : ∀ p, p < k → ∀ x r, hL h (ad 36) (30 * t + i + p) = x → hR h (mid t + 1) (i + p) = r → (x = -1 ∧ r = none) ∨ ∃ q, q < np ∧ x = lN (1000 + q) ∧ r = some (pa q) ∧ ∃ kq, hI h (ad 37) q = nI kq ∧ kq < 7 ∧ ofK kq ku = true)
    (c : CS ad h C (mid u + 1) (va_cpy (hR h (mid t + 1)) (hR h (mid u + 1)) i j k) y) (mc : MC ad C M t u i j m k) : Rel n ad sa z0 (sI M (ad 30) 11 y) := by
  obtain ⟨⟨x1, x2, x3, x4⟩, cI, cy, cL, cD, cR, cE⟩ := c
  obtain ⟨⟨m1, m2, m3, m4⟩, mI, mD, mR, mL, -, mE⟩ := mc
  obtain ⟨w1, w2, w3, w4, kk, ⟨w5, w6, w7, w8⟩, sB', w9, w10, w11, w12⟩ := id q2
  obtain rfl : sB' = sB := (nI_eq (by omega) (by omega)).mp (w11.symm.trans z2)
  obtain rfl : kk = ku := (nI_eq (by omega) (by omega)).mp (w8.symm.trans hku)
  have eI : ∀ a j, ¬ (a = ad 0 ∧ j = 6) → ¬ (a = ad 30 ∧ j = 11) → hI (sI M (ad 30) 11 y) a j = hI h a j := by
    intro a j h0 h3
    rw [hI_sI, if_neg h3, mI, cI a j h0]
  have gL : ∀ a, a ≠ ad 36 → a ≠ ad 41 → hL (sI M (ad 30) 11 y) a = hL h a := fun a h1 h2 => (mL a h1 h2).trans (congrFun cL a)
  have gR : ∀ a, a ≠ mid u + 1 → hR (sI M (ad 30) 11 y) a = hR h a := fun a h1 => (congrFun mR a).trans (cR a h1)
  have e36 : ∀ p, hL (sI M (ad 30) 11 y) (ad 36) p = va_cpy (hL h (ad 36)) (hL h (ad 36)) (30 * t + i) (30 * u + j) k p := fun p => by
    show hL M (ad 36) p = _
    rw [mE, cL]
  have eU : hR (sI M (ad 30) 11 y) (mid u + 1) = va_cpy (hR h (mid t + 1)) (hR h (mid u + 1)) i j k := (congrFun mR _).trans cE
  have ry : hI (sI M (ad 30) 11 y) (ad 0) 6 = hI (sI M (ad 30) 11 y) (ad 30) 11 := by
    rw [I_eq, I_ne (fx_ne fx (by decide)), mI, cy]
  have i0 : ∀ i j, i ≠ 0 → i ≠ 30 → hI (sI M (ad 30) 11 y) (ad i) j = hI h (ad i) j := fun i j h0 h30 => eI _ j (fun e => h0 (fx_inj fx e.1)) (fun e => h30 (fx_inj fx e.1))
  have eT : hT (sI M (ad 30) 11 y) = hT h := m1.trans x1
  have eN : hN (sI M (ad 30) 11 y) = hN h := m2.trans x2
  have ed : ∀ a, z0 ≤ a → hL (sI M (ad 30) 11 y) a = hL h a := fun a ha => gL a (dy_ad fx (.inl (by decide)) ha) (dy_ad fx (.inl (by decide)) ha)
  have ei : ∀ a, z0 ≤ a → hI (sI M (ad 30) 11 y) a = hI h a := fun a ha => funext fun j => eI a j (fun e => dy_ad fx (.inl (by decide)) ha e.1) (fun e => dy_ad fx (.inl (by decide)) ha e.1)
  have en : ∀ p, p < sB' → (hL (sI M (ad 30) 11 y) (ad 36) (30 * u + p) = hL h (ad 36) (30 * u + p) ∧ hR (sI M (ad 30) 11 y) (mid u + 1) p = hR h (mid u + 1) p) ∨ ∃ p', p' < k ∧ hL (sI M (ad 30) 11 y) (ad 36) (30 * u + p) = hL h (ad 36) (30 * t + i + p') ∧ hR (sI M (ad 30) 11 y) (mid u + 1) p = hR h (mid t + 1) (i + p') := by
    intro p hp
    rw [e36, eU]
    by_cases e : j ≤ p ∧ p < j + k
    · refine .inr ⟨p - j, by omega, ?_, pk_cpy_in e.1 e.2⟩
      rw [pk_cpy_in (by omega) (by omega), show 30 * t + i + (30 * u + p - (30 * u + j)) = 30 * t + i + (p - j) by omega]
    · exact .inl ⟨pk_cpy_out (by omega), pk_cpy_out (by omega)⟩
  refine Rel.asm (h := h) (mid := mid) fx rt ra rp rf rst ru eT eN (m3.trans x3) eI (fun i hd h1 h2 => gL _ (fun e => h1 (fx_inj fx e)) (fun e => h2 (fx_inj fx e))) (fun a ha => gR a (by omega)) (mD.trans cD) ry ?_
  refine Rs.blk fx rs hu lu (.inr (.inr q2)) eT eN (m3.trans x3) eI (fun a ha h1 => ed a ha) (fun a ha h1 => gR a h1) (gL _ (fx_ne fx (by decide)) (fx_ne fx (by decide))) (fun v hv p hp => ?_) (gR _ (ad_dy fx (.inl (by decide)) (by omega))) (.inr (.inr ⟨?_, w2, ?_, ?_, kk, ⟨w5, by rw [ei _ w2]; exact w6, (i0 33 u (by decide) (by decide)).trans w7, (i0 34 u (by decide) (by decide)).trans w8⟩, sB', w9, ?_, (i0 35 u (by decide) (by decide)).trans w11, fun p hp => ?_⟩)) (fun v hv lv => ?_)
  · rw [e36]; exact pk_cpy_out (by omega)
  · rw [eT]; exact w1
  · rw [gR _ (by omega)]; exact w3
  · rw [eT]; exact w4
  · rw [eN]; exact w10
  · have e37 : ∀ q, hI (sI M (ad 30) 11 y) (ad 37) q = hI h (ad 37) q := fun q => i0 37 q (by decide) (by decide)
    rcases en p hp with ⟨e1, e2⟩ | ⟨p', hp', e1, e2⟩
    · rw [e1, e2]
      rcases w12 p hp with a | ⟨q, a1, a2, a3, kq, a4, a5⟩
      · exact .inl a
      · exact .inr ⟨q, a1, a2, a3, kq, (e37 q).trans a4, a5⟩
    · rw [e1, e2]
      rcases ent p' hp' _ _ rfl rfl with a | ⟨q, a1, a2, a3, kq, a4, a5⟩
      · exact .inl a
      · exact .inr ⟨q, a1, a2, a3, kq, (e37 q).trans a4, a5⟩
  · rcases lv with ⟨c, c1, c2⟩ | ⟨c, g, p, sz, c1, c2, c3, c4, c5, c6, c7, c8⟩
    · exact .inl ⟨c, c1, by rw [← c2]; exact (i0 31 _ (by decide) (by decide)).symm⟩
    · rw [i0 31 _ (by decide) (by decide)] at c3
      rw [i0 33 _ (by decide) (by decide)] at c4
      rw [i0 35 _ (by decide) (by decide)] at c5
      have gu : g ≠ u := fun e => by rw [e, w7] at c4; exact absurd c4 (by decide)
      rw [e36, pk_cpy_out (by omega)] at c8
      exact .inr ⟨c, g, p, sz, c1, c2, c3, c4, c5, c6, c7, c8⟩
end BS

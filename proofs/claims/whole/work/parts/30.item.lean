/-! ===== an item of a row is written ===== -/
section IT
variable {n : Nat} {ad sa : Nat → Nat} {z0 : Nat} {mid pa : Nat → Nat} {np : Nat} {h : mH}
theorem Rs.item (fx : FX n ad sa z0 h) (r : Rs ad z0 mid pa np h) {t i sz ln : Nat} (ht : t < 250) (hl : live ad h t) (q : rowR ad z0 h t (mid t) ln) (hsz : hI h (ad 35) t = nI sz) (hi : i < sz) (hs : sz ≤ 30) {v : Int64} (hv : canL ln v) :
    Rs ad z0 mid pa np (sL (sL h (mid t + 1) i v) (ad 36) (30 * t + i) v) := by
  obtain ⟨w1, w2, w3, w4, ⟨w5, w6, w7, w8⟩, sz', w9, w10, w11, w12⟩ := id q
  have esz : sz' = sz := (nI_eq (by omega) (by omega)).mp (w11.symm.trans hsz)
  subst esz
  have d36 : ad 36 ≠ mid t + 1 := ad_dy fx (.inl (by decide)) (by omega)
  have fA : ∀ a, z0 ≤ a → a ≠ mid t + 1 → smA h (sL (sL h (mid t + 1) i v) (ad 36) (30 * t + i) v) a := by
    intro a ha hne
    refine ⟨rfl, rfl, rfl, ?_, rfl⟩
    funext j
    exact (L_ne (dy_ad fx (.inl (by decide)) ha)).trans (L_ne hne)
  have fT : ∀ u, u ≠ t → smT ad h (sL (sL h (mid t + 1) i v) (ad 36) (30 * t + i) v) u := by
    intro u hu
    exact ⟨rfl, rfl, rfl, fun j hj => (L_nk (by omega)).trans (L_ne d36)⟩
  have own : rowR ad z0 (sL (sL h (mid t + 1) i v) (ad 36) (30 * t + i) v) t (mid t) ln := by
    refine ⟨w1, w2, w3, w4, ⟨w5, w6, w7, w8⟩, sz', w9, w10, w11, fun j hj => ?_⟩
    by_cases e : j = i
    · subst e
      rw [L_eq, L_ne d36.symm, L_eq]
      exact ⟨rfl, hv⟩
    · rw [L_ne d36.symm, L_nk e, L_nk (by omega), L_ne d36]
      exact w12 j hj
  have rowT : ∀ u l', u < 250 → live ad h u → rowR ad z0 h u (mid u) l' → rowR ad z0 (sL (sL h (mid t + 1) i v) (ad 36) (30 * t + i) v) u (mid u) l' := by
    intro u l' hu hlu qu
    by_cases e : u = t
    · subst e
      have : l' = ln := (nI_eq (by have := qu.2.2.2.2.1.1; omega) (by omega)).mp (qu.2.2.2.2.1.2.1.symm.trans w6)
      subst this; exact own
    · have hm : mid u ≠ mid t := fun e' => e (r.2.2.1 u t hu ht hlu hl e')
      refine qu.c (fA _ qu.2.1 (fun e' => ?_)) (fA _ (by have := qu.2.1; omega) (fun e' => hm (by omega))) (fT u e)
      have := qu.1; rw [e', w4] at this; cases this
  have ne6 : ∀ a, hT h a = 6 → a ≠ mid t + 1 := fun a ha e' => by rw [e', w4] at ha; cases ha
  have ne24 : ∀ a, hT h a = 24 → a ≠ mid t + 1 := fun a ha e' => by rw [e', w4] at ha; cases ha
  have net : ∀ u, hT h (mid u) = 6 → u ≠ t := fun u hu e' => by rw [e', w1] at hu; cases hu
  have cas : ∀ c, c < 24 → caR ad z0 mid pa np (sL (sL h (mid t + 1) i v) (ad 36) (30 * t + i) v) (hI h (ad 31) c) (hR h (ad 1) c) := by
    intro c hc
    rcases r.2.1 c hc with w | w | ⟨u, u1, u2, u3, u4⟩
    · exact .inl w
    · exact .inr (.inl w)
    · refine .inr (.inr ⟨u, u1, u2, u3, ?_⟩)
      rcases u4 with ⟨l', u4⟩ | u4 | u4
      · exact .inl ⟨l', rowT u l' u1 (.inl ⟨c, hc, u2⟩) u4⟩
      · refine .inr (.inl (u4.c (fA _ u4.2.1 (ne6 _ u4.1)) (fA _ (by have := u4.2.1; omega) (ne24 _ u4.2.2.2.1)) (fT u (net u u4.1)) ?_))
        intro j t' s8 hs8 e35 hj ht' e36 qr
        exact ⟨rfl, rowT t' 3 ht' (.inr ⟨c, u, j, s8, hc, u1, u2, u4.2.2.2.2.1.2.1, e35, hs8, hj, e36⟩) qr⟩
      · exact .inr (.inr (u4.c (fA _ u4.2.1 (ne6 _ u4.1)) (fA _ (by have := u4.2.1; omega) (ne24 _ u4.2.2.2.1)) (fT u (net u u4.1)) (Nat.le_refl _) (fun _ _ => ⟨rfl, rfl⟩)))
  have hlive : ∀ u, live ad (sL (sL h (mid t + 1) i v) (ad 36) (30 * t + i) v) u → live ad h u := by
    intro u lu
    rcases lu with lu | ⟨c, g, j, s8, e1, e2, e3, e4, e5, e6, e7, e8⟩
    · exact .inl lu
    · refine .inr ⟨c, g, j, s8, e1, e2, e3, e4, e5, e6, e7, ?_⟩
      have hg : g ≠ t := fun e' => by
        have e4' : hI h (ad 33) g = 8 := e4
        rw [e', w7] at e4'
        have := (nI_eq (a := ln) (b := 8) (by omega) (by omega)).mp e4'; omega
      rw [L_nk (by omega), L_ne d36] at e8
      exact e8
  refine ⟨?_, cas, fun a b ha hb la lb => r.2.2.1 a b ha hb (hlive a la) (hlive b lb), r.2.2.2⟩
  obtain ⟨p1, p2, p3, p4, p5⟩ := r.1
  refine ⟨p1, p2, p3, fun q hq => ?_, p5⟩
  obtain ⟨x1, x2, x3, x4, x5, x6⟩ := p4 q hq
  refine ⟨x1, x2, x3, x4, x5, ?_⟩
  have hne : pa q ≠ mid t + 1 := fun e' => by rw [e', w4] at x1; cases x1
  rw [L_ne (dy_ad fx (.inl (by decide)) x2), L_ne hne, L_ne (fx_ne fx (by decide)), L_ne (ad_dy fx (.inl (by decide)) (by omega))]
  exact x6
end IT
theorem Rel_item {n : Nat} {ad sa : Nat → Nat} {z0 : Nat} {mid pa : Nat → Nat} {np : Nat} {h : mH} (fx : FX n ad sa z0 h) (ry : Ry ad h) (rt : Rt ad h) (ra : Ra ad h) (rp : Rp n ad h) (rf : Rf ad h) (rst : Rst sa h) (ru : Ru n ad pa np h) (rs : Rs ad z0 mid pa np h) {t i sz ln : Nat} (ht : t < 250) (hl : live ad h t) (q : rowR ad z0 h t (mid t) ln) (hsz : hI h (ad 35) t = nI sz) (hi : i < sz) (hs : sz ≤ 30) {v : Int64} (hv : canL ln v) :
    Rel n ad sa z0 (sL (sL h (mid t + 1) i v) (ad 36) (30 * t + i) v) := by
  have c : Chf n ad [] [36] h (sL (sL h (mid t + 1) i v) (ad 36) (30 * t + i) v) := by
    intro a j hd _ hn
    have hz := q.2.1
    exact ⟨rfl, (L_ne (fx_ne fx (fun e => hn (by rw [e]; exact List.mem_cons_self)))).trans (L_ne (ad_dy fx hd (by omega))), rfl, rfl⟩
  exact ⟨mid, pa, np, fx, ry, rt, ra, rp, rf, rst, Ru.k fx ru c (by decide), rs.item fx ht hl q hsz hi hs hv⟩

/-! ===== act ===== -/
section KA
variable {n np : Nat} {ad sa : Nat → Nat} {z0 : Nat} {mid pa : Nat → Nat} {h hm hc hz G : mH} {p : Nat} {R : aR}
/-- an act that went well -/
theorem act_s (fx : FX n ad sa z0 h) (rt : Rt ad h) (rp : Rp n ad h) (rf : Rf ad h) (rst : Rst sa h) (ru : Ru n ad pa np h) (rs : Rs ad z0 mid pa np h) (hp : p < 10) (eR : gPln (aPl ad h) 8 p (aS0 ad h) = R) (x : HM n ad sa z0 h hm) (r : RC n np ad mid pa (aLV ad h) (aPl ad h) hm hc 0 (gBk (R.2.2.1 0) R.2.2 0).1) (h8 : hI hc (ad 9) 8 = (if R.1 = 1 then R.2.1 else 0))
    (ez : hz = sI (sI hc (ad 13) 2 0) (ad 9) 13 (nI (gBk (R.2.2.1 0) R.2.2 0).2)) (mf : MFr ad hz G) (mv : MV ad G (gBk (R.2.2.1 0) R.2.2 0).1 (if R.1 = 1 then R.2.1 else 0) (gBk (R.2.2.1 0) R.2.2 0).2) (g31 : ∀ c, hI G (ad 31) c = (gBk (R.2.2.1 0) R.2.2 0).1.2.1 31 c) (g57 : ∀ k, hI G (ad 57) k = (gBk (R.2.2.1 0) R.2.2 0).1.2.1 57 k) (g36 : ∀ k, hL G (ad 36) k = (gBk (R.2.2.1 0) R.2.2 0).1.2.2 k) (e11 : hI G (ad 30) 11 = 0) : Rel n ad sa z0 G ∧ hZ G = hZ h ∧ hU G = hU h := by
  have vp := vp_h fx rp rs
  have vs := vs_h ru rs
  have gk := gPln_ok vp 8 p (aS0 ad h) hp vs
  rw [eR] at gk
  obtain ⟨b1, b2, b3⟩ := gBk_k (R.2.2.1 0) R.2.2 0
  generalize (gBk (R.2.2.1 0) R.2.2 0).1 = S at *
  generalize (gBk (R.2.2.1 0) R.2.2 0).2 = g at *
  obtain ⟨cf, ⟨⟨c1, c2, c3, c4, c5, c6⟩, c7, c8, c9⟩, ⟨d1, d2, d3⟩, W, x1, x2, x3, x4, x5, x6, x7⟩ := r
  have zI : ∀ a j, a ≠ ad 9 → a ≠ ad 13 → hI hz a j = hI hc a j := fun a j h1 h2 => by rw [ez, I_ne h1, I_ne h2]
  have z9 : ∀ j, j ≠ 13 → hI hz (ad 9) j = hI hc (ad 9) j := fun j h1 => by rw [ez, I_nk h1, I_ne (fx_ne fx (by decide))]
  have zL : hL hz = hL hc := by rw [ez]; rfl
  have zR : hR hz = hR hc := by rw [ez]; rfl
  have zD : hD hz = hD hc := by rw [ez]; rfl
  have zT : hT hz = hT hc ∧ hN hz = hN hc ∧ hZ hz = hZ hc ∧ hU hz = hU hc := by rw [ez]; exact ⟨rfl, rfl, rfl, rfl⟩
  have fxz : FX n ad sa z0 hz := by rw [ez]; exact FX.sI (FX.sI (cf.fx x.1))
  have gR : hR G = hR hc := mf.2.2.1.trans zR
  have gI : ∀ i j, i ≠ 30 → ¬ (i = 31 ∨ 48 ≤ i ∧ i ≤ 59) → i ≠ 9 → i ≠ 13 → hI G (ad i) j = hI hc (ad i) j := fun i j h1 h2 h3 h4 => by rw [mf.i fxz h1 h2, zI _ _ (fx_ne fx h3) (fx_ne fx h4)]
  have g9 : ∀ j, j ≠ 13 → hI G (ad 9) j = hI hc (ad 9) j := fun j hj => by rw [mf.i fxz (i := 9) (by decide) (by decide), z9 j hj]
  have e56 : ∀ t, t < n → S.2.1 56 t = 0 := fun t ht => by
    rw [b2 56 (by decide), gk.2.2]
    show hI h (ad 56) t = 0
    exact (ru.2 t ht).2.1.2
  have gL : ∀ a j, a ≠ ad 36 → a ≠ ad 60 → hL G a j = hL hc a j := fun a j h1 h2 => by rw [mf.2.2.2.2 a h1 h2, zL]
  have s2 : S.1 2 ≤ 100 := by
    have q1 := gk.1.1
    have q2 := gk.1.2.2.1
    rw [b1]; omega
  refine ⟨?_, by rw [mf.1.2.2.1, zT.2.2.1, cf.1.2.2.1, x.2.1.2.2.1], by rw [mf.1.2.2.2, zT.2.2.2, cf.1.2.2.2, x.2.1.2.2.2]⟩
  refine act_rel (LV := aLV ad h) (P := aPl ad h) (mid := mid) (pa := pa) (np := np) fx rt rp rf rst ru rs (fun _ => Iff.rfl) (fun _ => rfl) (fun _ => rfl) (mf.fx fxz) (by rw [mf.1.1, zT.1, cf.1.1, x.2.1.1]) (by rw [mf.1.2.1, zT.2.1, cf.1.2.1, x.2.1.2.1]) (by rw [mf.1.2.2.1, zT.2.2.1, cf.1.2.2.1, x.2.1.2.2.1]) (by rw [mf.2.1, zD, cf.2.1, x.2.2.1]) (fun a j q => ?_) (fun a q h9 h17 h18 => ?_) ?_ ⟨?_, ?_, ?_, ?_, ?_, S.1 2, s2, ?_, mv.1.2.2.2.2.2, fun i h1 h2 => ?_⟩ (fun t ht => ⟨?_, ?_⟩) (fun c hc' => ?_) (fun t s ht hs => ?_) (fun t j w => ?_) (fun a j h1 h2 h3 q => ?_) (fun k _ q => ?_)
  · rw [mf.2.2.2.1 a j q.2.2.1 q.2.2.2, zI a j q.1.2 q.1.1.2.1, cf.2.2.1 a j q.1.1]
    exact x.2.2.2.2.1 a j q.1.1 q.2.1 q.1.2
  · rw [gR, cf.2.2.2 a q]
    exact x.2.2.2.2.2.2.1 a h9 h17 h18
  · unfold Ry
    rw [e11, gI 0 6 (by decide) (by decide) (by decide) (by decide), cf.2.2.1 _ _ (cI_ad fx (by decide) (by decide))]
    exact x.2.2.2.2.2.1.1.2.2
  · rw [g9 8 (by decide), h8]; exact mv.1.1.symm
  · rw [g9 9 (by decide), c2]; exact mv.1.2.1.symm
  · rw [g9 10 (by decide), c4]; exact mv.1.2.2.1.symm
  · rw [g9 12 (by decide), c6]; exact mv.1.2.2.2.1.symm
  · rw [mf.i fxz (i := 9) (by decide) (by decide), ez, I_eq]; exact mv.1.2.2.2.2.1.symm
  · rw [g9 11 (by decide)]; exact c3
  · rw [gI 12 i (by decide) (by decide) (by decide) (by decide), c7 i h1 h2]; exact (mv.2.1 i).symm
  · rw [gI (100 + 5 * t) 9 (by omega) (by omega) (by omega) (by omega), c9 t ht]; exact e56 t ht
  · rw [mv.2.2 t]; exact e56 t ht
  · rw [g31 c, gR]; exact d1 c hc'
  · rw [g57, gR]; exact d3 t s ht hs
  · have zt := (cw_h fx rp rst rs x).2.2.2.1 t w.1 w.2.1
    rw [gL _ _ (dy_ad fx (.inl (by decide)) (by have := zt.1; omega)) (dy_ad fx (.inl (by decide)) (by have := zt.1; omega)), g36]
    exact x3 t j w
  · rw [gL a j h2 h3, x4 a j h1 q, x.2.2.2.1]
  · rw [g36, x5 k q, x.2.2.2.1]
/-- an act that failed -/
theorem act_f (fx : FX n ad sa z0 h) (rt : Rt ad h) (rp : Rp n ad h) (rf : Rf ad h) (rst : Rst sa h) (ru : Ru n ad pa np h) (rs : Rs ad z0 mid pa np h) (hp : p < 10) (eR : gPln (aPl ad h) 8 p (aS0 ad h) = R) (x : HM n ad sa z0 h hm) (r : RC n np ad mid pa (aLV ad h) (aPl ad h) hm hc 0 R.2.2) (h8 : hI hc (ad 9) 8 = 0) (h13 : hI hc (ad 9) 13 = hI hm (ad 9) 13) {W : Nat} (uu : ∀ a j, a ≠ ad 21 → unN ad hc W (hL hc) a j = hL hm a j) (bz : BRB n ad W n hc hz)
    (mf : MFr ad (sI hz (ad 0) 6 R.1) G) (mv : MV ad G R.2.2 0 0) (g31 : ∀ c, c < 24 → hI G (ad 31) c = hI (sI hz (ad 0) 6 R.1) (ad 31) c) (g57 : ∀ k, k < 30 → hI G (ad 57) k = hI (sI hz (ad 0) 6 R.1) (ad 57) k) (g36 : ∀ k, k < 7500 → hL G (ad 36) k = hL (sI hz (ad 0) 6 R.1) (ad 36) k) (e11 : hI G (ad 30) 11 = R.1) : Rel n ad sa z0 G ∧ hZ G = hZ h ∧ hU G = hU h := by
  have vp := vp_h fx rp rs
  have vs := vs_h ru rs
  have gk := gPln_ok vp 8 p (aS0 ad h) hp vs
  rw [eR] at gk
  have it0 := (rc_h fx ru rs x).2.2.2
  obtain ⟨W0, -, -, i3, -, -, -, -⟩ := it0
  obtain ⟨cf, ⟨⟨c1, c2, c3, c4, c5, c6⟩, c7, c8, c9⟩, -, -⟩ := r
  obtain ⟨y1, y2, y3, y4, y5, y6, y7⟩ := id bz
  have fxc := cf.fx x.1
  have fxz : FX n ad sa z0 (sI hz (ad 0) 6 R.1) := FX.sI (bz.fx (Nat.le_refl n) fxc)
  have zI : ∀ a j, ¬ (a = ad 0 ∧ j = 6) → hI (sI hz (ad 0) 6 R.1) a j = hI hc a j := fun a j h1 => by rw [hI_sI, if_neg h1, y3]
  have zL : ∀ a j, a ≠ ad 21 → hL (sI hz (ad 0) 6 R.1) a j = hL h a j := fun a j h1 => by
    show hL hz a j = hL h a j
    rw [y4, uu a j h1, x.2.2.2.1]
  have gR : hR G = hR hz := mf.2.2.1
  have zi0 : ∀ i j, i ≠ 0 → ¬ (ad i = ad 0 ∧ j = 6) := fun i j hi e => hi (fx_inj fx e.1)
  have gI : ∀ i j, i ≠ 30 → ¬ (i = 31 ∨ 48 ≤ i ∧ i ≤ 59) → i ≠ 0 → hI G (ad i) j = hI hc (ad i) j := fun i j h1 h2 h3 => by rw [mf.i fxz h1 h2, zI _ _ (zi0 i j h3)]
  have hI' : ∀ i j, 30 ≤ i → i < 76 → hI (sI hz (ad 0) 6 R.1) (ad i) j = hI h (ad i) j := fun i j h1 h2 => by
    rw [zI _ _ (zi0 i j (by omega)), cf.2.2.1 _ _ (cI_ad fx (by omega) (by omega))]
    exact x.i fx (by omega) (by omega)
  have gL : ∀ a j, a ≠ ad 36 → a ≠ ad 60 → a ≠ ad 21 → hL G a j = hL h a j := fun a j h1 h2 h3 => by rw [mf.2.2.2.2 a h1 h2, zL a j h3]
  have gI36 : ∀ k, k < 7500 → hL G (ad 36) k = hL h (ad 36) k := fun k hk => by rw [g36 k hk, zL _ _ (fx_ne fx (by decide))]
  have e56 : ∀ t, t < n → R.2.2.2.1 56 t = 0 := fun t ht => by
    rw [gk.2.2]
    show hI h (ad 56) t = 0
    exact (ru.2 t ht).2.1.2
  have s2 : R.2.2.1 2 ≤ 100 := by
    have q1 := gk.1.1
    have q2 := gk.1.2.2.1
    omega
  have n6 := (fx_k fx).2
  refine ⟨?_, by rw [mf.1.2.2.1]; show hZ hz = _; rw [y1.2.2.1, cf.1.2.2.1, x.2.1.2.2.1], by rw [mf.1.2.2.2]; show hU hz = _; rw [y1.2.2.2, cf.1.2.2.2, x.2.1.2.2.2]⟩
  refine act_rel (LV := aLV ad h) (P := aPl ad h) (mid := mid) (pa := pa) (np := np) fx rt rp rf rst ru rs (fun _ => Iff.rfl) (fun _ => rfl) (fun _ => rfl) (mf.fx fxz) (by rw [mf.1.1]; show hT hz = _; rw [y1.1, cf.1.1, x.2.1.1]) (by rw [mf.1.2.1]; show hN hz = _; rw [y1.2.1, cf.1.2.1, x.2.1.2.1]) (by rw [mf.1.2.2.1]; show hZ hz = _; rw [y1.2.2.1, cf.1.2.2.1, x.2.1.2.2.1]) (by rw [mf.2.1]; show hD hz = _; rw [y2, cf.2.1, x.2.2.1]) (fun a j q => ?_) (fun a q h9 h17 h18 => ?_) ?_ ⟨?_, ?_, ?_, ?_, ?_, R.2.2.1 2, s2, ?_, mv.1.2.2.2.2.2, fun i h1 h2 => ?_⟩ (fun t ht => ⟨?_, ?_⟩) (fun c hc' => ?_) (fun t s ht hs => ?_) (fun t j w => ?_) (fun a j h1 h2 h3 q => gL a j h2 h3 h1) (fun k hk q => gI36 k hk)
  · rw [mf.2.2.2.1 a j q.2.2.1 q.2.2.2, zI a j q.2.1, cf.2.2.1 a j q.1.1]
    exact x.2.2.2.2.1 a j q.1.1 q.2.1 q.1.2
  · rw [gR, y5 a q.1 (fun t ht => q.2.2.2 t ht), cf.2.2.2 a q]
    exact x.2.2.2.2.2.2.1 a h9 h17 h18
  · unfold Ry
    rw [e11, mf.i fxz (i := 0) (by decide) (by decide), I_eq]
  · rw [gI 9 8 (by decide) (by decide) (by decide), h8]; exact mv.1.1.symm
  · rw [gI 9 9 (by decide) (by decide) (by decide), c2]; exact mv.1.2.1.symm
  · rw [gI 9 10 (by decide) (by decide) (by decide), c4]; exact mv.1.2.2.1.symm
  · rw [gI 9 12 (by decide) (by decide) (by decide), c6]; exact mv.1.2.2.2.1.symm
  · rw [gI 9 13 (by decide) (by decide) (by decide), h13, x.2.2.2.2.2.1.2.1 13 (by decide) (by decide)]; exact mv.1.2.2.2.2.1.symm
  · rw [gI 9 11 (by decide) (by decide) (by decide)]; exact c3
  · rw [gI 12 i (by decide) (by decide) (by decide), c7 i h1 h2]; exact (mv.2.1 i).symm
  · rw [gI (100 + 5 * t) 9 (by omega) (by omega) (by omega), c9 t ht]; exact e56 t ht
  · rw [mv.2.2 t]; exact e56 t ht
  · rw [g31 c hc', hI' 31 c (by decide) (by decide), gR, y6 c hc', cf.2.2.2 (ad 17) (cR_ad fx (by decide) (fun t _ => by omega)), x.2.2.2.2.2.2.2.2.1 c hc']
    exact vr_h rs hc'
  · rw [g57 _ (by omega), hI' 57 _ (by decide) (by decide), gR, y7 t s ht hs, cf.2.2.2 (ad 18) (cR_ad fx (by decide) (fun u _ => by omega)), x.2.2.2.2.2.2.2.2.2 t s ht hs]
    exact (ru.2 t ht).2.2.2.2.2.2 s hs
  · have zt := ((cw_h fx rp rst rs x).2.2.2.1 t w.1 w.2.1).1
    have q := i3 t j w
    have s30 := (vp.2.2.2.2 t w.1 w.2.1).2
    have w4 := w.2.2.2
    have w1 := w.1
    rw [x.2.2.2.1] at q
    rw [gL _ _ (dy_ad fx (.inl (by decide)) (by omega)) (dy_ad fx (.inl (by decide)) (by omega)) (dy_ad fx (.inl (by decide)) (by omega)), gI36 _ (by omega), q]
    rfl
end KA
theorem k_act {n : Nat} {ad sa : Nat → Nat} {z0 : Nat} {h : mH} (r : Rel n ad sa z0 h) (p : Int32) : AP n ad sa z0 h 98 209 [.int p] := by
  obtain ⟨mid, pa, np, fx, ry, rt, ra, rp, rf, rst, ru, rs⟩ := id r
  unfold AP
  refine w_ca0 (d := 98) fx (fun c0 => ?_) (fun c0 c1 => ?_) (fun c0 c1 => ?_)
  · exact w_ma0 (d := 98) (FX.sI (FX.sI fx)) (fun _ => ⟨rfl, Rel.why r (((Chg.rf.sI (fx_j fx) (.inl (by decide))).sI (fx_j fx) (.inl (by decide))).sI (fx_j fx) (.inl (by decide))) ⟨rfl, by decide⟩ (Eq.trans (Eq.trans (I_ne (fx_ne fx (by decide))) I_eq) (Eq.symm I_eq)), Nat.le_add_right _ _, Nat.le_add_right _ _⟩) (fun a _ => absurd c0 a) (fun a _ => absurd c0 a)
  · exact w_ma0 (d := 98) (FX.sI (FX.sI fx)) (fun a => absurd a c0) (fun _ _ => ⟨rfl, Rel.why r (((Chg.rf.sI (fx_j fx) (.inl (by decide))).sI (fx_j fx) (.inl (by decide))).sI (fx_j fx) (.inl (by decide))) ⟨rfl, by decide⟩ (Eq.trans (Eq.trans (I_ne (fx_ne fx (by decide))) I_eq) (Eq.symm I_eq)), Nat.le_add_right _ _, Nat.le_add_right _ _⟩) (fun _ b => absurd c1 b)
  · have hp := ofP (x := p) ⟨c0, c1⟩
    obtain ⟨p', hp', rfl⟩ : ∃ p', p' < 10 ∧ p = nI p' := ⟨_, hp.1, hp.2⟩
    generalize eR : gPln (aPl ad h) 8 p' (aS0 ad h) = R
    refine c_perf fx rp rst ru rs hp' eR (fun hm hc f ef x rc h8 cz => ?_) (fun hm hc hz W f ef x rc h8 h13 uu bz cz => ?_)
    · generalize ez : sI (sI hc (ad 13) 2 0) (ad 9) 13 (nI (gBk (R.2.2.1 0) R.2.2 0).2) = hz
      have fxz : FX n ad sa z0 hz := by rw [← ez]; exact FX.sI (FX.sI (rc.1.fx x.1))
      refine w_ca1 (d := 98) fxz (fun z => ?_) (fun z => absurd (by rw [ef]; exact cz) z)
      have zI : ∀ a j, a ≠ ad 9 → a ≠ ad 13 → hI hz a j = hI hc a j := fun a j h1 h2 => by rw [← ez, I_ne h1, I_ne h2]
      refine m_act (X := hz) fx rp ru rs hp' eR fxz (fun i j h1 h2 => ?_) (fun j => ?_) (fun G f2 ef2 mf mv g31 g57 g36 e11 _ => ?_) (fun G f2 ef2 mf mv g31 g57 g36 e11 c2 => absurd cz c2)
      · rw [zI _ _ (fx_ne fx (by omega)) (fx_ne fx (by omega)), rc.1.2.2.1 _ _ (cI_ad fx (by omega) (by omega))]
        exact x.i fx (by omega) (by omega)
      · obtain ⟨W, -, -, -, x4, -⟩ := rc.2.2.2
        have e : hL hz (ad 36) j = hL hc (ad 36) j := by rw [← ez]; rfl
        rw [e, x4 (ad 36) j (fx_ne fx (by decide)) (fun t w => ad_dy fx (.inl (by decide)) (by have := ((cw_h fx rp rst rs x).2.2.2.1 t w.1 w.2.1).1; omega)), x.2.2.2.1]
      · obtain ⟨q1, q2, q3⟩ := act_s fx rt rp rf rst ru rs hp' eR x rc h8 ez.symm mf mv g31 g57 g36 e11
        exact ⟨by rw [ef, ef2], q1, by rw [q2]; omega, by rw [q3]; omega⟩
    · subst ef
      have fxz := bz.fx (Nat.le_refl n) (rc.1.fx x.1)
      refine w_ca1 (d := 98) fxz (fun z => absurd z cz) (fun z => ?_)
      refine m_act (X := sI hz (ad 0) 6 R.1) fx rp ru rs hp' eR (FX.sI fxz) (fun i j h1 h2 => ?_) (fun j => ?_) (fun G f2 ef2 mf mv g31 g57 g36 e11 c2 => absurd c2 cz) (fun G f2 ef2 mf mv g31 g57 g36 e11 _ => ?_)
      · rw [I_ne (fx_ne fx (by omega)), bz.2.2.1, rc.1.2.2.1 _ _ (cI_ad fx (by omega) (by omega))]
        exact x.i fx (by omega) (by omega)
      · show hL hz (ad 36) j = hL h (ad 36) j
        rw [bz.2.2.2.1, uu _ _ (fx_ne fx (by decide)), x.2.2.2.1]
      · obtain ⟨q1, q2, q3⟩ := act_f fx rt rp rf rst ru rs hp' eR x rc h8 h13 uu bz mf mv g31 g57 g36 e11
        exact ⟨by rw [ef2], q1, by rw [q2]; omega, by rw [q3]; omega⟩

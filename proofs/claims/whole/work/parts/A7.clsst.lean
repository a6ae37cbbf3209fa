/-! ===== the class's steps of an act, by the pure picture; printed ===== -/
/-- how the class tells a failure -/
def cRes (f : Int32) : Int32 := if f = 0 then 0 else -10 - f
theorem cF0 : (0 : Int32) = cRes 0 := by decide
theorem cF1 : (-11 : Int32) = cRes 1 := by decide
theorem cF2 : (-12 : Int32) = cRes 2 := by decide
theorem cF4 : (-14 : Int32) = cRes 4 := by decide
theorem cF5 : (-15 : Int32) = cRes 5 := by decide
theorem cF7 : (-17 : Int32) = cRes 7 := by decide
theorem unN_s {ad : Nat → Nat} {hc : mH} {k : Nat} {f : Nat → Nat → Int64} : unN ad hc (k + 1) f = unN ad hc k (u2 f ((hR hc (ad 19) k).getD 0 + 1) (hI hc (ad 20) k).toNatClampNeg (hL hc (ad 21) k)) := rfl
theorem uI_c {S : aS} {i j i' j' : Nat} {v v' : Int32} (hne : i ≠ i') : uI (uI S i j v) i' j' v' = uI (uI S i' j' v') i j v := by
  have e : u2 (u2 S.2.1 i j v) i' j' v' = u2 (u2 S.2.1 i' j' v') i j v := by
    funext a b
    unfold u2
    by_cases h1 : a = i' ∧ b = j'
    · rw [if_pos h1, if_neg (fun z => hne (z.1.symm.trans h1.1)), if_pos h1]
    · by_cases h2 : a = i ∧ b = j
      · rw [if_neg h1, if_pos h2, if_pos h2]
      · rw [if_neg h1, if_neg h2, if_neg h2, if_neg h1]
  exact congrArg (fun f => ((S.1, f, S.2.2) : aS)) e
theorem gPush_c {S : aS} {j : Nat} {v o x : Int32} : gPush (uI S 57 j x) v o = uI (gPush S v o) 57 j x := by
  show uN (uI (uI (uI S 57 j x) 54 (S.1 0) v) 55 (S.1 0) o) 0 (S.1 0 + 1) = uN (uI (uI (uI S 54 (S.1 0) v) 55 (S.1 0) o) 57 j x) 0 (S.1 0 + 1)
  rw [uI_c (i := 57) (i' := 54) (by decide), uI_c (i := 57) (i' := 55) (by decide)]
section CDS
variable {n np : Nat} {ad sa : Nat → Nat} {z0 : Nat} {mid pa : Nat → Nat} {LV : Nat → Prop} {P : aP} {h hc hc' : mH} {w : Nat} {S : aS} {Q : mQ} {d A dp : Nat}
theorem RC.f5 (fx : FX n ad sa z0 h) (cw : CW np ad mid pa LV P h sa z0) (r : RC n np ad mid pa LV P h hc w S) : hR hc (ad 9) 5 = some (ad 1) ∧ hR hc (ad 9) 6 = some (ad 7) := by
  rw [r.1.2.2.2 (ad 9) (cR_ad fx (by decide) (fun t _ => by omega))]; exact cw.2.1
theorem RC.rst (fx : FX n ad sa z0 h) (cw : CW np ad mid pa LV P h sa z0) (r : RC n np ad mid pa LV P h hc w S) : Rst sa hc := by
  intro j hj i hi
  have ne : ∀ k, dom n k → sa j ≠ ad k := fun k hk => (fx_lt fx hk).2.2 j hj
  rw [r.1.2.2.1 (sa j) i ⟨ne 12 (.inl (by decide)), ne 13 (.inl (by decide)), ne 15 (.inl (by decide)), ne 16 (.inl (by decide)), ne 20 (.inl (by decide)), fun e => ne 9 (.inl (by decide)) e.1, fun t ht e => ne (100 + 5 * t) (.inr ⟨by omega, by omega⟩) e.1⟩]
  exact cw.1 j hj i hi
/-- a part, as the class has it now -/
theorem RC.prt (fx : FX n ad sa z0 h) (cw : CW np ad mid pa LV P h sa z0) (r : RC n np ad mid pa LV P h hc w S) {q : Nat} (hq : q < np) : hT hc (pa q) = 4 ∧ z0 ≤ pa q ∧ hI hc (pa q) 0 = nI (P.kd q) := by
  obtain ⟨a1, a2, a3⟩ := cw.2.2.1 q hq
  rw [r.1.1.1, r.1.2.2.1 (pa q) 0 (cI_dy fx a2)]
  exact ⟨a1, a2, a3⟩
/-- a thing, as the class has it now -/
theorem RC.thg (fx : FX n ad sa z0 h) (cw : CW np ad mid pa LV P h sa z0) (r : RC n np ad mid pa LV P h hc w S) {t : Nat} (ht : t < 250) (lt : LV t) : z0 ≤ mid t ∧ ((hT hc (mid t) = 5 ∧ hR hc (mid t) 1 = some (mid t + 1) ∧ hT hc (mid t + 1) = 21 ∧ P.so t < 8 ∧ hI hc (mid t) 0 = nI (P.so t) ∧ hN hc (mid t + 1) = P.sz t) ∨ (hT hc (mid t) = 6 ∧ 8 ≤ P.so t)) := by
  obtain ⟨a1, a2⟩ := cw.2.2.2.1 t ht lt
  rw [r.1.1.1, r.1.1.2.1, r.1.2.2.1 (mid t) 0 (cI_dy fx a1), r.1.2.2.2 (mid t) (cR_dy fx a1)]
  exact ⟨a1, a2⟩
theorem RC.okE (hp : np ≤ 60) (fx : FX n ad sa z0 h) (cw : CW np ad mid pa LV P h sa z0) (r : RC n np ad mid pa LV P h hc w S) {v : Int32} {x : Nat} (hv : vR np mid pa LV v (some x)) : okE 24 (hT hc x) ∧ v ≠ -1 := by
  rcases hv with ⟨-, e⟩ | ⟨q, hq, e1, e2⟩ | ⟨t, ht, lt, e1, e2⟩
  · cases e
  · cases e2
    exact ⟨.inl (r.prt fx cw hq).1, by rw [e1]; exact nI_nm1 (by omega)⟩
  · cases e2
    refine ⟨?_, by rw [e1]; exact nI_nm1 (by omega)⟩
    rcases (r.thg fx cw ht lt).2 with ⟨e, -⟩ | ⟨e, -⟩
    · exact .inr (.inl e)
    · exact .inr (.inr e)
theorem vR.nn {v : Int32} {x : Option Nat} (hv : vR np mid pa LV v x) (hn : v ≠ -1) : ∃ y, x = some y := by
  rcases hv with ⟨e, -⟩ | ⟨q, -, -, e⟩ | ⟨t, -, -, -, e⟩
  · exact absurd e hn
  · exact ⟨_, e⟩
  · exact ⟨_, e⟩
theorem vR.zz {v : Int32} {x : Option Nat} (hp : np ≤ 60) (hv : vR np mid pa LV v x) (hn : v = -1) : x = none := by
  rcases hv with ⟨-, e⟩ | ⟨q, hq, e1, -⟩ | ⟨t, ht, -, e1, -⟩
  · exact e
  · rw [hn] at e1
    exact absurd e1.symm (nI_nm1 (by omega))
  · rw [hn] at e1; exact absurd e1.symm (nI_nm1 (by omega))
/-- one item written -/
theorem RC.wr0 {t b : Nat} {c v0 : Int64} {W : Nat} {hn : mH} (fx : FX n ad sa z0 h) (cw : CW np ad mid pa LV P h sa z0) (vp : VP n np LV P) (r : RC n np ad mid pa LV P h hc 1 S) (v : VS n np LV 1 S) (hw : wri LV P t b) (ew : hI hc (ad 16) 5 = nI W) (w1 : W < 100) (cf' : CF n ad h hn) (ev : v0 = hL hc (mid t + 1) b)
    (eI : ∀ a j, hI hn a j = if a = ad 16 ∧ j = 5 then nI (W + 1) else if a = ad 20 ∧ j = W then nI b else hI hc a j) (eR : ∀ a j, hR hn a j = if a = ad 19 ∧ j = W then some (mid t) else hR hc a j) (eL : ∀ a j, hL hn a j = if a = mid t + 1 ∧ j = b then c else if a = ad 21 ∧ j = W then v0 else hL hc a j) : RC n np ad mid pa LV P h hn 0 (uL S (30 * t + b) c) := by
  obtain ⟨cf, ⟨⟨b1, b2, b3, b4, b5, b6⟩, b7, b8, b9⟩, ⟨c1, c2, c3⟩, W', x1, x2, x3, x4, x5, x6, x7⟩ := r
  have v1 := hw.2.2.2
  have v3 := (vp.2.2.2.2 t hw.1 hw.2.1).2
  have eW : W' = W := by
    have q : nI W' = nI W := x2.symm.trans ew
    have q1 := v.1
    have := congrArg Int32.toNatClampNeg q
    rw [nI_clamp (by omega), nI_clamp (by omega)] at this
    exact this
  subst eW
  have zt := (cw.2.2.2.1 t hw.1 hw.2.1).1
  have d21 : ∀ a, z0 ≤ a → a ≠ ad 21 := fun a ha => dy_ad fx (.inl (by decide)) ha
  have o : ∀ i k, i ≠ 16 → i ≠ 20 → hI hn (ad i) k = hI hc (ad i) k := fun i k h1 h2 => by rw [eI, if_neg (fun z => h1 (fx_inj fx z.1)), if_neg (fun z => h2 (fx_inj fx z.1))]
  have oR : ∀ i k, i ≠ 19 → hR hn (ad i) k = hR hc (ad i) k := fun i k h1 => by rw [eR, if_neg (fun z => h1 (fx_inj fx z.1))]
  have oL : ∀ a j, a ≠ ad 21 → ¬ (a = mid t + 1 ∧ j = b) → hL hn a j = hL hc a j := fun a j h1 h2 => by rw [eL, if_neg h2, if_neg (fun z => h1 z.1)]
  have nq : (mid t + 1) ≠ ad 21 := d21 _ (by omega)
  have e21 : ∀ k, hL hn (ad 21) k = if k = W' then v0 else hL hc (ad 21) k := fun k => by
    rw [eL, if_neg (fun z => nq z.1.symm)]
    by_cases e : k = W'
    · rw [if_pos ⟨rfl, e⟩, if_pos e]
    · rw [if_neg (fun z => e z.2), if_neg e]
  have e20 : ∀ k, hI hn (ad 20) k = if k = W' then nI b else hI hc (ad 20) k := fun k => by
    rw [eI, if_neg (fun z => absurd (fx_inj fx z.1) (by decide))]
    by_cases e : k = W'
    · rw [if_pos ⟨rfl, e⟩, if_pos e]
    · rw [if_neg (fun z => e z.2), if_neg e]
  have e19 : ∀ k, hR hn (ad 19) k = if k = W' then some (mid t) else hR hc (ad 19) k := fun k => by
    rw [eR]
    by_cases e : k = W'
    · rw [if_pos ⟨rfl, e⟩, if_pos e]
    · rw [if_neg (fun z => e z.2), if_neg e]
  have i1 : ∀ u j, wri LV P u j → hL hn (mid u + 1) j = (uL S (30 * t + b) c).2.2 (30 * u + j) := by
    intro u j q
    show _ = if 30 * u + j = 30 * t + b then c else S.2.2 (30 * u + j)
    have q3 := (vp.2.2.2.2 u q.1 q.2.1).2
    have q2 := q.2.2.2
    by_cases e : u = t ∧ j = b
    · rw [if_pos (by rw [e.1, e.2]), e.1, e.2, eL]
      exact if_pos ⟨rfl, rfl⟩
    · rw [if_neg (by omega), oL _ _ (d21 _ (by have := (cw.2.2.2.1 u q.1 q.2.1).1; omega)) (fun z => e ⟨cw.2.2.2.2.1 u t q.1 hw.1 q.2.1 hw.2.1 (by omega), z.2⟩)]
      exact x3 u j q
  have i2 : ∀ a j, a ≠ ad 21 → (∀ u, wri LV P u j → a ≠ mid u + 1) → hL hn a j = hL h a j := by
    intro a j h1 h2
    rw [oL a j h1 (fun z => h2 t (by rw [z.2]; exact hw) z.1)]
    exact x4 a j h1 h2
  have i3 : ∀ k, (∀ u j, wri LV P u j → k ≠ 30 * u + j) → (uL S (30 * t + b) c).2.2 k = hL h (ad 36) k := by
    intro k hk
    show (if k = 30 * t + b then c else S.2.2 k) = _
    rw [if_neg (hk t b hw)]
    exact x5 k hk
  have i4 : ∀ k, k < W' + 1 → ∃ u b, wri LV P u b ∧ hR hn (ad 19) k = some (mid u) ∧ hI hn (ad 20) k = nI b := by
    intro k hk
    rw [e19, e20]
    by_cases e : k = W'
    · rw [if_pos e, if_pos e]; exact ⟨t, b, hw, rfl, rfl⟩
    · rw [if_neg e, if_neg e]; exact x6 k (by omega)
  have i5 : ∀ a j, a ≠ ad 21 → unN ad hn (W' + 1) (hL hn) a j = hL h a j := by
    intro a j ha
    rw [unN_s, e19, e20, e21, if_pos rfl, if_pos rfl, if_pos rfl, nI_clamp (by omega)]
    refine (unN_c (hc := hc) (fun k hk => ?_) _ (hL hc) ?_ a j ha).trans (x7 a j ha)
    · rw [e19, e20, e21, if_neg (by omega), if_neg (by omega), if_neg (by omega)]
      exact ⟨rfl, rfl, rfl⟩
    · intro a' j' ha'
      show (if a' = mid t + 1 ∧ j' = b then v0 else hL hn a' j') = hL hc a' j'
      by_cases e : a' = mid t + 1 ∧ j' = b
      · rw [if_pos e, e.1, e.2]; exact ev
      · rw [if_neg e]; exact oL a' j' ha' e
  have e16 : hI hn (ad 16) 5 = nI (W' + 1) := by rw [eI, if_pos ⟨rfl, rfl⟩]
  refine ⟨cf', ⟨⟨?_, ?_, ?_, ?_, ?_, ?_⟩, fun i h1 h2 => ?_, fun i hi => ?_, fun u hu => ?_⟩, ⟨fun u hu => ?_, fun i hi => ?_, fun u s hu hs => ?_⟩, W' + 1, x1, e16, i1, i2, i3, i4, i5⟩
  · exact (o 13 2 (by decide) (by decide)).trans b1
  · exact (o 9 9 (by decide) (by decide)).trans b2
  · exact (o 9 11 (by decide) (by decide)).trans b3
  · exact (o 9 10 (by decide) (by decide)).trans b4
  · exact (o 9 7 (by decide) (by decide)).trans b5
  · exact (o 9 12 (by decide) (by decide)).trans b6
  · exact (o 12 i (by decide) (by decide)).trans (b7 i h1 h2)
  · exact (o 15 i (by decide) (by decide)).trans (b8 i hi)
  · exact (o _ 9 (by omega) (by omega)).trans (b9 u hu)
  · rw [oR 1 u (by decide)]; exact c1 u hu
  · rw [oR 14 i (by decide)]; exact c2 i hi
  · rw [oR _ s (by omega)]; exact c3 u s hu hs
theorem RC.wr {t b : Nat} {c : Int64} {W : Nat} (fx : FX n ad sa z0 h) (cw : CW np ad mid pa LV P h sa z0) (vp : VP n np LV P) (r : RC n np ad mid pa LV P h hc 1 S) (v : VS n np LV 1 S) (hw : wri LV P t b) (ew : hI hc (ad 16) 5 = nI W) (w1 : W < 100) : RC n np ad mid pa LV P h (sL (sI (sL (sI (sR hc (ad 19) W (some (mid t))) (ad 20) W (nI b)) (ad 21) W (hL hc (mid t + 1) b)) (ad 16) 5 (nI (W + 1))) (mid t + 1) b c) 0 (uL S (30 * t + b) c) :=
  RC.wr0 (v0 := hL hc (mid t + 1) b) fx cw vp r v hw ew w1 (CF.l (CF.i (CF.l (CF.i (CF.r r.1 nr19) nc20)) nc16)) rfl (fun _ _ => rfl) (fun _ _ => rfl) (fun _ _ => rfl)
theorem ce_0 {a : Nat} (ha : a < 24) {b c : Int32} (hA : A + 3 < 640) (fx : FX n ad sa z0 h) (cw : CW np ad mid pa LV P h sa z0) (vp : VP n np LV P) (r : RC n np ad mid pa LV P h hc 1 S) (v : VS n np LV 1 S) (s0 : hI hc (ad 10) A = 0) (s1 : hI hc (ad 10) (A + 1) = nI a) (s2 : hI hc (ad 10) (A + 2) = b) (s3 : hI hc (ad 10) (A + 3) = c) (hQ : ∀ hc' f, f = cRes (gTake S a).1 → RC n np ad mid pa LV P h hc' 0 (gTake S a).2 → Q (some (.int f)) hc') : EV (d + 4) 102 [.ref (ad 9), .int (nI A), .int (nI dp)] hc Q := by
  have fxc := r.1.fx fx
  obtain ⟨f5, f6⟩ := r.f5 fx cw
  have np60 := vp.1
  have v1 := v.1
  have v2 := v.2.1
  have v3 := v.2.2.1
  have n6 := vp.2.1
  have q := r.2.2.1.1 a ha
  unfold gTake at hQ
  by_cases e : S.2.1 31 a = -1
  · rw [if_pos e] at hQ
    exact w_c0n (d := d + 2) fxc hA f5 f6 ha (vR.zz np60 q e) s0 s1 s2 s3 (hQ _ _ cF1 r.wk)
  · rw [if_neg e] at hQ
    obtain ⟨x, ex⟩ := q.nn e
    rw [ex] at q
    refine w_c0s (d := d + 1) (H := S.1 0) fxc hA f5 f6 ha (by omega) (r.okE np60 fx cw q).1 ex r.2.1.1.1 s0 s1 s2 s3 (hQ _ _ cF0 ?_)
    exact RC.cas fx (RC.psh fx r.wk q) (.inl ⟨rfl, rfl⟩)
theorem ce_1 {a : Nat} (ha : a < 24) {b c : Int32} (hA : A + 3 < 640) (fx : FX n ad sa z0 h) (cw : CW np ad mid pa LV P h sa z0) (vp : VP n np LV P) (r : RC n np ad mid pa LV P h hc 1 S) (v : VS n np LV 1 S) (s0 : hI hc (ad 10) A = 1) (s1 : hI hc (ad 10) (A + 1) = nI a) (s2 : hI hc (ad 10) (A + 2) = b) (s3 : hI hc (ad 10) (A + 3) = c) (hQ : ∀ hc' f, f = cRes (gLay S a).1 → RC n np ad mid pa LV P h hc' 0 (gLay S a).2 → Q (some (.int f)) hc') : EV (d + 4) 102 [.ref (ad 9), .int (nI A), .int (nI dp)] hc Q := by
  have fxc := r.1.fx fx
  obtain ⟨f5, f6⟩ := r.f5 fx cw
  have np60 := vp.1
  have v1 := v.1
  have v2 := v.2.1
  have v3 := v.2.2.1
  have n6 := vp.2.1
  have q := r.2.2.1.1 a ha
  unfold gLay at hQ
  by_cases h0 : S.1 0 = 0
  · rw [if_pos h0] at hQ
    exact w_c1z (d := d + 1) fxc hA f5 f6 ha (by rw [r.2.1.1.1, h0]; rfl) s0 s1 s2 s3 (hQ _ _ cF1 r.wk)
  rw [if_neg h0] at hQ
  have top := r.2.2.1.2.1 (S.1 0 - 1) (by omega)
  have tn : S.2.1 54 (S.1 0 - 1) ≠ -1 := by
    rcases (v.2.2.2.2.2.1 (S.1 0 - 1) (by omega)).1 with ⟨q, hq, e⟩ | ⟨t, ht, -, e⟩ <;> rw [e] <;> exact nI_nm1 (by omega)
  obtain ⟨x, ex⟩ := top.nn tn
  rw [ex] at top
  by_cases e : S.2.1 31 a = -1
  · rw [if_pos e] at hQ
    refine w_c1n (d := d + 1) (H := S.1 0) fxc hA f5 f6 ha r.2.1.1.1 (by omega) (by omega) ex (r.okE np60 fx cw top).1 (vR.zz np60 q e) s0 s1 s2 s3 (hQ _ _ cF0 ?_)
    exact RC.pop fx (RC.cas fx r.wk top)
  · rw [if_neg e] at hQ
    obtain ⟨y, ey⟩ := q.nn e
    exact w_c1s (d := d + 1) (H := S.1 0) fxc hA f5 f6 ha r.2.1.1.1 (by omega) (by omega) ex ey s0 s1 s2 s3 (hQ _ _ cF5 r.wk)
theorem ce_2 {a : Nat} (ha : a < 24) {b c : Int32} (hA : A + 3 < 640) (fx : FX n ad sa z0 h) (cw : CW np ad mid pa LV P h sa z0) (vp : VP n np LV P) (r : RC n np ad mid pa LV P h hc 1 S) (v : VS n np LV 1 S) (s0 : hI hc (ad 10) A = 2) (s1 : hI hc (ad 10) (A + 1) = nI a) (s2 : hI hc (ad 10) (A + 2) = b) (s3 : hI hc (ad 10) (A + 3) = c) (hQ : ∀ hc' f, f = cRes (gWrite P S a b c).1 → RC n np ad mid pa LV P h hc' 0 (gWrite P S a b c).2 → Q (some (.int f)) hc') : EV (d + 4) 102 [.ref (ad 9), .int (nI A), .int (nI dp)] hc Q := by
  have fxc := r.1.fx fx
  obtain ⟨f5, f6⟩ := r.f5 fx cw
  have np60 := vp.1
  have v1 := v.1
  have v2 := v.2.1
  have v3 := v.2.2.1
  have n6 := vp.2.1
  have q := r.2.2.1.1 a ha
  unfold gWrite at hQ
  rcases q with ⟨e1, e2⟩ | ⟨q, hq, e1, e2⟩ | ⟨t, ht, lt, e1, e2⟩
  · rw [if_pos e1] at hQ
    exact w_c2n (d := d + 2) fxc hA f5 f6 ha e2 s0 s1 s2 s3 (hQ _ _ cF1 r.wk)
  · have m1 : ¬ S.2.1 31 a = -1 := by rw [e1]; exact nI_nm1 (by omega)
    have m2 : 1000 ≤ S.2.1 31 a := by rw [e1]; exact nI_le (a := 1000) (by omega) (by omega)
    rw [if_neg m1, if_pos m2] at hQ
    exact w_c2t4 (d := d + 2) fxc hA f5 f6 ha (r.prt fx cw hq).1 e2 s0 s1 s2 s3 (hQ _ _ cF4 r.wk)
  · have m1 : ¬ S.2.1 31 a = -1 := by rw [e1]; exact nI_nm1 (by omega)
    have m2 : ¬ 1000 ≤ S.2.1 31 a := by rw [e1]; exact fun z => by have := (nI_leI (a := 1000) (by decide) (by omega)).mp z; omega
    have ct : (S.2.1 31 a).toNatClampNeg = t := by rw [e1]; exact nI_clamp (by omega)
    rw [if_neg m1, if_neg m2, ct] at hQ
    obtain ⟨zt, ⟨w1, w2, w3, w4, w5, w6⟩ | ⟨w1, w2⟩⟩ := r.thg fx cw ht lt
    · have o2 := (vp.2.2.2.2 t ht lt).2
      by_cases h3 : P.so t = 3
      · rw [if_pos h3] at hQ
        rw [h3] at w5
        by_cases hb : 0 ≤ b.toInt ∧ b.toInt < (P.sz t : Nat)
        · rw [if_pos hb] at hQ
          obtain ⟨k, hk, eb⟩ := ix_of (x := b) (n := P.sz t) hb.1 hb.2
          subst eb
          rw [nI_clamp (show k < 2 ^ 31 by omega)] at hQ
          obtain ⟨W, y1, y2, -⟩ := id r.2.2.2
          exact w_c2w (d := d) (W := W) fxc hA f5 f6 ha zt w1 w2 w3 w6 o2 e2 w5 hk (by omega) y2 s0 s1 s2 s3 (hQ _ _ cF0 (RC.wr fx cw vp r v ⟨ht, lt, h3, hk⟩ y2 (by omega)))
        · rw [if_neg hb] at hQ
          by_cases b0 : b.toInt < 0
          · exact w_c2o (d := d + 1) fxc hA f5 f6 ha zt w1 w2 w3 w6 o2 e2 w5 b0 s0 s1 s2 s3 (hQ _ _ cF2 r.wk)
          · obtain ⟨k, hk, eb⟩ := nI_of (x := b) (fun z => b0 (by have := i_lt z; have z0 : (0 : Int32).toInt = 0 := rfl; omega))
            subst eb
            rw [nI_toInt hk] at hb
            exact w_c2p (d := d) fxc hA f5 f6 ha zt w1 w2 w3 w6 o2 e2 w5 (by omega) hk s0 s1 s2 s3 (hQ _ _ cF2 r.wk)
      · rw [if_neg h3] at hQ
        exact w_c2l (d := d + 2) fxc hA f5 f6 ha zt w1 w2 w3 w6 o2 e2 w4 h3 w5 s0 s1 s2 s3 (hQ _ _ cF4 r.wk)
    · rw [if_neg (show ¬ P.so t = 3 by omega)] at hQ
      exact w_c2t6 (d := d + 2) fxc hA f5 f6 ha w1 e2 s0 s1 s2 s3 (hQ _ _ cF4 r.wk)
theorem ce_3 {a b c : Int32} (hA : A + 3 < 640) (fx : FX n ad sa z0 h) (cw : CW np ad mid pa LV P h sa z0) (vp : VP n np LV P) (r : RC n np ad mid pa LV P h hc 1 S) (v : VS n np LV 1 S) (s0 : hI hc (ad 10) A = 3) (s1 : hI hc (ad 10) (A + 1) = a) (s2 : hI hc (ad 10) (A + 2) = b) (s3 : hI hc (ad 10) (A + 3) = c) (hQ : ∀ hc' f, f = cRes (((0, gSay S (a)) : Int32 × aS)).1 → RC n np ad mid pa LV P h hc' 0 (((0, gSay S (a)) : Int32 × aS)).2 → Q (some (.int f)) hc') : EV (d + 4) 102 [.ref (ad 9), .int (nI A), .int (nI dp)] hc Q := by
  have fxc := r.1.fx fx
  obtain ⟨f5, f6⟩ := r.f5 fx cw
  have np60 := vp.1
  have v1 := v.1
  have v2 := v.2.1
  have v3 := v.2.2.1
  have n6 := vp.2.1
  unfold gSay at hQ
  by_cases e : S.1 2 < 60
  · simp only [if_pos e] at hQ
    refine w_c3l (d := d + 2) fxc hA f5 f6 r.2.1.1.2.2.1 e s0 s1 s2 s3 (hQ _ _ cF0 ?_)
    exact RC.sy fx r.wk
  · simp only [if_neg e] at hQ
    exact w_c3g (d := d + 2) fxc hA f5 f6 r.2.1.1.2.2.1 (by omega) (by omega) s0 s1 s2 s3 (hQ _ _ cF0 (RC.sn fx r.wk e))
theorem ce_5 {a b c : Int32} (hA : A + 3 < 640) (fx : FX n ad sa z0 h) (cw : CW np ad mid pa LV P h sa z0) (vp : VP n np LV P) (r : RC n np ad mid pa LV P h hc 1 S) (v : VS n np LV 1 S) (s0 : hI hc (ad 10) A = 5) (s1 : hI hc (ad 10) (A + 1) = a) (s2 : hI hc (ad 10) (A + 2) = b) (s3 : hI hc (ad 10) (A + 3) = c) (hQ : ∀ hc' f, f = cRes (((0, gSay S (S.2.1 33 0)) : Int32 × aS)).1 → RC n np ad mid pa LV P h hc' 0 (((0, gSay S (S.2.1 33 0)) : Int32 × aS)).2 → Q (some (.int f)) hc') : EV (d + 4) 102 [.ref (ad 9), .int (nI A), .int (nI dp)] hc Q := by
  have fxc := r.1.fx fx
  obtain ⟨f5, f6⟩ := r.f5 fx cw
  have np60 := vp.1
  have v1 := v.1
  have v2 := v.2.1
  have v3 := v.2.2.1
  have n6 := vp.2.1
  unfold gSay at hQ
  by_cases e : S.1 2 < 60
  · simp only [if_pos e] at hQ
    refine w_c5l (d := d + 2) fxc hA f5 f6 r.2.1.1.2.2.1 e s0 s1 s2 s3 (hQ _ _ cF0 ?_)
    rw [r.2.1.1.2.2.2.2.1]
    exact RC.sy fx r.wk
  · simp only [if_neg e] at hQ
    exact w_c5g (d := d + 2) fxc hA f5 f6 r.2.1.1.2.2.1 (by omega) (by omega) s0 s1 s2 s3 (hQ _ _ cF0 (RC.sn fx r.wk e))
theorem ce_11 {a : Nat} (ha : a < n) {b c : Int32} (hA : A + 3 < 640) (fx : FX n ad sa z0 h) (cw : CW np ad mid pa LV P h sa z0) (vp : VP n np LV P) (r : RC n np ad mid pa LV P h hc 1 S) (v : VS n np LV 1 S) (s0 : hI hc (ad 10) A = 11) (s1 : hI hc (ad 10) (A + 1) = nI a) (s2 : hI hc (ad 10) (A + 2) = b) (s3 : hI hc (ad 10) (A + 3) = c) (hQ : ∀ hc' f, f = cRes (gWake S a).1 → RC n np ad mid pa LV P h hc' 0 (gWake S a).2 → Q (some (.int f)) hc') : EV (d + 4) 102 [.ref (ad 9), .int (nI A), .int (nI dp)] hc Q := by
  have fxc := r.1.fx fx
  obtain ⟨f5, f6⟩ := r.f5 fx cw
  have np60 := vp.1
  have v1 := v.1
  have v2 := v.2.1
  have v3 := v.2.2.1
  have n6 := vp.2.1
  obtain ⟨t1, t2, ⟨t4, t5⟩, -, -, -, t3, -⟩ := fx_tb fxc a ha
  have e9 := r.2.1.2.2.2 a ha
  unfold gWake at hQ
  by_cases z : S.2.1 56 a = 0
  · rw [if_pos z] at hQ
    exact w_c11z (d := d + 3) fxc hA f5 f6 ha n6 t1 t2 t3 t4 t5 (e9.trans z) s0 s1 s2 s3 (hQ _ _ cF7 r.wk)
  · rw [if_neg z] at hQ
    unfold gSay at hQ
    by_cases e : S.1 2 < 60
    · simp only [if_pos e] at hQ
      exact w_c11l (d := d + 2) fxc hA f5 f6 ha n6 t1 t2 t3 t4 t5 e9 z r.2.1.1.2.2.1 e s0 s1 s2 s3 (fun _ => hQ _ _ cF0 (RC.sy fx r.wk)) (fun q => absurd q z)
    · simp only [if_neg e] at hQ
      exact w_c11g (d := d + 2) fxc hA f5 f6 ha n6 t1 t2 t3 t4 t5 e9 z r.2.1.1.2.2.1 (by omega) (by omega) s0 s1 s2 s3 (fun _ => hQ _ _ cF0 (RC.sn fx r.wk e)) (fun q => absurd q z)
theorem ce_12s {a b : Nat} (hb : b ≤ 2) (ha : a < n) {c : Int32} (hA : A + 3 < 640) (fx : FX n ad sa z0 h) (cw : CW np ad mid pa LV P h sa z0) (vp : VP n np LV P) (r : RC n np ad mid pa LV P h hc 1 S) (v : VS n np LV 1 S) (s0 : hI hc (ad 10) A = 12) (s1 : hI hc (ad 10) (A + 1) = nI a) (s2 : hI hc (ad 10) (A + 2) = nI b) (s3 : hI hc (ad 10) (A + 3) = c) (hQ : ∀ hc' f, f = cRes (gFit P S a b).1 → RC n np ad mid pa LV P h hc' 0 (gFit P S a b).2 → Q (some (.int f)) hc') : EV (d + 4) 102 [.ref (ad 9), .int (nI A), .int (nI dp)] hc Q := by
  have fxc := r.1.fx fx
  obtain ⟨f5, f6⟩ := r.f5 fx cw
  have np60 := vp.1
  have v1 := v.1
  have v2 := v.2.1
  have v3 := v.2.2.1
  have n6 := vp.2.1
  obtain ⟨t1, t2, ⟨t4, t5⟩, -, -, -, t3, -⟩ := fx_tb fxc a ha
  have e9 := r.2.1.2.2.2 a ha
  have sl := r.2.2.1.2.2 a b ha (by omega)
  have kb : gKind b = 7 := by unfold gKind; rw [if_pos (by omega)]
  unfold gFit at hQ
  rw [kb] at hQ
  rw [if_neg (show ¬ (S.2.1 56 a = 0 ∧ 2 < b) by omega)] at hQ
  by_cases h0 : S.1 0 = 0
  · rw [if_pos h0] at hQ
    exact w_c12zs (d := d + 1) fxc hA f5 f6 hb ha n6 t1 t2 t3 t4 t5 (by rw [r.2.1.1.1, h0]; rfl) s0 s1 s2 s3 (hQ _ _ cF1 r.wk)
  rw [if_neg h0] at hQ
  have top := r.2.2.1.2.1 (S.1 0 - 1) (by omega)
  have eh := r.2.1.1.1
  rcases top with ⟨e1, -⟩ | ⟨q, hq, e1, e2⟩ | ⟨t, ht, lt, e1, e2⟩
  · rcases (v.2.2.2.2.2.1 (S.1 0 - 1) (by omega)).1 with ⟨q, hq, e⟩ | ⟨t, ht, -, e⟩ <;> rw [e] at e1 <;> exact absurd e1 (nI_nm1 (by omega))
  · have n2 : 1000 ≤ S.2.1 54 (S.1 0 - 1) := by rw [e1]; exact nI_le (a := 1000) (by omega) (by omega)
    have cq : (S.2.1 54 (S.1 0 - 1)).toNatClampNeg - 1000 = q := by rw [e1, nI_clamp (by omega)]; omega
    rw [cq] at hQ
    obtain ⟨p1, p2, p3⟩ := r.prt fx cw hq
    by_cases ok : ofK (P.kd q) 7 = true
    · rw [if_pos ⟨n2, ok⟩] at hQ
      rcases sl with ⟨g1, g2⟩ | ⟨y, hy, g1, g2⟩
      · rw [if_pos g1] at hQ
        exact w_c12es (d := d + 1) (H := S.1 0) fxc hA f5 f6 hb ha n6 t1 t2 t3 t4 t5 eh (by omega) (by omega) e2 p1 p3 (vp.2.2.2.1 q hq) (r.rst fx cw) ok g2 s0 s1 s2 s3 (hQ _ _ cF0 (RC.slt (b := b) fx (RC.pop fx r.wk) ha (by omega) (.inr ⟨q, hq, rfl, rfl⟩)))
      · have g3 : ¬ S.2.1 57 (5 * a + b) = -1 := by rw [g1]; exact nI_nm1 (by omega)
        have g4 : (S.2.1 57 (5 * a + b)).toNatClampNeg = y := by rw [g1]; exact nI_clamp (by omega)
        rw [if_neg g3, g4, gPush_c] at hQ
        have rr := RC.slt (a := a) (b := b) (v := nI q) (x := some (pa q)) fx (RC.psh (x := pa y) (v := nI (1000 + y)) (o' := 23) fx (RC.pop fx r.wk) (.inr (.inl ⟨y, hy, rfl, rfl⟩))) ha (by omega) (.inr ⟨q, hq, rfl, rfl⟩)
        have es : (uN S 0 (S.1 0 - 1)).1 0 = S.1 0 - 1 := uN_s
        rw [es, show S.1 0 - 1 + 1 = S.1 0 by omega] at rr
        exact w_c12fs (d := d + 1) (H := S.1 0) fxc hA f5 f6 hb ha n6 t1 t2 t3 t4 t5 eh (by omega) (by omega) e2 p1 p3 (vp.2.2.2.1 q hq) (r.rst fx cw) ok (r.prt fx cw hy).1 g2 s0 s1 s2 s3 (hQ _ _ cF0 rr)
    · rw [if_neg (fun z => ok z.2)] at hQ
      exact w_c12ns (d := d + 1) (H := S.1 0) fxc hA f5 f6 hb ha n6 t1 t2 t3 t4 t5 eh (by omega) (by omega) e2 p1 p3 (vp.2.2.2.1 q hq) (r.rst fx cw) ok s0 s1 s2 s3 (hQ _ _ cF4 r.wk)
  · have n2 : ¬ (1000 ≤ S.2.1 54 (S.1 0 - 1) ∧ ofK (P.kd ((S.2.1 54 (S.1 0 - 1)).toNatClampNeg - 1000)) 7 = true) := by
      intro z
      have z := z.1
      rw [e1] at z
      have := (nI_leI (a := 1000) (by decide) (by omega)).mp z; omega
    rw [if_neg n2] at hQ
    rcases (r.thg fx cw ht lt).2 with ⟨w1, -⟩ | ⟨w1, -⟩
    · exact w_c12t5s (d := d + 1) (H := S.1 0) fxc hA f5 f6 hb ha n6 t1 t2 t3 t4 t5 eh (by omega) (by omega) e2 w1 s0 s1 s2 s3 (hQ _ _ cF4 r.wk)
    · exact w_c12t6s (d := d + 1) (H := S.1 0) fxc hA f5 f6 hb ha n6 t1 t2 t3 t4 t5 eh (by omega) (by omega) e2 w1 s0 s1 s2 s3 (hQ _ _ cF4 r.wk)
theorem ce_13s {a b : Nat} (hb : b ≤ 2) (ha : a < n) {c : Int32} (hA : A + 3 < 640) (fx : FX n ad sa z0 h) (cw : CW np ad mid pa LV P h sa z0) (vp : VP n np LV P) (r : RC n np ad mid pa LV P h hc 1 S) (v : VS n np LV 1 S) (s0 : hI hc (ad 10) A = 13) (s1 : hI hc (ad 10) (A + 1) = nI a) (s2 : hI hc (ad 10) (A + 2) = nI b) (s3 : hI hc (ad 10) (A + 3) = c) (hQ : ∀ hc' f, f = cRes (gStrip S a b).1 → RC n np ad mid pa LV P h hc' 0 (gStrip S a b).2 → Q (some (.int f)) hc') : EV (d + 4) 102 [.ref (ad 9), .int (nI A), .int (nI dp)] hc Q := by
  have fxc := r.1.fx fx
  obtain ⟨f5, f6⟩ := r.f5 fx cw
  have np60 := vp.1
  have v1 := v.1
  have v2 := v.2.1
  have v3 := v.2.2.1
  have n6 := vp.2.1
  obtain ⟨t1, t2, ⟨t4, t5⟩, -, -, -, t3, -⟩ := fx_tb fxc a ha
  have e9 := r.2.1.2.2.2 a ha
  have sl := r.2.2.1.2.2 a b ha (by omega)
  unfold gStrip at hQ
  rw [if_neg (show ¬ (S.2.1 56 a = 0 ∧ 2 < b) by omega)] at hQ
  have eh := r.2.1.1.1
  rcases sl with ⟨g1, g2⟩ | ⟨y, hy, g1, g2⟩
  · rw [if_pos g1] at hQ
    exact w_c13ns (d := d + 2) fxc hA f5 f6 hb ha n6 t1 t2 t3 t4 t5 g2 s0 s1 s2 s3 (hQ _ _ cF1 r.wk)
  · have g3 : ¬ S.2.1 57 (5 * a + b) = -1 := by rw [g1]; exact nI_nm1 (by omega)
    have g4 : (S.2.1 57 (5 * a + b)).toNatClampNeg = y := by rw [g1]; exact nI_clamp (by omega)
    rw [if_neg g3, g4] at hQ
    have rr := RC.slt (a := a) (b := b) (v := -1) (x := none) fx (RC.psh (x := pa y) (v := nI (1000 + y)) (o' := 23) fx r.wk (.inr (.inl ⟨y, hy, rfl, rfl⟩))) ha (by omega) (.inl ⟨rfl, rfl⟩)
    exact w_c13ss (d := d + 1) (H := S.1 0) fxc hA f5 f6 hb ha n6 t1 t2 t3 t4 t5 eh (by omega) (r.prt fx cw hy).1 g2 s0 s1 s2 s3 (hQ _ _ cF0 rr)
theorem ce_123 {a : Nat} (ha : a < n) {c : Int32} (hA : A + 3 < 640) (fx : FX n ad sa z0 h) (cw : CW np ad mid pa LV P h sa z0) (vp : VP n np LV P) (r : RC n np ad mid pa LV P h hc 1 S) (v : VS n np LV 1 S) (s0 : hI hc (ad 10) A = 12) (s1 : hI hc (ad 10) (A + 1) = nI a) (s2 : hI hc (ad 10) (A + 2) = 3) (s3 : hI hc (ad 10) (A + 3) = c) (hQ : ∀ hc' f, f = cRes (gFit P S a 3).1 → RC n np ad mid pa LV P h hc' 0 (gFit P S a 3).2 → Q (some (.int f)) hc') : EV (d + 4) 102 [.ref (ad 9), .int (nI A), .int (nI dp)] hc Q := by
  have fxc := r.1.fx fx
  obtain ⟨f5, f6⟩ := r.f5 fx cw
  have np60 := vp.1
  have v1 := v.1
  have v2 := v.2.1
  have v3 := v.2.2.1
  have n6 := vp.2.1
  obtain ⟨t1, t2, ⟨t4, t5⟩, -, -, -, t3, -⟩ := fx_tb fxc a ha
  have e9 := r.2.1.2.2.2 a ha
  have sl := r.2.2.1.2.2 a 3 ha (by decide)
  have kb : gKind 3 = 3 := by unfold gKind; decide
  unfold gFit at hQ
  rw [kb] at hQ
  by_cases z9 : S.2.1 56 a = 0
  · rw [if_pos (show S.2.1 56 a = 0 ∧ 2 < 3 from ⟨z9, by decide⟩)] at hQ
    exact w_c12h3 (d := d + 2) fxc hA f5 f6 ha n6 t1 t2 t3 t4 t5 (e9.trans z9) s0 s1 s2 s3 (hQ _ _ cF7 r.wk)
  rw [if_neg (show ¬ (S.2.1 56 a = 0 ∧ 2 < 3) from fun q => z9 q.1)] at hQ
  by_cases h0 : S.1 0 = 0
  · rw [if_pos h0] at hQ
    exact w_c12z3 (d := d + 1) fxc hA f5 f6 ha n6 t1 t2 t3 t4 t5 e9 z9 (by rw [r.2.1.1.1, h0]; rfl) s0 s1 s2 s3 (fun _ => hQ _ _ cF1 r.wk) (fun q => absurd q z9)
  rw [if_neg h0] at hQ
  have top := r.2.2.1.2.1 (S.1 0 - 1) (by omega)
  have eh := r.2.1.1.1
  rcases top with ⟨e1, -⟩ | ⟨q, hq, e1, e2⟩ | ⟨t, ht, lt, e1, e2⟩
  · rcases (v.2.2.2.2.2.1 (S.1 0 - 1) (by omega)).1 with ⟨q, hq, e⟩ | ⟨t, ht, -, e⟩ <;> rw [e] at e1 <;> exact absurd e1 (nI_nm1 (by omega))
  · have n2 : 1000 ≤ S.2.1 54 (S.1 0 - 1) := by rw [e1]; exact nI_le (a := 1000) (by omega) (by omega)
    have cq : (S.2.1 54 (S.1 0 - 1)).toNatClampNeg - 1000 = q := by rw [e1, nI_clamp (by omega)]; omega
    rw [cq] at hQ
    obtain ⟨p1, p2, p3⟩ := r.prt fx cw hq
    by_cases ok : ofK (P.kd q) 3 = true
    · rw [if_pos ⟨n2, ok⟩] at hQ
      rcases sl with ⟨g1, g2⟩ | ⟨y, hy, g1, g2⟩
      · rw [if_pos g1] at hQ
        exact w_c12e3 (d := d + 1) (H := S.1 0) fxc hA f5 f6 ha n6 t1 t2 t3 t4 t5 e9 z9 eh (by omega) (by omega) e2 p1 p3 (vp.2.2.2.1 q hq) (r.rst fx cw) ok g2 s0 s1 s2 s3 (fun _ => hQ _ _ cF0 (RC.slt (b := 3) fx (RC.pop fx r.wk) ha (by decide) (.inr ⟨q, hq, rfl, rfl⟩))) (fun q => absurd q z9)
      · have g3 : ¬ S.2.1 57 (5 * a + 3) = -1 := by rw [g1]; exact nI_nm1 (by omega)
        have g4 : (S.2.1 57 (5 * a + 3)).toNatClampNeg = y := by rw [g1]; exact nI_clamp (by omega)
        rw [if_neg g3, g4, gPush_c] at hQ
        have rr := RC.slt (a := a) (b := 3) (v := nI q) (x := some (pa q)) fx (RC.psh (x := pa y) (v := nI (1000 + y)) (o' := 23) fx (RC.pop fx r.wk) (.inr (.inl ⟨y, hy, rfl, rfl⟩))) ha (by decide) (.inr ⟨q, hq, rfl, rfl⟩)
        have es : (uN S 0 (S.1 0 - 1)).1 0 = S.1 0 - 1 := uN_s
        rw [es, show S.1 0 - 1 + 1 = S.1 0 by omega] at rr
        exact w_c12f3 (d := d + 1) (H := S.1 0) fxc hA f5 f6 ha n6 t1 t2 t3 t4 t5 e9 z9 eh (by omega) (by omega) e2 p1 p3 (vp.2.2.2.1 q hq) (r.rst fx cw) ok (r.prt fx cw hy).1 g2 s0 s1 s2 s3 (fun _ => hQ _ _ cF0 rr) (fun q => absurd q z9)
    · rw [if_neg (fun z => ok z.2)] at hQ
      exact w_c12n3 (d := d + 1) (H := S.1 0) fxc hA f5 f6 ha n6 t1 t2 t3 t4 t5 e9 z9 eh (by omega) (by omega) e2 p1 p3 (vp.2.2.2.1 q hq) (r.rst fx cw) ok s0 s1 s2 s3 (fun _ => hQ _ _ cF4 r.wk) (fun q => absurd q z9)
  · have n2 : ¬ (1000 ≤ S.2.1 54 (S.1 0 - 1) ∧ ofK (P.kd ((S.2.1 54 (S.1 0 - 1)).toNatClampNeg - 1000)) 3 = true) := by
      intro z
      have z := z.1
      rw [e1] at z
      have := (nI_leI (a := 1000) (by decide) (by omega)).mp z; omega
    rw [if_neg n2] at hQ
    rcases (r.thg fx cw ht lt).2 with ⟨w1, -⟩ | ⟨w1, -⟩
    · exact w_c12t53 (d := d + 1) (H := S.1 0) fxc hA f5 f6 ha n6 t1 t2 t3 t4 t5 e9 z9 eh (by omega) (by omega) e2 w1 s0 s1 s2 s3 (fun _ => hQ _ _ cF4 r.wk) (fun q => absurd q z9)
    · exact w_c12t63 (d := d + 1) (H := S.1 0) fxc hA f5 f6 ha n6 t1 t2 t3 t4 t5 e9 z9 eh (by omega) (by omega) e2 w1 s0 s1 s2 s3 (fun _ => hQ _ _ cF4 r.wk) (fun q => absurd q z9)
theorem ce_133 {a : Nat} (ha : a < n) {c : Int32} (hA : A + 3 < 640) (fx : FX n ad sa z0 h) (cw : CW np ad mid pa LV P h sa z0) (vp : VP n np LV P) (r : RC n np ad mid pa LV P h hc 1 S) (v : VS n np LV 1 S) (s0 : hI hc (ad 10) A = 13) (s1 : hI hc (ad 10) (A + 1) = nI a) (s2 : hI hc (ad 10) (A + 2) = 3) (s3 : hI hc (ad 10) (A + 3) = c) (hQ : ∀ hc' f, f = cRes (gStrip S a 3).1 → RC n np ad mid pa LV P h hc' 0 (gStrip S a 3).2 → Q (some (.int f)) hc') : EV (d + 4) 102 [.ref (ad 9), .int (nI A), .int (nI dp)] hc Q := by
  have fxc := r.1.fx fx
  obtain ⟨f5, f6⟩ := r.f5 fx cw
  have np60 := vp.1
  have v1 := v.1
  have v2 := v.2.1
  have v3 := v.2.2.1
  have n6 := vp.2.1
  obtain ⟨t1, t2, ⟨t4, t5⟩, -, -, -, t3, -⟩ := fx_tb fxc a ha
  have e9 := r.2.1.2.2.2 a ha
  have sl := r.2.2.1.2.2 a 3 ha (by decide)
  unfold gStrip at hQ
  by_cases z9 : S.2.1 56 a = 0
  · rw [if_pos (show S.2.1 56 a = 0 ∧ 2 < 3 from ⟨z9, by decide⟩)] at hQ
    exact w_c13h3 (d := d + 2) fxc hA f5 f6 ha n6 t1 t2 t3 t4 t5 (e9.trans z9) s0 s1 s2 s3 (hQ _ _ cF7 r.wk)
  rw [if_neg (show ¬ (S.2.1 56 a = 0 ∧ 2 < 3) from fun q => z9 q.1)] at hQ
  have eh := r.2.1.1.1
  rcases sl with ⟨g1, g2⟩ | ⟨y, hy, g1, g2⟩
  · rw [if_pos g1] at hQ
    exact w_c13n3 (d := d + 2) fxc hA f5 f6 ha n6 t1 t2 t3 t4 t5 e9 z9 g2 s0 s1 s2 s3 (fun _ => hQ _ _ cF1 r.wk) (fun q => absurd q z9)
  · have g3 : ¬ S.2.1 57 (5 * a + 3) = -1 := by rw [g1]; exact nI_nm1 (by omega)
    have g4 : (S.2.1 57 (5 * a + 3)).toNatClampNeg = y := by rw [g1]; exact nI_clamp (by omega)
    rw [if_neg g3, g4] at hQ
    have rr := RC.slt (a := a) (b := 3) (v := -1) (x := none) fx (RC.psh (x := pa y) (v := nI (1000 + y)) (o' := 23) fx r.wk (.inr (.inl ⟨y, hy, rfl, rfl⟩))) ha (by decide) (.inl ⟨rfl, rfl⟩)
    exact w_c13s3 (d := d + 1) (H := S.1 0) fxc hA f5 f6 ha n6 t1 t2 t3 t4 t5 e9 z9 eh (by omega) (r.prt fx cw hy).1 g2 s0 s1 s2 s3 (fun _ => hQ _ _ cF0 rr) (fun q => absurd q z9)
theorem ce_124 {a : Nat} (ha : a < n) {c : Int32} (hA : A + 3 < 640) (fx : FX n ad sa z0 h) (cw : CW np ad mid pa LV P h sa z0) (vp : VP n np LV P) (r : RC n np ad mid pa LV P h hc 1 S) (v : VS n np LV 1 S) (s0 : hI hc (ad 10) A = 12) (s1 : hI hc (ad 10) (A + 1) = nI a) (s2 : hI hc (ad 10) (A + 2) = 4) (s3 : hI hc (ad 10) (A + 3) = c) (hQ : ∀ hc' f, f = cRes (gFit P S a 4).1 → RC n np ad mid pa LV P h hc' 0 (gFit P S a 4).2 → Q (some (.int f)) hc') : EV (d + 4) 102 [.ref (ad 9), .int (nI A), .int (nI dp)] hc Q := by
  have fxc := r.1.fx fx
  obtain ⟨f5, f6⟩ := r.f5 fx cw
  have np60 := vp.1
  have v1 := v.1
  have v2 := v.2.1
  have v3 := v.2.2.1
  have n6 := vp.2.1
  obtain ⟨t1, t2, ⟨t4, t5⟩, -, -, -, t3, -⟩ := fx_tb fxc a ha
  have e9 := r.2.1.2.2.2 a ha
  have sl := r.2.2.1.2.2 a 4 ha (by decide)
  have kb : gKind 4 = 5 := by unfold gKind; decide
  unfold gFit at hQ
  rw [kb] at hQ
  by_cases z9 : S.2.1 56 a = 0
  · rw [if_pos (show S.2.1 56 a = 0 ∧ 2 < 4 from ⟨z9, by decide⟩)] at hQ
    exact w_c12h4 (d := d + 2) fxc hA f5 f6 ha n6 t1 t2 t3 t4 t5 (e9.trans z9) s0 s1 s2 s3 (hQ _ _ cF7 r.wk)
  rw [if_neg (show ¬ (S.2.1 56 a = 0 ∧ 2 < 4) from fun q => z9 q.1)] at hQ
  by_cases h0 : S.1 0 = 0
  · rw [if_pos h0] at hQ
    exact w_c12z4 (d := d + 1) fxc hA f5 f6 ha n6 t1 t2 t3 t4 t5 e9 z9 (by rw [r.2.1.1.1, h0]; rfl) s0 s1 s2 s3 (fun _ => hQ _ _ cF1 r.wk) (fun q => absurd q z9)
  rw [if_neg h0] at hQ
  have top := r.2.2.1.2.1 (S.1 0 - 1) (by omega)
  have eh := r.2.1.1.1
  rcases top with ⟨e1, -⟩ | ⟨q, hq, e1, e2⟩ | ⟨t, ht, lt, e1, e2⟩
  · rcases (v.2.2.2.2.2.1 (S.1 0 - 1) (by omega)).1 with ⟨q, hq, e⟩ | ⟨t, ht, -, e⟩ <;> rw [e] at e1 <;> exact absurd e1 (nI_nm1 (by omega))
  · have n2 : 1000 ≤ S.2.1 54 (S.1 0 - 1) := by rw [e1]; exact nI_le (a := 1000) (by omega) (by omega)
    have cq : (S.2.1 54 (S.1 0 - 1)).toNatClampNeg - 1000 = q := by rw [e1, nI_clamp (by omega)]; omega
    rw [cq] at hQ
    obtain ⟨p1, p2, p3⟩ := r.prt fx cw hq
    by_cases ok : ofK (P.kd q) 5 = true
    · rw [if_pos ⟨n2, ok⟩] at hQ
      rcases sl with ⟨g1, g2⟩ | ⟨y, hy, g1, g2⟩
      · rw [if_pos g1] at hQ
        exact w_c12e4 (d := d + 1) (H := S.1 0) fxc hA f5 f6 ha n6 t1 t2 t3 t4 t5 e9 z9 eh (by omega) (by omega) e2 p1 p3 (vp.2.2.2.1 q hq) (r.rst fx cw) ok g2 s0 s1 s2 s3 (fun _ => hQ _ _ cF0 (RC.slt (b := 4) fx (RC.pop fx r.wk) ha (by decide) (.inr ⟨q, hq, rfl, rfl⟩))) (fun q => absurd q z9)
      · have g3 : ¬ S.2.1 57 (5 * a + 4) = -1 := by rw [g1]; exact nI_nm1 (by omega)
        have g4 : (S.2.1 57 (5 * a + 4)).toNatClampNeg = y := by rw [g1]; exact nI_clamp (by omega)
        rw [if_neg g3, g4, gPush_c] at hQ
        have rr := RC.slt (a := a) (b := 4) (v := nI q) (x := some (pa q)) fx (RC.psh (x := pa y) (v := nI (1000 + y)) (o' := 23) fx (RC.pop fx r.wk) (.inr (.inl ⟨y, hy, rfl, rfl⟩))) ha (by decide) (.inr ⟨q, hq, rfl, rfl⟩)
        have es : (uN S 0 (S.1 0 - 1)).1 0 = S.1 0 - 1 := uN_s
        rw [es, show S.1 0 - 1 + 1 = S.1 0 by omega] at rr
        exact w_c12f4 (d := d + 1) (H := S.1 0) fxc hA f5 f6 ha n6 t1 t2 t3 t4 t5 e9 z9 eh (by omega) (by omega) e2 p1 p3 (vp.2.2.2.1 q hq) (r.rst fx cw) ok (r.prt fx cw hy).1 g2 s0 s1 s2 s3 (fun _ => hQ _ _ cF0 rr) (fun q => absurd q z9)
    · rw [if_neg (fun z => ok z.2)] at hQ
      exact w_c12n4 (d := d + 1) (H := S.1 0) fxc hA f5 f6 ha n6 t1 t2 t3 t4 t5 e9 z9 eh (by omega) (by omega) e2 p1 p3 (vp.2.2.2.1 q hq) (r.rst fx cw) ok s0 s1 s2 s3 (fun _ => hQ _ _ cF4 r.wk) (fun q => absurd q z9)
  · have n2 : ¬ (1000 ≤ S.2.1 54 (S.1 0 - 1) ∧ ofK (P.kd ((S.2.1 54 (S.1 0 - 1)).toNatClampNeg - 1000)) 5 = true) := by
      intro z
      have z := z.1
      rw [e1] at z
      have := (nI_leI (a := 1000) (by decide) (by omega)).mp z; omega
    rw [if_neg n2] at hQ
    rcases (r.thg fx cw ht lt).2 with ⟨w1, -⟩ | ⟨w1, -⟩
    · exact w_c12t54 (d := d + 1) (H := S.1 0) fxc hA f5 f6 ha n6 t1 t2 t3 t4 t5 e9 z9 eh (by omega) (by omega) e2 w1 s0 s1 s2 s3 (fun _ => hQ _ _ cF4 r.wk) (fun q => absurd q z9)
    · exact w_c12t64 (d := d + 1) (H := S.1 0) fxc hA f5 f6 ha n6 t1 t2 t3 t4 t5 e9 z9 eh (by omega) (by omega) e2 w1 s0 s1 s2 s3 (fun _ => hQ _ _ cF4 r.wk) (fun q => absurd q z9)
theorem ce_134 {a : Nat} (ha : a < n) {c : Int32} (hA : A + 3 < 640) (fx : FX n ad sa z0 h) (cw : CW np ad mid pa LV P h sa z0) (vp : VP n np LV P) (r : RC n np ad mid pa LV P h hc 1 S) (v : VS n np LV 1 S) (s0 : hI hc (ad 10) A = 13) (s1 : hI hc (ad 10) (A + 1) = nI a) (s2 : hI hc (ad 10) (A + 2) = 4) (s3 : hI hc (ad 10) (A + 3) = c) (hQ : ∀ hc' f, f = cRes (gStrip S a 4).1 → RC n np ad mid pa LV P h hc' 0 (gStrip S a 4).2 → Q (some (.int f)) hc') : EV (d + 4) 102 [.ref (ad 9), .int (nI A), .int (nI dp)] hc Q := by
  have fxc := r.1.fx fx
  obtain ⟨f5, f6⟩ := r.f5 fx cw
  have np60 := vp.1
  have v1 := v.1
  have v2 := v.2.1
  have v3 := v.2.2.1
  have n6 := vp.2.1
  obtain ⟨t1, t2, ⟨t4, t5⟩, -, -, -, t3, -⟩ := fx_tb fxc a ha
  have e9 := r.2.1.2.2.2 a ha
  have sl := r.2.2.1.2.2 a 4 ha (by decide)
  unfold gStrip at hQ
  by_cases z9 : S.2.1 56 a = 0
  · rw [if_pos (show S.2.1 56 a = 0 ∧ 2 < 4 from ⟨z9, by decide⟩)] at hQ
    exact w_c13h4 (d := d + 2) fxc hA f5 f6 ha n6 t1 t2 t3 t4 t5 (e9.trans z9) s0 s1 s2 s3 (hQ _ _ cF7 r.wk)
  rw [if_neg (show ¬ (S.2.1 56 a = 0 ∧ 2 < 4) from fun q => z9 q.1)] at hQ
  have eh := r.2.1.1.1
  rcases sl with ⟨g1, g2⟩ | ⟨y, hy, g1, g2⟩
  · rw [if_pos g1] at hQ
    exact w_c13n4 (d := d + 2) fxc hA f5 f6 ha n6 t1 t2 t3 t4 t5 e9 z9 g2 s0 s1 s2 s3 (fun _ => hQ _ _ cF1 r.wk) (fun q => absurd q z9)
  · have g3 : ¬ S.2.1 57 (5 * a + 4) = -1 := by rw [g1]; exact nI_nm1 (by omega)
    have g4 : (S.2.1 57 (5 * a + 4)).toNatClampNeg = y := by rw [g1]; exact nI_clamp (by omega)
    rw [if_neg g3, g4] at hQ
    have rr := RC.slt (a := a) (b := 4) (v := -1) (x := none) fx (RC.psh (x := pa y) (v := nI (1000 + y)) (o' := 23) fx r.wk (.inr (.inl ⟨y, hy, rfl, rfl⟩))) ha (by decide) (.inl ⟨rfl, rfl⟩)
    exact w_c13s4 (d := d + 1) (H := S.1 0) fxc hA f5 f6 ha n6 t1 t2 t3 t4 t5 e9 z9 eh (by omega) (r.prt fx cw hy).1 g2 s0 s1 s2 s3 (fun _ => hQ _ _ cF0 rr) (fun q => absurd q z9)
/-- every step that does no plan -/
theorem c_does {p i : Nat} (hA : A + 3 < 640) (fx : FX n ad sa z0 h) (cw : CW np ad mid pa LV P h sa z0) (vp : VP n np LV P) (r : RC n np ad mid pa LV P h hc 1 S) (v : VS n np LV 1 S) (hp : p < 10) (hi : i < P.len p) (h4 : P.op (16 * p + i) ≠ 4) (h7 : P.op (16 * p + i) ≠ 7) (h8 : P.op (16 * p + i) ≠ 8) (h9 : P.op (16 * p + i) ≠ 9) (h10 : P.op (16 * p + i) ≠ 10)
    (s0 : hI hc (ad 10) A = nI (P.op (16 * p + i))) (s1 : hI hc (ad 10) (A + 1) = P.a (16 * p + i)) (s2 : hI hc (ad 10) (A + 2) = P.b (16 * p + i)) (s3 : hI hc (ad 10) (A + 3) = P.c (16 * p + i)) (hQ : ∀ hc' f, f = cRes (gDo P (16 * p + i) S).1 → RC n np ad mid pa LV P h hc' 0 (gDo P (16 * p + i) S).2 → Q (some (.int f)) hc') : EV (d + 4) 102 [.ref (ad 9), .int (nI A), .int (nI dp)] hc Q := by
  obtain ⟨o13, ok⟩ := (vp.2.2.1 p hp).2 i hi
  have n6 := vp.2.1
  generalize 16 * p + i = k at *
  obtain ⟨-, ok1, ok2, ok3, ok4, ok5, ok6, ok7, ok8⟩ := ok
  have hop : P.op k = 0 ∨ P.op k = 1 ∨ P.op k = 2 ∨ P.op k = 3 ∨ P.op k = 5 ∨ P.op k = 6 ∨ P.op k = 11 ∨ P.op k = 12 ∨ P.op k = 13 := by omega
  rcases hop with e | e | e | e | e | e | e | e | e
  · have ha := ofC (ok1 (.inl (congrArg nI e)))
    unfold gDo at hQ; simp only [e] at hQ
    rw [e] at s0; rw [ha.2] at s1
    exact ce_0 ha.1 hA fx cw vp r v s0 s1 s2 s3 hQ
  · have ha := ofC (ok1 (.inr (.inl (congrArg nI e))))
    unfold gDo at hQ; simp only [e] at hQ
    rw [e] at s0; rw [ha.2] at s1
    exact ce_1 ha.1 hA fx cw vp r v s0 s1 s2 s3 hQ
  · have ha := ofC (ok1 (.inr (.inr (congrArg nI e))))
    unfold gDo at hQ; simp only [e] at hQ
    rw [e] at s0; rw [ha.2] at s1
    exact ce_2 ha.1 hA fx cw vp r v s0 s1 s2 s3 hQ
  · unfold gDo at hQ; simp only [e] at hQ
    rw [e] at s0
    exact ce_3 hA fx cw vp r v s0 s1 s2 s3 hQ
  · unfold gDo at hQ; simp only [e] at hQ
    rw [e] at s0
    exact ce_5 hA fx cw vp r v s0 s1 s2 s3 hQ
  · unfold gDo at hQ; simp only [e] at hQ
    rw [e] at s0
    have a := ok8 (congrArg nI e)
    have z : ¬ P.a k = 0 := fun z => a.1 (by rw [z]; decide)
    have cr : cRes (P.a k) = -10 - P.a k := if_neg z
    obtain ⟨f5, f6⟩ := r.f5 fx cw
    exact w_c6 (d := d + 3) (r.1.fx fx) hA f5 f6 s0 s1 s2 s3 (hQ _ _ cr.symm r.wk)
  · have ha := ofB n6 (ok6 (congrArg nI e))
    unfold gDo at hQ; simp only [e] at hQ
    rw [e] at s0; rw [ha.2] at s1
    exact ce_11 ha.1 hA fx cw vp r v s0 s1 s2 s3 hQ
  · have q := ok7 (.inl (congrArg nI e))
    have ha := ofB n6 q.1
    have hb := ofS q.2
    unfold gDo at hQ; simp only [e] at hQ
    rw [e] at s0; rw [ha.2] at s1; rw [hb.2] at s2
    have cs : (P.b k).toNatClampNeg ≤ 2 ∨ (P.b k).toNatClampNeg = 3 ∨ (P.b k).toNatClampNeg = 4 := by omega
    rcases cs with c | c | c
    · exact ce_12s c ha.1 hA fx cw vp r v s0 s1 s2 s3 hQ
    · rw [c] at hQ s2; exact ce_123 ha.1 hA fx cw vp r v s0 s1 s2 s3 hQ
    · rw [c] at hQ s2; exact ce_124 ha.1 hA fx cw vp r v s0 s1 s2 s3 hQ
  · have q := ok7 (.inr (congrArg nI e))
    have ha := ofB n6 q.1
    have hb := ofS q.2
    unfold gDo at hQ; simp only [e] at hQ
    rw [e] at s0; rw [ha.2] at s1; rw [hb.2] at s2
    have cs : (P.b k).toNatClampNeg ≤ 2 ∨ (P.b k).toNatClampNeg = 3 ∨ (P.b k).toNatClampNeg = 4 := by omega
    rcases cs with c | c | c
    · exact ce_13s c ha.1 hA fx cw vp r v s0 s1 s2 s3 hQ
    · rw [c] at hQ s2; exact ce_133 ha.1 hA fx cw vp r v s0 s1 s2 s3 hQ
    · rw [c] at hQ s2; exact ce_134 ha.1 hA fx cw vp r v s0 s1 s2 s3 hQ
end CDS

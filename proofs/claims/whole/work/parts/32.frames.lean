/-! ===== more frames: a step is added; an entry of a shelf; wear; a turbine ===== -/
theorem Rp.push {n : Nat} {ad : Nat → Nat} {h h2 : mH} (rp : Rp n ad h) {p l : Nat} {op a b c : Int32} (hp : p < 10) (hl : l < 16) (e1 : hI h (ad 11) p = nI l) (ok : okS n op a b c)
    (f11 : ∀ q, hI h2 (ad 11) q = if q = p then nI (l + 1) else hI h (ad 11) q) (f43 : ∀ q, hI h2 (ad 43) q = if q = p then nI (l + 1) else hI h (ad 43) q)
    (f10 : ∀ q, hI h2 (ad 10) q = if q = 64 * p + 4 * l + 3 then c else if q = 64 * p + 4 * l + 2 then b else if q = 64 * p + 4 * l + 1 then a else if q = 64 * p + 4 * l then op else hI h (ad 10) q)
    (f44 : ∀ q, hI h2 (ad 44) q = if q = 16 * p + l then op else hI h (ad 44) q) (f45 : ∀ q, hI h2 (ad 45) q = if q = 16 * p + l then a else hI h (ad 45) q)
    (f46 : ∀ q, hI h2 (ad 46) q = if q = 16 * p + l then b else hI h (ad 46) q) (f47 : ∀ q, hI h2 (ad 47) q = if q = 16 * p + l then c else hI h (ad 47) q) : Rp n ad h2 := by
  intro p' hp'
  obtain ⟨l', r1, r2, r3, r4⟩ := rp p' hp'
  have old : ∀ s, s < 16 → ¬ (p' = p ∧ s = l) → s < l' → hI h2 (ad 10) ((p' * 16 + s) * 4) = hI h2 (ad 44) (16 * p' + s) ∧ hI h2 (ad 10) ((p' * 16 + s) * 4 + 1) = hI h2 (ad 45) (16 * p' + s) ∧ hI h2 (ad 10) ((p' * 16 + s) * 4 + 2) = hI h2 (ad 46) (16 * p' + s) ∧ hI h2 (ad 10) ((p' * 16 + s) * 4 + 3) = hI h2 (ad 47) (16 * p' + s) ∧ okS n (hI h2 (ad 44) (16 * p' + s)) (hI h2 (ad 45) (16 * p' + s)) (hI h2 (ad 46) (16 * p' + s)) (hI h2 (ad 47) (16 * p' + s)) := by
    intro s hs hne hsl
    have g : ∀ k, k < 4 → hI h2 (ad 10) ((p' * 16 + s) * 4 + k) = hI h (ad 10) ((p' * 16 + s) * 4 + k) := by
      intro k hk
      rw [f10, if_neg (by omega), if_neg (by omega), if_neg (by omega), if_neg (by omega)]
    have g0 := g 0 (by decide)
    rw [Nat.add_zero] at g0
    rw [g0, g 1 (by decide), g 2 (by decide), g 3 (by decide), f44, f45, f46, f47, if_neg (by omega), if_neg (by omega), if_neg (by omega), if_neg (by omega)]
    exact r4 s hsl
  by_cases e : p' = p
  · subst e
    have el : l' = l := (nI_eq (by omega) (by omega)).mp (r2.symm.trans e1)
    subst el
    refine ⟨l' + 1, by omega, by rw [f11, if_pos rfl], by rw [f43, if_pos rfl], fun s hs => ?_⟩
    by_cases es : s = l'
    · subst es
      have i0 : (p' * 16 + s) * 4 = 64 * p' + 4 * s := by omega
      rw [i0]
      have g0 : hI h2 (ad 10) (64 * p' + 4 * s) = op := by rw [f10, if_neg (by omega), if_neg (by omega), if_neg (by omega), if_pos rfl]
      have g1 : hI h2 (ad 10) (64 * p' + 4 * s + 1) = a := by rw [f10, if_neg (by omega), if_neg (by omega), if_pos rfl]
      have g2 : hI h2 (ad 10) (64 * p' + 4 * s + 2) = b := by rw [f10, if_neg (by omega), if_pos rfl]
      have g3 : hI h2 (ad 10) (64 * p' + 4 * s + 3) = c := by rw [f10, if_pos rfl]
      have g4 : hI h2 (ad 44) (16 * p' + s) = op := by rw [f44, if_pos rfl]
      have g5 : hI h2 (ad 45) (16 * p' + s) = a := by rw [f45, if_pos rfl]
      have g6 : hI h2 (ad 46) (16 * p' + s) = b := by rw [f46, if_pos rfl]
      have g7 : hI h2 (ad 47) (16 * p' + s) = c := by rw [f47, if_pos rfl]
      rw [g0, g1, g2, g3, g4, g5, g6, g7]
      exact ⟨rfl, rfl, rfl, rfl, ok⟩
    · exact old s (by omega) (fun z => es z.2) (by omega)
  · refine ⟨l', r1, by rw [f11, if_neg e]; exact r2, by rw [f43, if_neg e]; exact r3, fun s hs => old s (by omega) (fun z => e z.1) hs⟩
section OW
variable {n : Nat} {ad sa : Nat → Nat} {z0 : Nat} {mid pa : Nat → Nat} {np : Nat} {h : mH} {t i : Nat} {v : Option Nat} {x : Int64}
theorem ow_A (fx : FX n ad sa z0 h) {a : Nat} (ha : z0 ≤ a) (hne : a ≠ mid t + 1) : smA h (sL (sR h (mid t + 1) i v) (ad 36) (30 * t + i) x) a := by
  refine ⟨rfl, rfl, rfl, ?_, ?_⟩
  · exact u2_row _ (dy_ad fx (.inl (by decide)) ha) x
  · exact u2_row _ hne v
theorem ow_T {u : Nat} (hi : i < 30) (hu : u ≠ t) : smT ad h (sL (sR h (mid t + 1) i v) (ad 36) (30 * t + i) x) u := ⟨rfl, rfl, rfl, fun j hj => L_nk (by omega)⟩
theorem ow_row (fx : FX n ad sa z0 h) (w1 : hT h (mid t) = 6) (w4 : hT h (mid t + 1) = 24) (hi : i < 30) {u l : Nat} (q : rowR ad z0 h u (mid u) l) : rowR ad z0 (sL (sR h (mid t + 1) i v) (ad 36) (30 * t + i) x) u (mid u) l := by
  refine q.c (ow_A fx q.2.1 (fun e => ?_)) (ow_A fx (by have := q.2.1; omega) (fun e => ?_)) (ow_T hi (fun e => ?_))
  · have := q.1; rw [e, w4] at this; cases this
  · have := q.2.2.2.1; rw [e, w4] at this; cases this
  · have := q.1; rw [e, w1] at this; cases this
theorem Rs.own (fx : FX n ad sa z0 h) (r : Rs ad z0 mid pa np h) (ht : t < 250) (lt : live ad h t) (w1 : hT h (mid t) = 6) (w4 : hT h (mid t + 1) = 24) (hi : i < 30)
    (own : thR ad z0 mid pa np (sL (sR h (mid t + 1) i v) (ad 36) (30 * t + i) x) t (mid t))
    (hl : ∀ u, u < 250 → live ad (sL (sR h (mid t + 1) i v) (ad 36) (30 * t + i) x) u → live ad h u) : Rs ad z0 mid pa np (sL (sR h (mid t + 1) i v) (ad 36) (30 * t + i) x) := by
  have ne6 : ∀ a, hT h a = 6 → a ≠ mid t + 1 := fun a ha e' => by rw [e', w4] at ha; cases ha
  refine ⟨?_, fun c hc => ?_, fun a b ha hb la lb => r.2.2.1 a b ha hb (hl a ha la) (hl b hb lb), r.2.2.2⟩
  · obtain ⟨p1, p2, p3, p4, p5⟩ := r.1
    refine ⟨p1, p2, p3, fun q hq => ?_, p5⟩
    obtain ⟨x1, x2, x3, x4, x5, x6⟩ := p4 q hq
    refine ⟨x1, x2, x3, x4, x5, ?_⟩
    rw [L_ne (dy_ad fx (.inl (by decide)) x2), L_ne (fx_ne fx (by decide))]
    exact x6
  · show caR ad z0 mid pa np _ (hI h (ad 31) c) (hR (sR h (mid t + 1) i v) (ad 1) c)
    have e1 : hR (sR h (mid t + 1) i v) (ad 1) c = hR h (ad 1) c := by
      refine R_ne (fun e => ?_)
      have := fx_t1 fx
      rw [e, w4] at this
      have z1 := (fx_lt fx (i := 1) (.inl (by decide))).1
      have z2 : z0 ≤ mid t + 1 := by
        rcases own with ⟨ln, q⟩ | q | q <;> have := q.2.1 <;> omega
      omega
    rw [e1]
    rcases r.2.1 c hc with w | w | ⟨u, u1, u2, u3, u4⟩
    · exact .inl w
    · exact .inr (.inl w)
    · refine .inr (.inr ⟨u, u1, u2, u3, ?_⟩)
      by_cases e : u = t
      · rw [e]; exact own
      · have hm : mid u ≠ mid t := fun e' => e (r.2.2.1 u t u1 ht (.inl ⟨c, hc, u2⟩) lt e')
        rcases u4 with ⟨l', u4⟩ | u4 | u4
        · exact .inl ⟨l', ow_row fx w1 w4 hi u4⟩
        · refine .inr (.inl (u4.c (ow_A fx u4.2.1 (ne6 _ u4.1)) (ow_A fx (by have := u4.2.1; omega) (fun e' => hm (by omega))) (ow_T hi e) ?_))
          intro j t' s8 hs8 e35 hj ht' e36 qr
          exact ⟨rfl, ow_row fx w1 w4 hi qr⟩
        · exact .inr (.inr (u4.c (ow_A fx u4.2.1 (ne6 _ u4.1)) (ow_A fx (by have := u4.2.1; omega) (fun e' => hm (by omega))) (ow_T hi e) (Nat.le_refl _) (fun _ _ => ⟨rfl, rfl⟩)))
theorem lN_m1 {t : Nat} (ht : t < 2 ^ 31) : ¬ (-1 : Int64) = lN t := fun e => by
  have := l_eq e; rw [lN_toInt ht] at this; have e2 : (-1 : Int64).toInt = -1 := rfl; omega
/-- an entry of a grid is written -/
theorem Rs.link (fx : FX n ad sa z0 h) (r : Rs ad z0 mid pa np h) {sz : Nat} (ht : t < 250) (lt : live ad h t) (q : grdR ad z0 mid h t (mid t)) (hsz : hI h (ad 35) t = nI sz) (hi : i < sz) (hs : sz ≤ 8)
    (e : (x = -1 ∧ v = none) ∨ ∃ t', t' < 250 ∧ x = lN t' ∧ v = some (mid t') ∧ rowR ad z0 h t' (mid t') 3 ∧ live ad h t') : Rs ad z0 mid pa np (sL (sR h (mid t + 1) i v) (ad 36) (30 * t + i) x) := by
  obtain ⟨w1, w2, w3, w4, ⟨w5, w6, w7⟩, sz', w8, w9, w10, w11⟩ := id q
  obtain rfl : sz' = sz := (nI_eq (by omega) (by omega)).mp (w10.symm.trans hsz)
  have d1 : mid t ≠ mid t + 1 := by omega
  refine r.own fx ht lt w1 w4 (by omega) (.inr (.inl ⟨w1, w2, ?_, w4, ⟨w5, w6, w7⟩, sz', w8, w9, w10, fun j hj => ?_⟩)) (fun u hu lu => ?_)
  · show hR (sR h (mid t + 1) i v) (mid t) 1 = _
    rw [R_ne d1]; exact w3
  · by_cases ej : j = i
    · subst ej
      have e1 : hL (sL (sR h (mid t + 1) j v) (ad 36) (30 * t + j) x) (ad 36) (30 * t + j) = x := L_eq
      have e2 : hR (sL (sR h (mid t + 1) j v) (ad 36) (30 * t + j) x) (mid t + 1) j = v := R_eq
      rw [e1, e2]
      rcases e with e | ⟨t', a1, a2, a3, a4, a5⟩
      · exact .inl e
      · exact .inr ⟨t', a1, a2, a3, ow_row fx w1 w4 (by omega) a4⟩
    · have e1 : hL (sL (sR h (mid t + 1) i v) (ad 36) (30 * t + i) x) (ad 36) (30 * t + j) = hL h (ad 36) (30 * t + j) := L_nk (by omega)
      have e2 : hR (sL (sR h (mid t + 1) i v) (ad 36) (30 * t + i) x) (mid t + 1) j = hR h (mid t + 1) j := R_nk ej
      rw [e1, e2]
      rcases w11 j hj with a | ⟨t', a1, a2, a3, a4⟩
      · exact .inl a
      · exact .inr ⟨t', a1, a2, a3, ow_row fx w1 w4 (by omega) a4⟩
  · rcases lu with lu | ⟨c, g, j, s8, e1, e2, e3, e4, e5, e6, e7, e8⟩
    · exact .inl lu
    · by_cases eg : 30 * g + j = 30 * t + i
      · rw [eg, L_eq] at e8
        rcases e with e | ⟨t', a1, a2, a3, a4, a5⟩
        · exact absurd (e.1.symm.trans e8) (lN_m1 (by omega))
        · have : t' = u := (lN_eq (by omega) (by omega)).mp (a2.symm.trans e8)
          rw [← this]; exact a5
      · rw [L_nk eg] at e8
        exact .inr ⟨c, g, j, s8, e1, e2, e3, e4, e5, e6, e7, e8⟩
/-- an entry of a cradle is written -/
theorem Rs.lay (fx : FX n ad sa z0 h) (r : Rs ad z0 mid pa np h) {sz k : Nat} (ht : t < 250) (lt : live ad h t) (q : craR ad z0 pa np h t (mid t)) (hk : hI h (mid t) 0 = nI k) (hk8 : k < 8) (hsz : hI h (ad 35) t = nI sz) (hi : i < sz) (hs : sz ≤ 8)
    (e : (x = -1 ∧ v = none) ∨ ∃ q kq, q < np ∧ x = lN (1000 + q) ∧ v = some (pa q) ∧ hI h (ad 37) q = nI kq ∧ kq < 7 ∧ ofK kq k = true) : Rs ad z0 mid pa np (sL (sR h (mid t + 1) i v) (ad 36) (30 * t + i) x) := by
  obtain ⟨w1, w2, w3, w4, k', ⟨w5, w6, w7, w7'⟩, sz', w8, w9, w10, w11⟩ := id q
  obtain rfl : sz' = sz := (nI_eq (by omega) (by omega)).mp (w10.symm.trans hsz)
  obtain rfl : k' = k := (nI_eq (by omega) (by omega)).mp (w6.symm.trans hk)
  have d1 : mid t ≠ mid t + 1 := by omega
  refine r.own fx ht lt w1 w4 (by omega) (.inr (.inr ⟨w1, w2, ?_, w4, k', ⟨w5, w6, w7, w7'⟩, sz', w8, w9, w10, fun j hj => ?_⟩)) (fun u hu lu => ?_)
  · show hR (sR h (mid t + 1) i v) (mid t) 1 = _
    rw [R_ne d1]; exact w3
  · by_cases ej : j = i
    · subst ej
      have e1 : hL (sL (sR h (mid t + 1) j v) (ad 36) (30 * t + j) x) (ad 36) (30 * t + j) = x := L_eq
      have e2 : hR (sL (sR h (mid t + 1) j v) (ad 36) (30 * t + j) x) (mid t + 1) j = v := R_eq
      rw [e1, e2]
      rcases e with e | ⟨q', kq, a1, a2, a3, a4, a5, a6⟩
      · exact .inl e
      · exact .inr ⟨q', a1, a2, a3, kq, a4, a5, a6⟩
    · have e1 : hL (sL (sR h (mid t + 1) i v) (ad 36) (30 * t + i) x) (ad 36) (30 * t + j) = hL h (ad 36) (30 * t + j) := L_nk (by omega)
      have e2 : hR (sL (sR h (mid t + 1) i v) (ad 36) (30 * t + i) x) (mid t + 1) j = hR h (mid t + 1) j := R_nk ej
      rw [e1, e2]
      exact w11 j hj
  · rcases lu with lu | ⟨c, g, j, s8, e1, e2, e3, e4, e5, e6, e7, e8⟩
    · exact .inl lu
    · by_cases eg : 30 * g + j = 30 * t + i
      · have : g = t := by omega
        have e4' : hI h (ad 33) g = 8 := e4
        rw [this, w7] at e4'
        exact absurd e4' (by decide)
      · rw [L_nk eg] at e8
        exact .inr ⟨c, g, j, s8, e1, e2, e3, e4, e5, e6, e7, e8⟩
theorem Rel_own (fx : FX n ad sa z0 h) (ry : Ry ad h) (rt : Rt ad h) (ra : Ra ad h) (rp : Rp n ad h) (rf : Rf ad h) (rst : Rst sa h) (ru : Ru n ad pa np h) (w2 : z0 ≤ mid t)
    (rs : Rs ad z0 mid pa np (sL (sR h (mid t + 1) i v) (ad 36) (30 * t + i) x)) : Rel n ad sa z0 (sL (sR h (mid t + 1) i v) (ad 36) (30 * t + i) x) := by
  have c : Chf n ad [] [36] h (sL (sR h (mid t + 1) i v) (ad 36) (30 * t + i) x) := by
    intro a j hd _ hn
    exact ⟨rfl, L_ne (fx_ne fx (fun e => hn (by rw [e]; exact List.mem_cons_self))), rfl, R_ne (ad_dy fx hd (by omega))⟩
  have fx2 : FX n ad sa z0 (sR h (mid t + 1) i v) := fx.dyR (by omega)
  exact ⟨mid, pa, np, fx2, ry, rt, ra, rp, rf, rst, Ru.k fx ru c (by decide), rs⟩
/-- a part wears -/
theorem Rs.wear {h2 : mH} (fx : FX n ad sa z0 h) (r : Rs ad z0 mid pa np h) {q : Nat} (hq : q < np) (s1 : ∀ a, z0 ≤ a → a ≠ pa q → smA h h2 a) (s1' : hI h2 (pa q) = hI h (pa q)) (sT : hT h2 = hT h) (sZ : hZ h2 = hZ h) (s2 : ∀ t, smT ad h h2 t)
    (s3 : hI h2 (ad 0) 5 = hI h (ad 0) 5) (s4 : hI h2 (ad 30) 6 = hI h (ad 30) 6) (s5 : ∀ j, hI h2 (ad 37) j = hI h (ad 37) j) (s6 : ∀ j, j ≠ q → hL h2 (ad 38) j = hL h (ad 38) j) (s7 : hL h2 (pa q) 2 = hL h2 (ad 38) q)
    (c1 : ∀ c, hI h2 (ad 31) c = hI h (ad 31) c) (c2 : ∀ c, hR h2 (ad 1) c = hR h (ad 1) c) : Rs ad z0 mid pa np h2 := by
  obtain ⟨⟨p1, p2, p3, p4, p5⟩, r2, r3, r4⟩ := id r
  have tq := (p4 q hq).1
  have ne : ∀ {a k : Nat}, hT h a = k → k ≠ 4 → a ≠ pa q := fun ha hk e => by rw [e, tq] at ha; exact hk ha.symm
  have hrow : ∀ t a ln, rowR ad z0 h t a ln → rowR ad z0 h2 t a ln := fun t a ln w => w.c (s1 _ w.2.1 (ne w.1 (by decide))) (s1 _ (by have := w.2.1; omega) (ne w.2.2.2.1 (by decide))) (s2 t)
  have hl : ∀ t, live ad h2 t → live ad h t := by
    intro t w
    unfold live at w ⊢
    rcases w with ⟨c, w1, w2⟩ | ⟨c, g, i, sz, w1, w2, w3, w4, w5, w6, w7, w8⟩
    · exact .inl ⟨c, w1, (c1 c).symm.trans w2⟩
    · obtain ⟨g1, g2, g3, g4⟩ := s2 g
      exact .inr ⟨c, g, i, sz, w1, w2, (c1 c).symm.trans w3, g1.symm.trans w4, g3.symm.trans w5, w6, w7, (g4 i (by omega)).symm.trans w8⟩
  refine ⟨⟨p1, s3.trans p2, s4.trans p3, fun j hj => ?_, p5⟩, fun c hc => ?_, fun t u ht hu l1 l2 => r3 t u ht hu (hl t l1) (hl u l2), by rw [sT, sZ]; exact r4⟩
  · obtain ⟨w1, w2, w3, w4, w5, w6⟩ := p4 j hj
    rw [sT, s5]
    by_cases e : j = q
    · subst e
      rw [s1']
      exact ⟨w1, w2, w3, w4, w5, s7⟩
    · obtain ⟨a1, a2, a3, a4, a5⟩ := s1 _ w2 (fun z => e (p5 j q hj hq z))
      rw [a3, a4, s6 j e]
      exact ⟨w1, w2, w3, w4, w5, w6⟩
  · rw [c1, c2]
    rcases r2 c hc with w | w | ⟨t, w1, w2, w3, w4⟩
    · exact .inl w
    · exact .inr (.inl w)
    · refine .inr (.inr ⟨t, w1, w2, w3, ?_⟩)
      rcases w4 with ⟨ln, w4⟩ | w4 | w4
      · exact .inl ⟨ln, hrow _ _ _ w4⟩
      · exact .inr (.inl (w4.c (s1 _ w4.2.1 (ne w4.1 (by decide))) (s1 _ (by have := w4.2.1; omega) (ne w4.2.2.2.1 (by decide))) (s2 t) (fun _ _ _ _ _ _ _ _ w => ⟨rfl, hrow _ _ _ w⟩)))
      · exact .inr (.inr (w4.c (s1 _ w4.2.1 (ne w4.1 (by decide))) (s1 _ (by have := w4.2.1; omega) (ne w4.2.2.2.1 (by decide))) (s2 t) (Nat.le_refl _) (fun j _ => ⟨rfl, s5 j⟩)))
end OW
/-! ===== a turbine's groups ===== -/
section TU
variable (ad pa : Nat → Nat) (np : Nat) (h : mH) (t : Nat)
def tu1 : Prop := hI h (ad (100 + 5 * t)) 0 = nI t ∧ hI h (ad (100 + 5 * t)) 1 = hI h (ad 61) t ∧ hI h (ad (100 + 5 * t)) 2 = hI h (ad 62) t ∧ (¬ hI h (ad 61) t < -100 ∧ ¬ 100 < hI h (ad 61) t ∧ ¬ hI h (ad 62) t < -100 ∧ ¬ 100 < hI h (ad 62) t)
def tu2 : Prop := hI h (ad (100 + 5 * t)) 9 = 0 ∧ hI h (ad 56) t = 0
def tu3 : Prop := hI h (ad (100 + 5 * t)) 10 = hI h (ad 66) t ∧ ∃ s, s ≤ 4 ∧ hI h (ad 66) t = nI s
def tu4 : Prop := hL h (ad (100 + 5 * t)) 11 = (hD h (ad 72) t).toInt64 ∧ canD (hD h (ad 72) t)
def tu5 : Prop := hD h (ad (100 + 5 * t)) 12 = hD h (ad 73) t ∧ hD h (ad (100 + 5 * t)) 13 = hD h (ad 67) t ∧ hD h (ad (100 + 5 * t)) 14 = hD h (ad 68) t ∧ hD h (ad (100 + 5 * t)) 15 = hD h (ad 69) t ∧ hD h (ad (100 + 5 * t)) 16 = hD h (ad 70) t ∧ hD h (ad (100 + 5 * t)) 17 = hD h (ad 71) t ∧ ∃ s, hI h (ad 30) 63 = nI s ∧ s ≤ 20480 ∧ NB s (hD h (ad 73) t) (hD h (ad 67) t) (hD h (ad 68) t) (hD h (ad 69) t) (hD h (ad 70) t) (hD h (ad 71) t)
def tu6 : Prop := ∀ s, s < 3 → hL h (ad (102 + 5 * t)) s = (hD h (ad 63) (3 * t + s)).toInt64 ∧ rdOK (hD h (ad 63) (3 * t + s)) ∧ hL h (ad (103 + 5 * t)) s = hL h (ad 64) (3 * t + s) ∧ hL h (ad (104 + 5 * t)) s = hL h (ad 65) (3 * t + s)
def tu7 : Prop := ∀ s, s < 5 → slR pa np (hI h (ad 57) (5 * t + s)) (hR h (ad (101 + 5 * t)) s)
theorem tuR_i : tuR ad pa np h t ↔ tu1 ad h t ∧ tu2 ad h t ∧ tu3 ad h t ∧ tu4 ad h t ∧ tu5 ad h t ∧ tu6 ad h t ∧ tu7 ad pa np h t := Iff.rfl
end TU
section TV
variable {n : Nat} {ad sa pa : Nat → Nat} {z0 np : Nat} {h h2 : mH} {t : Nat}
theorem tu1.c (q : tu1 ad h t) (a : hI h2 (ad (100 + 5 * t)) 0 = hI h (ad (100 + 5 * t)) 0) (a1 : hI h2 (ad (100 + 5 * t)) 1 = hI h (ad (100 + 5 * t)) 1) (a2 : hI h2 (ad (100 + 5 * t)) 2 = hI h (ad (100 + 5 * t)) 2) (b : hI h2 (ad 61) t = hI h (ad 61) t) (c : hI h2 (ad 62) t = hI h (ad 62) t) : tu1 ad h2 t := by
  unfold tu1 at q ⊢; rw [a, a1, a2, b, c]; exact q
theorem tu2.c (q : tu2 ad h t) (a : hI h2 (ad (100 + 5 * t)) 9 = hI h (ad (100 + 5 * t)) 9) (b : hI h2 (ad 56) t = hI h (ad 56) t) : tu2 ad h2 t := by
  unfold tu2 at q ⊢; rw [a, b]; exact q
theorem tu3.c (q : tu3 ad h t) (a : hI h2 (ad (100 + 5 * t)) 10 = hI h (ad (100 + 5 * t)) 10) (b : hI h2 (ad 66) t = hI h (ad 66) t) : tu3 ad h2 t := by
  unfold tu3 at q ⊢; rw [a, b]; exact q
theorem tu4.c (q : tu4 ad h t) (a : hL h2 (ad (100 + 5 * t)) 11 = hL h (ad (100 + 5 * t)) 11) (b : hD h2 (ad 72) t = hD h (ad 72) t) : tu4 ad h2 t := by
  unfold tu4 at q ⊢; rw [a, b]; exact q
theorem tu5.c (q : tu5 ad h t) (a : ∀ j, hD h2 (ad (100 + 5 * t)) j = hD h (ad (100 + 5 * t)) j) (b : ∀ i, 67 ≤ i → i ≤ 73 → hD h2 (ad i) t = hD h (ad i) t) (c : hI h2 (ad 30) 63 = hI h (ad 30) 63) : tu5 ad h2 t := by
  unfold tu5 at q ⊢
  rw [a, a, a, a, a, a, b 73 (by decide) (by decide), b 67 (by decide) (by decide), b 68 (by decide) (by decide), b 69 (by decide) (by decide), b 70 (by decide) (by decide), b 71 (by decide) (by decide), c]; exact q
theorem tu6.c (q : tu6 ad h t) (a : ∀ s, s < 3 → hL h2 (ad (102 + 5 * t)) s = hL h (ad (102 + 5 * t)) s ∧ hL h2 (ad (103 + 5 * t)) s = hL h (ad (103 + 5 * t)) s ∧ hL h2 (ad (104 + 5 * t)) s = hL h (ad (104 + 5 * t)) s ∧ hD h2 (ad 63) (3 * t + s) = hD h (ad 63) (3 * t + s) ∧ hL h2 (ad 64) (3 * t + s) = hL h (ad 64) (3 * t + s) ∧ hL h2 (ad 65) (3 * t + s) = hL h (ad 65) (3 * t + s)) : tu6 ad h2 t := by
  intro s hs
  obtain ⟨a1, a2, a3, a4, a5, a6⟩ := a s hs
  rw [a1, a2, a3, a4, a5, a6]; exact q s hs
theorem tu7.c (q : tu7 ad pa np h t) (a : ∀ s, s < 5 → hR h2 (ad (101 + 5 * t)) s = hR h (ad (101 + 5 * t)) s ∧ hI h2 (ad 57) (5 * t + s) = hI h (ad 57) (5 * t + s)) : tu7 ad pa np h2 t := by
  intro s hs
  obtain ⟨a1, a2⟩ := a s hs
  rw [a1, a2]; exact q s hs
/-- the rows of the reference that tell of turbines -/
def tuL : List Nat := [61, 62, 56, 66, 72, 73, 67, 68, 69, 70, 71, 63, 64, 65, 57]
def tuA : List Nat := tuL ++ [100, 101, 102, 103, 104, 105, 106, 107, 108, 109, 110, 111, 112, 113, 114, 115, 116, 117, 118, 119, 120, 121, 122, 123, 124, 125, 126, 127, 128, 129]
theorem tuA_in {i : Nat} (h1 : 100 ≤ i) (h2 : i < 130) : i ∈ tuA := by
  obtain ⟨k, rfl⟩ : ∃ k, i = 100 + k := ⟨i - 100, by omega⟩
  have : k < 30 := by omega
  have all : ∀ k, k < 30 → 100 + k ∈ tuA := by decide
  exact all k this
/-- turbines' objects and the reference's rows of turbines are changed, no reference of theirs -/
theorem Rel_tu {mid : Nat → Nat} {P : List (Nat × Nat)} {A : List Nat} (fx : FX n ad sa z0 h) (rt : Rt ad h) (ra : Ra ad h) (rp : Rp n ad h) (rf : Rf ad h) (rst : Rst sa h) (rs : Rs ad z0 mid pa np h)
    (c : Chg n ad P A h h2) (hP : ∀ p ∈ P, p = (0, 6) ∨ p = (30, 11) ∨ 100 ≤ p.1) (hA : ∀ i ∈ A, i ∈ tuL ∨ 100 ≤ i) (hR' : hR h2 = hR h) (ry : hI h2 (ad 0) 6 = hI h2 (ad 30) 11) (ru : Ru n ad pa np h2) : Rel n ad sa z0 h2 := by
  obtain ⟨⟨s1, s2, s3, s4⟩, c, y⟩ := c
  have nn := (fx_k fx).2
  have c0 : Chf n ad [(0, 6), (30, 11)] tuA h h2 := by
    intro i j hd p q
    have q2 : ¬ 100 ≤ i := fun z => q (tuA_in z (by rcases hd with hd | hd <;> omega))
    refine c i j hd (fun z => ?_) (fun z => ?_)
    · rcases hP _ z with e | e | e
      · exact p (by rw [e]; simp)
      · exact p (by rw [e]; simp)
      · exact q2 e
    · rcases hA _ z with e | e
      · exact q (List.mem_append_left _ e)
      · exact q2 e
  refine ⟨mid, pa, np, ?_, ry, rt.k c0 (by decide), ra.k c0 (by decide), rp.k c0 (by decide), rf.k c0 (by decide), Rst.k fx rst y, ru, Rs.k fx rs ⟨s1, s2, s3, s4⟩ c0 y (by decide)⟩
  unfold FX
  rw [s1, s2, s3, hR']
  exact fx
end TV

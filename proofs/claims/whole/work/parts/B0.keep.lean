/-! ===== what an act keeps and brings back; printed ===== -/
/-- remembered up to turbine k -/
def REM (n : Nat) (ad : Nat → Nat) (k : Nat) (hs hm : mH) : Prop := (hT hm = hT hs ∧ hN hm = hN hs ∧ hZ hm = hZ hs ∧ hU hm = hU hs) ∧ hD hm = hD hs ∧ hL hm = hL hs ∧ hI hm = hI (sI hs (ad 16) 5 0) ∧ (∀ a, a ≠ ad 17 → a ≠ ad 18 → hR hm a = hR hs a) ∧ (∀ c, c < 24 → hR hm (ad 17) c = hR hs (ad 1) c) ∧ ∀ t s, t < k → s < 5 → hR hm (ad 18) (5 * t + s) = hR hs (ad (101 + 5 * t)) s
/-- brought back up to turbine k -/
def BRB (n : Nat) (ad : Nat → Nat) (W k : Nat) (hc hz : mH) : Prop := (hT hz = hT hc ∧ hN hz = hN hc ∧ hZ hz = hZ hc ∧ hU hz = hU hc) ∧ hD hz = hD hc ∧ hI hz = hI hc ∧ hL hz = unN ad hc W (hL hc) ∧ (∀ a, a ≠ ad 1 → (∀ t, t < k → a ≠ ad (101 + 5 * t)) → hR hz a = hR hc a) ∧ (∀ c, c < 24 → hR hz (ad 1) c = hR hc (ad 17) c) ∧ ∀ t s, t < k → s < 5 → hR hz (ad (101 + 5 * t)) s = hR hc (ad 18) (5 * t + s)
section KB
variable {n np : Nat} {ad sa : Nat → Nat} {z0 : Nat} {mid pa : Nat → Nat} {LV : Nat → Prop} {P : aP} {h hs hm hc hz G : mH} {S : aS} {Q : mQ} {d : Nat}
theorem cpy_in {α : Type} (f g : Nat → α) {i j m k : Nat} (h1 : j ≤ k) (h2 : k < j + m) : va_cpy f g i j m k = f (i + (k - j)) := by
  unfold va_cpy
  exact if_pos ⟨h1, h2⟩
theorem cpy_out {α : Type} (f g : Nat → α) {i j m k : Nat} (h1 : k < j ∨ j + m ≤ k) : va_cpy f g i j m k = g k := by
  unfold va_cpy
  exact if_neg (by omega)
theorem REM.fx {k : Nat} (fx : FX n ad sa z0 hs) (x : REM n ad k hs hm) : FX n ad sa z0 hm := by
  refine FX.of2 fx x.1.1 x.1.2.1 x.1.2.2.1 (fun i hi j => ?_) (fun j => ?_)
  · rw [x.2.2.2.2.1 (ad i) (fx_ne fx ?_) (fx_ne fx ?_)] <;> rcases hi with e | e | e | e | e | e | e | e | ⟨u, hu, e⟩ <;> omega
  · have z : ∀ i, dom n i → (0 : Nat) ≠ ad i := fun i hd => by have := (fx_lt fx hd).2.1; omega
    rw [x.2.2.2.2.1 0 (z 17 (.inl (by decide))) (z 18 (.inl (by decide)))]
theorem c_remember (fx : FX n ad sa z0 hs) (ok1 : ∀ j, j < 24 → okR hs 24 (hR hs (ad 1) j)) (ok2 : ∀ t s, t < n → s < 5 → okR hs 26 (hR hs (ad (101 + 5 * t)) s)) (hQ : ∀ hm, REM n ad n hs hm → Q none hm) : EV (d + 1) 100 [.ref (ad 16), .ref (ad 1), .ref (ad 7)] hs Q := by
  have n6 := (fx_k fx).2
  have lp : ∀ k t hm, t + k = n → REM n ad t hs hm → WR d cd_100 19 [some (.ref (ad 16)), some (.ref (ad 1)), some (.ref (ad 7)), some (.int (nI t))] [] hm Q := by
    intro k
    induction k with
    | zero => intro t hm e x; exact w_ree (x.fx fx) (by omega) n6 (hQ hm (by have : t = n := by omega
                                                                             rw [this] at x; exact x))
    | succ k ih =>
      intro t hm e x
      have fxm := x.fx fx
      obtain ⟨t1, t2, ⟨t4, t5⟩, -, -, -, t3, -⟩ := fx_tb fxm t (by omega)
      have er : hR hm (ad (101 + 5 * t)) = hR hs (ad (101 + 5 * t)) := x.2.2.2.2.1 _ (fx_ne fx (by omega)) (fx_ne fx (by omega))
      have nx : REM n ad (t + 1) hs (cpR hm (ad (101 + 5 * t)) 0 (ad 18) (5 * t) 5) := by
        have y : XR hm (cpR hm (ad (101 + 5 * t)) 0 (ad 18) (5 * t) 5) (ad 18) (va_cpy (hR hm (ad (101 + 5 * t))) (hR hm (ad 18)) 0 (5 * t) 5) := XR.cp
        refine ⟨⟨y.1.1.trans x.1.1, y.1.2.1.trans x.1.2.1, y.1.2.2.1.trans x.1.2.2.1, y.1.2.2.2.trans x.1.2.2.2⟩, y.2.2.2.1.trans x.2.1, y.2.2.1.trans x.2.2.1, y.2.1.trans x.2.2.2.1, fun a h1 h2 => (y.2.2.2.2.1 a h2).trans (x.2.2.2.2.1 a h1 h2), fun c hc => ?_, fun u s hu hs' => ?_⟩
        · rw [y.2.2.2.2.1 _ (fx_ne fx (by decide))]; exact x.2.2.2.2.2.1 c hc
        · rw [y.2.2.2.2.2]
          by_cases e : u = t
          · subst e
            rw [cpy_in _ _ (by omega) (by omega), er]
            rw [show 0 + (5 * u + s - 5 * u) = s by omega]
          · rw [cpy_out _ _ (by omega)]; exact x.2.2.2.2.2.2 u s (by omega) hs'
      refine w_ret fxm (by omega) n6 t1 t2 t3 t4 t5 (fun j hj => ?_) (w_rer (nx.fx fx) (by omega) (ih (t + 1) _ (by omega) nx))
      rw [er, Nat.zero_add]
      intro a ea
      rw [x.1.1]
      exact ok2 t j (by omega) hj a ea
  have nx : REM n ad 0 hs (cpR (sI hs (ad 16) 5 0) (ad 1) 0 (ad 17) 0 24) := by
    have y : XR (sI hs (ad 16) 5 0) (cpR (sI hs (ad 16) 5 0) (ad 1) 0 (ad 17) 0 24) (ad 17) (va_cpy (hR hs (ad 1)) (hR hs (ad 17)) 0 0 24) := XR.cp
    refine ⟨⟨y.1.1, y.1.2.1, y.1.2.2.1, y.1.2.2.2⟩, y.2.2.2.1, y.2.2.1, y.2.1, fun a h1 h2 => y.2.2.2.2.1 a h1, fun c hc => ?_, fun u s hu => absurd hu (by omega)⟩
    rw [y.2.2.2.2.2, cpy_in _ _ (by omega) (by omega)]
    rw [show 0 + (c - 0) = c by omega]
  refine w_re0 fx (fun j hj => ?_) (w_re1 (nx.fx fx) (lp n 0 _ (by omega) nx))
  rw [Nat.zero_add]
  exact ok1 j hj
theorem BRB.fx {W k : Nat} (hk : k ≤ n) (fx : FX n ad sa z0 hc) (x : BRB n ad W k hc hz) : FX n ad sa z0 hz := by
  refine FX.of2 fx x.1.1 x.1.2.1 x.1.2.2.1 (fun i hi j => ?_) (fun j => ?_)
  · rw [x.2.2.2.2.1 (ad i) (fx_ne fx ?_) (fun t ht => fx_ne fx ?_)] <;> rcases hi with e | e | e | e | e | e | e | e | ⟨u, hu, e⟩ <;> omega
  · have z : ∀ i, dom n i → (0 : Nat) ≠ ad i := fun i hd => by have := (fx_lt fx hd).2.1; omega
    rw [x.2.2.2.2.1 0 (z 1 (.inl (by decide))) (fun t ht => z (101 + 5 * t) (.inr ⟨by omega, by omega⟩))]
theorem unN_21 {ad : Nat → Nat} {hc : mH} : ∀ (W : Nat) (f : Nat → Nat → Int64), (∀ k, k < W → (hR hc (ad 19) k).getD 0 + 1 ≠ ad 21) → unN ad hc W f (ad 21) = f (ad 21) := by
  intro W
  induction W with
  | zero => intro f _; rfl
  | succ W ih =>
    intro f e
    rw [unN_s, ih _ (fun k hk => e k (by omega))]
    exact u2_row _ (Ne.symm (e W (by omega))) _
theorem c_bring (fx : FX n ad sa z0 h) (cw : CW np ad mid pa LV P h sa z0) (vp : VP n np LV P) (r : RC n np ad mid pa LV P h hc 0 S) (v : VS n np LV 0 S) (ok1 : ∀ j, j < 24 → okR hc 24 (hR hc (ad 17) j)) (ok2 : ∀ j, j < 5 * n → okR hc 26 (hR hc (ad 18) j)) (hQ : ∀ W hz, (∀ a j, a ≠ ad 21 → unN ad hc W (hL hc) a j = hL h a j) → BRB n ad W n hc hz → Q none hz) : EV (d + 1) 116 [.ref (ad 16), .ref (ad 1), .ref (ad 7)] hc Q := by
  have fxc := r.1.fx fx
  have n6 := (fx_k fx).2
  obtain ⟨W, x1, x2, x3, x4, x5, x6, x7⟩ := id r.2.2.2
  have v1 := v.1
  have ent : ∀ k, k < W → ∃ t b, wri LV P t b ∧ hR hc (ad 19) k = some (mid t) ∧ hI hc (ad 20) k = nI b := x6
  have ne21 : ∀ k, k < W → (hR hc (ad 19) k).getD 0 + 1 ≠ ad 21 := fun k hk => by
    obtain ⟨t, b, y1, y2, -⟩ := ent k hk
    rw [y2]
    exact dy_ad fx (.inl (by decide)) (by have := (cw.2.2.2.1 t y1.1 y1.2.1).1; show z0 ≤ mid t + 1; omega)
  -- the turbines' slots
  have lp2 : ∀ k t hz, t + k = n → BRB n ad W t hc hz → WR d cd_116 53 [some (.ref (ad 16)), some (.ref (ad 1)), some (.ref (ad 7)), some (.int (nI t))] [] hz Q := by
    intro k
    induction k with
    | zero => intro t hz e x; exact w_bbx (x.fx (by omega) fxc) (by omega) n6 (hQ W hz x7 (by have : t = n := by omega
                                                                                              rw [this] at x; exact x))
    | succ k ih =>
      intro t hz e x
      have fxz := x.fx (by omega) fxc
      obtain ⟨t1, t2, ⟨t4, t5⟩, -, -, -, t3, -⟩ := fx_tb fxz t (by omega)
      have er : hR hz (ad 18) = hR hc (ad 18) := x.2.2.2.2.1 _ (fx_ne fx (by decide)) (fun u hu => fx_ne fx (by omega))
      have nx : BRB n ad W (t + 1) hc (cpR hz (ad 18) (5 * t) (ad (101 + 5 * t)) 0 5) := by
        have y : XR hz (cpR hz (ad 18) (5 * t) (ad (101 + 5 * t)) 0 5) (ad (101 + 5 * t)) (va_cpy (hR hz (ad 18)) (hR hz (ad (101 + 5 * t))) (5 * t) 0 5) := XR.cp
        refine ⟨⟨y.1.1.trans x.1.1, y.1.2.1.trans x.1.2.1, y.1.2.2.1.trans x.1.2.2.1, y.1.2.2.2.trans x.1.2.2.2⟩, y.2.2.2.1.trans x.2.1, y.2.1.trans x.2.2.1, y.2.2.1.trans x.2.2.2.1, fun a h1 h2 => (y.2.2.2.2.1 a (h2 t (by omega))).trans (x.2.2.2.2.1 a h1 (fun u hu => h2 u (by omega))), fun c hc' => ?_, fun u s hu hs' => ?_⟩
        · rw [y.2.2.2.2.1 _ (fx_ne fx (by omega))]; exact x.2.2.2.2.2.1 c hc'
        · by_cases e : u = t
          · subst e
            rw [y.2.2.2.2.2, cpy_in _ _ (by omega) (by omega), er, Nat.sub_zero]
          · rw [y.2.2.2.2.1 _ (fx_ne fx (by omega))]; exact x.2.2.2.2.2.2 u s (by omega) hs'
      refine w_bbt fxz (by omega) n6 t1 t2 t3 t4 t5 (fun j hj => ?_) (w_bbr (nx.fx (by omega) fxc) (by omega) (ih (t + 1) _ (by omega) nx))
      rw [er]
      intro a ea
      rw [x.1.1]
      exact ok2 (5 * t + j) (by omega) a ea
  -- the items
  have lp1 : ∀ i g, i ≤ W → (hT g = hT hc ∧ hN g = hN hc ∧ hZ g = hZ hc ∧ hU g = hU hc) → hD g = hD hc → hI g = hI hc → hR g = hR hc → hL g (ad 21) = hL hc (ad 21) → unN ad hc i (hL g) = unN ad hc W (hL hc) → WR d cd_116 7 [some (.ref (ad 16)), some (.ref (ad 1)), some (.ref (ad 7)), some (.int (li i))] [] g Q := by
    intro i
    induction i with
    | zero =>
      intro g _ gT gD gI gR _ gU
      have fxg : FX n ad sa z0 g := fxc.of gT.1 gT.2.1 gT.2.2.1 (fun _ _ _ => by rw [gR]) (fun _ => by rw [gR])
      refine w_bbe fxg (w_bb39 fxg (fun j hj => ?_) ?_)
      · rw [gR, Nat.zero_add]
        intro a ea
        rw [gT.1]
        exact ok1 j hj a ea
      · have nx : BRB n ad W 0 hc (cpR g (ad 17) 0 (ad 1) 0 24) := by
          have y : XR g (cpR g (ad 17) 0 (ad 1) 0 24) (ad 1) (va_cpy (hR g (ad 17)) (hR g (ad 1)) 0 0 24) := XR.cp
          refine ⟨⟨y.1.1.trans gT.1, y.1.2.1.trans gT.2.1, y.1.2.2.1.trans gT.2.2.1, y.1.2.2.2.trans gT.2.2.2⟩, y.2.2.2.1.trans gD, y.2.1.trans gI, y.2.2.1.trans gU, fun a h1 _ => (y.2.2.2.2.1 a h1).trans (by rw [gR]), fun c hc' => ?_, fun u s hu => absurd hu (by omega)⟩
          rw [y.2.2.2.2.2, cpy_in _ _ (by omega) (by omega), gR]
          rw [show 0 + (c - 0) = c by omega]
        exact w_bb51 (nx.fx (by omega) fxc) (lp2 n 0 _ (by omega) nx)
    | succ i ih =>
      intro g hi gT gD gI gR g21 gU
      have fxg : FX n ad sa z0 g := fxc.of gT.1 gT.2.1 gT.2.2.1 (fun _ _ _ => by rw [gR]) (fun _ => by rw [gR])
      obtain ⟨t, b, y1, y2, y3⟩ := ent i (by omega)
      have zt := (cw.2.2.2.1 t y1.1 y1.2.1).1
      obtain ⟨zt', ⟨w1, w2, w3, w4, w5, w6⟩ | ⟨w1, w2⟩⟩ := r.thg fx cw y1.1 y1.2.1
      · have o2 := (vp.2.2.2.2 t y1.1 y1.2.1).2
        have nx := ih (sL g (mid t + 1) b (hL g (ad 21) i)) (by omega) gT gD gI gR ((u2_row _ (Ne.symm (dy_ad fx (i := 21) (.inl (by decide)) (by omega))) _).trans g21) (by
          rw [← gU, unN_s, y2, y3, nI_clamp (by have := y1.2.2.2; omega), g21]
          rfl)
        rw [li_s]
        cases i with
        | zero => exact w_bbiz fxg zt (by rw [gT.1]; exact w1) (by rw [gR]; exact w2) (by rw [gT.1]; exact w3) (by rw [gT.2.1]; exact w6) o2 y1.2.2.2 (by rw [gR]; exact y2) (by rw [gI]; exact y3) nx
        | succ i => rw [li_s] at nx; exact w_bbis fxg (by omega) (by omega) zt (by rw [gT.1]; exact w1) (by rw [gR]; exact w2) (by rw [gT.1]; exact w3) (by rw [gT.2.1]; exact w6) o2 y1.2.2.2 (by rw [gR]; exact y2) (by rw [gI]; exact y3) nx
      · have := y1.2.2.1; omega
  have st := lp1 W hc (Nat.le_refl W) ⟨rfl, rfl, rfl, rfl⟩ rfl rfl rfl rfl rfl
  by_cases w0 : W = 0
  · subst w0
    exact w_bb0 fxc x2 st
  · obtain ⟨W', rfl⟩ : ∃ W', W = W' + 1 := ⟨W - 1, by omega⟩
    rw [li_s] at st
    exact w_bb1 fxc (by omega) (by omega) x2 st
/-- all kept -/
def KP0 (ad : Nat → Nat) (G G' : mH) : Prop := (hT G' = hT G ∧ hN G' = hN G ∧ hZ G' = hZ G ∧ hU G' = hU G) ∧ hD G' = hD G ∧ hR G' = hR G ∧ (∀ a, a ≠ ad 58 → a ≠ ad 59 → hI G' a = hI G a) ∧ (∀ i, i < 24 → hI G' (ad 58) i = hI G (ad 31) i) ∧ (∀ i, i < 30 → hI G' (ad 59) i = hI G (ad 57) i) ∧ (∀ a, a ≠ ad 60 → hL G' a = hL G a) ∧ ∀ i, i < 7500 → hL G' (ad 60) i = hL G (ad 36) i
theorem m_keep0 (fx : FX n ad sa z0 G) (hQ : ∀ G', KP0 ad G G' → Q none G') : EV (d + 1) 210 [.ref (ad 30), .int 0] G Q := by
  have lp3 : ∀ k i M, i + k = 7500 → (hT M = hT G ∧ hN M = hN G ∧ hZ M = hZ G ∧ hU M = hU G) → hD M = hD G → hR M = hR G → (∀ a, a ≠ ad 58 → a ≠ ad 59 → hI M a = hI G a) → (∀ i, i < 24 → hI M (ad 58) i = hI G (ad 31) i) → (∀ i, i < 30 → hI M (ad 59) i = hI G (ad 57) i) → (∀ a, a ≠ ad 60 → hL M a = hL G a) → (∀ j, j < i → hL M (ad 60) j = hL G (ad 36) j) → WR d cd_210 92 [some (.ref (ad 30)), some (.int 0), some (.int (nI i))] [] M Q := by
    intro k
    induction k with
    | zero =>
      intro i M hi a1 a2 a3 a4 a5 a6 a7 a8
      have fxm : FX n ad sa z0 M := fx.of a1.1 a1.2.1 a1.2.2.1 (fun _ _ _ => by rw [a3]) (fun _ => by rw [a3])
      obtain rfl : i = 7500 := by omega
      exact w_ka0_92e fxm (hQ M ⟨a1, a2, a3, a4, a5, a6, a7, a8⟩)
    | succ k ih =>
      intro i M hi a1 a2 a3 a4 a5 a6 a7 a8
      have fxm : FX n ad sa z0 M := fx.of a1.1 a1.2.1 a1.2.2.1 (fun _ _ _ => by rw [a3]) (fun _ => by rw [a3])
      refine w_ka0_92 fxm (by omega) (ih (i + 1) _ (by omega) a1 a2 a3 a4 a5 a6 (fun a ha => (u2_row _ ha _).trans (a7 a ha)) (fun j hj => ?_))
      rw [hL_sL]
      by_cases e : j = i
      · rw [if_pos ⟨rfl, e⟩, e, a7 _ (fx_ne fx (by decide))]
      · rw [if_neg (fun z => e z.2)]; exact a8 j (by omega)
  have lp2 : ∀ k i M, i + k = 30 → (hT M = hT G ∧ hN M = hN G ∧ hZ M = hZ G ∧ hU M = hU G) → hD M = hD G → hR M = hR G → hL M = hL G → (∀ a, a ≠ ad 58 → a ≠ ad 59 → hI M a = hI G a) → (∀ i, i < 24 → hI M (ad 58) i = hI G (ad 31) i) → (∀ j, j < i → hI M (ad 59) j = hI G (ad 57) j) → WR d cd_210 47 [some (.ref (ad 30)), some (.int 0), some (.int (nI i))] [] M Q := by
    intro k
    induction k with
    | zero =>
      intro i M hi a1 a2 a3 aL a4 a5 a6
      have fxm : FX n ad sa z0 M := fx.of a1.1 a1.2.1 a1.2.2.1 (fun _ _ _ => by rw [a3]) (fun _ => by rw [a3])
      obtain rfl : i = 30 := by omega
      exact w_ka0_47e fxm (lp3 7500 0 M rfl a1 a2 a3 a4 a5 a6 (fun _ _ => by rw [aL]) (fun _ hj => absurd hj (Nat.not_lt_zero _)))
    | succ k ih =>
      intro i M hi a1 a2 a3 aL a4 a5 a6
      have fxm : FX n ad sa z0 M := fx.of a1.1 a1.2.1 a1.2.2.1 (fun _ _ _ => by rw [a3]) (fun _ => by rw [a3])
      refine w_ka0_47 fxm (by omega) (ih (i + 1) _ (by omega) a1 a2 a3 aL (fun a h1 h2 => (u2_row _ h2 _).trans (a4 a h1 h2)) (fun j hj => ?_) (fun j hj => ?_))
      · rw [I_ne (fx_ne fx (by decide))]; exact a5 j hj
      · rw [hI_sI]
        by_cases e : j = i
        · rw [if_pos ⟨rfl, e⟩, e, a4 _ (fx_ne fx (by decide)) (fx_ne fx (by decide))]
        · rw [if_neg (fun z => e z.2)]; exact a6 j (by omega)
  have lp1 : ∀ k i M, i + k = 24 → (hT M = hT G ∧ hN M = hN G ∧ hZ M = hZ G ∧ hU M = hU G) → hD M = hD G → hR M = hR G → hL M = hL G → (∀ a, a ≠ ad 58 → hI M a = hI G a) → (∀ j, j < i → hI M (ad 58) j = hI G (ad 31) j) → WR d cd_210 2 [some (.ref (ad 30)), some (.int 0), some (.int (nI i))] [] M Q := by
    intro k
    induction k with
    | zero =>
      intro i M hi a1 a2 a3 aL a4 a5
      have fxm : FX n ad sa z0 M := fx.of a1.1 a1.2.1 a1.2.2.1 (fun _ _ _ => by rw [a3]) (fun _ => by rw [a3])
      obtain rfl : i = 24 := by omega
      exact w_ka0_2e fxm (lp2 30 0 M rfl a1 a2 a3 aL (fun a h1 _ => a4 a h1) a5 (fun _ hj => absurd hj (Nat.not_lt_zero _)))
    | succ k ih =>
      intro i M hi a1 a2 a3 aL a4 a5
      have fxm : FX n ad sa z0 M := fx.of a1.1 a1.2.1 a1.2.2.1 (fun _ _ _ => by rw [a3]) (fun _ => by rw [a3])
      refine w_ka0_2 fxm (by omega) (ih (i + 1) _ (by omega) a1 a2 a3 aL (fun a h1 => (u2_row _ h1 _).trans (a4 a h1)) (fun j hj => ?_))
      rw [hI_sI]
      by_cases e : j = i
      · rw [if_pos ⟨rfl, e⟩, e, a4 _ (fx_ne fx (by decide))]
      · rw [if_neg (fun z => e z.2)]; exact a5 j (by omega)
  exact w_ka0 fx (lp1 24 0 G rfl ⟨rfl, rfl, rfl, rfl⟩ rfl rfl rfl (fun _ _ => rfl) (fun _ hj => absurd hj (Nat.not_lt_zero _)))
/-- all kept, the other way -/
def KP1 (ad : Nat → Nat) (G G' : mH) : Prop := (hT G' = hT G ∧ hN G' = hN G ∧ hZ G' = hZ G ∧ hU G' = hU G) ∧ hD G' = hD G ∧ hR G' = hR G ∧ (∀ a, a ≠ ad 31 → a ≠ ad 57 → hI G' a = hI G a) ∧ (∀ i, i < 24 → hI G' (ad 31) i = hI G (ad 58) i) ∧ (∀ i, i < 30 → hI G' (ad 57) i = hI G (ad 59) i) ∧ (∀ a, a ≠ ad 36 → hL G' a = hL G a) ∧ ∀ i, i < 7500 → hL G' (ad 36) i = hL G (ad 60) i
theorem m_keep1 (fx : FX n ad sa z0 G) (hQ : ∀ G', KP1 ad G G' → Q none G') : EV (d + 1) 210 [.ref (ad 30), .int 1] G Q := by
  have lp3 : ∀ k i M, i + k = 7500 → (hT M = hT G ∧ hN M = hN G ∧ hZ M = hZ G ∧ hU M = hU G) → hD M = hD G → hR M = hR G → (∀ a, a ≠ ad 31 → a ≠ ad 57 → hI M a = hI G a) → (∀ i, i < 24 → hI M (ad 31) i = hI G (ad 58) i) → (∀ i, i < 30 → hI M (ad 57) i = hI G (ad 59) i) → (∀ a, a ≠ ad 36 → hL M a = hL G a) → (∀ j, j < i → hL M (ad 36) j = hL G (ad 60) j) → WR d cd_210 92 [some (.ref (ad 30)), some (.int 1), some (.int (nI i))] [] M Q := by
    intro k
    induction k with
    | zero =>
      intro i M hi a1 a2 a3 a4 a5 a6 a7 a8
      have fxm : FX n ad sa z0 M := fx.of a1.1 a1.2.1 a1.2.2.1 (fun _ _ _ => by rw [a3]) (fun _ => by rw [a3])
      obtain rfl : i = 7500 := by omega
      exact w_ka1_92e fxm (hQ M ⟨a1, a2, a3, a4, a5, a6, a7, a8⟩)
    | succ k ih =>
      intro i M hi a1 a2 a3 a4 a5 a6 a7 a8
      have fxm : FX n ad sa z0 M := fx.of a1.1 a1.2.1 a1.2.2.1 (fun _ _ _ => by rw [a3]) (fun _ => by rw [a3])
      refine w_ka1_92 fxm (by omega) (ih (i + 1) _ (by omega) a1 a2 a3 a4 a5 a6 (fun a ha => (u2_row _ ha _).trans (a7 a ha)) (fun j hj => ?_))
      rw [hL_sL]
      by_cases e : j = i
      · rw [if_pos ⟨rfl, e⟩, e, a7 _ (fx_ne fx (by decide))]
      · rw [if_neg (fun z => e z.2)]; exact a8 j (by omega)
  have lp2 : ∀ k i M, i + k = 30 → (hT M = hT G ∧ hN M = hN G ∧ hZ M = hZ G ∧ hU M = hU G) → hD M = hD G → hR M = hR G → hL M = hL G → (∀ a, a ≠ ad 31 → a ≠ ad 57 → hI M a = hI G a) → (∀ i, i < 24 → hI M (ad 31) i = hI G (ad 58) i) → (∀ j, j < i → hI M (ad 57) j = hI G (ad 59) j) → WR d cd_210 47 [some (.ref (ad 30)), some (.int 1), some (.int (nI i))] [] M Q := by
    intro k
    induction k with
    | zero =>
      intro i M hi a1 a2 a3 aL a4 a5 a6
      have fxm : FX n ad sa z0 M := fx.of a1.1 a1.2.1 a1.2.2.1 (fun _ _ _ => by rw [a3]) (fun _ => by rw [a3])
      obtain rfl : i = 30 := by omega
      exact w_ka1_47e fxm (lp3 7500 0 M rfl a1 a2 a3 a4 a5 a6 (fun _ _ => by rw [aL]) (fun _ hj => absurd hj (Nat.not_lt_zero _)))
    | succ k ih =>
      intro i M hi a1 a2 a3 aL a4 a5 a6
      have fxm : FX n ad sa z0 M := fx.of a1.1 a1.2.1 a1.2.2.1 (fun _ _ _ => by rw [a3]) (fun _ => by rw [a3])
      refine w_ka1_47 fxm (by omega) (ih (i + 1) _ (by omega) a1 a2 a3 aL (fun a h1 h2 => (u2_row _ h2 _).trans (a4 a h1 h2)) (fun j hj => ?_) (fun j hj => ?_))
      · rw [I_ne (fx_ne fx (by decide))]; exact a5 j hj
      · rw [hI_sI]
        by_cases e : j = i
        · rw [if_pos ⟨rfl, e⟩, e, a4 _ (fx_ne fx (by decide)) (fx_ne fx (by decide))]
        · rw [if_neg (fun z => e z.2)]; exact a6 j (by omega)
  have lp1 : ∀ k i M, i + k = 24 → (hT M = hT G ∧ hN M = hN G ∧ hZ M = hZ G ∧ hU M = hU G) → hD M = hD G → hR M = hR G → hL M = hL G → (∀ a, a ≠ ad 31 → hI M a = hI G a) → (∀ j, j < i → hI M (ad 31) j = hI G (ad 58) j) → WR d cd_210 2 [some (.ref (ad 30)), some (.int 1), some (.int (nI i))] [] M Q := by
    intro k
    induction k with
    | zero =>
      intro i M hi a1 a2 a3 aL a4 a5
      have fxm : FX n ad sa z0 M := fx.of a1.1 a1.2.1 a1.2.2.1 (fun _ _ _ => by rw [a3]) (fun _ => by rw [a3])
      obtain rfl : i = 24 := by omega
      exact w_ka1_2e fxm (lp2 30 0 M rfl a1 a2 a3 aL (fun a h1 _ => a4 a h1) a5 (fun _ hj => absurd hj (Nat.not_lt_zero _)))
    | succ k ih =>
      intro i M hi a1 a2 a3 aL a4 a5
      have fxm : FX n ad sa z0 M := fx.of a1.1 a1.2.1 a1.2.2.1 (fun _ _ _ => by rw [a3]) (fun _ => by rw [a3])
      refine w_ka1_2 fxm (by omega) (ih (i + 1) _ (by omega) a1 a2 a3 aL (fun a h1 => (u2_row _ h1 _).trans (a4 a h1)) (fun j hj => ?_))
      rw [hI_sI]
      by_cases e : j = i
      · rw [if_pos ⟨rfl, e⟩, e, a4 _ (fx_ne fx (by decide))]
      · rw [if_neg (fun z => e z.2)]; exact a5 j (by omega)
  exact w_ka1 fx (lp1 24 0 G rfl ⟨rfl, rfl, rfl, rfl⟩ rfl rfl rfl (fun _ _ => rfl) (fun _ hj => absurd hj (Nat.not_lt_zero _)))
end KB

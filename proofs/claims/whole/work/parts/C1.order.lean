/-! ===== run: the order of the turbines, both sides ===== -/
def dxP (w : Nat) : Int32 := (stA 2).getD w 0
def dyP (w : Nat) : Int32 := (stA 3).getD w 0
def lnP (x y : Int32) (w : Nat) : Int32 := (x * dxP w) + (y * dyP w)
def crP (x y : Int32) (w : Nat) : Int32 := (x * dyP w) - (y * dxP w)
/-- where turbine t goes among r that are in order -/
def posL (L : Nat → Int32) (o : Nat → Nat) (t : Nat) : Nat → Nat
  | 0 => 0
  | r + 1 => if L (o r) ≤ L t then r + 1 else posL L o t r
def srtL (L : Nat → Int32) : Nat → Nat → Nat
  | 0 => fun i => i
  | t + 1 => fun i => if i < posL L (srtL L t) t t then srtL L t i else if i = posL L (srtL L t) t t then t else srtL L t (i - 1)
theorem srtL_s {L : Nat → Int32} {t i : Nat} : srtL L (t + 1) i = if i < posL L (srtL L t) t t then srtL L t i else if i = posL L (srtL L t) t t then t else srtL L t (i - 1) := rfl
theorem posL_s {L : Nat → Int32} {o : Nat → Nat} {t r : Nat} : posL L o t (r + 1) = if L (o r) ≤ L t then r + 1 else posL L o t r := rfl
theorem posL_le {L : Nat → Int32} {o : Nat → Nat} {t : Nat} : ∀ r, posL L o t r ≤ r := by
  intro r
  induction r with
  | zero => exact Nat.le_refl 0
  | succ r ih =>
    unfold posL
    split
    · exact Nat.le_refl _
    · omega
theorem srtL_lt {L : Nat → Int32} : ∀ k i, i < k → srtL L k i < k := by
  intro k
  induction k with
  | zero => intro i hi; omega
  | succ t ih =>
    intro i hi
    have hp := posL_le (L := L) (o := srtL L t) (t := t) t
    rw [srtL_s]
    split
    · have := ih i (by omega); omega
    · split
      · omega
      · have := ih (i - 1) (by omega); omega
/-- the class's turbines are in order up to k -/
def ARR (n : Nat) (ad : Nat → Nat) (L C : Nat → Int32) (H A : mH) (k : Nat) : Prop := (hT A = hT H ∧ hN A = hN H ∧ hZ A = hZ H ∧ hU A = hU H) ∧ hD A = hD H ∧ hL A = hL H ∧ (∀ a j, (∀ t, t < k → ¬ (a = ad (100 + 5 * t) ∧ (j = 3 ∨ j = 4))) → hI A a j = hI H a j) ∧ (∀ t, t < k → hI A (ad (100 + 5 * t)) 3 = L t ∧ hI A (ad (100 + 5 * t)) 4 = C t) ∧ (∀ a, a ≠ ad 8 → hR A a = hR H a) ∧ ∀ i, i < k → hR A (ad 8) i = some (ad (100 + 5 * srtL L k i))
/-- turbine t looks for its place, which is at most r -/
def INN (n : Nat) (ad : Nat → Nat) (L C : Nat → Int32) (H A : mH) (t r : Nat) : Prop := (hT A = hT H ∧ hN A = hN H ∧ hZ A = hZ H ∧ hU A = hU H) ∧ hD A = hD H ∧ hL A = hL H ∧ (∀ a j, (∀ u, u < t + 1 → ¬ (a = ad (100 + 5 * u) ∧ (j = 3 ∨ j = 4))) → hI A a j = hI H a j) ∧ (∀ u, u < t + 1 → hI A (ad (100 + 5 * u)) 3 = L u ∧ hI A (ad (100 + 5 * u)) 4 = C u) ∧ (∀ a, a ≠ ad 8 → hR A a = hR H a) ∧ (∀ i, i < r → hR A (ad 8) i = some (ad (100 + 5 * srtL L t i))) ∧ ∀ i, r < i → i ≤ t → hR A (ad 8) i = some (ad (100 + 5 * srtL L t (i - 1)))
section OD
variable {n : Nat} {ad sa : Nat → Nat} {z0 : Nat} {H A G h : mH} {Q : mQ} {d w : Nat} {L C : Nat → Int32}
theorem fx_r8 (fx : FX n ad sa z0 H) (e : hT A = hT H ∧ hN A = hN H ∧ hZ A = hZ H ∧ hU A = hU H) (q : ∀ a, a ≠ ad 8 → hR A a = hR H a) : FX n ad sa z0 A := by
  refine FX.of2 fx e.1 e.2.1 e.2.2.1 (fun i hi j => ?_) (fun j => ?_)
  · rw [q (ad i) (fx_ne fx ?_)]
    rcases hi with e | e | e | e | e | e | e | e | ⟨u, hu, e⟩ <;> omega
  · rw [q 0 (by have := (fx_lt fx (i := 8) (.inl (by decide))).2.1; omega)]
/-- the place is found -/
theorem INN.fin (fx : FX n ad sa z0 H) {t : Nat} (x : INN n ad L C H A t (posL L (srtL L t) t t)) : ARR n ad L C H (sR A (ad 8) (posL L (srtL L t) t t) (some (ad (100 + 5 * t)))) (t + 1) := by
  obtain ⟨x1, x2, x3, x4, x5, x6, x7, x8⟩ := x
  refine ⟨x1, x2, x3, x4, x5, fun a ha => (u2_row _ ha _).trans (x6 a ha), fun i hi => ?_⟩
  rw [hR_sR, srtL_s]
  by_cases e : i = posL L (srtL L t) t t
  · rw [if_pos ⟨rfl, e⟩, if_neg (by omega), if_pos e]
  · rw [if_neg (fun z => e z.2)]
    by_cases e2 : i < posL L (srtL L t) t t
    · rw [if_pos e2]; exact x7 i e2
    · rw [if_neg e2, if_neg e]; exact x8 i (by omega) (by omega)
theorem c_arr (fx : FX n ad sa z0 H) (ew : hI H (ad 4) 4 = nI w) (w8 : w < 8) (rst : Rst sa H) (eL : ∀ t, L t = lnP (hI H (ad (100 + 5 * t)) 1) (hI H (ad (100 + 5 * t)) 2) w) (eC : ∀ t, C t = crP (hI H (ad (100 + 5 * t)) 1) (hI H (ad (100 + 5 * t)) 2) w) (hQ : ∀ A, ARR n ad L C H A n → Q none A) : EV (d + 1) 127 [.ref (ad 4)] H Q := by
  have n6 := (fx_k fx).2
  have lp : ∀ k t A o2 o3, t + k = n → ARR n ad L C H A t → WR d cd_127 2 [some (.ref (ad 4)), some (.int (nI t)), o2, o3] [] A Q := by
    intro k
    induction k with
    | zero =>
      intro t A o2 o3 e x
      obtain rfl : t = n := by omega
      exact w_are (fx_r8 fx x.1 x.2.2.2.2.2.1) rfl n6 (hQ A x)
    | succ k ih =>
      intro t A o2 o3 e x
      obtain ⟨x1, x2, x3, x4, x5, x6, x7⟩ := id x
      have fxA := fx_r8 fx x1 x6
      obtain ⟨t1, t2, -⟩ := fx_tb fxA t (by omega)
      have nt : ∀ i j, (∀ u, u < t → i ≠ 100 + 5 * u) → hI A (ad i) j = hI H (ad i) j := fun i j hi => x4 _ _ (fun u hu z => hi u hu (fx_inj fx z.1))
      have nt2 : ∀ j, hI A (ad (100 + 5 * t)) j = hI H (ad (100 + 5 * t)) j := fun j => nt _ j (fun u hu => by omega)
      have ns : ∀ j i, j < 4 → i < (stA j).length → hI A (sa j) i = (stA j).getD i 0 := fun j i hj hi => by
        rw [x4 (sa j) i (fun u hu z => (fx_lt fx (i := 100 + 5 * u) (.inr ⟨by omega, by omega⟩)).2.2 j hj z.1)]
        exact rst j hj i hi
      have b2 : hI A (sa 2) w = dxP w := ns 2 w (by decide) (by show w < 8; exact w8)
      have b3 : hI A (sa 3) w = dyP w := ns 3 w (by decide) (by show w < 8; exact w8)
      refine w_ar1 fxA (by omega) t1 t2 w8 n6 (by rw [nt 4 4 (fun u hu => by omega)]; exact ew) b2 b3 (nt2 1) (nt2 2) ?_
      -- the inner loop
      have inn : ∀ r B, r ≤ t → posL L (srtL L t) t r = posL L (srtL L t) t t → INN n ad L C H B t r → WR d cd_127 82 [some (.ref (ad 4)), some (.int (nI t)), some (.ref (ad (100 + 5 * t))), some (.int (nI r))] [] B Q := by
        intro r
        induction r with
        | zero =>
          intro B _ ep y
          obtain ⟨y1, y2, y3, y4, y5, y6, y7, y8⟩ := id y
          have fxB := fx_r8 fx y1 y6
          obtain ⟨t1, t2, -⟩ := fx_tb fxB t (by omega)
          refine w_ar2z fxB (by omega) t1 t2 n6 (ih (t + 1) _ _ _ (by omega) ?_)
          have e0 : posL L (srtL L t) t t = 0 := ep.symm
          have q := INN.fin (L := L) (C := C) (A := B) fx (t := t) (by rw [e0]; exact y)
          rw [e0] at q
          exact q
        | succ r ihr =>
          intro B hr ep y
          obtain ⟨y1, y2, y3, y4, y5, y6, y7, y8⟩ := id y
          have fxB := fx_r8 fx y1 y6
          obtain ⟨t1, t2, -⟩ := fx_tb fxB t (by omega)
          have su := srtL_lt (L := L) t r (by omega)
          obtain ⟨u1, u2, -⟩ := fx_tb fxB (srtL L t r) (by omega)
          rw [posL_s] at ep
          refine w_ar2 (r := r + 1) (u := srtL L t r) fxB (by omega) t1 t2 (by omega) u1 u2 n6 (by omega) hr (y7 r (by omega)) (y5 _ (by omega)).1 (y5 t (by omega)).1 (fun c => ?_) (fun c => ?_)
          · rw [if_pos c] at ep
            refine w_ar3 fxB (by omega) t1 t2 n6 hr (ih (t + 1) _ _ _ (by omega) ?_)
            have q := INN.fin (L := L) (C := C) (A := B) fx (t := t) (by rw [← ep]; exact y)
            rw [← ep] at q
            exact q
          · rw [if_neg c] at ep
            refine ihr _ (by omega) ep ⟨y1, y2, y3, y4, y5, fun a ha => (u2_row _ ha _).trans (y6 a ha), fun i hi => ?_, fun i h1 h2 => ?_⟩
            · rw [hR_sR, if_neg (fun z => by omega)]; exact y7 i (by omega)
            · rw [hR_sR]
              by_cases e : i = r + 1
              · rw [if_pos ⟨rfl, e⟩, e]; rfl
              · rw [if_neg (fun z => e z.2)]; exact y8 i (by omega) h2
      refine inn t _ (Nat.le_refl t) rfl ⟨x1, x2, x3, fun a j hj => ?_, fun u hu => ?_, x6, x7, fun i h1 h2 => absurd h2 (by omega)⟩
      · rw [hI_sI, if_neg (fun z => hj t (by omega) ⟨z.1, .inr z.2⟩), hI_sI, if_neg (fun z => hj t (by omega) ⟨z.1, .inl z.2⟩)]
        exact x4 a j (fun u hu => hj u (by omega))
      · by_cases e : u = t
        · subst e
          refine ⟨?_, ?_⟩
          · rw [I_nk (by decide), I_eq, eL]; rfl
          · rw [I_eq, eC]; rfl
        · rw [I_ne (fx_ne fx (by omega)), I_ne (fx_ne fx (by omega)), I_ne (fx_ne fx (by omega)), I_ne (fx_ne fx (by omega))]
          exact x5 u (by omega)
  refine w_ar0 fx (lp n 0 H none none (by omega) ⟨⟨rfl, rfl, rfl, rfl⟩, rfl, rfl, fun _ _ _ => rfl, fun t ht => absurd ht (by omega), fun _ _ => rfl, fun i hi => absurd hi (by omega)⟩)
/-! the reference's -/
theorem c_dx (fx : FX n ad sa z0 h) (w8 : w < 8) (ew : hI h (ad 30) 61 = nI w) (hQ : Q (some (.int (dxP w))) h) : EV (d + 1) 233 [.ref (ad 30)] h Q := by
  have cs : w = 0 ∨ w = 1 ∨ w = 2 ∨ w = 3 ∨ w = 4 ∨ w = 5 ∨ w = 6 ∨ w = 7 := by omega
  rcases cs with rfl | rfl | rfl | rfl | rfl | rfl | rfl | rfl <;> refine w_dx fx w8 ew (fun c1 => ?_) (fun c1 c2 c3 => ?_) (fun c1 c2 c3 c4 => ?_) (fun c1 c2 c3 c4 => ?_) (fun c1 c2 => ?_) <;> first | exact hQ | exact absurd c1 (by decide) | exact absurd c2 (by decide) | exact absurd c3 (by decide) | exact absurd c4 (by decide)
theorem c_dy (fx : FX n ad sa z0 h) (w8 : w < 8) (ew : hI h (ad 30) 61 = nI w) (hQ : Q (some (.int (dyP w))) h) : EV (d + 1) 234 [.ref (ad 30)] h Q := by
  have cs : w = 0 ∨ w = 1 ∨ w = 2 ∨ w = 3 ∨ w = 4 ∨ w = 5 ∨ w = 6 ∨ w = 7 := by omega
  rcases cs with rfl | rfl | rfl | rfl | rfl | rfl | rfl | rfl <;> refine w_dy fx w8 ew (fun c1 => ?_) (fun c1 c2 c3 => ?_) (fun c1 c2 c3 => ?_) (fun c1 c2 => ?_) <;> first | exact hQ | exact absurd c1 (by decide) | exact absurd c2 (by decide) | exact absurd c3 (by decide)
theorem c_line {t : Nat} (fx : FX n ad sa z0 h) (w8 : w < 8) (ew : hI h (ad 30) 61 = nI w) (t6 : t < 6) (hQ : Q (some (.int (lnP (hI h (ad 61) t) (hI h (ad 62) t) w))) h) : EV (d + 2) 232 [.ref (ad 30), .int (nI t)] h Q :=
  w_ln0 (d := d + 1) fx t6 (c_dx fx w8 ew (w_ln1 (d := d + 1) fx t6 (c_dy fx w8 ew (w_ln2 (d := d + 1) fx hQ))))
theorem c_cross {t : Nat} (fx : FX n ad sa z0 h) (w8 : w < 8) (ew : hI h (ad 30) 61 = nI w) (t6 : t < 6) (hQ : Q (some (.int (crP (hI h (ad 61) t) (hI h (ad 62) t) w))) h) : EV (d + 2) 238 [.ref (ad 30), .int (nI t)] h Q :=
  w_cr0 (d := d + 1) fx t6 (c_dy fx w8 ew (w_cr1 (d := d + 1) fx t6 (c_dx fx w8 ew (w_cr2 (d := d + 1) fx hQ))))
/-- the reference's turbines are in order up to k: only row 75 has changed -/
def ODR (ad : Nat → Nat) (L : Nat → Int32) (H A : mH) (k : Nat) : Prop := (hT A = hT H ∧ hN A = hN H ∧ hZ A = hZ H ∧ hU A = hU H) ∧ hD A = hD H ∧ hL A = hL H ∧ hR A = hR H ∧ (∀ a, a ≠ ad 75 → hI A a = hI H a) ∧ ∀ i, i < k → hI A (ad 75) i = nI (srtL L k i)
def ODI (ad : Nat → Nat) (L : Nat → Int32) (H A : mH) (t r : Nat) : Prop := (hT A = hT H ∧ hN A = hN H ∧ hZ A = hZ H ∧ hU A = hU H) ∧ hD A = hD H ∧ hL A = hL H ∧ hR A = hR H ∧ (∀ a, a ≠ ad 75 → hI A a = hI H a) ∧ (∀ i, i < r → hI A (ad 75) i = nI (srtL L t i)) ∧ ∀ i, r < i → i ≤ t → hI A (ad 75) i = nI (srtL L t (i - 1))
theorem ODI.fin {t : Nat} (x : ODI ad L H A t (posL L (srtL L t) t t)) : ODR ad L H (sI A (ad 75) (posL L (srtL L t) t t) (nI t)) (t + 1) := by
  obtain ⟨x1, x2, x3, x4, x5, x7, x8⟩ := x
  refine ⟨x1, x2, x3, x4, fun a ha => (u2_row _ ha _).trans (x5 a ha), fun i hi => ?_⟩
  rw [hI_sI, srtL_s]
  by_cases e : i = posL L (srtL L t) t t
  · rw [if_pos ⟨rfl, e⟩, if_neg (by omega), if_pos e]
  · rw [if_neg (fun z => e z.2)]
    by_cases e2 : i < posL L (srtL L t) t t
    · rw [if_pos e2]; exact x7 i e2
    · rw [if_neg e2, if_neg e]; exact x8 i (by omega) (by omega)
theorem m_order (fx : FX n ad sa z0 H) (ew : hI H (ad 30) 61 = nI w) (w8 : w < 8) (en : hI H (ad 30) 12 = nI n) (eL : ∀ t, t < n → L t = lnP (hI H (ad 61) t) (hI H (ad 62) t) w) (hQ : ∀ A, ODR ad L H A n → Q none A) : EV (d + 3) 231 [.ref (ad 30)] H Q := by
  have n6 := (fx_k fx).2
  have fxo : ∀ A : mH, (hT A = hT H ∧ hN A = hN H ∧ hZ A = hZ H ∧ hU A = hU H) → hR A = hR H → FX n ad sa z0 A := fun A e q => fx.of e.1 e.2.1 e.2.2.1 (fun _ _ _ => by rw [q]) (fun _ => by rw [q])
  have lp : ∀ k t A o2, t + k = n → ODR ad L H A t → WR (d + 2) cd_231 2 [some (.ref (ad 30)), some (.int (nI t)), o2] [] A Q := by
    intro k
    induction k with
    | zero =>
      intro t A o2 e x
      obtain rfl : t = n := by omega
      exact w_ode (fxo A x.1 x.2.2.2.1) rfl n6 (by rw [x.2.2.2.2.1 _ (fx_ne fx (by decide))]; exact en) (hQ A x)
    | succ k ih =>
      intro t A o2 e x
      obtain ⟨x1, x2, x3, x4, x5, x7⟩ := id x
      have fxA := fxo A x1 x4
      refine w_od1 fxA (by omega) n6 (by rw [x5 _ (fx_ne fx (by decide))]; exact en) ?_
      have inn : ∀ r B, r ≤ t → posL L (srtL L t) t r = posL L (srtL L t) t t → ODI ad L H B t r → WR (d + 2) cd_231 12 [some (.ref (ad 30)), some (.int (nI t)), some (.int (nI r))] [] B Q := by
        intro r
        induction r with
        | zero =>
          intro B _ ep y
          have fxB := fxo B y.1 y.2.2.2.1
          refine w_od2z fxB (by omega) (ih (t + 1) _ _ (by omega) ?_)
          have e0 : posL L (srtL L t) t t = 0 := ep.symm
          have q := ODI.fin (ad := ad) (L := L) (H := H) (A := B) (t := t) (by rw [e0]; exact y)
          rw [e0] at q
          exact q
        | succ r ihr =>
          intro B hr ep y
          obtain ⟨y1, y2, y3, y4, y5, y7, y8⟩ := id y
          have fxB := fxo B y1 y4
          have su := srtL_lt (L := L) t r (by omega)
          have o5 : ∀ i, i ≠ 75 → hI B (ad i) = hI H (ad i) := fun i hi => y5 _ (fx_ne fx hi)
          have ewB : hI B (ad 30) 61 = nI w := by rw [o5 30 (by decide)]; exact ew
          have eu := y7 r (by omega)
          rw [posL_s] at ep
          refine w_od2 (r := r + 1) fxB (by omega) (u := srtL L t r) (by omega) (by omega) hr eu (c_line fxB w8 ewB (by omega) ?_)
          rw [o5 61 (by decide), o5 62 (by decide), ← eL _ (by omega)]
          refine w_od3 fxB (c_line fxB w8 ewB (by omega) ?_)
          rw [o5 61 (by decide), o5 62 (by decide), ← eL t (by omega)]
          refine w_od4 (r := r + 1) fxB (by omega) (u := srtL L t r) (by omega) (by omega) hr eu (fun c => ?_) (fun c => ?_)
          · rw [if_pos c] at ep
            refine w_od5 fxB (by omega) hr (ih (t + 1) _ _ (by omega) ?_)
            have q := ODI.fin (ad := ad) (L := L) (H := H) (A := B) (t := t) (by rw [← ep]; exact y)
            rw [← ep] at q
            exact q
          · rw [if_neg c] at ep
            refine ihr _ (by omega) ep ⟨y1, y2, y3, y4, fun a ha => (u2_row _ ha _).trans (y5 a ha), fun i hi => ?_, fun i h1 h2 => ?_⟩
            · rw [hI_sI, if_neg (fun z => by omega)]; exact y7 i (by omega)
            · rw [hI_sI]
              by_cases e : i = r + 1
              · rw [if_pos ⟨rfl, e⟩, e]; rfl
              · rw [if_neg (fun z => e z.2)]; exact y8 i (by omega) h2
      exact inn t A (Nat.le_refl t) rfl ⟨x1, x2, x3, x4, x5, x7, fun i h1 h2 => absurd h2 (by omega)⟩
  exact w_od0 fx (lp n 0 H none (by omega) ⟨⟨rfl, rfl, rfl, rfl⟩, rfl, rfl, rfl, fun _ _ => rfl, fun i hi => absurd hi (by omega)⟩)
end OD

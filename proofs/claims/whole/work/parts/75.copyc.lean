/-! ===== copies: heaps, and copyTo of the class by contract ===== -/
theorem FX.of {n : Nat} {ad sa : Nat → Nat} {z0 : Nat} {h C : mH} (fx : FX n ad sa z0 h) (e1 : hT C = hT h) (e2 : hN C = hN h) (e3 : hZ C = hZ h) (q : ∀ i j, dom n i → hR C (ad i) j = hR h (ad i) j) (q0 : ∀ j, hR C 0 j = hR h 0 j) : FX n ad sa z0 C := by
  obtain ⟨x1, x2, x3, x4, x5, x6, x7, x8, x9⟩ := id fx
  unfold FX FXc
  rw [e1, e2, e3]
  refine ⟨x1, x2, fun r hr => ?_, fun t ht => ?_, fun j hj => ?_, x6, x7, x8, x9⟩
  · rw [q _ _ ?_]; exact x3 r hr
    have : ∀ r ∈ fxR, (r.1 < 23 ∨ 30 ≤ r.1) ∧ r.1 < 76 := by decide
    exact .inl (this r hr)
  · obtain ⟨y1, y2, y3, y4, y5, y6, y7, y8, y9, y10⟩ := x4 t ht
    have d0 : dom n (100 + 5 * t) := .inr ⟨by omega, by omega⟩
    refine ⟨?_, y2, y3, y4, y5, y6, ?_, ?_, ?_, ?_⟩
    · rw [q _ _ (.inl (by decide))]; exact y1
    · rw [q _ _ d0]; exact y7
    · rw [q _ _ d0]; exact y8
    · rw [q _ _ d0]; exact y9
    · rw [q _ _ d0]; exact y10
  · obtain ⟨y1, y2, y3⟩ := x5 j hj
    rw [q0]
    exact ⟨y1, y2, y3⟩
theorem nI_dec {k : Nat} (hk : 1 ≤ k) : nI k + (-1) = nI (k - 1) := by
  have := pk_m1 (k - 1)
  rw [show k - 1 + 1 = k by omega] at this
  exact this
section CP
variable {d : Nat} {Q : mQ} {n : Nat} {ad sa : Nat → Nat} {z0 : Nat} {H C : mH} {a b i j m : Nat}
/-- the references of row x have become f -/
def XR (H C : mH) (x : Nat) (f : Nat → Option Nat) : Prop := (hT C = hT H ∧ hN C = hN H ∧ hZ C = hZ H ∧ hU C = hU H) ∧ hI C = hI H ∧ hL C = hL H ∧ hD C = hD H ∧ (∀ y, y ≠ x → hR C y = hR H y) ∧ hR C x = f
/-- the longs of row x have become f -/
def XL (H C : mH) (x : Nat) (f : Nat → Int64) : Prop := (hT C = hT H ∧ hN C = hN H ∧ hZ C = hZ H ∧ hU C = hU H) ∧ hI C = hI H ∧ hR C = hR H ∧ hD C = hD H ∧ (∀ y, y ≠ x → hL C y = hL H y) ∧ hL C x = f
theorem XR.cp {a0 : Nat} : XR H (cpR H a0 i a j m) a (va_cpy (hR H a0) (hR H a) i j m) := ⟨⟨rfl, rfl, rfl, rfl⟩, rfl, rfl, rfl, fun y hy => if_neg hy, if_pos rfl⟩
theorem XL.cp {a0 : Nat} : XL H (cpL H a0 i a j m) a (va_cpy (hL H a0) (hL H a) i j m) := ⟨⟨rfl, rfl, rfl, rfl⟩, rfl, rfl, rfl, fun y hy => if_neg hy, if_pos rfl⟩
theorem cpy_0 {α : Type} (f g : Nat → α) (i j : Nat) : va_cpy f g i j 0 = g := by
  funext p; exact pk_cpy_out (by omega)
theorem cpy_s {α : Type} (f g : Nat → α) (i j k p : Nat) : va_cpy f g i j (k + 1) p = if p = j + k then f (i + k) else va_cpy f g i j k p := by
  by_cases e : p = j + k
  · rw [if_pos e, pk_cpy_in (by omega) (by omega), e, show j + k - j = k by omega]
  · rw [if_neg e]
    by_cases e2 : j ≤ p ∧ p < j + k
    · rw [pk_cpy_in (by omega) (by omega), pk_cpy_in e2.1 e2.2]
    · rw [pk_cpy_out (by omega), pk_cpy_out (by omega)]
theorem XR.st {k : Nat} {f g : Nat → Option Nat} (x : XR H C b (va_cpy f g i j k)) : XR H (sR C b (j + k) (f (i + k))) b (va_cpy f g i j (k + 1)) := by
  obtain ⟨x0, x1, x2, x3, x4, x5⟩ := x
  refine ⟨x0, x1, x2, x3, fun y hy => (u2_row _ hy _).trans (x4 y hy), ?_⟩
  funext p
  rw [cpy_s]
  by_cases e : p = j + k
  · rw [if_pos e, e]; exact R_eq
  · rw [if_neg e, R_nk e, x5]
theorem XR.fx {x : Nat} {f : Nat → Option Nat} (fx : FX n ad sa z0 H) (e : XR H C x f) (hx : z0 ≤ x) : FX n ad sa z0 C := by
  have z1 := (fx_lt fx (i := 0) (.inl (by decide)))
  exact fx.of e.1.1 e.1.2.1 e.1.2.2.1 (fun i j hd => by rw [e.2.2.2.2.1 _ (ad_dy fx hd hx)]) (fun j => by rw [e.2.2.2.2.1 _ (by omega)])
theorem c_copyR {sA sB : Nat} (fx : FX n ad sa z0 H) (ta : hT H a = 5) (tb : hT H b = 5) (ra : hR H a 1 = some (a + 1)) (rb : hR H b 1 = some (b + 1)) (tA : hT H (a + 1) = 21) (tB : hT H (b + 1) = 21) (nA : hN H (a + 1) = sA) (nB : hN H (b + 1) = sB) (hA : i + m ≤ sA) (hB : j + m ≤ sB) (sA3 : sA ≤ 30) (sB3 : sB ≤ 30)
    (hQ : ∀ C, XL H C (b + 1) (va_cpy (hL H (a + 1)) (hL H (b + 1)) i j m) → Q (some (.int 0)) C) : EV (d + 1) 56 [.ref a, .ref b, .int (nI i), .int (nI j), .int (nI m)] H Q := by
  have ei : (nI i).toNatClampNeg = i := nI_clamp (by omega)
  have ej : (nI j).toNatClampNeg = j := nI_clamp (by omega)
  have em : (nI m).toNatClampNeg = m := nI_clamp (by omega)
  refine w_cpr fx ta tb ra rb tA tB (nI i) (nI j) (nI m) ?_ ?_
  · rw [ei, ej, em, nA, nB]; exact ⟨nI_pos (by omega), nI_pos (by omega), nI_pos (by omega), hA, hB⟩
  · rw [ei, ej, em]; exact hQ _ XL.cp
theorem cx_45 {sA sB : Nat} (fx : FX n ad sa z0 H) (ta : hT H a = 6) (tb : hT H b = 6) (ra : hR H a 1 = some (a + 1)) (rb : hR H b 1 = some (b + 1)) (tA : hT H (a + 1) = 24) (tB : hT H (b + 1) = 24) (hz : z0 ≤ b) (ne : b ≠ a) (nA : hN H (a + 1) = sA) (nB : hN H (b + 1) = sB) (hA : i + m ≤ sA) (hB : j + m ≤ sB) (sA3 : sA ≤ 30) (sB3 : sB ≤ 30) (E : Nat → Prop)
    (ok : ∀ k x, k < m → hR H (a + 1) (i + k) = some x → okE 24 (hT H x))
    (wel : ∀ k C, k < m → XR H C (b + 1) (va_cpy (hR H (a + 1)) (hR H (b + 1)) i j k) → DP d 47 [.ref b, va_rf (hR H (a + 1) (i + k))] C (E k))
    (hQ1 : ∀ C, (∀ k, k < m → E k) → XR H C (b + 1) (va_cpy (hR H (a + 1)) (hR H (b + 1)) i j m) → Q (some (.int 0)) C)
    (hQ0 : ∀ C k, k < m → (∀ k', k' < k → E k') → ¬ E k → XR H C (b + 1) (va_cpy (hR H (a + 1)) (hR H (b + 1)) i j k) → Q (some (.int (-15))) C) :
    ∀ r k C (o7 : Option Value), k + r = m → (∀ k', k' < k → E k') → XR H C (b + 1) (va_cpy (hR H (a + 1)) (hR H (b + 1)) i j k) → WR d cd_57 45 [some (.ref a), some (.ref b), some (.int (nI i)), some (.int (nI j)), some (.int (nI m)), some (.ref b), some (.int (nI k)), o7] [] C Q := by
  intro r
  have ab : a ≠ b + 1 := fun e => by rw [e, tB] at ta; cases ta
  have bb : b ≠ b + 1 := by omega
  have aa : a + 1 ≠ b + 1 := by omega
  have n10 : ¬ (1 : Int32) = 0 := by decide
  induction r with
  | zero =>
    intro k C o7 hk q x
    obtain rfl : k = m := by omega
    have tt : ∀ y, hT C y = hT H y := fun y => by rw [x.1.1]
    have hR' := x.2.2.2.2.1
    have z : nI k ≤ nI k := nI_le (Nat.le_refl _) (by omega)
    exact w_cp45 (x.fx fx (by omega)) ((tt _).trans ta) ((tt _).trans tb) (by rw [hR' _ ab]; exact ra) (by rw [hR' _ bb]; exact rb) ((tt _).trans tA) ((tt _).trans tB) (nI i) (nI j) (nI k) (nI k) o7 (fun w => absurd z w) (fun _ => hQ1 C q x) (fun w => absurd z w) (fun w => absurd z w)
  | succ r ih =>
    intro k C o7 hk q x
    have tt : ∀ y, hT C y = hT H y := fun y => by rw [x.1.1]
    have hR' := x.2.2.2.2.1
    have nz : ¬ nI m ≤ nI k := nI_ge (by omega) (by omega)
    have ei : (nI i + nI k).toNatClampNeg = i + k := by rw [nI_add]; exact nI_clamp (by omega)
    have ej : (nI j + nI k).toNatClampNeg = j + k := by rw [nI_add]; exact nI_clamp (by omega)
    have fxC := x.fx fx (by omega)
    have tac := (tt _).trans ta
    have tbc := (tt _).trans tb
    have rac : hR C a 1 = some (a + 1) := by rw [hR' _ ab]; exact ra
    have rbc : hR C b 1 = some (b + 1) := by rw [hR' _ bb]; exact rb
    have tAc := (tt _).trans tA
    have tBc := (tt _).trans tB
    have bi : vp_in (nI i + nI k) (hN C (a + 1)) := by rw [nI_add, x.1.2.1, nA]; exact vp_in_nI (by omega) (by omega)
    have bj : vp_in (nI j + nI k) (hN C (b + 1)) := by rw [nI_add, x.1.2.1, nB]; exact vp_in_nI (by omega) (by omega)
    have wl := wel k C (by omega) x
    have nx : ∀ C' (o7 : Option Value), E k → C' = sR C (b + 1) (j + k) (hR H (a + 1) (i + k)) → WR d cd_57 45 [some (.ref a), some (.ref b), some (.int (nI i)), some (.int (nI j)), some (.int (nI m)), some (.ref b), some (.int (nI k + 1)), o7] [] C' Q := by
      intro C' o7 w e
      rw [nI_1, e]
      refine ih (k + 1) _ o7 (by omega) (fun k' hk' => ?_) x.st
      by_cases e : k' = k
      · rw [e]; exact w
      · exact q k' (by omega)
    refine w_cp45 fxC tac tbc rac rbc tAc tBc (nI i) (nI j) (nI m) (nI k) o7 (fun _ => bi) (fun w => absurd w nz) ?_ ?_
    · rw [ei, hR' _ aa]
      intro _ e
      rw [e] at wl
      refine wl _ (fun w => ?_) (fun w => ?_)
      · refine w_cp70n fxC tac tbc rac rbc tAc tBc (nI i) (nI j) (nI m) (nI k) 1 (fun _ => bj) (fun _ => ?_) (fun z => absurd z n10)
        exact nx _ _ w (by rw [ej, e])
      · exact w_cp70n fxC tac tbc rac rbc tAc tBc (nI i) (nI j) (nI m) (nI k) 0 (fun z => absurd rfl z) (fun z => absurd rfl z) (fun _ => hQ0 C k (by omega) q w x)
    · rw [ei, hR' _ aa]
      intro _ y e
      rw [e] at wl
      refine wl _ (fun w => ?_) (fun w => ?_)
      · refine w_cp70a fxC tac tbc rac rbc tAc tBc (nI i) (nI j) (nI m) (nI k) 1 y (fun _ => bj) (fun _ => by rw [tt]; exact ok k y (by omega) e) (fun _ => ?_) (fun z => absurd z n10)
        exact nx _ _ w (by rw [ej, e])
      · exact w_cp70a fxC tac tbc rac rbc tAc tBc (nI i) (nI j) (nI m) (nI k) 0 y (fun z => absurd rfl z) (fun z => absurd rfl z) (fun z => absurd rfl z) (fun _ => hQ0 C k (by omega) q w x)
theorem c_copyS {sA sB : Nat} (fx : FX n ad sa z0 H) (ta : hT H a = 6) (tb : hT H b = 6) (ra : hR H a 1 = some (a + 1)) (rb : hR H b 1 = some (b + 1)) (tA : hT H (a + 1) = 24) (tB : hT H (b + 1) = 24) (hz : z0 ≤ b) (nA : hN H (a + 1) = sA) (nB : hN H (b + 1) = sB) (hA : i + m ≤ sA) (hB : j + m ≤ sB) (sA3 : sA ≤ 30) (sB3 : sB ≤ 30) (E : Nat → Prop)
    (ok : ∀ k x, k < m → hR H (a + 1) (i + k) = some x → okE 24 (hT H x))
    (wel : ∀ k C, k < m → XR H C (b + 1) (va_cpy (hR H (a + 1)) (hR H (b + 1)) i j k) → DP d 47 [.ref b, va_rf (hR H (a + 1) (i + k))] C (E k)) (own : b = a → ∀ k, k < m → E k)
    (hQ1 : ∀ C, (∀ k, k < m → E k) → XR H C (b + 1) (va_cpy (hR H (a + 1)) (hR H (b + 1)) i j m) → Q (some (.int 0)) C)
    (hQ0 : ∀ C k, k < m → (∀ k', k' < k → E k') → ¬ E k → XR H C (b + 1) (va_cpy (hR H (a + 1)) (hR H (b + 1)) i j k) → Q (some (.int (-15))) C) : EV (d + 1) 57 [.ref a, .ref b, .int (nI i), .int (nI j), .int (nI m)] H Q := by
  have ei : (nI i).toNatClampNeg = i := nI_clamp (by omega)
  have ej : (nI j).toNatClampNeg = j := nI_clamp (by omega)
  have em : (nI m).toNatClampNeg = m := nI_clamp (by omega)
  refine w_cps fx ta tb ra rb tA tB (nI i) (nI j) (nI m) ?_ ?_ ?_ ?_
  · intro e
    subst e
    rw [ei, ej, em, nA]; exact ⟨nI_pos (by omega), nI_pos (by omega), nI_pos (by omega), hA, by rw [← nA, nB]; exact hB⟩
  · intro e k hk x ex
    rw [em] at hk
    rw [ei] at ex
    exact ok k x hk ex
  · intro ne
    exact cx_45 fx ta tb ra rb tA tB hz ne nA nB hA hB sA3 sB3 E ok wel hQ1 hQ0 m 0 H none (by omega) (fun k' h => absurd h (Nat.not_lt_zero _)) ⟨⟨rfl, rfl, rfl, rfl⟩, rfl, rfl, rfl, fun _ _ => rfl, (cpy_0 _ _ _ _).symm⟩
  · intro e
    subst e
    rw [ei, ej, em]
    exact hQ1 _ (own rfl) XR.cp
end CP

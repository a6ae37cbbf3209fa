/-! ===== copy of the reference by contract ===== -/
section CM
variable {d : Nat} {Q : mQ} {n : Nat} {ad sa : Nat → Nat} {z0 : Nat} {H M : mH} {t u i j m : Nat}
/-- behind k places of the reference's copy; taken is full -/
def MC (ad : Nat → Nat) (H M : mH) (t u i j m k : Nat) : Prop := (hT M = hT H ∧ hN M = hN H ∧ hZ M = hZ H ∧ hU M = hU H) ∧ hI M = hI H ∧ hD M = hD H ∧ hR M = hR H ∧ (∀ y, y ≠ ad 36 → y ≠ ad 41 → hL M y = hL H y) ∧ (∀ p, p < m → hL M (ad 41) p = hL H (ad 36) (30 * t + i + p)) ∧ hL M (ad 36) = va_cpy (hL H (ad 36)) (hL H (ad 36)) (30 * t + i) (30 * u + j) k
theorem MC.fx {k : Nat} (fx : FX n ad sa z0 H) (x : MC ad H M t u i j m k) : FX n ad sa z0 M := fx.of x.1.1 x.1.2.1 x.1.2.2.1 (fun _ _ _ => by rw [x.2.2.2.1]) (fun _ => by rw [x.2.2.2.1])
theorem MC.tk {k : Nat} (fx : FX n ad sa z0 H) (x : MC ad H M t u i j k 0) : MC ad H (sL M (ad 41) k (hL M (ad 36) (30 * t + i + k))) t u i j (k + 1) 0 := by
  obtain ⟨x0, x1, x2, x3, x4, x5, x6⟩ := x
  have n1 : ad 36 ≠ ad 41 := fx_ne fx (by decide)
  refine ⟨x0, x1, x2, x3, fun y h1 h2 => (u2_row _ h2 _).trans (x4 y h1 h2), fun p hp => ?_, (u2_row _ n1 _).trans x6⟩
  by_cases e : p = k
  · rw [e, L_eq, x6, cpy_0]
  · rw [L_nk e]; exact x5 p (by omega)
theorem MC.st {k : Nat} (fx : FX n ad sa z0 H) (hk : k < m) (x : MC ad H M t u i j m k) : MC ad H (sL M (ad 36) (30 * u + j + k) (hL M (ad 41) k)) t u i j m (k + 1) := by
  obtain ⟨x0, x1, x2, x3, x4, x5, x6⟩ := x
  have n1 : ad 41 ≠ ad 36 := fx_ne fx (by decide)
  refine ⟨x0, x1, x2, x3, fun y h1 h2 => (u2_row _ h1 _).trans (x4 y h1 h2), fun p hp => ?_, ?_⟩
  · rw [L_ne n1]; exact x5 p hp
  · funext p
    rw [cpy_s]
    by_cases e : p = 30 * u + j + k
    · rw [if_pos e, e, L_eq, x5 k hk]
    · rw [if_neg e, L_nk e, x6]
theorem mc_178 {c e : Int32} {o9 o10 : Option Value} (fx : FX n ad sa z0 H) (ht : t < 250) (hu : u < 250) (hA : i + m ≤ 30) (hB : j + m ≤ 30)
    (hQ : ∀ M, MC ad H M t u i j m 0 → WR d cd_179 216 [some (.ref (ad 30)), some (.int c), some (.int (nI i)), some (.int e), some (.int (nI j)), some (.int (nI m)), some (.int (nI t)), some (.int (nI u)), some (.int 0), o9, o10] [] M Q) :
    ∀ r k M, k + r = m → MC ad H M t u i j k 0 → WR d cd_179 178 [some (.ref (ad 30)), some (.int c), some (.int (nI i)), some (.int e), some (.int (nI j)), some (.int (nI m)), some (.int (nI t)), some (.int (nI u)), some (.int (nI k)), o9, o10] [] M Q := by
  intro r
  induction r with
  | zero =>
    intro k M hk x
    obtain rfl : k = m := by omega
    have z : nI k ≤ nI k := nI_le (Nat.le_refl _) (by omega)
    exact w_cm178 (x.fx fx) c (nI i) e (nI j) (nI k) (nI t) (nI u) (nI k) o9 o10 (fun w => absurd z w) (fun w => absurd z w) (fun _ => hQ M x) (fun w => absurd z w)
  | succ r ih =>
    intro k M hk x
    have nz : ¬ nI m ≤ nI k := nI_ge (by omega) (by omega)
    have ix : (30 : Int32) * nI t + nI i + nI k = nI (30 * t + i + k) := by rw [show (30 : Int32) = nI 30 from rfl, pk_mul, nI_add, nI_add]
    refine w_cm178 (x.fx fx) c (nI i) e (nI j) (nI m) (nI t) (nI u) (nI k) o9 o10 (fun _ => ?_) (fun _ => vp_in_nI (by omega) (by omega)) (fun w => absurd w nz) (fun _ => ?_)
    · rw [ix]; exact vp_in_nI (by omega) (by omega)
    · rw [ix, nI_clamp (show 30 * t + i + k < 2 ^ 31 by omega), nI_clamp (show k < 2 ^ 31 by omega), nI_1]
      exact ih (k + 1) _ (by omega) (x.tk fx)
theorem mc_216 {c e : Int32} (fx : FX n ad sa z0 H) (ht : t < 250) (hu : u < 250) (hA : i + m ≤ 30) (hB : j + m ≤ 30) (E : Nat → Prop)
    (bel : ∀ k M (o9 o10 : Option Value), k < m → MC ad H M t u i j m k → ∃ x : Int32, (E k → WR (d + 2) cd_179 305 [some (.ref (ad 30)), some (.int c), some (.int (nI i)), some (.int e), some (.int (nI j)), some (.int (nI m)), some (.int (nI t)), some (.int (nI u)), some (.int (nI k)), some (.int x), o10] [.int 1] M Q) → (¬ E k → WR (d + 2) cd_179 305 [some (.ref (ad 30)), some (.int c), some (.int (nI i)), some (.int e), some (.int (nI j)), some (.int (nI m)), some (.int (nI t)), some (.int (nI u)), some (.int (nI k)), some (.int x), o10] [.int 0] M Q) → WR (d + 2) cd_179 216 [some (.ref (ad 30)), some (.int c), some (.int (nI i)), some (.int e), some (.int (nI j)), some (.int (nI m)), some (.int (nI t)), some (.int (nI u)), some (.int (nI k)), o9, o10] [] M Q)
    (hQ1 : ∀ M, (∀ k, k < m → E k) → MC ad H M t u i j m m → Q (some (.int (nI m))) (sI M (ad 30) 11 0))
    (hQ0 : ∀ M k, k < m → (∀ k', k' < k → E k') → ¬ E k → MC ad H M t u i j m k → Q (some (.int (-15))) (sI M (ad 30) 11 (-15))) :
    ∀ r k M (o9 o10 : Option Value), k + r = m → (∀ k', k' < k → E k') → MC ad H M t u i j m k → WR (d + 2) cd_179 216 [some (.ref (ad 30)), some (.int c), some (.int (nI i)), some (.int e), some (.int (nI j)), some (.int (nI m)), some (.int (nI t)), some (.int (nI u)), some (.int (nI k)), o9, o10] [] M Q := by
  intro r
  have n10 : ¬ (1 : Int32) = 0 := by decide
  induction r with
  | zero =>
    intro k M o9 o10 hk q x
    obtain rfl : k = m := by omega
    have z : nI k ≤ nI k := nI_le (Nat.le_refl _) (by omega)
    have z2 : (-1 : Int32) ≤ nI k := Int32.le_iff_toInt_le.mpr (by have b : (nI k).toInt = ((k : Nat) : Int) := nI_toInt (by omega); have c2 : (-1 : Int32).toInt = -1 := rfl; omega)
    exact w_cm216 (d := d + 1) (x.fx fx) c (nI i) e (nI j) (nI k) (nI t) (nI u) (nI k) o9 o10 (fun w => absurd z w) (fun w => absurd z w) (fun w => absurd z w) (fun w => absurd z w) (fun w => absurd z w) (fun w => absurd z w) (fun _ _ => hQ1 M q x) (fun _ w => absurd z2 w) (fun w => absurd z w) (fun w => absurd z w) (fun w => absurd z w) (fun w => absurd z w) (fun w => absurd z w)
  | succ r ih =>
    intro k M o9 o10 hk q x
    have ix : (30 : Int32) * nI u + nI j + nI k = nI (30 * u + j + k) := by rw [show (30 : Int32) = nI 30 from rfl, pk_mul, nI_add, nI_add]
    obtain ⟨y, hy⟩ := bel k M o9 o10 (by omega) x
    refine hy (fun w => ?_) (fun w => ?_)
    · refine w_cm305 (x.fx fx) c (nI i) e (nI j) (nI m) (nI t) (nI u) (nI k) y 1 o10 (fun _ => vp_in_nI (by omega) (by omega)) (fun _ => ?_) (fun _ => ?_) (fun z => absurd z n10)
      · rw [ix]; exact vp_in_nI (by omega) (by omega)
      · rw [ix, nI_clamp (show 30 * u + j + k < 2 ^ 31 by omega), nI_clamp (show k < 2 ^ 31 by omega), nI_1]
        refine ih (k + 1) _ _ _ (by omega) (fun k' hk' => ?_) (x.st fx (by omega))
        by_cases e : k' = k
        · rw [e]; exact w
        · exact q k' (by omega)
    · exact w_cm305 (x.fx fx) c (nI i) e (nI j) (nI m) (nI t) (nI u) (nI k) y 0 o10 (fun z => absurd rfl z) (fun z => absurd rfl z) (fun z => absurd rfl z) (fun _ => hQ0 M k (by omega) q w x)
/-- what belongs, by the reference's words -/
def BEL (st su : Nat) (x : Int64) (O : Prop) : Prop := st < 8 ∨ x = -1 ∨ (st = su ∧ (st = 8 ∨ O))
theorem mc_bel {c e : Int32} {st su : Nat} (fx : FX n ad sa z0 H) (ht : t < 250) (hu : u < 250) (hA : i + m ≤ 30) (s1 : hI H (ad 33) t = nI st) (s2 : hI H (ad 33) u = nI su) (l1 : st < 10) (l2 : su < 10) {k : Nat} (O : Prop)
    (hx : st < 8 ∨ hL H (ad 36) (30 * t + i + k) = -1 ∨ ∃ v, v < 2000 ∧ hL H (ad 36) (30 * t + i + k) = lN v ∧ (st = 9 → su = 9 → ∃ q kq ku, v = 1000 + q ∧ q < 60 ∧ hI H (ad 37) q = nI kq ∧ kq < 7 ∧ hI H (ad 34) u = nI ku ∧ ku < 8 ∧ (O ↔ ofK kq ku = true)))
    (h89 : 8 ≤ st → st = su → st = 8 ∨ st = 9) (hk : k < m) {M : mH} (o9 o10 : Option Value) (x : MC ad H M t u i j m k) :
    ∃ y : Int32, (BEL st su (hL H (ad 36) (30 * t + i + k)) O → WR (d + 2) cd_179 305 [some (.ref (ad 30)), some (.int c), some (.int (nI i)), some (.int e), some (.int (nI j)), some (.int (nI m)), some (.int (nI t)), some (.int (nI u)), some (.int (nI k)), some (.int y), o10] [.int 1] M Q) → (¬ BEL st su (hL H (ad 36) (30 * t + i + k)) O → WR (d + 2) cd_179 305 [some (.ref (ad 30)), some (.int c), some (.int (nI i)), some (.int e), some (.int (nI j)), some (.int (nI m)), some (.int (nI t)), some (.int (nI u)), some (.int (nI k)), some (.int y), o10] [.int 0] M Q) → WR (d + 2) cd_179 216 [some (.ref (ad 30)), some (.int c), some (.int (nI i)), some (.int e), some (.int (nI j)), some (.int (nI m)), some (.int (nI t)), some (.int (nI u)), some (.int (nI k)), o9, o10] [] M Q := by
  refine ⟨(hL H (ad 36) (30 * t + i + k)).toInt32, fun hY hN => ?_⟩
  have nz : ¬ nI m ≤ nI k := nI_ge (by omega) (by omega)
  have bt : vp_in (nI t) 250 := vp_in_nI ht (by omega)
  have bu : vp_in (nI u) 250 := vp_in_nI hu (by omega)
  have et : (nI t).toNatClampNeg = t := nI_clamp (by omega)
  have eu : (nI u).toNatClampNeg = u := nI_clamp (by omega)
  have ek : (nI k).toNatClampNeg = k := nI_clamp (by omega)
  have t1 : hI M (ad 33) t = nI st := by rw [x.2.1]; exact s1
  have t2 : hI M (ad 33) u = nI su := by rw [x.2.1]; exact s2
  have tk := x.2.2.2.2.2.1 k hk
  have l8 : nI st < 8 ↔ st < 8 := nI_ltI (a := st) (b := 8) (by omega) (by decide)
  have e8 : nI st = 8 ↔ st = 8 := nI_eq (a := st) (b := 8) (by omega) (by decide)
  have es : nI st = nI su ↔ st = su := nI_eq (by omega) (by omega)
  refine w_cm216 (d := d + 1) (x.fx fx) c (nI i) e (nI j) (nI m) (nI t) (nI u) (nI k) o9 o10 (fun _ => vp_in_nI (by omega) (by omega)) (fun _ => bt) (fun _ _ _ => bt) (fun _ _ _ => bu) (fun _ _ _ _ => bt) (fun _ _ _ _ _ => bu) (fun w => absurd w nz) (fun w => absurd w nz) ?_ ?_ ?_ ?_ ?_
  all_goals (simp only [et, eu, ek, t1, t2, tk, l8, e8, es]; intro _)
  · intro w; exact hY (.inl w)
  · intro w1 w2
    refine hY ?_
    rcases hx with q | q | ⟨v, q1, q2, -⟩
    · exact .inl q
    · exact .inr (.inl q)
    · rw [q2, lN_i] at w2; exact absurd w2 (nI_nm1 (by omega))
  · intro w1 w2 w3
    refine hN (fun z => ?_)
    rcases z with z | z | z
    · exact w1 z
    · rw [z] at w2; exact w2 (by decide)
    · exact w3 z.1
  · intro w1 w2 w3 w4; exact hY (.inr (.inr ⟨w3, .inl w4⟩))
  · intro w1 w2 w3 w4
    rcases hx with q | q | ⟨v, q1, q2, q3⟩
    · exact absurd q w1
    · rw [q] at w2; exact absurd (by decide) w2
    · have h9 : st = 9 := by rcases h89 (by omega) w3 with q | q; exact absurd q w4; exact q
      obtain ⟨q, kq, ku, rfl, g1, g2, g3, g4, g5, g6⟩ := q3 h9 (by omega)
      have a1 : (hL H (ad 36) (30 * t + i + k)).toInt32 - 1000 = nI q := by
        rw [q2, lN_i, show (1000 : Int32) = nI 1000 from rfl, pk_sub (by omega), show 1000 + q - 1000 = q by omega]
      have a2 : hI M (ad 34) u = nI ku := by rw [x.2.1]; exact g4
      have a3 : hI M (ad 37) q = nI kq := by rw [x.2.1]; exact g2
      rw [a1, a2]
      refine c_misOf (d := d + 1) (x.fx fx) g1 a3 g3 g5 ?_
      have B : BEL st su (hL H (ad 36) (30 * t + i + k)) O ↔ ofK kq ku = true := by
        constructor
        · intro z
          rcases z with z | z | ⟨-, z | z⟩
          · exact absurd z w1
          · rw [z] at w2; exact absurd (by decide) w2
          · exact absurd z w4
          · exact g6.mp z
        · intro z; exact .inr (.inr ⟨w3, .inr (g6.mpr z)⟩)
      by_cases o : ofK kq ku = true
      · rw [if_pos o]
        exact w_cm297 (x.fx fx) c (nI i) e (nI j) (nI m) (nI t) (nI u) (nI k) _ 1 o10 (fun z => absurd z (by decide)) (fun _ => hY (B.mpr o))
      · rw [if_neg o]
        exact w_cm297 (x.fx fx) c (nI i) e (nI j) (nI m) (nI t) (nI u) (nI k) _ 0 o10 (fun _ => hN (fun z => o (B.mp z))) (fun z => absurd rfl z)
end CM

/-! ===== alike: one property decides on both sides ===== -/
section AL
variable {n : Nat} {ad sa : Nat → Nat} {z0 : Nat} {mid pa : Nat → Nat} {np : Nat} {h H : mH} {t u a b : Nat}
/-- a call that answers whether P, and changes nothing -/
def DP (d y : Nat) (as : List Value) (H : mH) (P : Prop) : Prop := ∀ Q : mQ, (P → Q (some (.int 1)) H) → (¬ P → Q (some (.int 0)) H) → EV d y as H Q
theorem DP.iff {d y : Nat} {as : List Value} {P P' : Prop} (e : P ↔ P') (q : DP d y as H P) : DP d y as H P' := fun Q hy hn => q Q (fun p => hy (e.mp p)) (fun p => hn (fun z => p (e.mpr z)))
theorem smY (fx : FX n ad sa z0 h) {v : Int32} : smS ad z0 h (sI h (ad 0) 6 v) :=
  smS_of (P := [(0, 6)]) (A := []) fx (Chg.rf.sI (fx_j fx) (i := 0) (k := 6) (v := v) (.inl (by decide))) (by decide)
theorem Rs.y (fx : FX n ad sa z0 h) (rs : Rs ad z0 mid pa np h) {v : Int32} : Rs ad z0 mid pa np (sI h (ad 0) 6 v) := by
  have cg : Chg n ad [(0, 6)] [] h (sI h (ad 0) 6 v) := Chg.rf.sI (fx_j fx) (i := 0) (k := 6) (v := v) (.inl (by decide))
  exact Rs.k fx rs cg.1 cg.2.1 cg.2.2 (by decide)
theorem rowR.s {ln : Nat} (s : smS ad z0 h H) (q : rowR ad z0 h t a ln) : rowR ad z0 H t a ln := q.c (s.1 _ q.2.1) (s.1 _ (by have := q.2.1; omega)) (s.2.1 _)
theorem grdR.s (s : smS ad z0 h H) (q : grdR ad z0 mid h t a) : grdR ad z0 mid H t a := q.c (s.1 _ q.2.1) (s.1 _ (by have := q.2.1; omega)) (s.2.1 _) (fun _ _ _ _ _ _ _ _ w => ⟨rfl, w.s s⟩)
theorem craR.s (s : smS ad z0 h H) (q : craR ad z0 pa np h t a) : craR ad z0 pa np H t a := q.c (s.1 _ q.2.1) (s.1 _ (by have := q.2.1; omega)) (s.2.1 _) (Nat.le_refl _) (fun q _ => ⟨rfl, (s.2.2.1.2.2 q).1⟩)
theorem row_P {ln ln' : Nat} (q1 : rowR ad z0 H t a ln) (q2 : rowR ad z0 H u b ln') : ∃ sA sB, sA ≤ 30 ∧ sB ≤ 30 ∧ hN H (a + 1) = sA ∧ hN H (b + 1) = sB ∧ hI H (ad 35) t = nI sA ∧ (RLP H a b sA sB ↔ SMP ad H t u sA) := by
  obtain ⟨w1, w2, w3, w4, ⟨w5, w6, w7, w8⟩, sA, w9, w10, w11, w12⟩ := q1
  obtain ⟨v1, v2, v3, v4, ⟨v5, v6, v7, v8⟩, sB, v9, v10, v11, v12⟩ := q2
  refine ⟨sA, sB, w9, v9, w10, v10, w11, fun ⟨e1, e2, e3⟩ => ⟨?_, ?_, ?_, fun i hi => ?_⟩, fun ⟨e1, e2, e3, e4⟩ => ?_⟩
  · rw [w7, v7, ← w6, ← v6]; exact e1.symm
  · rw [w8, v8]
  · rw [w11, v11, e2]
  · rw [← (w12 i hi).1, ← (v12 i (by omega)).1]; exact e3 i hi
  · have es : sB = sA := (nI_eq (by omega) (by omega)).mp (by rw [← w11, ← v11]; exact e3.symm)
    refine ⟨?_, es, fun i hi => ?_⟩
    · rw [v6, w6, ← v7, ← w7]; exact e1.symm
    · rw [(w12 i hi).1, (v12 i (by omega)).1]; exact e4 i hi
theorem al_r {ln ln' : Nat} (fx : FX n ad sa z0 H) (ht : t < 250) (hu : u < 250) (q1 : rowR ad z0 H t a ln) (q2 : rowR ad z0 H u b ln') :
    ∃ P : Prop, (P → ln = ln') ∧ (∀ d, DP (d + 1) 61 [.ref a, .ref b] H P) ∧ ∀ d, t ≠ u → DP (d + 1) 183 [.ref (ad 30), .int (nI t), .int (nI u)] H P := by
  obtain ⟨sA, sB, h1, h2, n1, n2, e, i⟩ := row_P q1 q2
  have k1 := q1.2.2.2.2.1
  have k2 := q2.2.2.2.2.1
  exact ⟨SMP ad H t u sA, fun p => (nI_eq (by omega) (by omega)).mp (by rw [← k1.2.2.1, ← k2.2.2.1]; exact p.1), fun d => DP.iff i (fun Q hy hn => c_rlike q1.1 q2.1 q1.2.2.1 q2.2.2.1 q1.2.2.2.1 q2.2.2.2.1 n1 n2 h1 h2 hy hn), fun d ne Q hy hn => c_same fx ht hu ne h1 e hy hn⟩
theorem sm_eq {d : Nat} {Q : mQ} (fx : FX n ad sa z0 H) (x : Int32) (hy : Q (some (.int 1)) H) : EV (d + 1) 183 [.ref (ad 30), .int x, .int x] H Q :=
  w_sm0 fx x x (fun q => absurd rfl q) (fun q => absurd rfl q) (fun q => absurd rfl q) (fun q => absurd rfl q) (fun q => absurd rfl q) (fun q => absurd rfl q) (fun _ => hy) (fun q => absurd rfl q) (fun q => absurd rfl q) (fun q => absurd rfl q) (fun q => absurd rfl q) (fun q => absurd rfl q) (fun q => absurd rfl q)
theorem sm_l {d : Nat} {Q : mQ} (fx : FX n ad sa z0 H) (y : Int32) (hb : ¬ (-1) = y) (hn : Q (some (.int 0)) H) : EV (d + 1) 183 [.ref (ad 30), .int (-1), .int y] H Q :=
  w_sm0 fx (-1) y (fun _ q => absurd rfl q) (fun _ q => absurd rfl q) (fun _ q => absurd rfl q) (fun _ q => absurd rfl q) (fun _ q => absurd rfl q) (fun _ q => absurd rfl q) (fun q => absurd q hb) (fun _ _ => hn) (fun _ q => absurd rfl q) (fun _ q => absurd rfl q) (fun _ q => absurd rfl q) (fun _ q => absurd rfl q) (fun _ q => absurd rfl q)
theorem sm_r {d : Nat} {Q : mQ} (fx : FX n ad sa z0 H) (x : Int32) (ha : ¬ x = -1) (hn : Q (some (.int 0)) H) : EV (d + 1) 183 [.ref (ad 30), .int x, .int (-1)] H Q :=
  w_sm0 fx x (-1) (fun _ _ q => absurd rfl q) (fun _ _ q => absurd rfl q) (fun _ _ q => absurd rfl q) (fun _ _ q => absurd rfl q) (fun _ _ q => absurd rfl q) (fun _ _ q => absurd rfl q) (fun q => absurd q ha) (fun _ q => absurd q ha) (fun _ _ q => absurd rfl q) (fun _ _ q => absurd rfl q) (fun _ _ q => absurd rfl q) (fun _ _ q => absurd rfl q) (fun _ _ _ => hn)
theorem nI_nm1 {v : Nat} (hv : v < 2 ^ 31) : ¬ nI v = -1 := fun q => absurd (by rw [q]; decide : nI v < 0) (nI_pos hv)
/-- two entries of grids -/
theorem al_e (fx : FX n ad sa z0 H) {x y : Int64} {r s : Option Nat}
    (q1 : (x = -1 ∧ r = none) ∨ ∃ t', t' < 250 ∧ x = lN t' ∧ r = some (mid t') ∧ rowR ad z0 H t' (mid t') 3)
    (q2 : (y = -1 ∧ s = none) ∨ ∃ t', t' < 250 ∧ y = lN t' ∧ s = some (mid t') ∧ rowR ad z0 H t' (mid t') 3)
    (inj : ∀ t' u', x = lN t' → y = lN u' → t' < 250 → u' < 250 → mid t' = mid u' → t' = u') :
    ∃ P, (∀ d, DP (d + 2) 63 [va_rf r, va_rf s] H P) ∧ ∀ d, DP (d + 1) 183 [.ref (ad 30), .int x.toInt32, .int y.toInt32] H P := by
  have m1 : ((-1 : Int64).toInt32) = -1 := by decide
  rcases q1 with ⟨rfl, rfl⟩ | ⟨t', ht, rfl, rfl, w⟩
  · rcases q2 with ⟨rfl, rfl⟩ | ⟨u', hu, rfl, rfl, v⟩
    · exact ⟨True, fun d Q hy _ => is_nn (hy trivial), fun d Q hy _ => sm_eq fx _ (hy trivial)⟩
    · refine ⟨False, fun d Q _ hn => is_na (hn not_false), fun d Q _ hn => ?_⟩
      rw [m1, lN_i]
      exact sm_l fx _ (fun q => nI_nm1 (by omega) q.symm) (hn not_false)
  · rcases q2 with ⟨rfl, rfl⟩ | ⟨u', hu, rfl, rfl, v⟩
    · refine ⟨False, fun d Q _ hn => is_rn w.1 (hn not_false), fun d Q _ hn => ?_⟩
      rw [m1, lN_i]
      exact sm_r fx _ (nI_nm1 (by omega)) (hn not_false)
    · obtain ⟨sA, sB, h1, h2, n1, n2, e, i⟩ := row_P w v
      have ij := inj t' u' rfl rfl ht hu
      refine ⟨t' = u' ∨ SMP ad H t' u' sA, fun d => DP.iff (or_congr ⟨ij, fun z => by rw [z]⟩ i) (fun Q hy hn => is_rr w.1 v.1 w.2.2.1 v.2.2.1 w.2.2.2.1 v.2.2.2.1 n1 n2 h1 h2 hy hn), fun d Q hy hn => ?_⟩
      rw [lN_i, lN_i]
      by_cases ne : t' = u'
      · rw [ne]; exact sm_eq fx _ (hy (.inl ne))
      · exact c_same fx ht hu ne h1 e (fun p => hy (.inr p)) (fun p => hn (fun z => z.elim ne p))
theorem al_g (fx : FX n ad sa z0 H) (rs : Rs ad z0 mid pa np H) (ht : t < 250) (hu : u < 250) {c c' : Nat} (hc : c < 24) (hc' : c' < 24) (e1 : hI H (ad 31) c = nI t) (e2 : hI H (ad 31) c' = nI u) (q1 : grdR ad z0 mid H t a) (q2 : grdR ad z0 mid H u b) :
    ∃ P, (∀ d, DP (d + 3) 62 [.ref a, .ref b] H P) ∧ ∀ d, DP (d + 2) 182 [.ref (ad 30), .int (nI t), .int (nI u)] H P := by
  obtain ⟨w1, w2, w3, w4, ⟨w5, w6, w7⟩, sz, w9, w10, w11, w12⟩ := q1
  obtain ⟨v1, v2, v3, v4, ⟨v5, v6, v7⟩, sz', v9, v10, v11, v12⟩ := q2
  have ex : ∀ i, ∃ P : Prop, i < sz → i < sz' → (∀ d, DP (d + 2) 63 [va_rf (hR H (a + 1) i), va_rf (hR H (b + 1) i)] H P) ∧ ∀ d, DP (d + 1) 183 [.ref (ad 30), .int (hL H (ad 36) (30 * t + i)).toInt32, .int (hL H (ad 36) (30 * u + i)).toInt32] H P := by
    intro i
    by_cases h1 : i < sz
    · by_cases h2 : i < sz'
      · obtain ⟨P, p1, p2⟩ := al_e fx (w12 i h1) (v12 i h2) (fun t' u' x1 x2 l1 l2 e => rs.2.2.1 t' u' l1 l2 (.inr ⟨c, t, i, sz, hc, ht, e1, w6, w11, w9, h1, x1⟩) (.inr ⟨c', u, i, sz', hc', hu, e2, v6, v11, v9, h2, x2⟩) e)
        exact ⟨P, fun _ _ => ⟨p1, p2⟩⟩
      · exact ⟨True, fun _ q => absurd q h2⟩
    · exact ⟨True, fun q => absurd q h1⟩
  obtain ⟨E, hE⟩ := Classical.skolem.mp ex
  refine ⟨hI H (ad 35) u = nI sz ∧ ∀ i, i < sz → E i, fun d Q hy hn => ?_, fun d Q hy hn => ?_⟩
  · exact c_slike w1 v1 w3 v3 w4 v4 w10 v10 (by omega) (by omega) E (fun es _ i hi => (hE i hi (by omega)).1 d) (fun _ es q => hy ⟨by rw [v11, es], q⟩) (fun q => hn (fun z => q ⟨by rw [w5, v5], (nI_eq (by omega) (by omega)).mp (by rw [← v11]; exact z.1), z.2⟩))
  · exact c_grids fx ht hu w9 w11 E (fun es i hi => (hE i hi (by have := (nI_eq (by omega) (by omega)).mp (v11.symm.trans es); omega)).2 d) (fun e q => hy ⟨e, q⟩) hn
/-- two entries of cradles -/
theorem al_ce (rs : Rs ad z0 mid pa np H) {x y : Int64} {r s : Option Nat} {k k' : Nat}
    (q1 : (x = -1 ∧ r = none) ∨ ∃ q, q < np ∧ x = lN (1000 + q) ∧ r = some (pa q) ∧ ∃ kq, hI H (ad 37) q = nI kq ∧ kq < 7 ∧ ofK kq k = true)
    (q2 : (y = -1 ∧ s = none) ∨ ∃ q, q < np ∧ y = lN (1000 + q) ∧ s = some (pa q) ∧ ∃ kq, hI H (ad 37) q = nI kq ∧ kq < 7 ∧ ofK kq k' = true) (d : Nat) : DP (d + 1) 63 [va_rf r, va_rf s] H (x = y) := by
  have hn := rs.1.1
  rcases q1 with ⟨rfl, rfl⟩ | ⟨p, hp, rfl, rfl, -⟩
  · rcases q2 with ⟨rfl, rfl⟩ | ⟨q, hq, rfl, rfl, -⟩
    · exact fun Q hy _ => is_nn (hy rfl)
    · exact fun Q _ hn => is_na (hn (lN_m1 (by omega)))
  · have tp := (rs.1.2.2.2.1 p hp).1
    rcases q2 with ⟨rfl, rfl⟩ | ⟨q, hq, rfl, rfl, -⟩
    · exact fun Q _ hn => is_pn tp (hn (fun z => lN_m1 (by omega) z.symm))
    · have i : pa p = pa q ↔ lN (1000 + p) = lN (1000 + q) := ⟨fun z => by rw [rs.1.2.2.2.2 p q hp hq z], fun z => by have := (lN_eq (by omega) (by omega)).mp z; rw [show p = q by omega]⟩
      exact DP.iff i (fun Q hy hn => is_pa tp hy hn)
theorem al_c (fx : FX n ad sa z0 H) (rs : Rs ad z0 mid pa np H) (ht : t < 250) (hu : u < 250) (q1 : craR ad z0 pa np H t a) (q2 : craR ad z0 pa np H u b) :
    ∃ P, (∀ d, DP (d + 2) 62 [.ref a, .ref b] H P) ∧ ∀ d, t ≠ u → DP (d + 1) 183 [.ref (ad 30), .int (nI t), .int (nI u)] H P := by
  obtain ⟨w1, w2, w3, w4, k, ⟨w5, w6, w7, w8⟩, sz, w9, w10, w11, w12⟩ := q1
  obtain ⟨v1, v2, v3, v4, k', ⟨v5, v6, v7, v8⟩, sz', v9, v10, v11, v12⟩ := q2
  refine ⟨SMP ad H t u sz, fun d Q hy hn => ?_, fun d ne Q hy hn => c_same fx ht hu ne (by omega) w11 hy hn⟩
  refine c_slike w1 v1 w3 v3 w4 v4 w10 v10 (by omega) (by omega) (fun i => hL H (ad 36) (30 * t + i) = hL H (ad 36) (30 * u + i)) (fun es _ i hi => al_ce rs (w12 i hi) (v12 i (by omega)) d) (fun e0 es q => hy ⟨?_, ?_, ?_, q⟩) (fun q => hn (fun z => q ⟨?_, ?_, z.2.2.2⟩))
  · rw [w7, v7]
  · rw [w8, v8, ← w6, ← v6]; exact e0.symm
  · rw [w11, v11, es]
  · rw [w6, v6, ← w8, ← v8]; exact z.2.1.symm
  · exact (nI_eq (by omega) (by omega)).mp (by rw [← w11, ← v11]; exact z.2.2.1.symm)
end AL

/-! ===== make by contract, and a store with new things ===== -/
section MK
variable {d : Nat} {Q : mQ} {n : Nat} {ad sa : Nat → Nat} {z0 : Nat} {h h' : mH}
def fv (s : Int32) : Int64 := if s = 8 ∨ s = 9 then -1 else 0
/-- a thing t has been made, its first m places are filled -/
def EM (ad : Nat → Nat) (h h' : mH) (t m : Nat) (s k n1 : Int32) : Prop := hT h' = hT h ∧ hN h' = hN h ∧ hZ h' = hZ h ∧ hU h' = hU h ∧ hD h' = hD h ∧ hR h' = hR h ∧ (∀ a j, ¬ (j = t ∧ (a = ad 32 ∨ a = ad 33 ∨ a = ad 34 ∨ a = ad 35)) → hI h' a j = hI h a j) ∧ (hI h' (ad 32) t = 1 ∧ hI h' (ad 33) t = s ∧ hI h' (ad 34) t = k ∧ hI h' (ad 35) t = n1) ∧ (∀ a j, ¬ (a = ad 36 ∧ 30 * t ≤ j ∧ j < 30 * t + 30) → hL h' a j = hL h a j) ∧ ∀ i, i < m → hL h' (ad 36) (30 * t + i) = fv s
theorem EM.st {t m : Nat} {s k n1 : Int32} (e : EM ad h h' t m s k n1) (hm : m < 30) : EM ad h (sL h' (ad 36) (30 * t + m) (fv s)) t (m + 1) s k n1 := by
  obtain ⟨a, b, c, d, f, g, i, j, k1, l⟩ := e
  refine ⟨a, b, c, d, f, g, i, j, fun x y z => ?_, fun x hx => ?_⟩
  · rw [hL_sL, if_neg (fun q => z ⟨q.1, by have := q.2; omega, by have := q.2; omega⟩)]; exact k1 x y z
  · by_cases q : x = m
    · rw [q, L_eq]
    · rw [L_nk (by omega)]; exact l x (by omega)
theorem EM.in0 (fx : FX n ad sa z0 h) {t : Nat} {s k n1 : Int32} : EM ad h (sI (sI (sI (sI h (ad 32) t 1) (ad 33) t s) (ad 34) t k) (ad 35) t n1) t 0 s k n1 := by
  refine ⟨rfl, rfl, rfl, rfl, rfl, rfl, fun a j z => ?_, ⟨?_, ?_, ?_, ?_⟩, fun _ _ _ => rfl, fun i hi => absurd hi (Nat.not_lt_zero _)⟩
  · rw [hI_sI, if_neg (fun q => z ⟨q.2, .inr (.inr (.inr q.1))⟩), hI_sI, if_neg (fun q => z ⟨q.2, .inr (.inr (.inl q.1))⟩), hI_sI, if_neg (fun q => z ⟨q.2, .inr (.inl q.1)⟩), hI_sI, if_neg (fun q => z ⟨q.2, .inl q.1⟩)]
  · rw [I_ne (fx_ne fx (by decide)), I_ne (fx_ne fx (by decide)), I_ne (fx_ne fx (by decide)), I_eq]
  · rw [I_ne (fx_ne fx (by decide)), I_ne (fx_ne fx (by decide)), I_eq]
  · rw [I_ne (fx_ne fx (by decide)), I_eq]
  · rw [I_eq]
theorem EM.fx {t m : Nat} {s k n1 : Int32} (e : EM ad h h' t m s k n1) (fx : FX n ad sa z0 h) : FX n ad sa z0 h' := by
  unfold FX; rw [e.1, e.2.1, e.2.2.1, e.2.2.2.2.2.1]; exact fx
theorem EM.mk {t m c : Nat} {f : Nat → Nat} {s k n1 : Int32} (e : EM ad h h' t m s k n1) (mk : MKS ad 32 h f c) : MKS ad 32 h' (u1 f c t) (c + 1) := by
  intro u hu
  by_cases q : u = t
  · subst q
    rw [e.2.2.2.2.2.2.2.1.1]
    exact ⟨.inr rfl, fun _ => ⟨c, by omega, by unfold u1; rw [if_pos rfl]⟩⟩
  · rw [e.2.2.2.2.2.2.1 _ _ (fun z => q z.1)]
    refine ⟨(mk u hu).1, fun z => ?_⟩
    obtain ⟨i, h1, h2⟩ := (mk u hu).2 z
    exact ⟨i, by omega, by unfold u1; rw [if_neg (by omega)]; exact h2⟩
theorem mk_54 (fx : FX n ad sa z0 h) {t : Nat} (ht : t < 250) {s k n1 : Int32} (hQ : ∀ h', EM ad h h' t 30 s k n1 → Q (some (.int (nI t))) h') :
    ∀ m i h', i + m = 30 → EM ad h h' t i s k n1 → WR d cd_159 54 [some (.ref (ad 30)), some (.int s), some (.int k), some (.int n1), some (.int (nI t)), some (.int (nI i))] [] h' Q := by
  intro m
  induction m with
  | zero =>
    intro i h' hi e
    obtain rfl : i = 30 := by omega
    exact w_mk54 (e.fx fx) s k n1 (nI t) (nI 30) (fun z => absurd (by decide) z) (fun z => absurd (by decide) z) (fun z => absurd (by decide) z) (fun _ => hQ h' e) (fun z => absurd (by decide) z) (fun z => absurd (by decide) z) (fun z => absurd (by decide) z)
  | succ m ih =>
    intro i h' hi e
    have ix : (30 : Int32) * nI t + nI i = nI (30 * t + i) := by rw [show (30 : Int32) = nI 30 from rfl, pk_mul, nI_add]
    have hb : vp_in ((30 : Int32) * nI t + nI i) 7500 := by rw [ix]; exact vp_in_nI (by omega) (by omega)
    have ec : ((30 : Int32) * nI t + nI i).toNatClampNeg = 30 * t + i := by rw [ix]; exact nI_clamp (by omega)
    have nx := ih (i + 1) _ (by omega) (e.st (by omega))
    refine w_mk54 (e.fx fx) s k n1 (nI t) (nI i) (fun _ _ => hb) (fun _ _ _ => hb) (fun _ _ _ => hb) (fun z => ?_) ?_ ?_ ?_
    · have := (nI_leI (a := 30) (b := i) (by decide) (by omega)).mp z; omega
    · rw [ec, nI_1]; intro _ z
      have : fv s = -1 := if_pos (.inl z)
      rw [this] at nx; exact nx
    · rw [ec, nI_1]; intro _ z1 z2
      have : fv s = 0 := if_neg (fun q => q.elim z1 z2)
      rw [this] at nx; exact nx
    · rw [ec, nI_1]; intro _ _ z
      have : fv s = -1 := if_pos (.inr z)
      rw [this] at nx; exact nx
theorem c_make (fx : FX n ad sa z0 h) {f : Nat → Nat} {c : Nat} (mk : MKS ad 32 h f c) (hc : c < 250) {s k n1 : Int32} (hQ : ∀ t h', t < 250 → hI h (ad 32) t = 0 → EM ad h h' t 30 s k n1 → Q (some (.int (nI t))) h') : EV (d + 1) 159 [.ref (ad 30), .int s, .int k, .int n1] h Q := by
  obtain ⟨t0, ht0, z0⟩ := mk.free hc
  have lp : ∀ m i, i + m = t0 → WR d cd_159 3 [some (.ref (ad 30)), some (.int s), some (.int k), some (.int n1), some (.int (nI i)), none] [] h Q := by
    intro m
    have fin : ∀ i, i < 250 → hI h (ad 32) (nI i).toNatClampNeg = 0 → WR d cd_159 54 [some (.ref (ad 30)), some (.int s), some (.int k), some (.int n1), some (.int (nI i)), some (.int 0)] [] (sI (sI (sI (sI h (ad 32) (nI i).toNatClampNeg 1) (ad 33) (nI i).toNatClampNeg s) (ad 34) (nI i).toNatClampNeg k) (ad 35) (nI i).toNatClampNeg n1) Q := by
      intro i hi
      rw [nI_clamp (by omega : i < 2 ^ 31)]
      intro z
      exact mk_54 fx hi (fun h' e => hQ i h' hi z e) 30 0 _ rfl (EM.in0 fx)
    induction m with
    | zero =>
      intro i hi
      obtain rfl : i = t0 := by omega
      exact w_mk3 fx s k n1 (nI i) (vp_in_nI (by omega) (by omega)) (fun _ => vp_in_nI (by omega) (by omega)) (fin i ht0) (fun z => absurd (by rw [nI_clamp (by omega)]; exact z0) z)
    | succ m ih =>
      intro i hi
      refine w_mk3 fx s k n1 (nI i) (vp_in_nI (by omega) (by omega)) (fun _ => vp_in_nI (by omega) (by omega)) (fin i (by omega)) (fun _ => ?_)
      rw [nI_1]
      exact ih (i + 1) (by omega)
  exact w_mk0 fx s k n1 (lp t0 0 (by omega))
end MK
section NT
variable {n : Nat} {ad sa : Nat → Nat} {z0 : Nat} {mid mid' pa : Nat → Nat} {np : Nat} {h h2 : mH}
theorem Rs.newthings (N : Nat → Prop) (r : Rs ad z0 mid pa np h) {c t : Nat} (ht : t < 250) (nt : N t) (nl : ∀ u, N u → ¬ live ad h u) (mo : ∀ u, ¬ N u → mid' u = mid u) (mn : ∀ u, N u → hZ h ≤ mid' u) (mi : ∀ u v, N u → N v → mid' u = mid' v → u = v)
    (f1 : ∀ a, z0 ≤ a → a < hZ h → smA h h2 a) (s2 : ∀ u, u < 250 → ¬ N u → smT ad h h2 u) (s3 : hI h2 (ad 0) 5 = hI h (ad 0) 5) (s4 : hI h2 (ad 30) 6 = hI h (ad 30) 6) (s5 : ∀ q, hI h2 (ad 37) q = hI h (ad 37) q ∧ hL h2 (ad 38) q = hL h (ad 38) q)
    (c1 : ∀ k, k ≠ c → hI h2 (ad 31) k = hI h (ad 31) k ∧ hR h2 (ad 1) k = hR h (ad 1) k) (c2 : hI h2 (ad 31) c = nI t) (c3 : hR h2 (ad 1) c = some (mid' t)) (hth : thR ad z0 mid' pa np h2 t (mid' t))
    (gr : ∀ i sz u, u < 250 → hI h2 (ad 33) t = 8 → hI h2 (ad 35) t = nI sz → sz ≤ 8 → i < sz → hL h2 (ad 36) (30 * t + i) = lN u → N u) (hz : ∀ a, hZ h2 ≤ a → hT h2 a = 0) : Rs ad z0 mid' pa np h2 := by
  have z : hzO h := r.2.2.2
  have pl : ∀ q, q < np → pa q < hZ h := fun q hq => z.lt (by rw [(r.1.2.2.2.1 q hq).1]; decide)
  have lN' : ∀ u, live ad h u → ¬ N u := fun u l w => nl u w l
  have lv : ∀ u, u < 250 → live ad h2 u → live ad h u ∨ N u := by
    intro u hu w
    rcases w with ⟨k, w1, w2⟩ | ⟨k, g, i, sz, w1, w2, w3, w4, w5, w6, w7, w8⟩
    · by_cases e : k = c
      · rw [e, c2] at w2
        have : t = u := (nI_eq (by omega) (by omega)).mp w2
        exact .inr (this ▸ nt)
      · rw [(c1 k e).1] at w2; exact .inl (.inl ⟨k, w1, w2⟩)
    · by_cases e : k = c
      · rw [e, c2] at w3
        have : t = g := (nI_eq (by omega) (by omega)).mp w3
        subst this
        exact .inr (gr i sz u hu w4 w5 w6 w7 w8)
      · rw [(c1 k e).1] at w3
        obtain ⟨g1, g2, g3, g4⟩ := s2 g w2 (lN' g (.inl ⟨k, w1, w3⟩))
        exact .inl (.inr ⟨k, g, i, sz, w1, w2, w3, g1 ▸ w4, g3 ▸ w5, w6, w7, (g4 i (by omega)) ▸ w8⟩)
  -- a live thing of h lies below the next address
  have low : ∀ u, u < 250 → live ad h u → mid u < hZ h := by
    intro u hu w
    rcases w with ⟨k, w1, w2⟩ | ⟨k, g, i, sz, w1, w2, w3, w4, w5, w6, w7, w8⟩
    · rcases r.2.1 k w1 with ⟨e, -⟩ | ⟨q, hq, e, -⟩ | ⟨t', ht', e, -, w⟩
      · exact absurd (by rw [← w2, e]; decide : nI u < 0) (nI_pos (by omega))
      · have := (nI_eq (by omega) (by have := r.1.1; omega)).mp (w2.symm.trans e); omega
      · have : u = t' := (nI_eq (by omega) (by omega)).mp (w2.symm.trans e)
        subst this
        have := w.lt z; omega
    · rcases r.2.1 k w1 with ⟨e, -⟩ | ⟨q, hq, e, -⟩ | ⟨t', ht', e, -, w⟩
      · exact absurd (by rw [← w3, e]; decide : nI g < 0) (nI_pos (by omega))
      · have := (nI_eq (by omega) (by have := r.1.1; omega)).mp (w3.symm.trans e); omega
      · have : g = t' := (nI_eq (by omega) (by omega)).mp (w3.symm.trans e)
        subst this
        rcases w with ⟨ln, w⟩ | w | w
        · have := (nI_eq (a := ln) (b := 8) (by have := w.2.2.2.2.1.1; omega) (by decide)).mp (w.2.2.2.2.1.2.2.1.symm.trans w4)
          have := w.2.2.2.2.1.1; omega
        · obtain ⟨-, -, -, -, -, sz', y1, -, y2, y3⟩ := w
          have : sz' = sz := (nI_eq (by omega) (by omega)).mp (y2.symm.trans w5)
          subst this
          rcases y3 i w7 with ⟨y, -⟩ | ⟨t'', y4, y5, -, y6⟩
          · exact absurd (y.symm.trans w8) (lN_m1 (by omega))
          · have : t'' = u := (lN_eq (by omega) (by omega)).mp (y5.symm.trans w8)
            subst this
            exact z.lt (by rw [y6.1]; decide)
        · obtain ⟨-, -, -, -, k', ⟨-, -, y1, -⟩, -⟩ := w
          exact absurd (y1.symm.trans w4) (by decide)
  refine ⟨?_, fun k hk => ?_, fun t1 t2 h1 h2' l1 l2 e => ?_, hz⟩
  · obtain ⟨p1, p2, p3, p4, p5⟩ := id r.1
    refine ⟨p1, s3.trans p2, s4.trans p3, fun q hq => ?_, p5⟩
    obtain ⟨w1, w2, w3, w4, w5, w6⟩ := p4 q hq
    obtain ⟨a1, a2, a3, a4, a5⟩ := f1 _ w2 (pl q hq)
    rw [a1, a3, a4, (s5 q).1, (s5 q).2]
    exact ⟨w1, w2, w3, w4, w5, w6⟩
  · by_cases e : k = c
    · rw [e, c2, c3]
      exact .inr (.inr ⟨t, ht, rfl, rfl, hth⟩)
    · rw [(c1 k e).1, (c1 k e).2]
      rcases r.2.1 k hk with w | w | ⟨u, w1, w2, w3, w⟩
      · exact .inl w
      · exact .inr (.inl w)
      · have nu := lN' u (.inl ⟨k, hk, w2⟩)
        refine .inr (.inr ⟨u, w1, w2, by rw [mo u nu]; exact w3, ?_⟩)
        rw [mo u nu]
        have lt := w.lt z
        rcases w with ⟨ln, w⟩ | w | w
        · exact .inl ⟨ln, w.c (f1 _ w.2.1 (by omega)) (f1 _ (by have := w.2.1; omega) lt) (s2 u w1 nu)⟩
        · refine .inr (.inl (w.c (f1 _ w.2.1 (by omega)) (f1 _ (by have := w.2.1; omega) lt) (s2 u w1 nu) (fun i t' sz a1 a2 a3 a4 a5 q => ?_)))
          have nt' : ¬ N t' := lN' t' (.inr ⟨k, u, i, sz, hk, w1, w2, w.2.2.2.2.1.2.1, a2, a1, a3, a5⟩)
          have l2 := z.lt (a := mid t' + 1) (by rw [q.2.2.2.1]; decide)
          exact ⟨mo t' nt', q.c (f1 _ q.2.1 (by omega)) (f1 _ (by have := q.2.1; omega) l2) (s2 t' a4 nt')⟩
        · exact .inr (.inr (w.c (f1 _ w.2.1 (by omega)) (f1 _ (by have := w.2.1; omega) lt) (s2 u w1 nu) (Nat.le_refl _) (fun q hq => ⟨rfl, (s5 q).1⟩)))
  · rcases lv t1 h1 l1 with q1 | q1
    · rcases lv t2 h2' l2 with q2 | q2
      · rw [mo t1 (lN' t1 q1), mo t2 (lN' t2 q2)] at e
        exact r.2.2.1 t1 t2 h1 h2' q1 q2 e
      · have := mn t2 q2; have := low t1 h1 q1; rw [mo t1 (lN' t1 q1)] at e; omega
    · rcases lv t2 h2' l2 with q2 | q2
      · have := mn t1 q1; have := low t2 h2' q2; rw [mo t2 (lN' t2 q2)] at e; omega
      · exact mi t1 t2 q1 q2 e
end NT

/-! ===== areSame of the reference, by contract ===== -/
section SA
variable {d : Nat} {Q : mQ} {n : Nat} {ad sa : Nat → Nat} {z0 : Nat} {h : mH} {t u sz : Nat}
def SMP (ad : Nat → Nat) (h : mH) (t u sz : Nat) : Prop := hI h (ad 33) t = hI h (ad 33) u ∧ hI h (ad 34) t = hI h (ad 34) u ∧ hI h (ad 35) t = hI h (ad 35) u ∧ ∀ i, i < sz → hL h (ad 36) (30 * t + i) = hL h (ad 36) (30 * u + i)
theorem sm_0 (fx : FX n ad sa z0 h) (ht : t < 250) (i : Int32) (hN : Q (some (.int 0)) h) : WR d cd_183 80 [some (.ref (ad 30)), some (.int (nI t)), some (.int (nI u)), some (.int 0), some (.int i)] [] h Q :=
  w_sm80 fx (nI t) (nI u) 0 i (vp_in_nI ht (by omega)) (fun _ => .inl rfl) (fun _ _ => .inl rfl) (fun _ q => absurd rfl q) (fun _ q => absurd rfl q) (fun _ => hN) (fun _ _ => hN) (fun _ q => absurd rfl q) (fun _ q => absurd rfl q)
theorem sm_1 (fx : FX n ad sa z0 h) (ht : t < 250) (hu : u < 250) (hs : sz ≤ 30) (es : hI h (ad 35) t = nI sz) (hY : (∀ i, i < sz → hL h (ad 36) (30 * t + i) = hL h (ad 36) (30 * u + i)) → Q (some (.int 1)) h) (hN : ¬ (∀ i, i < sz → hL h (ad 36) (30 * t + i) = hL h (ad 36) (30 * u + i)) → Q (some (.int 0)) h) :
    ∀ m i, i + m = sz → (∀ k, k < i → hL h (ad 36) (30 * t + k) = hL h (ad 36) (30 * u + k)) → WR d cd_183 80 [some (.ref (ad 30)), some (.int (nI t)), some (.int (nI u)), some (.int 1), some (.int (nI i))] [] h Q := by
  intro m
  have ec : (nI t).toNatClampNeg = t := nI_clamp (by omega)
  have r35 : hI h (ad 35) (nI t).toNatClampNeg = nI sz := by rw [ec]; exact es
  have n10 : ¬ (1 : Int32) = 0 := by decide
  induction m with
  | zero =>
    intro i hi q
    obtain rfl : i = sz := by omega
    have z : nI i ≤ nI i := nI_le (Nat.le_refl _) (by omega)
    refine w_sm80 fx (nI t) (nI u) 1 (nI i) (vp_in_nI ht (by omega)) (fun _ => .inr rfl) (fun _ w => absurd w n10) ?_ ?_ (fun _ => hY q) (fun _ w => absurd w n10) ?_ ?_
    all_goals (rw [r35]; intro w; exact absurd z w)
  | succ m ih =>
    intro i hi q
    have nz : ¬ nI sz ≤ nI i := nI_ge (by omega) (by omega)
    have ix : ∀ v : Nat, (30 : Int32) * nI v + nI i = nI (30 * v + i) := fun v => by rw [show (30 : Int32) = nI 30 from rfl, pk_mul, nI_add]
    refine w_sm80 fx (nI t) (nI u) 1 (nI i) (vp_in_nI ht (by omega)) (fun _ => .inr rfl) (fun _ w => absurd w n10) (fun _ _ => ?_) (fun _ _ => ?_) ?_ (fun _ w => absurd w n10) ?_ ?_
    · rw [ix]; exact vp_in_nI (by omega) (by omega)
    · rw [ix]; exact vp_in_nI (by omega) (by omega)
    · rw [r35]; intro w; exact absurd w nz
    · rw [ix t, ix u, nI_clamp (show 30 * t + i < 2 ^ 31 by omega), nI_clamp (show 30 * u + i < 2 ^ 31 by omega)]
      intro _ _ w
      exact sm_0 fx ht _ (hN (fun z => w (z i (by omega))))
    · rw [ix t, ix u, nI_clamp (show 30 * t + i < 2 ^ 31 by omega), nI_clamp (show 30 * u + i < 2 ^ 31 by omega), nI_1]
      intro _ _ w
      refine ih (i + 1) (by omega) (fun k hk => ?_)
      by_cases e : k = i
      · rw [e]; exact w
      · exact q k (by omega)
theorem c_same (fx : FX n ad sa z0 h) (ht : t < 250) (hu : u < 250) (ne : t ≠ u) (hs : sz ≤ 30) (es : hI h (ad 35) t = nI sz) (hY : SMP ad h t u sz → Q (some (.int 1)) h) (hN : ¬ SMP ad h t u sz → Q (some (.int 0)) h) : EV (d + 1) 183 [.ref (ad 30), .int (nI t), .int (nI u)] h Q := by
  have et : (nI t).toNatClampNeg = t := nI_clamp (by omega)
  have eu : (nI u).toNatClampNeg = u := nI_clamp (by omega)
  have bt : vp_in (nI t) 250 := vp_in_nI ht (by omega)
  have bu : vp_in (nI u) 250 := vp_in_nI hu (by omega)
  have mt : ∀ v, v < 250 → ¬ nI v = -1 := fun v hv q => absurd (by rw [q]; decide : nI v < 0) (nI_pos (by omega))
  refine w_sm0 fx (nI t) (nI u) (fun _ _ _ => bt) (fun _ _ _ => bu) (fun _ _ _ _ => bt) (fun _ _ _ _ => bu) (fun _ _ _ _ _ => bt) (fun _ _ _ _ _ => bu) (fun q => absurd ((nI_eq (by omega) (by omega)).mp q) ne) (fun _ q => absurd q (mt t ht)) ?_ ?_ ?_ ?_ (fun _ _ q => absurd q (mt u hu))
  all_goals (rw [et, eu]; intro _ _ _)
  · intro w; exact sm_0 fx ht 0 (hN (fun z => w z.1))
  · intro _ w; exact sm_0 fx ht 0 (hN (fun z => w z.2.1))
  · intro _ _ w; exact sm_0 fx ht 0 (hN (fun z => w z.2.2.1))
  · intro w1 w2 w3
    exact sm_1 fx ht hu hs es (fun q => hY ⟨w1, w2, w3, q⟩) (fun q => hN (fun z => q z.2.2.2)) sz 0 (by omega) (fun k hk => absurd hk (Nat.not_lt_zero _))
end SA

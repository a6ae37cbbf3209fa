/-! ===== areGrids of the reference, by contract ===== -/
section GA
variable {d : Nat} {Q : mQ} {n : Nat} {ad sa : Nat → Nat} {z0 : Nat} {h : mH} {t u sz : Nat}
theorem gd_0 (fx : FX n ad sa z0 h) (ht : t < 250) (i : Int32) (hN : Q (some (.int 0)) h) : WR d cd_182 24 [some (.ref (ad 30)), some (.int (nI t)), some (.int (nI u)), some (.int 0), some (.int i)] [] h Q :=
  w_gd24 fx (nI t) (nI u) 0 i (vp_in_nI ht (by omega)) (fun _ => .inl rfl) (fun _ _ => .inl rfl) (fun _ q => absurd rfl q) (fun _ => hN) (fun _ _ => hN) (fun _ q => absurd rfl q)
theorem gd_1 (fx : FX n ad sa z0 h) (ht : t < 250) (hu : u < 250) (hs : sz ≤ 8) (es : hI h (ad 35) t = nI sz) (E : Nat → Prop)
    (call : ∀ i, i < sz → ∀ Q' : mQ, (E i → Q' (some (.int 1)) h) → (¬ E i → Q' (some (.int 0)) h) → EV (d + 1) 183 [.ref (ad 30), .int (hL h (ad 36) (30 * t + i)).toInt32, .int (hL h (ad 36) (30 * u + i)).toInt32] h Q')
    (hY : (∀ i, i < sz → E i) → Q (some (.int 1)) h) (hN : ¬ (∀ i, i < sz → E i) → Q (some (.int 0)) h) :
    ∀ m i, i + m = sz → (∀ k, k < i → E k) → WR (d + 1) cd_182 24 [some (.ref (ad 30)), some (.int (nI t)), some (.int (nI u)), some (.int 1), some (.int (nI i))] [] h Q := by
  intro m
  have ec : (nI t).toNatClampNeg = t := nI_clamp (by omega)
  have r35 : hI h (ad 35) (nI t).toNatClampNeg = nI sz := by rw [ec]; exact es
  have n10 : ¬ (1 : Int32) = 0 := by decide
  induction m with
  | zero =>
    intro i hi q
    obtain rfl : i = sz := by omega
    have z : nI i ≤ nI i := nI_le (Nat.le_refl _) (by omega)
    refine w_gd24 fx (nI t) (nI u) 1 (nI i) (vp_in_nI ht (by omega)) (fun _ => .inr rfl) (fun _ w => absurd w n10) ?_ (fun _ => hY q) (fun _ w => absurd w n10) ?_
    all_goals (rw [r35]; intro w; exact absurd z w)
  | succ m ih =>
    intro i hi q
    have nz : ¬ nI sz ≤ nI i := nI_ge (by omega) (by omega)
    have ix : ∀ v : Nat, (30 : Int32) * nI v + nI i = nI (30 * v + i) := fun v => by rw [show (30 : Int32) = nI 30 from rfl, pk_mul, nI_add]
    refine w_gd24 fx (nI t) (nI u) 1 (nI i) (vp_in_nI ht (by omega)) (fun _ => .inr rfl) (fun _ w => absurd w n10) (fun _ _ => ?_) ?_ (fun _ w => absurd w n10) (fun _ _ => ?_)
    · rw [ix]; exact vp_in_nI (by omega) (by omega)
    · rw [r35]; intro w; exact absurd w nz
    · rw [ix t, nI_clamp (show 30 * t + i < 2 ^ 31 by omega)]
      refine r_aload rfl rfl ?_
      refine r_getA (b := ad 36) rfl ⟨rfl, rfl, rfl⟩ (fx_t30 fx) (fx_r30_5 fx) ?_
      refine r_ic (x := 30) rfl rfl ?_
      refine r_iload rfl rfl ?_
      refine r_imul rfl ?_
      refine r_iload rfl rfl ?_
      refine r_iadd rfl ?_
      refine WR_tI (y := nI (30 * u + i)) (ix u) ?_
      refine r_laload rfl (fx_t36 fx) (vp_ct (fx_n36 fx) (vp_in_nI (by omega) (by omega))) ?_
      refine WR_tL (congrArg (hL h (ad 36)) (nI_clamp (by omega) : _ = 30 * u + i)) ?_
      refine r_l2i rfl ?_
      refine r_cv (y := 183) (ra := [.int (hL h (ad 36) (30 * u + i)).toInt32, .int (hL h (ad 36) (30 * t + i)).toInt32]) (rest := []) rfl ⟨⟨rfl, rfl⟩, rfl, by decide⟩ (fx_t30 fx) rfl rfl (Nat.le_of_ble_eq_true rfl) ?_
      refine call i (by omega) _ (fun w => ?_) (fun w => ?_)
      · show WR _ cd_182 69 [some (.ref (ad 30)), some (.int (nI t)), some (.int (nI u)), some (.int 1), some (.int (nI i))] [.int 1] h _
        refine r_istore (lv' := [some (.ref (ad 30)), some (.int (nI t)), some (.int (nI u)), some (.int 1), some (.int (nI i))]) rfl (Nat.le_of_ble_eq_true rfl) rfl ?_
        refine r_iinc (y := nI (i + 1)) (lv' := [some (.ref (ad 30)), some (.int (nI t)), some (.int (nI u)), some (.int 1), some (.int (nI (i + 1)))]) rfl rfl (nI_1 _) rfl ?_
        refine r_goto (tg := 24) rfl rfl ?_
        refine ih (i + 1) (by omega) (fun k hk => ?_)
        by_cases e : k = i
        · rw [e]; exact w
        · exact q k (by omega)
      · show WR _ cd_182 69 [some (.ref (ad 30)), some (.int (nI t)), some (.int (nI u)), some (.int 1), some (.int (nI i))] [.int 0] h _
        refine r_istore (lv' := [some (.ref (ad 30)), some (.int (nI t)), some (.int (nI u)), some (.int 0), some (.int (nI i))]) rfl (Nat.le_of_ble_eq_true rfl) rfl ?_
        refine r_iinc (y := nI (i + 1)) (lv' := [some (.ref (ad 30)), some (.int (nI t)), some (.int (nI u)), some (.int 0), some (.int (nI (i + 1)))]) rfl rfl (nI_1 _) rfl ?_
        refine r_goto (tg := 24) rfl rfl ?_
        exact gd_0 fx ht _ (hN (fun z => w (z i (by omega))))
theorem c_grids (fx : FX n ad sa z0 h) (ht : t < 250) (hu : u < 250) (hs : sz ≤ 8) (es : hI h (ad 35) t = nI sz) (E : Nat → Prop)
    (call : hI h (ad 35) u = nI sz → ∀ i, i < sz → ∀ Q' : mQ, (E i → Q' (some (.int 1)) h) → (¬ E i → Q' (some (.int 0)) h) → EV (d + 1) 183 [.ref (ad 30), .int (hL h (ad 36) (30 * t + i)).toInt32, .int (hL h (ad 36) (30 * u + i)).toInt32] h Q')
    (hY : hI h (ad 35) u = nI sz → (∀ i, i < sz → E i) → Q (some (.int 1)) h) (hN : ¬ (hI h (ad 35) u = nI sz ∧ ∀ i, i < sz → E i) → Q (some (.int 0)) h) : EV (d + 2) 182 [.ref (ad 30), .int (nI t), .int (nI u)] h Q := by
  have et : (nI t).toNatClampNeg = t := nI_clamp (by omega)
  have eu : (nI u).toNatClampNeg = u := nI_clamp (by omega)
  refine w_gd0 fx (nI t) (nI u) (vp_in_nI ht (by omega)) (vp_in_nI hu (by omega)) ?_ ?_
  all_goals (rw [et, eu, es]; intro w)
  · exact gd_0 fx ht 0 (hN (fun z => w z.1.symm))
  · exact gd_1 fx ht hu hs es E (call w.symm) (hY w.symm) (fun q => hN (fun z => q z.2)) sz 0 (by omega) (fun k hk => absurd hk (Nat.not_lt_zero _))
end GA

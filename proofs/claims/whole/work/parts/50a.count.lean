/-! ===== count by contract; printed ===== -/
set_option maxHeartbeats 1000000 in
theorem w_fc0 {d : Nat} {Q : mQ} {n : Nat} {ad sa : Nat → Nat} {z0 : Nat} {h : mH} (fx : FX n ad sa z0 h) 
    
    (K1 : WR (d) cd_148 4 [some (.ref (ad 0)), some (.int 0), some (.int 0)] [] h Q) : EV (d + 1) 148 [.ref (ad 0)] h Q := by
  refine in_148 (Nat.le_of_ble_eq_true rfl) ?_
  show WR _ cd_148 0 [some (.ref (ad 0)), none, none] [] h _
  refine r_ic (x := 0) rfl rfl ?_
  refine r_istore (lv' := [some (.ref (ad 0)), some (.int 0), none]) rfl (Nat.le_of_ble_eq_true rfl) rfl ?_
  refine r_ic (x := 0) rfl rfl ?_
  refine r_istore (lv' := [some (.ref (ad 0)), some (.int 0), some (.int 0)]) rfl (Nat.le_of_ble_eq_true rfl) rfl ?_
  exact K1

set_option maxHeartbeats 1000000 in
theorem w_fcL {d : Nat} {Q : mQ} {n : Nat} {ad sa : Nat → Nat} {z0 : Nat} {h : mH} (fx : FX n ad sa z0 h) (f c : Int32) 
    (B1 : ¬ 24 ≤ c → vp_in c 24)
    (L1 : 24 ≤ c → Q (some (.int f)) h) (K1 : ¬ 24 ≤ c → hR h (ad 1) c.toNatClampNeg = none → WR (d) cd_148 4 [some (.ref (ad 0)), some (.int f), some (.int (c + 1))] [] h Q) (K2 : ¬ 24 ≤ c → ∀ b2 : Nat, hR h (ad 1) c.toNatClampNeg = some b2 → WR (d) cd_148 4 [some (.ref (ad 0)), some (.int (f + 1)), some (.int (c + 1))] [] h Q) : WR (d + 0) cd_148 4 [some (.ref (ad 0)), some (.int f), some (.int c)] [] h Q := by
  refine r_iload rfl rfl ?_
  refine r_ic (x := 24) rfl rfl ?_
  refine r_icmp_ge (tg := 28) rfl rfl (fun c1 => ?_) (fun c1 => ?_)
  · refine r_iload rfl rfl ?_
    refine r_iret rfl ?_
    exact L1 c1
  · refine r_aload rfl rfl ?_
    refine r_getA (b := ad 1) rfl ⟨rfl, rfl, rfl⟩ (fx_t0 fx) (fx_r0_0 fx) ?_
    refine r_iload rfl rfl ?_
    refine r_aaloadS rfl (isQ_of (fx_t1 fx) (by decide)) (vp_ct (fx_n1 fx) (B1 c1)) (fun c2 => ?_) (fun b2 c2 => ?_)
    · refine r_ifnullN (tg := 22) rfl rfl ?_
      refine r_iinc (y := c + 1) (lv' := [some (.ref (ad 0)), some (.int f), some (.int (c + 1))]) rfl rfl rfl rfl ?_
      refine r_goto (tg := 4) rfl rfl ?_
      exact K1 c1 c2
    · refine r_ifnullA (tg := 22) rfl rfl ?_
      refine r_iinc (y := f + 1) (lv' := [some (.ref (ad 0)), some (.int (f + 1)), some (.int c)]) rfl rfl rfl rfl ?_
      refine r_iinc (y := c + 1) (lv' := [some (.ref (ad 0)), some (.int (f + 1)), some (.int (c + 1))]) rfl rfl rfl rfl ?_
      refine r_goto (tg := 4) rfl rfl ?_
      exact K2 c1 b2 c2

set_option maxHeartbeats 1000000 in
theorem w_cm0 {d : Nat} {Q : mQ} {n : Nat} {ad sa : Nat → Nat} {z0 : Nat} {h : mH} (fx : FX n ad sa z0 h) (w : Int32) 
    
    (K1 : WR (d) cd_249 4 [some (.ref (ad 30)), some (.int w), some (.int 0), some (.int 0)] [] h Q) : WR (d + 0) cd_249 0 [some (.ref (ad 30)), some (.int w), none, none] [] h Q := by
  refine r_ic (x := 0) rfl rfl ?_
  refine r_istore (lv' := [some (.ref (ad 30)), some (.int w), some (.int 0), none]) rfl (Nat.le_of_ble_eq_true rfl) rfl ?_
  refine r_ic (x := 0) rfl rfl ?_
  refine r_istore (lv' := [some (.ref (ad 30)), some (.int w), some (.int 0), some (.int 0)]) rfl (Nat.le_of_ble_eq_true rfl) rfl ?_
  exact K1

set_option maxHeartbeats 1000000 in
theorem w_cmL {d : Nat} {Q : mQ} {n : Nat} {ad sa : Nat → Nat} {z0 : Nat} {h : mH} (fx : FX n ad sa z0 h) (w f c : Int32) 
    (B1 : ¬ 24 ≤ c → vp_in c 24)
    (K1 : 24 ≤ c → WR (d) cd_249 34 [some (.ref (ad 30)), some (.int w), some (.int f), some (.int c)] [] h Q) (K2 : ¬ 24 ≤ c → (hI h (ad 31) c.toNatClampNeg) = (-1) → WR (d) cd_249 4 [some (.ref (ad 30)), some (.int w), some (.int (f + 0)), some (.int (c + 1))] [] h Q) (K3 : ¬ 24 ≤ c → ¬ (hI h (ad 31) c.toNatClampNeg) = (-1) → WR (d) cd_249 4 [some (.ref (ad 30)), some (.int w), some (.int (f + 1)), some (.int (c + 1))] [] h Q) : WR (d + 0) cd_249 4 [some (.ref (ad 30)), some (.int w), some (.int f), some (.int c)] [] h Q := by
  refine r_iload rfl rfl ?_
  refine r_ic (x := 24) rfl rfl ?_
  refine r_icmp_ge (tg := 34) rfl rfl (fun c1 => ?_) (fun c1 => ?_)
  · exact K1 c1
  · refine r_iload rfl rfl ?_
    refine r_aload rfl rfl ?_
    refine r_getA (b := ad 31) rfl ⟨rfl, rfl, rfl⟩ (fx_t30 fx) (fx_r30_0 fx) ?_
    refine r_iload rfl rfl ?_
    refine r_iaload rfl (.inl (fx_t31 fx)) (vp_ct (fx_n31 fx) (B1 c1)) ?_
    refine r_ic (x := (-1)) rfl rfl ?_
    refine r_icmp_eq (tg := 25) rfl rfl (fun c2 => ?_) (fun c2 => ?_)
    · refine r_ic (x := 0) rfl rfl ?_
      refine r_iadd rfl ?_
      refine r_istore (lv' := [some (.ref (ad 30)), some (.int w), some (.int (f + 0)), some (.int c)]) rfl (Nat.le_of_ble_eq_true rfl) rfl ?_
      refine r_iinc (y := c + 1) (lv' := [some (.ref (ad 30)), some (.int w), some (.int (f + 0)), some (.int (c + 1))]) rfl rfl rfl rfl ?_
      refine r_goto (tg := 4) rfl rfl ?_
      exact K2 c1 c2
    · refine r_ic (x := 1) rfl rfl ?_
      refine r_goto (tg := 26) rfl rfl ?_
      refine r_iadd rfl ?_
      refine r_istore (lv' := [some (.ref (ad 30)), some (.int w), some (.int (f + 1)), some (.int c)]) rfl (Nat.le_of_ble_eq_true rfl) rfl ?_
      refine r_iinc (y := c + 1) (lv' := [some (.ref (ad 30)), some (.int w), some (.int (f + 1)), some (.int (c + 1))]) rfl rfl rfl rfl ?_
      refine r_goto (tg := 4) rfl rfl ?_
      exact K3 c1 c2

/-- how many of the first k -/
def cntF (p : Nat → Bool) : Nat → Nat
  | 0 => 0
  | i + 1 => cntF p i + if p i = true then 1 else 0
theorem cntF_le (p : Nat → Bool) : ∀ k, cntF p k ≤ k := by
  intro k
  induction k with
  | zero => exact Nat.le_refl _
  | succ k ih =>
    have e : cntF p (k + 1) = cntF p k + if p k = true then 1 else 0 := rfl
    rw [e]; split <;> omega
theorem cntF_c {p q : Nat → Bool} : ∀ k, (∀ i, i < k → p i = q i) → cntF p k = cntF q k := by
  intro k
  induction k with
  | zero => intro _; rfl
  | succ k ih =>
    intro h
    have e : cntF p (k + 1) = cntF p k + if p k = true then 1 else 0 := rfl
    have f : cntF q (k + 1) = cntF q k + if q k = true then 1 else 0 := rfl
    rw [e, f, ih (fun i hi => h i (by omega)), h k (by omega)]
def fcC (ad : Nat → Nat) (h : mH) : Nat := cntF (fun c => (hR h (ad 1) c).isSome) 24
def fcM (ad : Nat → Nat) (h : mH) : Nat := cntF (fun c => !decide (hI h (ad 31) c = -1)) 24
theorem fcC_le (ad : Nat → Nat) (h : mH) : fcC ad h ≤ 24 := cntF_le _ _
theorem fcM_le (ad : Nat → Nat) (h : mH) : fcM ad h ≤ 24 := cntF_le _ _
section CO
variable {d : Nat} {Q : mQ} {n : Nat} {ad sa : Nat → Nat} {z0 : Nat} {h : mH}
theorem fc_L (fx : FX n ad sa z0 h) (hQ : Q (some (.int (nI (fcC ad h)))) h) : ∀ m i, i + m = 24 → WR d cd_148 4 [some (.ref (ad 0)), some (.int (nI (cntF (fun c => (hR h (ad 1) c).isSome) i))), some (.int (nI i))] [] h Q := by
  intro m
  induction m with
  | zero =>
    intro i hi
    obtain rfl : i = 24 := by omega
    refine w_fcL fx _ _ (fun z => absurd z (by decide)) (fun _ => hQ) (fun z => absurd z (by decide)) (fun z => absurd z (by decide))
  | succ m ih =>
    intro i hi
    have ec : (nI i).toNatClampNeg = i := nI_clamp (by omega)
    have e : cntF (fun c => (hR h (ad 1) c).isSome) (i + 1) = cntF (fun c => (hR h (ad 1) c).isSome) i + if (hR h (ad 1) i).isSome = true then 1 else 0 := rfl
    have IH := ih (i + 1) (by omega)
    refine w_fcL fx _ _ (fun _ => vp_in_nI (by omega) (by omega)) (fun z => ?_) ?_ ?_
    · have := (nI_leI (a := 24) (b := i) (by decide) (by omega)).mp z; omega
    · rw [ec]
      intro _ c
      rw [e, c] at IH
      rw [nI_1]
      exact IH
    · rw [ec]
      intro _ b c
      rw [e, c] at IH
      rw [nI_1, nI_1]
      exact IH
theorem c_filled (fx : FX n ad sa z0 h) (hQ : Q (some (.int (nI (fcC ad h)))) h) : EV (d + 1) 148 [.ref (ad 0)] h Q := w_fc0 fx (fc_L fx hQ 24 0 rfl)
theorem cm_L (fx : FX n ad sa z0 h) {w : Int32} (hQ : WR d cd_249 34 [some (.ref (ad 30)), some (.int w), some (.int (nI (fcM ad h))), some (.int 24)] [] h Q) : ∀ m i, i + m = 24 → WR d cd_249 4 [some (.ref (ad 30)), some (.int w), some (.int (nI (cntF (fun c => !decide (hI h (ad 31) c = -1)) i))), some (.int (nI i))] [] h Q := by
  intro m
  induction m with
  | zero =>
    intro i hi
    obtain rfl : i = 24 := by omega
    refine w_cmL fx _ _ _ (fun z => absurd z (by decide)) (fun _ => hQ) (fun z => absurd z (by decide)) (fun z => absurd z (by decide))
  | succ m ih =>
    intro i hi
    have ec : (nI i).toNatClampNeg = i := nI_clamp (by omega)
    have e : cntF (fun c => !decide (hI h (ad 31) c = -1)) (i + 1) = cntF (fun c => !decide (hI h (ad 31) c = -1)) i + if (!decide (hI h (ad 31) i = -1)) = true then 1 else 0 := rfl
    have IH := ih (i + 1) (by omega)
    refine w_cmL fx _ _ _ (fun _ => vp_in_nI (by omega) (by omega)) (fun z => ?_) ?_ ?_
    · have := (nI_leI (a := 24) (b := i) (by decide) (by omega)).mp z; omega
    · rw [ec]
      intro _ c
      rw [e, if_neg (by rw [decide_eq_true c]; decide)] at IH
      rw [show (0 : Int32) = nI 0 from rfl, nI_add, nI_1]
      exact IH
    · rw [ec]
      intro _ c
      rw [e, if_pos (by rw [decide_eq_false c]; decide)] at IH
      rw [nI_1, nI_1]
      exact IH
theorem c_cmT (fx : FX n ad sa z0 h) {w : Int32} (hQ : WR d cd_249 34 [some (.ref (ad 30)), some (.int w), some (.int (nI (fcM ad h))), some (.int 24)] [] h Q) : WR d cd_249 0 [some (.ref (ad 30)), some (.int w), none, none] [] h Q := w_cm0 fx w (cm_L fx hQ 24 0 rfl)
theorem fc_eq {mid pa : Nat → Nat} {np : Nat} {h2 : mH} (rs : Rs ad z0 mid pa np h) (e1 : ∀ c, hR h2 (ad 1) c = hR h (ad 1) c) (e2 : ∀ c, hI h2 (ad 31) c = hI h (ad 31) c) : fcC ad h2 = fcM ad h2 := by
  unfold fcC fcM
  refine cntF_c 24 (fun c hc => ?_)
  rw [e1, e2]
  have np' := rs.1.1
  rcases rs.2.1 c hc with ⟨a, b⟩ | ⟨q, hq, a, b⟩ | ⟨t, ht, a, b, -⟩
  · rw [a, b]; rfl
  · rw [a, b]
    have : ¬ nI (1000 + q) = -1 := fun z => by have := i_eq z; rw [nI_toInt (by omega)] at this; have e : (-1 : Int32).toInt = -1 := rfl; omega
    rw [decide_eq_false this]; rfl
  · rw [a, b]
    have : ¬ nI t = -1 := fun z => by have := i_eq z; rw [nI_toInt (by omega)] at this; have e : (-1 : Int32).toInt = -1 := rfl; omega
    rw [decide_eq_false this]; rfl
end CO


/-! ===== walks of areGrids; printed ===== -/
set_option maxHeartbeats 1000000 in
theorem w_gd0 {d : Nat} {Q : mQ} {n : Nat} {ad sa : Nat → Nat} {z0 : Nat} {h : mH} (fx : FX n ad sa z0 h) (a b : Int32) 
    (B1 : vp_in a 250) (B2 : vp_in b 250)
    (K1 : ¬ (hI h (ad 35) a.toNatClampNeg) = (hI h (ad 35) b.toNatClampNeg) → WR (d) cd_182 24 [some (.ref (ad 30)), some (.int a), some (.int b), some (.int 0), some (.int 0)] [] h Q) (K2 : (hI h (ad 35) a.toNatClampNeg) = (hI h (ad 35) b.toNatClampNeg) → WR (d) cd_182 24 [some (.ref (ad 30)), some (.int a), some (.int b), some (.int 1), some (.int 0)] [] h Q) : EV (d + 1) 182 [.ref (ad 30), .int a, .int b] h Q := by
  refine in_182 (Nat.le_of_ble_eq_true rfl) ?_
  show WR _ cd_182 0 [some (.ref (ad 30)), some (.int a), some (.int b), none, none] [] h _
  refine r_aload rfl rfl ?_
  refine r_getA (b := ad 35) rfl ⟨rfl, rfl, rfl⟩ (fx_t30 fx) (fx_r30_4 fx) ?_
  refine r_iload rfl rfl ?_
  refine r_iaload rfl (.inl (fx_t35 fx)) (vp_ct (fx_n35 fx) (B1)) ?_
  refine r_aload rfl rfl ?_
  refine r_getA (b := ad 35) rfl ⟨rfl, rfl, rfl⟩ (fx_t30 fx) (fx_r30_4 fx) ?_
  refine r_iload rfl rfl ?_
  refine r_iaload rfl (.inl (fx_t35 fx)) (vp_ct (fx_n35 fx) (B2)) ?_
  refine r_icmp_ne (tg := 19) rfl rfl (fun c1 => ?_) (fun c1 => ?_)
  · refine r_ic (x := 0) rfl rfl ?_
    refine r_istore (lv' := [some (.ref (ad 30)), some (.int a), some (.int b), some (.int 0), none]) rfl (Nat.le_of_ble_eq_true rfl) rfl ?_
    refine r_ic (x := 0) rfl rfl ?_
    refine r_istore (lv' := [some (.ref (ad 30)), some (.int a), some (.int b), some (.int 0), some (.int 0)]) rfl (Nat.le_of_ble_eq_true rfl) rfl ?_
    exact K1 c1
  · refine r_ic (x := 1) rfl rfl ?_
    refine r_goto (tg := 20) rfl rfl ?_
    refine r_istore (lv' := [some (.ref (ad 30)), some (.int a), some (.int b), some (.int 1), none]) rfl (Nat.le_of_ble_eq_true rfl) rfl ?_
    refine r_ic (x := 0) rfl rfl ?_
    refine r_istore (lv' := [some (.ref (ad 30)), some (.int a), some (.int b), some (.int 1), some (.int 0)]) rfl (Nat.le_of_ble_eq_true rfl) rfl ?_
    exact K2 c1

set_option maxHeartbeats 1000000 in
theorem w_gd24 {d : Nat} {Q : mQ} {n : Nat} {ad sa : Nat → Nat} {z0 : Nat} {h : mH} (fx : FX n ad sa z0 h) (a b v i : Int32) 
    (B1 : vp_in a 250) (B2 : (hI h (ad 35) a.toNatClampNeg) ≤ i → v = 0 ∨ v = 1) (B3 : ¬ (hI h (ad 35) a.toNatClampNeg) ≤ i → v = 0 → v = 0 ∨ v = 1) (B4 : ¬ (hI h (ad 35) a.toNatClampNeg) ≤ i → ¬ v = 0 → vp_in ((30 * a) + i) 7500)
    (L1 : (hI h (ad 35) a.toNatClampNeg) ≤ i → Q (some (.int v)) h) (L2 : ¬ (hI h (ad 35) a.toNatClampNeg) ≤ i → v = 0 → Q (some (.int v)) h) (K1 : ¬ (hI h (ad 35) a.toNatClampNeg) ≤ i → ¬ v = 0 → WR (d) cd_182 53 [some (.ref (ad 30)), some (.int a), some (.int b), some (.int v), some (.int i)] [.int ((hL h (ad 36) ((30 * a) + i).toNatClampNeg).toInt32), .ref (ad 30)] h Q) : WR (d + 0) cd_182 24 [some (.ref (ad 30)), some (.int a), some (.int b), some (.int v), some (.int i)] [] h Q := by
  refine r_iload rfl rfl ?_
  refine r_aload rfl rfl ?_
  refine r_getA (b := ad 35) rfl ⟨rfl, rfl, rfl⟩ (fx_t30 fx) (fx_r30_4 fx) ?_
  refine r_iload rfl rfl ?_
  refine r_iaload rfl (.inl (fx_t35 fx)) (vp_ct (fx_n35 fx) (B1)) ?_
  refine r_icmp_ge (tg := 76) rfl rfl (fun c1 => ?_) (fun c1 => ?_)
  · refine r_iload rfl rfl ?_
    refine r_zret rfl (B2 c1) ?_
    exact L1 c1
  · refine r_iload rfl rfl ?_
    refine r_if_eq (tg := 76) rfl rfl (fun c2 => ?_) (fun c2 => ?_)
    · refine r_iload rfl rfl ?_
      refine r_zret rfl (B3 c1 c2) ?_
      exact L2 c1 c2
    · refine r_aload rfl rfl ?_
      refine r_aload rfl rfl ?_
      refine r_getA (b := ad 36) rfl ⟨rfl, rfl, rfl⟩ (fx_t30 fx) (fx_r30_5 fx) ?_
      refine r_ic (x := 30) rfl rfl ?_
      refine r_iload rfl rfl ?_
      refine r_imul rfl ?_
      refine r_iload rfl rfl ?_
      refine r_iadd rfl ?_
      refine r_laload rfl (fx_t36 fx) (vp_ct (fx_n36 fx) (B4 c1 c2)) ?_
      refine r_l2i rfl ?_
      exact K1 c1 c2

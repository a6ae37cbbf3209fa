/-! ===== walks of areSame; printed ===== -/
set_option maxHeartbeats 1000000 in
theorem w_sm0 {d : Nat} {Q : mQ} {n : Nat} {ad sa : Nat → Nat} {z0 : Nat} {h : mH} (fx : FX n ad sa z0 h) (a b : Int32) 
    (B1 : ¬ a = b → ¬ a = (-1) → ¬ b = (-1) → vp_in a 250) (B2 : ¬ a = b → ¬ a = (-1) → ¬ b = (-1) → vp_in b 250) (B3 : ¬ a = b → ¬ a = (-1) → ¬ b = (-1) → (hI h (ad 33) a.toNatClampNeg) = (hI h (ad 33) b.toNatClampNeg) → vp_in a 250) (B4 : ¬ a = b → ¬ a = (-1) → ¬ b = (-1) → (hI h (ad 33) a.toNatClampNeg) = (hI h (ad 33) b.toNatClampNeg) → vp_in b 250) (B5 : ¬ a = b → ¬ a = (-1) → ¬ b = (-1) → (hI h (ad 33) a.toNatClampNeg) = (hI h (ad 33) b.toNatClampNeg) → (hI h (ad 34) a.toNatClampNeg) = (hI h (ad 34) b.toNatClampNeg) → vp_in a 250) (B6 : ¬ a = b → ¬ a = (-1) → ¬ b = (-1) → (hI h (ad 33) a.toNatClampNeg) = (hI h (ad 33) b.toNatClampNeg) → (hI h (ad 34) a.toNatClampNeg) = (hI h (ad 34) b.toNatClampNeg) → vp_in b 250)
    (L1 : a = b → Q (some (.int 1)) h) (L2 : ¬ a = b → a = (-1) → Q (some (.int 0)) h) (K1 : ¬ a = b → ¬ a = (-1) → ¬ b = (-1) → ¬ (hI h (ad 33) a.toNatClampNeg) = (hI h (ad 33) b.toNatClampNeg) → WR (d) cd_183 80 [some (.ref (ad 30)), some (.int a), some (.int b), some (.int 0), some (.int 0)] [] h Q) (K2 : ¬ a = b → ¬ a = (-1) → ¬ b = (-1) → (hI h (ad 33) a.toNatClampNeg) = (hI h (ad 33) b.toNatClampNeg) → ¬ (hI h (ad 34) a.toNatClampNeg) = (hI h (ad 34) b.toNatClampNeg) → WR (d) cd_183 80 [some (.ref (ad 30)), some (.int a), some (.int b), some (.int 0), some (.int 0)] [] h Q) (K3 : ¬ a = b → ¬ a = (-1) → ¬ b = (-1) → (hI h (ad 33) a.toNatClampNeg) = (hI h (ad 33) b.toNatClampNeg) → (hI h (ad 34) a.toNatClampNeg) = (hI h (ad 34) b.toNatClampNeg) → ¬ (hI h (ad 35) a.toNatClampNeg) = (hI h (ad 35) b.toNatClampNeg) → WR (d) cd_183 80 [some (.ref (ad 30)), some (.int a), some (.int b), some (.int 0), some (.int 0)] [] h Q) (K4 : ¬ a = b → ¬ a = (-1) → ¬ b = (-1) → (hI h (ad 33) a.toNatClampNeg) = (hI h (ad 33) b.toNatClampNeg) → (hI h (ad 34) a.toNatClampNeg) = (hI h (ad 34) b.toNatClampNeg) → (hI h (ad 35) a.toNatClampNeg) = (hI h (ad 35) b.toNatClampNeg) → WR (d) cd_183 80 [some (.ref (ad 30)), some (.int a), some (.int b), some (.int 1), some (.int 0)] [] h Q) (L3 : ¬ a = b → ¬ a = (-1) → b = (-1) → Q (some (.int 0)) h) : EV (d + 1) 183 [.ref (ad 30), .int a, .int b] h Q := by
  refine in_183 (Nat.le_of_ble_eq_true rfl) ?_
  show WR _ cd_183 0 [some (.ref (ad 30)), some (.int a), some (.int b), none, none] [] h _
  refine r_iload rfl rfl ?_
  refine r_iload rfl rfl ?_
  refine r_icmp_eq (tg := 15) rfl rfl (fun c1 => ?_) (fun c1 => ?_)
  · refine r_iload rfl rfl ?_
    refine r_iload rfl rfl ?_
    refine r_icmp_ne (tg := 24) rfl rfl (fun q => absurd c1 q) (fun _ => ?_)
    refine r_ic (x := 1) rfl rfl ?_
    refine r_goto (tg := 25) rfl rfl ?_
    refine r_zret rfl (.inr rfl) ?_
    exact L1 c1
  · refine r_iload rfl rfl ?_
    refine r_ic (x := (-1)) rfl rfl ?_
    refine r_icmp_eq (tg := 15) rfl rfl (fun c2 => ?_) (fun c2 => ?_)
    · refine r_iload rfl rfl ?_
      refine r_iload rfl rfl ?_
      refine r_icmp_ne (tg := 24) rfl rfl (fun _ => ?_) (fun q => absurd q c1)
      refine r_ic (x := 0) rfl rfl ?_
      refine r_zret rfl (.inl rfl) ?_
      exact L2 c1 c2
    · refine r_iload rfl rfl ?_
      refine r_ic (x := (-1)) rfl rfl ?_
      refine r_icmp_ne (tg := 26) rfl rfl (fun c3 => ?_) (fun c3 => ?_)
      · refine r_aload rfl rfl ?_
        refine r_getA (b := ad 33) rfl ⟨rfl, rfl, rfl⟩ (fx_t30 fx) (fx_r30_2 fx) ?_
        refine r_iload rfl rfl ?_
        refine r_iaload rfl (.inl (fx_t33 fx)) (vp_ct (fx_n33 fx) (B1 c1 c2 c3)) ?_
        refine r_aload rfl rfl ?_
        refine r_getA (b := ad 33) rfl ⟨rfl, rfl, rfl⟩ (fx_t30 fx) (fx_r30_2 fx) ?_
        refine r_iload rfl rfl ?_
        refine r_iaload rfl (.inl (fx_t33 fx)) (vp_ct (fx_n33 fx) (B2 c1 c2 c3)) ?_
        refine r_icmp_ne (tg := 75) rfl rfl (fun c4 => ?_) (fun c4 => ?_)
        · refine r_ic (x := 0) rfl rfl ?_
          refine r_istore (lv' := [some (.ref (ad 30)), some (.int a), some (.int b), some (.int 0), none]) rfl (Nat.le_of_ble_eq_true rfl) rfl ?_
          refine r_ic (x := 0) rfl rfl ?_
          refine r_istore (lv' := [some (.ref (ad 30)), some (.int a), some (.int b), some (.int 0), some (.int 0)]) rfl (Nat.le_of_ble_eq_true rfl) rfl ?_
          exact K1 c1 c2 c3 c4
        · refine r_aload rfl rfl ?_
          refine r_getA (b := ad 34) rfl ⟨rfl, rfl, rfl⟩ (fx_t30 fx) (fx_r30_3 fx) ?_
          refine r_iload rfl rfl ?_
          refine r_iaload rfl (.inl (fx_t34 fx)) (vp_ct (fx_n34 fx) (B3 c1 c2 c3 c4)) ?_
          refine r_aload rfl rfl ?_
          refine r_getA (b := ad 34) rfl ⟨rfl, rfl, rfl⟩ (fx_t30 fx) (fx_r30_3 fx) ?_
          refine r_iload rfl rfl ?_
          refine r_iaload rfl (.inl (fx_t34 fx)) (vp_ct (fx_n34 fx) (B4 c1 c2 c3 c4)) ?_
          refine r_icmp_ne (tg := 75) rfl rfl (fun c5 => ?_) (fun c5 => ?_)
          · refine r_ic (x := 0) rfl rfl ?_
            refine r_istore (lv' := [some (.ref (ad 30)), some (.int a), some (.int b), some (.int 0), none]) rfl (Nat.le_of_ble_eq_true rfl) rfl ?_
            refine r_ic (x := 0) rfl rfl ?_
            refine r_istore (lv' := [some (.ref (ad 30)), some (.int a), some (.int b), some (.int 0), some (.int 0)]) rfl (Nat.le_of_ble_eq_true rfl) rfl ?_
            exact K2 c1 c2 c3 c4 c5
          · refine r_aload rfl rfl ?_
            refine r_getA (b := ad 35) rfl ⟨rfl, rfl, rfl⟩ (fx_t30 fx) (fx_r30_4 fx) ?_
            refine r_iload rfl rfl ?_
            refine r_iaload rfl (.inl (fx_t35 fx)) (vp_ct (fx_n35 fx) (B5 c1 c2 c3 c4 c5)) ?_
            refine r_aload rfl rfl ?_
            refine r_getA (b := ad 35) rfl ⟨rfl, rfl, rfl⟩ (fx_t30 fx) (fx_r30_4 fx) ?_
            refine r_iload rfl rfl ?_
            refine r_iaload rfl (.inl (fx_t35 fx)) (vp_ct (fx_n35 fx) (B6 c1 c2 c3 c4 c5)) ?_
            refine r_icmp_ne (tg := 75) rfl rfl (fun c6 => ?_) (fun c6 => ?_)
            · refine r_ic (x := 0) rfl rfl ?_
              refine r_istore (lv' := [some (.ref (ad 30)), some (.int a), some (.int b), some (.int 0), none]) rfl (Nat.le_of_ble_eq_true rfl) rfl ?_
              refine r_ic (x := 0) rfl rfl ?_
              refine r_istore (lv' := [some (.ref (ad 30)), some (.int a), some (.int b), some (.int 0), some (.int 0)]) rfl (Nat.le_of_ble_eq_true rfl) rfl ?_
              exact K3 c1 c2 c3 c4 c5 c6
            · refine r_ic (x := 1) rfl rfl ?_
              refine r_goto (tg := 76) rfl rfl ?_
              refine r_istore (lv' := [some (.ref (ad 30)), some (.int a), some (.int b), some (.int 1), none]) rfl (Nat.le_of_ble_eq_true rfl) rfl ?_
              refine r_ic (x := 0) rfl rfl ?_
              refine r_istore (lv' := [some (.ref (ad 30)), some (.int a), some (.int b), some (.int 1), some (.int 0)]) rfl (Nat.le_of_ble_eq_true rfl) rfl ?_
              exact K4 c1 c2 c3 c4 c5 c6
      · refine r_iload rfl rfl ?_
        refine r_iload rfl rfl ?_
        refine r_icmp_ne (tg := 24) rfl rfl (fun _ => ?_) (fun q => absurd q c1)
        refine r_ic (x := 0) rfl rfl ?_
        refine r_zret rfl (.inl rfl) ?_
        exact L3 c1 c2 c3

set_option maxHeartbeats 1000000 in
theorem w_sm80 {d : Nat} {Q : mQ} {n : Nat} {ad sa : Nat → Nat} {z0 : Nat} {h : mH} (fx : FX n ad sa z0 h) (a b v i : Int32) 
    (B1 : vp_in a 250) (B2 : (hI h (ad 35) a.toNatClampNeg) ≤ i → v = 0 ∨ v = 1) (B3 : ¬ (hI h (ad 35) a.toNatClampNeg) ≤ i → v = 0 → v = 0 ∨ v = 1) (B4 : ¬ (hI h (ad 35) a.toNatClampNeg) ≤ i → ¬ v = 0 → vp_in ((30 * a) + i) 7500) (B5 : ¬ (hI h (ad 35) a.toNatClampNeg) ≤ i → ¬ v = 0 → vp_in ((30 * b) + i) 7500)
    (L1 : (hI h (ad 35) a.toNatClampNeg) ≤ i → Q (some (.int v)) h) (L2 : ¬ (hI h (ad 35) a.toNatClampNeg) ≤ i → v = 0 → Q (some (.int v)) h) (K1 : ¬ (hI h (ad 35) a.toNatClampNeg) ≤ i → ¬ v = 0 → ¬ (hL h (ad 36) ((30 * a) + i).toNatClampNeg) = (hL h (ad 36) ((30 * b) + i).toNatClampNeg) → WR (d) cd_183 80 [some (.ref (ad 30)), some (.int a), some (.int b), some (.int 0), some (.int (i + 1))] [] h Q) (K2 : ¬ (hI h (ad 35) a.toNatClampNeg) ≤ i → ¬ v = 0 → (hL h (ad 36) ((30 * a) + i).toNatClampNeg) = (hL h (ad 36) ((30 * b) + i).toNatClampNeg) → WR (d) cd_183 80 [some (.ref (ad 30)), some (.int a), some (.int b), some (.int 1), some (.int (i + 1))] [] h Q) : WR (d + 0) cd_183 80 [some (.ref (ad 30)), some (.int a), some (.int b), some (.int v), some (.int i)] [] h Q := by
  refine r_iload rfl rfl ?_
  refine r_aload rfl rfl ?_
  refine r_getA (b := ad 35) rfl ⟨rfl, rfl, rfl⟩ (fx_t30 fx) (fx_r30_4 fx) ?_
  refine r_iload rfl rfl ?_
  refine r_iaload rfl (.inl (fx_t35 fx)) (vp_ct (fx_n35 fx) (B1)) ?_
  refine r_icmp_ge (tg := 135) rfl rfl (fun c1 => ?_) (fun c1 => ?_)
  · refine r_iload rfl rfl ?_
    refine r_zret rfl (B2 c1) ?_
    exact L1 c1
  · refine r_iload rfl rfl ?_
    refine r_if_eq (tg := 135) rfl rfl (fun c2 => ?_) (fun c2 => ?_)
    · refine r_iload rfl rfl ?_
      refine r_zret rfl (B3 c1 c2) ?_
      exact L2 c1 c2
    · refine r_aload rfl rfl ?_
      refine r_getA (b := ad 36) rfl ⟨rfl, rfl, rfl⟩ (fx_t30 fx) (fx_r30_5 fx) ?_
      refine r_ic (x := 30) rfl rfl ?_
      refine r_iload rfl rfl ?_
      refine r_imul rfl ?_
      refine r_iload rfl rfl ?_
      refine r_iadd rfl ?_
      refine r_laload rfl (fx_t36 fx) (vp_ct (fx_n36 fx) (B4 c1 c2)) ?_
      refine r_aload rfl rfl ?_
      refine r_getA (b := ad 36) rfl ⟨rfl, rfl, rfl⟩ (fx_t30 fx) (fx_r30_5 fx) ?_
      refine r_ic (x := 30) rfl rfl ?_
      refine r_iload rfl rfl ?_
      refine r_imul rfl ?_
      refine r_iload rfl rfl ?_
      refine r_iadd rfl ?_
      refine r_laload rfl (fx_t36 fx) (vp_ct (fx_n36 fx) (B5 c1 c2)) ?_
      refine r_lif_ne (tg := 127) rfl rfl rfl (fun c3 => ?_) (fun c3 => ?_)
      · refine r_ic (x := 0) rfl rfl ?_
        refine r_istore (lv' := [some (.ref (ad 30)), some (.int a), some (.int b), some (.int 0), some (.int i)]) rfl (Nat.le_of_ble_eq_true rfl) rfl ?_
        refine r_iinc (y := i + 1) (lv' := [some (.ref (ad 30)), some (.int a), some (.int b), some (.int 0), some (.int (i + 1))]) rfl rfl rfl rfl ?_
        refine r_goto (tg := 80) rfl rfl ?_
        exact K1 c1 c2 c3
      · refine r_ic (x := 1) rfl rfl ?_
        refine r_goto (tg := 128) rfl rfl ?_
        refine r_istore (lv' := [some (.ref (ad 30)), some (.int a), some (.int b), some (.int 1), some (.int i)]) rfl (Nat.le_of_ble_eq_true rfl) rfl ?_
        refine r_iinc (y := i + 1) (lv' := [some (.ref (ad 30)), some (.int a), some (.int b), some (.int 1), some (.int (i + 1))]) rfl rfl rfl rfl ?_
        refine r_goto (tg := 80) rfl rfl ?_
        exact K2 c1 c2 c3

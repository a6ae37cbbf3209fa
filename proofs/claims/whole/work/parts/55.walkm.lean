/-! ===== walks of sweep and make; printed ===== -/
set_option maxHeartbeats 1000000 in
theorem w_sw0 {d : Nat} {Q : mQ} {n : Nat} {ad sa : Nat → Nat} {z0 : Nat} {h : mH} (fx : FX n ad sa z0 h) 
    
    (K1 : WR (d) cd_157 2 [some (.ref (ad 30)), some (.int 0), none, none] [] h Q) : EV (d + 1) 157 [.ref (ad 30)] h Q := by
  refine in_157 (Nat.le_of_ble_eq_true rfl) ?_
  show WR _ cd_157 0 [some (.ref (ad 30)), none, none, none] [] h _
  refine r_ic (x := 0) rfl rfl ?_
  refine r_istore (lv' := [some (.ref (ad 30)), some (.int 0), none, none]) rfl (Nat.le_of_ble_eq_true rfl) rfl ?_
  exact K1

set_option maxHeartbeats 1000000 in
theorem w_sw2 {d : Nat} {Q : mQ} {n : Nat} {ad sa : Nat → Nat} {z0 : Nat} {h : mH} (fx : FX n ad sa z0 h) (i : Int32) (o2 o3 : Option Value) 
    (B1 : ¬ 250 ≤ i → vp_in i 250)
    (K1 : 250 ≤ i → WR (d) cd_157 24 [some (.ref (ad 30)), some (.int 0), o2, o3] [] h Q) (K2 : ¬ 250 ≤ i → WR (d) cd_157 2 [some (.ref (ad 30)), some (.int (i + 1)), o2, o3] [] (sI h (ad 40) i.toNatClampNeg 0) Q) : WR (d + 0) cd_157 2 [some (.ref (ad 30)), some (.int i), o2, o3] [] h Q := by
  refine r_iload rfl rfl ?_
  refine r_ic (x := 250) rfl rfl ?_
  refine r_icmp_ge (tg := 22) rfl rfl (fun c1 => ?_) (fun c1 => ?_)
  · refine r_ic (x := 0) rfl rfl ?_
    refine r_istore (lv' := [some (.ref (ad 30)), some (.int 0), o2, o3]) rfl (Nat.le_of_ble_eq_true rfl) rfl ?_
    exact K1 c1
  · refine r_aload rfl rfl ?_
    refine r_getA (b := ad 40) rfl ⟨rfl, rfl, rfl⟩ (fx_t30 fx) (fx_r30_13 fx) ?_
    refine r_iload rfl rfl ?_
    refine r_ic (x := 0) rfl rfl ?_
    refine r_bastore rfl (fx_t40 fx) (vp_ct (fx_n40 fx) (B1 c1)) (.inl rfl) ?_
    refine r_iinc (y := i + 1) (lv' := [some (.ref (ad 30)), some (.int (i + 1)), o2, o3]) rfl rfl rfl rfl ?_
    refine r_goto (tg := 2) rfl rfl ?_
    exact K2 c1

set_option maxHeartbeats 1000000 in
theorem w_sw24 {d : Nat} {Q : mQ} {n : Nat} {ad sa : Nat → Nat} {z0 : Nat} {h : mH} (fx : FX n ad sa z0 h) (i : Int32) (o2 o3 : Option Value) 
    (B1 : ¬ 24 ≤ i → vp_in i 24) (B2 : ¬ 24 ≤ i → ¬ (hI h (ad 31) i.toNatClampNeg) < 0 → ¬ 1000 ≤ (hI h (ad 31) i.toNatClampNeg) → vp_in (hI h (ad 31) i.toNatClampNeg) 250)
    (K1 : 24 ≤ i → WR (d + 1) cd_157 52 [some (.ref (ad 30)), some (.int 0), o2, o3] [] h Q) (K2 : ¬ 24 ≤ i → (hI h (ad 31) i.toNatClampNeg) < 0 → WR (d + 1) cd_157 24 [some (.ref (ad 30)), some (.int (i + 1)), o2, o3] [] h Q) (K3 : ¬ 24 ≤ i → ¬ (hI h (ad 31) i.toNatClampNeg) < 0 → 1000 ≤ (hI h (ad 31) i.toNatClampNeg) → WR (d + 1) cd_157 24 [some (.ref (ad 30)), some (.int (i + 1)), o2, o3] [] h Q) (K4 : ¬ 24 ≤ i → ¬ (hI h (ad 31) i.toNatClampNeg) < 0 → ¬ 1000 ≤ (hI h (ad 31) i.toNatClampNeg) → WR (d + 1) cd_157 24 [some (.ref (ad 30)), some (.int (i + 1)), o2, o3] [] (sI h (ad 40) (hI h (ad 31) i.toNatClampNeg).toNatClampNeg 1) Q) : WR (d + 1) cd_157 24 [some (.ref (ad 30)), some (.int i), o2, o3] [] h Q := by
  refine r_iload rfl rfl ?_
  refine r_ic (x := 24) rfl rfl ?_
  refine r_icmp_ge (tg := 50) rfl rfl (fun c1 => ?_) (fun c1 => ?_)
  · refine r_ic (x := 0) rfl rfl ?_
    refine r_istore (lv' := [some (.ref (ad 30)), some (.int 0), o2, o3]) rfl (Nat.le_of_ble_eq_true rfl) rfl ?_
    exact K1 c1
  · refine r_aload rfl rfl ?_
    refine r_aload rfl rfl ?_
    refine r_getA (b := ad 40) rfl ⟨rfl, rfl, rfl⟩ (fx_t30 fx) (fx_r30_13 fx) ?_
    refine r_aload rfl rfl ?_
    refine r_getA (b := ad 31) rfl ⟨rfl, rfl, rfl⟩ (fx_t30 fx) (fx_r30_0 fx) ?_
    refine r_iload rfl rfl ?_
    refine r_iaload rfl (.inl (fx_t31 fx)) (vp_ct (fx_n31 fx) (B1 c1)) ?_
    refine r_cv (y := 158) (ra := [.int (hI h (ad 31) i.toNatClampNeg), .ref (ad 40)]) (rest := []) rfl ⟨⟨rfl, rfl⟩, rfl, by decide⟩ (fx_t30 fx) rfl rfl (Nat.le_of_ble_eq_true rfl) ?_
    refine in_158 (Nat.le_of_ble_eq_true rfl) ?_
    show WR _ cd_158 0 [some (.ref (ad 30)), some (.ref (ad 40)), some (.int (hI h (ad 31) i.toNatClampNeg))] [] h _
    refine r_iload rfl rfl ?_
    refine r_if_lt (tg := 15) rfl rfl (fun c2 => ?_) (fun c2 => ?_)
    · refine r_vret rfl ?_
      show WR _ cd_157 44 [some (.ref (ad 30)), some (.int i), o2, o3] [] h _
      refine r_iinc (y := i + 1) (lv' := [some (.ref (ad 30)), some (.int (i + 1)), o2, o3]) rfl rfl rfl rfl ?_
      refine r_goto (tg := 24) rfl rfl ?_
      exact K2 c1 c2
    · refine r_iload rfl rfl ?_
      refine r_ic (x := 1000) rfl rfl ?_
      refine r_icmp_ge (tg := 15) rfl rfl (fun c3 => ?_) (fun c3 => ?_)
      · refine r_vret rfl ?_
        show WR _ cd_157 44 [some (.ref (ad 30)), some (.int i), o2, o3] [] h _
        refine r_iinc (y := i + 1) (lv' := [some (.ref (ad 30)), some (.int (i + 1)), o2, o3]) rfl rfl rfl rfl ?_
        refine r_goto (tg := 24) rfl rfl ?_
        exact K3 c1 c2 c3
      · refine r_aload rfl rfl ?_
        refine r_iload rfl rfl ?_
        refine r_ic (x := 1) rfl rfl ?_
        refine r_bastore rfl (fx_t40 fx) (vp_ct (fx_n40 fx) (B2 c1 c2 c3)) (.inr rfl) ?_
        refine r_vret rfl ?_
        show WR _ cd_157 44 [some (.ref (ad 30)), some (.int i), o2, o3] [] (sI h (ad 40) (hI h (ad 31) i.toNatClampNeg).toNatClampNeg 1) _
        refine r_iinc (y := i + 1) (lv' := [some (.ref (ad 30)), some (.int (i + 1)), o2, o3]) rfl rfl rfl rfl ?_
        refine r_goto (tg := 24) rfl rfl ?_
        exact K4 c1 c2 c3

set_option maxHeartbeats 1000000 in
theorem w_sw52 {d : Nat} {Q : mQ} {n : Nat} {ad sa : Nat → Nat} {z0 : Nat} {h : mH} (fx : FX n ad sa z0 h) (i : Int32) (o2 o3 : Option Value) 
    (B1 : ¬ 24 ≤ i → vp_in i 24) (B2 : ¬ 24 ≤ i → ¬ (hI h (ad 31) i.toNatClampNeg) < 0 → ¬ 1000 ≤ (hI h (ad 31) i.toNatClampNeg) → vp_in (hI h (ad 31) i.toNatClampNeg) 250)
    (K1 : 24 ≤ i → WR (d) cd_157 133 [some (.ref (ad 30)), some (.int 0), o2, o3] [] h Q) (K2 : ¬ 24 ≤ i → (hI h (ad 31) i.toNatClampNeg) < 0 → WR (d) cd_157 125 [some (.ref (ad 30)), some (.int i), some (.int (hI h (ad 31) i.toNatClampNeg)), o3] [] h Q) (K3 : ¬ 24 ≤ i → ¬ (hI h (ad 31) i.toNatClampNeg) < 0 → 1000 ≤ (hI h (ad 31) i.toNatClampNeg) → WR (d) cd_157 125 [some (.ref (ad 30)), some (.int i), some (.int (hI h (ad 31) i.toNatClampNeg)), o3] [] h Q) (K4 : ¬ 24 ≤ i → ¬ (hI h (ad 31) i.toNatClampNeg) < 0 → ¬ 1000 ≤ (hI h (ad 31) i.toNatClampNeg) → ¬ (hI h (ad 33) (hI h (ad 31) i.toNatClampNeg).toNatClampNeg) = 8 → WR (d) cd_157 125 [some (.ref (ad 30)), some (.int i), some (.int (hI h (ad 31) i.toNatClampNeg)), o3] [] h Q) (K5 : ¬ 24 ≤ i → ¬ (hI h (ad 31) i.toNatClampNeg) < 0 → ¬ 1000 ≤ (hI h (ad 31) i.toNatClampNeg) → (hI h (ad 33) (hI h (ad 31) i.toNatClampNeg).toNatClampNeg) = 8 → WR (d) cd_157 89 [some (.ref (ad 30)), some (.int i), some (.int (hI h (ad 31) i.toNatClampNeg)), some (.int 0)] [] h Q) : WR (d + 0) cd_157 52 [some (.ref (ad 30)), some (.int i), o2, o3] [] h Q := by
  refine r_iload rfl rfl ?_
  refine r_ic (x := 24) rfl rfl ?_
  refine r_icmp_ge (tg := 131) rfl rfl (fun c1 => ?_) (fun c1 => ?_)
  · refine r_ic (x := 0) rfl rfl ?_
    refine r_istore (lv' := [some (.ref (ad 30)), some (.int 0), o2, o3]) rfl (Nat.le_of_ble_eq_true rfl) rfl ?_
    exact K1 c1
  · refine r_aload rfl rfl ?_
    refine r_getA (b := ad 31) rfl ⟨rfl, rfl, rfl⟩ (fx_t30 fx) (fx_r30_0 fx) ?_
    refine r_iload rfl rfl ?_
    refine r_iaload rfl (.inl (fx_t31 fx)) (vp_ct (fx_n31 fx) (B1 c1)) ?_
    refine r_istore (lv' := [some (.ref (ad 30)), some (.int i), some (.int (hI h (ad 31) i.toNatClampNeg)), o3]) rfl (Nat.le_of_ble_eq_true rfl) rfl ?_
    refine r_iload rfl rfl ?_
    refine r_if_lt (tg := 125) rfl rfl (fun c2 => ?_) (fun c2 => ?_)
    · exact K2 c1 c2
    · refine r_iload rfl rfl ?_
      refine r_ic (x := 1000) rfl rfl ?_
      refine r_icmp_ge (tg := 125) rfl rfl (fun c3 => ?_) (fun c3 => ?_)
      · exact K3 c1 c2 c3
      · refine r_aload rfl rfl ?_
        refine r_getA (b := ad 33) rfl ⟨rfl, rfl, rfl⟩ (fx_t30 fx) (fx_r30_2 fx) ?_
        refine r_iload rfl rfl ?_
        refine r_iaload rfl (.inl (fx_t33 fx)) (vp_ct (fx_n33 fx) (B2 c1 c2 c3)) ?_
        refine r_ic (x := 8) rfl rfl ?_
        refine r_icmp_ne (tg := 125) rfl rfl (fun c4 => ?_) (fun c4 => ?_)
        · exact K4 c1 c2 c3 c4
        · refine r_ic (x := 0) rfl rfl ?_
          refine r_istore (lv' := [some (.ref (ad 30)), some (.int i), some (.int (hI h (ad 31) i.toNatClampNeg)), some (.int 0)]) rfl (Nat.le_of_ble_eq_true rfl) rfl ?_
          exact K5 c1 c2 c3 c4

set_option maxHeartbeats 1000000 in
theorem w_sw89 {d : Nat} {Q : mQ} {n : Nat} {ad sa : Nat → Nat} {z0 : Nat} {h : mH} (fx : FX n ad sa z0 h) (i t j : Int32) 
    (B1 : vp_in t 250) (B2 : ¬ (hI h (ad 35) t.toNatClampNeg) ≤ j → vp_in ((30 * t) + j) 7500) (B3 : ¬ (hI h (ad 35) t.toNatClampNeg) ≤ j → ¬ ((hL h (ad 36) ((30 * t) + j).toNatClampNeg).toInt32) < 0 → ¬ 1000 ≤ ((hL h (ad 36) ((30 * t) + j).toNatClampNeg).toInt32) → vp_in ((hL h (ad 36) ((30 * t) + j).toNatClampNeg).toInt32) 250)
    (K1 : (hI h (ad 35) t.toNatClampNeg) ≤ j → WR (d + 1) cd_157 125 [some (.ref (ad 30)), some (.int i), some (.int t), some (.int j)] [] h Q) (K2 : ¬ (hI h (ad 35) t.toNatClampNeg) ≤ j → ((hL h (ad 36) ((30 * t) + j).toNatClampNeg).toInt32) < 0 → WR (d + 1) cd_157 89 [some (.ref (ad 30)), some (.int i), some (.int t), some (.int (j + 1))] [] h Q) (K3 : ¬ (hI h (ad 35) t.toNatClampNeg) ≤ j → ¬ ((hL h (ad 36) ((30 * t) + j).toNatClampNeg).toInt32) < 0 → 1000 ≤ ((hL h (ad 36) ((30 * t) + j).toNatClampNeg).toInt32) → WR (d + 1) cd_157 89 [some (.ref (ad 30)), some (.int i), some (.int t), some (.int (j + 1))] [] h Q) (K4 : ¬ (hI h (ad 35) t.toNatClampNeg) ≤ j → ¬ ((hL h (ad 36) ((30 * t) + j).toNatClampNeg).toInt32) < 0 → ¬ 1000 ≤ ((hL h (ad 36) ((30 * t) + j).toNatClampNeg).toInt32) → WR (d + 1) cd_157 89 [some (.ref (ad 30)), some (.int i), some (.int t), some (.int (j + 1))] [] (sI h (ad 40) ((hL h (ad 36) ((30 * t) + j).toNatClampNeg).toInt32).toNatClampNeg 1) Q) : WR (d + 1) cd_157 89 [some (.ref (ad 30)), some (.int i), some (.int t), some (.int j)] [] h Q := by
  refine r_iload rfl rfl ?_
  refine r_aload rfl rfl ?_
  refine r_getA (b := ad 35) rfl ⟨rfl, rfl, rfl⟩ (fx_t30 fx) (fx_r30_4 fx) ?_
  refine r_iload rfl rfl ?_
  refine r_iaload rfl (.inl (fx_t35 fx)) (vp_ct (fx_n35 fx) (B1)) ?_
  refine r_icmp_ge (tg := 125) rfl rfl (fun c1 => ?_) (fun c1 => ?_)
  · exact K1 c1
  · refine r_aload rfl rfl ?_
    refine r_aload rfl rfl ?_
    refine r_getA (b := ad 40) rfl ⟨rfl, rfl, rfl⟩ (fx_t30 fx) (fx_r30_13 fx) ?_
    refine r_aload rfl rfl ?_
    refine r_getA (b := ad 36) rfl ⟨rfl, rfl, rfl⟩ (fx_t30 fx) (fx_r30_5 fx) ?_
    refine r_ic (x := 30) rfl rfl ?_
    refine r_iload rfl rfl ?_
    refine r_imul rfl ?_
    refine r_iload rfl rfl ?_
    refine r_iadd rfl ?_
    refine r_laload rfl (fx_t36 fx) (vp_ct (fx_n36 fx) (B2 c1)) ?_
    refine r_l2i rfl ?_
    refine r_cv (y := 158) (ra := [.int ((hL h (ad 36) ((30 * t) + j).toNatClampNeg).toInt32), .ref (ad 40)]) (rest := []) rfl ⟨⟨rfl, rfl⟩, rfl, by decide⟩ (fx_t30 fx) rfl rfl (Nat.le_of_ble_eq_true rfl) ?_
    refine in_158 (Nat.le_of_ble_eq_true rfl) ?_
    show WR _ cd_158 0 [some (.ref (ad 30)), some (.ref (ad 40)), some (.int ((hL h (ad 36) ((30 * t) + j).toNatClampNeg).toInt32))] [] h _
    refine r_iload rfl rfl ?_
    refine r_if_lt (tg := 15) rfl rfl (fun c2 => ?_) (fun c2 => ?_)
    · refine r_vret rfl ?_
      show WR _ cd_157 119 [some (.ref (ad 30)), some (.int i), some (.int t), some (.int j)] [] h _
      refine r_iinc (y := j + 1) (lv' := [some (.ref (ad 30)), some (.int i), some (.int t), some (.int (j + 1))]) rfl rfl rfl rfl ?_
      refine r_goto (tg := 89) rfl rfl ?_
      exact K2 c1 c2
    · refine r_iload rfl rfl ?_
      refine r_ic (x := 1000) rfl rfl ?_
      refine r_icmp_ge (tg := 15) rfl rfl (fun c3 => ?_) (fun c3 => ?_)
      · refine r_vret rfl ?_
        show WR _ cd_157 119 [some (.ref (ad 30)), some (.int i), some (.int t), some (.int j)] [] h _
        refine r_iinc (y := j + 1) (lv' := [some (.ref (ad 30)), some (.int i), some (.int t), some (.int (j + 1))]) rfl rfl rfl rfl ?_
        refine r_goto (tg := 89) rfl rfl ?_
        exact K3 c1 c2 c3
      · refine r_aload rfl rfl ?_
        refine r_iload rfl rfl ?_
        refine r_ic (x := 1) rfl rfl ?_
        refine r_bastore rfl (fx_t40 fx) (vp_ct (fx_n40 fx) (B3 c1 c2 c3)) (.inr rfl) ?_
        refine r_vret rfl ?_
        show WR _ cd_157 119 [some (.ref (ad 30)), some (.int i), some (.int t), some (.int j)] [] (sI h (ad 40) ((hL h (ad 36) ((30 * t) + j).toNatClampNeg).toInt32).toNatClampNeg 1) _
        refine r_iinc (y := j + 1) (lv' := [some (.ref (ad 30)), some (.int i), some (.int t), some (.int (j + 1))]) rfl rfl rfl rfl ?_
        refine r_goto (tg := 89) rfl rfl ?_
        exact K4 c1 c2 c3

set_option maxHeartbeats 1000000 in
theorem w_sw125 {d : Nat} {Q : mQ} {n : Nat} {ad sa : Nat → Nat} {z0 : Nat} {h : mH} (fx : FX n ad sa z0 h) (i : Int32) (o2 o3 : Option Value) 
    
    (K1 : WR (d) cd_157 52 [some (.ref (ad 30)), some (.int (i + 1)), o2, o3] [] h Q) : WR (d + 0) cd_157 125 [some (.ref (ad 30)), some (.int i), o2, o3] [] h Q := by
  refine r_iinc (y := i + 1) (lv' := [some (.ref (ad 30)), some (.int (i + 1)), o2, o3]) rfl rfl rfl rfl ?_
  refine r_goto (tg := 52) rfl rfl ?_
  exact K1

set_option maxHeartbeats 1000000 in
theorem w_sw133 {d : Nat} {Q : mQ} {n : Nat} {ad sa : Nat → Nat} {z0 : Nat} {h : mH} (fx : FX n ad sa z0 h) (i : Int32) (o2 o3 : Option Value) 
    (B1 : ¬ 250 ≤ i → vp_in i 250) (B2 : ¬ 250 ≤ i → (hI h (ad 40) i.toNatClampNeg) = 0 ∨ (hI h (ad 40) i.toNatClampNeg) = 1)
    (L1 : 250 ≤ i → Q none h) (K1 : ¬ 250 ≤ i → WR (d) cd_157 133 [some (.ref (ad 30)), some (.int (i + 1)), o2, o3] [] (sI h (ad 32) i.toNatClampNeg (hI h (ad 40) i.toNatClampNeg)) Q) : WR (d + 0) cd_157 133 [some (.ref (ad 30)), some (.int i), o2, o3] [] h Q := by
  refine r_iload rfl rfl ?_
  refine r_ic (x := 250) rfl rfl ?_
  refine r_icmp_ge (tg := 158) rfl rfl (fun c1 => ?_) (fun c1 => ?_)
  · refine r_vret rfl ?_
    exact L1 c1
  · refine r_aload rfl rfl ?_
    refine r_getA (b := ad 32) rfl ⟨rfl, rfl, rfl⟩ (fx_t30 fx) (fx_r30_1 fx) ?_
    refine r_iload rfl rfl ?_
    refine r_aload rfl rfl ?_
    refine r_getA (b := ad 40) rfl ⟨rfl, rfl, rfl⟩ (fx_t30 fx) (fx_r30_13 fx) ?_
    refine r_iload rfl rfl ?_
    refine r_baload rfl (fx_t40 fx) (vp_ct (fx_n40 fx) (B1 c1)) ?_
    refine r_bastore rfl (fx_t32 fx) (vp_ct (fx_n32 fx) (B1 c1)) (B2 c1) ?_
    refine r_iinc (y := i + 1) (lv' := [some (.ref (ad 30)), some (.int (i + 1)), o2, o3]) rfl rfl rfl rfl ?_
    refine r_goto (tg := 133) rfl rfl ?_
    exact K1 c1

set_option maxHeartbeats 1000000 in
theorem w_mk0 {d : Nat} {Q : mQ} {n : Nat} {ad sa : Nat → Nat} {z0 : Nat} {h : mH} (fx : FX n ad sa z0 h) (s k n1 : Int32) 
    
    (K1 : WR (d) cd_159 3 [some (.ref (ad 30)), some (.int s), some (.int k), some (.int n1), some (.int 0), none] [] h Q) : EV (d + 1) 159 [.ref (ad 30), .int s, .int k, .int n1] h Q := by
  refine in_159 (Nat.le_of_ble_eq_true rfl) ?_
  show WR _ cd_159 0 [some (.ref (ad 30)), some (.int s), some (.int k), some (.int n1), none, none] [] h _
  refine r_ic (x := 0) rfl rfl ?_
  refine r_istore (lv' := [some (.ref (ad 30)), some (.int s), some (.int k), some (.int n1), some (.int 0), none]) rfl (Nat.le_of_ble_eq_true rfl) rfl ?_
  exact K1

set_option maxHeartbeats 1000000 in
theorem w_mk3 {d : Nat} {Q : mQ} {n : Nat} {ad sa : Nat → Nat} {z0 : Nat} {h : mH} (fx : FX n ad sa z0 h) (s k n1 t : Int32) 
    (B1 : vp_in t 250) (B2 : (hI h (ad 32) t.toNatClampNeg) = 0 → vp_in t 250)
    (K1 : (hI h (ad 32) t.toNatClampNeg) = 0 → WR (d) cd_159 54 [some (.ref (ad 30)), some (.int s), some (.int k), some (.int n1), some (.int t), some (.int 0)] [] (sI (sI (sI (sI h (ad 32) t.toNatClampNeg 1) (ad 33) t.toNatClampNeg s) (ad 34) t.toNatClampNeg k) (ad 35) t.toNatClampNeg n1) Q) (K2 : ¬ (hI h (ad 32) t.toNatClampNeg) = 0 → WR (d) cd_159 3 [some (.ref (ad 30)), some (.int s), some (.int k), some (.int n1), some (.int (t + 1)), none] [] h Q) : WR (d + 0) cd_159 3 [some (.ref (ad 30)), some (.int s), some (.int k), some (.int n1), some (.int t), none] [] h Q := by
  refine r_aload rfl rfl ?_
  refine r_getA (b := ad 32) rfl ⟨rfl, rfl, rfl⟩ (fx_t30 fx) (fx_r30_1 fx) ?_
  refine r_iload rfl rfl ?_
  refine r_baload rfl (fx_t32 fx) (vp_ct (fx_n32 fx) (B1)) ?_
  refine r_if_eq (tg := 19) rfl rfl (fun c1 => ?_) (fun c1 => ?_)
  · refine r_aload rfl rfl ?_
    refine r_getA (b := ad 32) rfl ⟨rfl, rfl, rfl⟩ (fx_t30 fx) (fx_r30_1 fx) ?_
    refine r_iload rfl rfl ?_
    refine r_ic (x := 1) rfl rfl ?_
    refine r_bastore rfl (fx_t32 fx) (vp_ct (fx_n32 fx) (B2 c1)) (.inr rfl) ?_
    refine r_aload rfl rfl ?_
    refine r_getA (b := ad 33) rfl ⟨rfl, rfl, rfl⟩ (fx_t30 fx) (fx_r30_2 fx) ?_
    refine r_iload rfl rfl ?_
    refine r_iload rfl rfl ?_
    refine r_iastore rfl (fx_t33 fx) (vp_ct (fx_n33 fx) (B2 c1)) ?_
    refine r_aload rfl rfl ?_
    refine r_getA (b := ad 34) rfl ⟨rfl, rfl, rfl⟩ (fx_t30 fx) (fx_r30_3 fx) ?_
    refine r_iload rfl rfl ?_
    refine r_iload rfl rfl ?_
    refine r_iastore rfl (fx_t34 fx) (vp_ct (fx_n34 fx) (B2 c1)) ?_
    refine r_aload rfl rfl ?_
    refine r_getA (b := ad 35) rfl ⟨rfl, rfl, rfl⟩ (fx_t30 fx) (fx_r30_4 fx) ?_
    refine r_iload rfl rfl ?_
    refine r_iload rfl rfl ?_
    refine r_iastore rfl (fx_t35 fx) (vp_ct (fx_n35 fx) (B2 c1)) ?_
    refine r_ic (x := 0) rfl rfl ?_
    refine r_istore (lv' := [some (.ref (ad 30)), some (.int s), some (.int k), some (.int n1), some (.int t), some (.int 0)]) rfl (Nat.le_of_ble_eq_true rfl) rfl ?_
    exact K1 c1
  · refine r_iinc (y := t + 1) (lv' := [some (.ref (ad 30)), some (.int s), some (.int k), some (.int n1), some (.int (t + 1)), none]) rfl rfl rfl rfl ?_
    refine r_goto (tg := 3) rfl rfl ?_
    exact K2 c1

set_option maxHeartbeats 1000000 in
theorem w_mk54 {d : Nat} {Q : mQ} {n : Nat} {ad sa : Nat → Nat} {z0 : Nat} {h : mH} (fx : FX n ad sa z0 h) (s k n1 t i : Int32) 
    (B1 : ¬ 30 ≤ i → s = 8 → vp_in ((30 * t) + i) 7500) (B2 : ¬ 30 ≤ i → ¬ s = 8 → ¬ s = 9 → vp_in ((30 * t) + i) 7500) (B3 : ¬ 30 ≤ i → ¬ s = 8 → s = 9 → vp_in ((30 * t) + i) 7500)
    (L1 : 30 ≤ i → Q (some (.int t)) h) (K1 : ¬ 30 ≤ i → s = 8 → WR (d) cd_159 54 [some (.ref (ad 30)), some (.int s), some (.int k), some (.int n1), some (.int t), some (.int (i + 1))] [] (sL h (ad 36) ((30 * t) + i).toNatClampNeg (-1)) Q) (K2 : ¬ 30 ≤ i → ¬ s = 8 → ¬ s = 9 → WR (d) cd_159 54 [some (.ref (ad 30)), some (.int s), some (.int k), some (.int n1), some (.int t), some (.int (i + 1))] [] (sL h (ad 36) ((30 * t) + i).toNatClampNeg 0) Q) (K3 : ¬ 30 ≤ i → ¬ s = 8 → s = 9 → WR (d) cd_159 54 [some (.ref (ad 30)), some (.int s), some (.int k), some (.int n1), some (.int t), some (.int (i + 1))] [] (sL h (ad 36) ((30 * t) + i).toNatClampNeg (-1)) Q) : WR (d + 0) cd_159 54 [some (.ref (ad 30)), some (.int s), some (.int k), some (.int n1), some (.int t), some (.int i)] [] h Q := by
  refine r_iload rfl rfl ?_
  refine r_ic (x := 30) rfl rfl ?_
  refine r_icmp_ge (tg := 99) rfl rfl (fun c1 => ?_) (fun c1 => ?_)
  · refine r_iload rfl rfl ?_
    refine r_iret rfl ?_
    exact L1 c1
  · refine r_aload rfl rfl ?_
    refine r_getA (b := ad 36) rfl ⟨rfl, rfl, rfl⟩ (fx_t30 fx) (fx_r30_5 fx) ?_
    refine r_ic (x := 30) rfl rfl ?_
    refine r_iload rfl rfl ?_
    refine r_imul rfl ?_
    refine r_iload rfl rfl ?_
    refine r_iadd rfl ?_
    refine r_iload rfl rfl ?_
    refine r_ic (x := 8) rfl rfl ?_
    refine r_icmp_eq (tg := 85) rfl rfl (fun c2 => ?_) (fun c2 => ?_)
    · refine r_ldc (x := .long (-1)) rfl rfl ?_
      refine r_goto (tg := 92) rfl rfl ?_
      refine r_lastore rfl (fx_t36 fx) (vp_ct (fx_n36 fx) (B1 c1 c2)) ?_
      refine r_iinc (y := i + 1) (lv' := [some (.ref (ad 30)), some (.int s), some (.int k), some (.int n1), some (.int t), some (.int (i + 1))]) rfl rfl rfl rfl ?_
      refine r_goto (tg := 54) rfl rfl ?_
      exact K1 c1 c2
    · refine r_iload rfl rfl ?_
      refine r_ic (x := 9) rfl rfl ?_
      refine r_icmp_ne (tg := 91) rfl rfl (fun c3 => ?_) (fun c3 => ?_)
      · refine r_lc (x := 0) rfl rfl ?_
        refine r_lastore rfl (fx_t36 fx) (vp_ct (fx_n36 fx) (B2 c1 c2 c3)) ?_
        refine r_iinc (y := i + 1) (lv' := [some (.ref (ad 30)), some (.int s), some (.int k), some (.int n1), some (.int t), some (.int (i + 1))]) rfl rfl rfl rfl ?_
        refine r_goto (tg := 54) rfl rfl ?_
        exact K2 c1 c2 c3
      · refine r_ldc (x := .long (-1)) rfl rfl ?_
        refine r_goto (tg := 92) rfl rfl ?_
        refine r_lastore rfl (fx_t36 fx) (vp_ct (fx_n36 fx) (B3 c1 c2 c3)) ?_
        refine r_iinc (y := i + 1) (lv' := [some (.ref (ad 30)), some (.int s), some (.int k), some (.int n1), some (.int t), some (.int (i + 1))]) rfl rfl rfl rfl ?_
        refine r_goto (tg := 54) rfl rfl ?_
        exact K3 c1 c2 c3

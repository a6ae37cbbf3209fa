set_option maxHeartbeats 1000000 in
theorem x_clear {d : Nat} {Q : mQ} {n : Nat} {ad sa : Nat → Nat} {z0 : Nat} {h : mH} (fx : FX n ad sa z0 h) (c : Int32) 
    
    (L1 : c < 0 → Q (some (.int (-2))) (sI (sI h (ad 0) 6 0) (ad 0) 6 (-2))) (L2 : ¬ c < 0 → 24 ≤ c → Q (some (.int (-2))) (sI (sI h (ad 0) 6 0) (ad 0) 6 (-2))) (L3 : ¬ c < 0 → ¬ 24 ≤ c → hR (sI h (ad 0) 6 0) (ad 1) c.toNatClampNeg = none → Q (some (.int 0)) (sI h (ad 0) 6 0)) (L4 : ¬ c < 0 → ¬ 24 ≤ c → ∀ b3 : Nat, hR (sI h (ad 0) 6 0) (ad 1) c.toNatClampNeg = some b3 → Q (some (.int 1)) (sR (sI h (ad 0) 6 0) (ad 1) c.toNatClampNeg (none))) : EV (d + 2) 24 [.ref (ad 0), .int c] h Q := by
  refine in_24 (Nat.le_of_ble_eq_true rfl) ?_
  show WR _ cd_24 0 [some (.ref (ad 0)), some (.int c)] [] h _
  refine r_aload rfl rfl ?_
  refine r_ic (x := 0) rfl rfl ?_
  refine r_putI rfl ⟨rfl, rfl, rfl⟩ (fx_t0 fx) ?_
  refine r_iload rfl rfl ?_
  refine r_cs (y := 12) (ra := [.int c]) (rest := []) rfl ⟨⟨rfl, rfl⟩, by decide⟩ rfl rfl (Nat.le_of_ble_eq_true rfl) ?_
  refine in_12 (Nat.le_of_ble_eq_true rfl) ?_
  show WR _ cd_12 0 [some (.int c)] [] (sI h (ad 0) 6 0) _
  refine r_iload rfl rfl ?_
  refine r_if_lt (tg := 14) rfl rfl (fun c1 => ?_) (fun c1 => ?_)
  · refine r_ic (x := 0) rfl rfl ?_
    refine r_zret rfl (.inl rfl) ?_
    show WR _ cd_24 9 [some (.ref (ad 0)), some (.int c)] [.int 0] (sI h (ad 0) 6 0) _
    refine r_if_ne (tg := 19) rfl rfl (fun q => absurd q (by decide)) (fun _ => ?_)
    refine r_aload rfl rfl ?_
    refine r_ic (x := (-2)) rfl rfl ?_
    refine r_cv (y := 13) (ra := [.int (-2)]) (rest := []) rfl ⟨⟨rfl, rfl⟩, rfl, by decide⟩ (fx_t0 fx) rfl rfl (Nat.le_of_ble_eq_true rfl) ?_
    refine in_13 (Nat.le_of_ble_eq_true rfl) ?_
    show WR _ cd_13 0 [some (.ref (ad 0)), some (.int (-2))] [] (sI h (ad 0) 6 0) _
    refine r_aload rfl rfl ?_
    refine r_iload rfl rfl ?_
    refine r_putI rfl ⟨rfl, rfl, rfl⟩ (fx_t0 fx) ?_
    refine r_iload rfl rfl ?_
    refine r_iret rfl ?_
    show WR _ cd_24 18 [some (.ref (ad 0)), some (.int c)] [.int (-2)] (sI (sI h (ad 0) 6 0) (ad 0) 6 (-2)) _
    refine r_iret rfl ?_
    exact L1 c1
  · refine r_iload rfl rfl ?_
    refine r_ic (x := 24) rfl rfl ?_
    refine r_icmp_ge (tg := 14) rfl rfl (fun c2 => ?_) (fun c2 => ?_)
    · refine r_ic (x := 0) rfl rfl ?_
      refine r_zret rfl (.inl rfl) ?_
      show WR _ cd_24 9 [some (.ref (ad 0)), some (.int c)] [.int 0] (sI h (ad 0) 6 0) _
      refine r_if_ne (tg := 19) rfl rfl (fun q => absurd q (by decide)) (fun _ => ?_)
      refine r_aload rfl rfl ?_
      refine r_ic (x := (-2)) rfl rfl ?_
      refine r_cv (y := 13) (ra := [.int (-2)]) (rest := []) rfl ⟨⟨rfl, rfl⟩, rfl, by decide⟩ (fx_t0 fx) rfl rfl (Nat.le_of_ble_eq_true rfl) ?_
      refine in_13 (Nat.le_of_ble_eq_true rfl) ?_
      show WR _ cd_13 0 [some (.ref (ad 0)), some (.int (-2))] [] (sI h (ad 0) 6 0) _
      refine r_aload rfl rfl ?_
      refine r_iload rfl rfl ?_
      refine r_putI rfl ⟨rfl, rfl, rfl⟩ (fx_t0 fx) ?_
      refine r_iload rfl rfl ?_
      refine r_iret rfl ?_
      show WR _ cd_24 18 [some (.ref (ad 0)), some (.int c)] [.int (-2)] (sI (sI h (ad 0) 6 0) (ad 0) 6 (-2)) _
      refine r_iret rfl ?_
      exact L2 c1 c2
    · refine r_ic (x := 1) rfl rfl ?_
      refine r_goto (tg := 15) rfl rfl ?_
      refine r_zret rfl (.inr rfl) ?_
      show WR _ cd_24 9 [some (.ref (ad 0)), some (.int c)] [.int 1] (sI h (ad 0) 6 0) _
      refine r_if_ne (tg := 19) rfl rfl (fun _ => ?_) (fun q => absurd q (by decide))
      refine r_aload rfl rfl ?_
      refine r_getA (b := ad 1) rfl ⟨rfl, rfl, rfl⟩ (fx_t0 fx) (fx_r0_0 fx) ?_
      refine r_iload rfl rfl ?_
      refine r_aaloadS rfl (isQ_of (fx_t1 fx) (by decide)) (vp_ct (fx_n1 fx) (vp_g c1 c2 (by decide))) (fun c3 => ?_) (fun b3 c3 => ?_)
      · refine r_ifnonnullN (tg := 30) rfl rfl ?_
        refine r_ic (x := 0) rfl rfl ?_
        refine r_iret rfl ?_
        exact L3 c1 c2 c3
      · refine r_ifnonnullA (tg := 30) rfl rfl ?_
        refine r_aload rfl rfl ?_
        refine r_getA (b := ad 1) rfl ⟨rfl, rfl, rfl⟩ (fx_t0 fx) (fx_r0_0 fx) ?_
        refine r_iload rfl rfl ?_
        refine r_null rfl ?_
        refine r_aastore0 rfl (isQ_of (fx_t1 fx) (by decide)) (vp_ct (fx_n1 fx) (vp_g c1 c2 (by decide))) (fun _ q => by cases q) ?_
        refine r_ic (x := 1) rfl rfl ?_
        refine r_iret rfl ?_
        exact L4 c1 c2 b3 c3

set_option maxHeartbeats 1000000 in
theorem m_clear {d : Nat} {Q : mQ} {n : Nat} {ad sa : Nat → Nat} {z0 : Nat} {h : mH} (fx : FX n ad sa z0 h) (c : Int32) 
    
    (L1 : c < 0 → Q (some (.int (-2))) (sI h (ad 30) 11 (-2))) (L2 : ¬ c < 0 → 24 ≤ c → Q (some (.int (-2))) (sI h (ad 30) 11 (-2))) (L3 : ¬ c < 0 → ¬ 24 ≤ c → (hI h (ad 31) c.toNatClampNeg) = (-1) → Q (some (.int 0)) (sI (sI h (ad 31) c.toNatClampNeg (-1)) (ad 30) 11 0)) (L4 : ¬ c < 0 → ¬ 24 ≤ c → ¬ (hI h (ad 31) c.toNatClampNeg) = (-1) → Q (some (.int 1)) (sI (sI h (ad 31) c.toNatClampNeg (-1)) (ad 30) 11 0)) : EV (d + 2) 164 [.ref (ad 30), .int c] h Q := by
  refine in_164 (Nat.le_of_ble_eq_true rfl) ?_
  show WR _ cd_164 0 [some (.ref (ad 30)), some (.int c), none] [] h _
  refine r_iload rfl rfl ?_
  refine r_cs (y := 153) (ra := [.int c]) (rest := []) rfl ⟨⟨rfl, rfl⟩, by decide⟩ rfl rfl (Nat.le_of_ble_eq_true rfl) ?_
  refine in_153 (Nat.le_of_ble_eq_true rfl) ?_
  show WR _ cd_153 0 [some (.int c)] [] h _
  refine r_iload rfl rfl ?_
  refine r_if_lt (tg := 14) rfl rfl (fun c1 => ?_) (fun c1 => ?_)
  · refine r_ic (x := 0) rfl rfl ?_
    refine r_zret rfl (.inl rfl) ?_
    show WR _ cd_164 4 [some (.ref (ad 30)), some (.int c), none] [.int 0] h _
    refine r_if_ne (tg := 14) rfl rfl (fun q => absurd q (by decide)) (fun _ => ?_)
    refine r_aload rfl rfl ?_
    refine r_ic (x := (-2)) rfl rfl ?_
    refine r_cv (y := 154) (ra := [.int (-2)]) (rest := []) rfl ⟨⟨rfl, rfl⟩, rfl, by decide⟩ (fx_t30 fx) rfl rfl (Nat.le_of_ble_eq_true rfl) ?_
    refine in_154 (Nat.le_of_ble_eq_true rfl) ?_
    show WR _ cd_154 0 [some (.ref (ad 30)), some (.int (-2))] [] h _
    refine r_aload rfl rfl ?_
    refine r_iload rfl rfl ?_
    refine r_ic (x := (-1)) rfl rfl ?_
    refine r_icmp_ge (tg := 10) rfl rfl (fun q => absurd q (by decide)) (fun _ => ?_)
    refine r_iload rfl rfl ?_
    refine r_goto (tg := 11) rfl rfl ?_
    refine r_putI rfl ⟨rfl, rfl, rfl⟩ (fx_t30 fx) ?_
    refine r_iload rfl rfl ?_
    refine r_iret rfl ?_
    show WR _ cd_164 13 [some (.ref (ad 30)), some (.int c), none] [.int (-2)] (sI h (ad 30) 11 (-2)) _
    refine r_iret rfl ?_
    exact L1 c1
  · refine r_iload rfl rfl ?_
    refine r_ic (x := 24) rfl rfl ?_
    refine r_icmp_ge (tg := 14) rfl rfl (fun c2 => ?_) (fun c2 => ?_)
    · refine r_ic (x := 0) rfl rfl ?_
      refine r_zret rfl (.inl rfl) ?_
      show WR _ cd_164 4 [some (.ref (ad 30)), some (.int c), none] [.int 0] h _
      refine r_if_ne (tg := 14) rfl rfl (fun q => absurd q (by decide)) (fun _ => ?_)
      refine r_aload rfl rfl ?_
      refine r_ic (x := (-2)) rfl rfl ?_
      refine r_cv (y := 154) (ra := [.int (-2)]) (rest := []) rfl ⟨⟨rfl, rfl⟩, rfl, by decide⟩ (fx_t30 fx) rfl rfl (Nat.le_of_ble_eq_true rfl) ?_
      refine in_154 (Nat.le_of_ble_eq_true rfl) ?_
      show WR _ cd_154 0 [some (.ref (ad 30)), some (.int (-2))] [] h _
      refine r_aload rfl rfl ?_
      refine r_iload rfl rfl ?_
      refine r_ic (x := (-1)) rfl rfl ?_
      refine r_icmp_ge (tg := 10) rfl rfl (fun q => absurd q (by decide)) (fun _ => ?_)
      refine r_iload rfl rfl ?_
      refine r_goto (tg := 11) rfl rfl ?_
      refine r_putI rfl ⟨rfl, rfl, rfl⟩ (fx_t30 fx) ?_
      refine r_iload rfl rfl ?_
      refine r_iret rfl ?_
      show WR _ cd_164 13 [some (.ref (ad 30)), some (.int c), none] [.int (-2)] (sI h (ad 30) 11 (-2)) _
      refine r_iret rfl ?_
      exact L2 c1 c2
    · refine r_ic (x := 1) rfl rfl ?_
      refine r_goto (tg := 15) rfl rfl ?_
      refine r_zret rfl (.inr rfl) ?_
      show WR _ cd_164 4 [some (.ref (ad 30)), some (.int c), none] [.int 1] h _
      refine r_if_ne (tg := 14) rfl rfl (fun _ => ?_) (fun q => absurd q (by decide))
      refine r_aload rfl rfl ?_
      refine r_getA (b := ad 31) rfl ⟨rfl, rfl, rfl⟩ (fx_t30 fx) (fx_r30_0 fx) ?_
      refine r_iload rfl rfl ?_
      refine r_iaload rfl (.inl (fx_t31 fx)) (vp_ct (fx_n31 fx) (vp_g c1 c2 (by decide))) ?_
      refine r_ic (x := (-1)) rfl rfl ?_
      refine r_icmp_eq (tg := 28) rfl rfl (fun c3 => ?_) (fun c3 => ?_)
      · refine r_ic (x := 0) rfl rfl ?_
        refine r_istore (lv' := [some (.ref (ad 30)), some (.int c), some (.int 0)]) rfl (Nat.le_of_ble_eq_true rfl) rfl ?_
        refine r_aload rfl rfl ?_
        refine r_getA (b := ad 31) rfl ⟨rfl, rfl, rfl⟩ (fx_t30 fx) (fx_r30_0 fx) ?_
        refine r_iload rfl rfl ?_
        refine r_ic (x := (-1)) rfl rfl ?_
        refine r_iastore rfl (fx_t31 fx) (vp_ct (fx_n31 fx) (vp_g c1 c2 (by decide))) ?_
        refine r_aload rfl rfl ?_
        refine r_iload rfl rfl ?_
        refine r_if_eq (tg := 46) rfl rfl (fun _ => ?_) (fun q => absurd q (by decide))
        refine r_ic (x := 0) rfl rfl ?_
        refine r_cv (y := 154) (ra := [.int 0]) (rest := []) rfl ⟨⟨rfl, rfl⟩, rfl, by decide⟩ (fx_t30 fx) rfl rfl (Nat.le_of_ble_eq_true rfl) ?_
        refine in_154 (Nat.le_of_ble_eq_true rfl) ?_
        show WR _ cd_154 0 [some (.ref (ad 30)), some (.int 0)] [] (sI h (ad 31) c.toNatClampNeg (-1)) _
        refine r_aload rfl rfl ?_
        refine r_iload rfl rfl ?_
        refine r_ic (x := (-1)) rfl rfl ?_
        refine r_icmp_ge (tg := 10) rfl rfl (fun _ => ?_) (fun q => absurd q (by decide))
        refine r_ic (x := 0) rfl rfl ?_
        refine r_putI rfl ⟨rfl, rfl, rfl⟩ (fx_t30 fx) ?_
        refine r_iload rfl rfl ?_
        refine r_iret rfl ?_
        show WR _ cd_164 50 [some (.ref (ad 30)), some (.int c), some (.int 0)] [.int 0] (sI (sI h (ad 31) c.toNatClampNeg (-1)) (ad 30) 11 0) _
        refine r_iret rfl ?_
        exact L3 c1 c2 c3
      · refine r_ic (x := 1) rfl rfl ?_
        refine r_goto (tg := 29) rfl rfl ?_
        refine r_istore (lv' := [some (.ref (ad 30)), some (.int c), some (.int 1)]) rfl (Nat.le_of_ble_eq_true rfl) rfl ?_
        refine r_aload rfl rfl ?_
        refine r_getA (b := ad 31) rfl ⟨rfl, rfl, rfl⟩ (fx_t30 fx) (fx_r30_0 fx) ?_
        refine r_iload rfl rfl ?_
        refine r_ic (x := (-1)) rfl rfl ?_
        refine r_iastore rfl (fx_t31 fx) (vp_ct (fx_n31 fx) (vp_g c1 c2 (by decide))) ?_
        refine r_aload rfl rfl ?_
        refine r_iload rfl rfl ?_
        refine r_if_eq (tg := 46) rfl rfl (fun q => absurd q (by decide)) (fun _ => ?_)
        refine r_ic (x := 1) rfl rfl ?_
        refine r_goto (tg := 47) rfl rfl ?_
        refine r_cv (y := 154) (ra := [.int 1]) (rest := []) rfl ⟨⟨rfl, rfl⟩, rfl, by decide⟩ (fx_t30 fx) rfl rfl (Nat.le_of_ble_eq_true rfl) ?_
        refine in_154 (Nat.le_of_ble_eq_true rfl) ?_
        show WR _ cd_154 0 [some (.ref (ad 30)), some (.int 1)] [] (sI h (ad 31) c.toNatClampNeg (-1)) _
        refine r_aload rfl rfl ?_
        refine r_iload rfl rfl ?_
        refine r_ic (x := (-1)) rfl rfl ?_
        refine r_icmp_ge (tg := 10) rfl rfl (fun _ => ?_) (fun q => absurd q (by decide))
        refine r_ic (x := 0) rfl rfl ?_
        refine r_putI rfl ⟨rfl, rfl, rfl⟩ (fx_t30 fx) ?_
        refine r_iload rfl rfl ?_
        refine r_iret rfl ?_
        show WR _ cd_164 50 [some (.ref (ad 30)), some (.int c), some (.int 1)] [.int 1] (sI (sI h (ad 31) c.toNatClampNeg (-1)) (ad 30) 11 0) _
        refine r_iret rfl ?_
        exact L4 c1 c2 c3

set_option maxHeartbeats 1000000 in
theorem x_traced {d : Nat} {Q : mQ} {n : Nat} {ad sa : Nat → Nat} {z0 : Nat} {h : mH} (fx : FX n ad sa z0 h) (i : Int32) 
    (B1 : ¬ i < 0 → ¬ (hI (sI h (ad 0) 6 0) (ad 2) 1) ≤ i → vp_in i 60)
    (L1 : i < 0 → Q (some (.int (-1))) (sI h (ad 0) 6 0)) (L2 : ¬ i < 0 → (hI (sI h (ad 0) 6 0) (ad 2) 1) ≤ i → Q (some (.int (-1))) (sI h (ad 0) 6 0)) (L3 : ¬ i < 0 → ¬ (hI (sI h (ad 0) 6 0) (ad 2) 1) ≤ i → Q (some (.int (hI (sI h (ad 0) 6 0) (ad 3) i.toNatClampNeg))) (sI h (ad 0) 6 0)) : EV (d + 1) 73 [.ref (ad 0), .int i] h Q := by
  refine in_73 (Nat.le_of_ble_eq_true rfl) ?_
  show WR _ cd_73 0 [some (.ref (ad 0)), some (.int i)] [] h _
  refine r_aload rfl rfl ?_
  refine r_ic (x := 0) rfl rfl ?_
  refine r_putI rfl ⟨rfl, rfl, rfl⟩ (fx_t0 fx) ?_
  refine r_iload rfl rfl ?_
  refine r_if_lt (tg := 32) rfl rfl (fun c1 => ?_) (fun c1 => ?_)
  · refine r_ic (x := (-1)) rfl rfl ?_
    refine r_iret rfl ?_
    exact L1 c1
  · refine r_iload rfl rfl ?_
    refine r_aload rfl rfl ?_
    refine r_getA (b := ad 2) rfl ⟨rfl, rfl, rfl⟩ (fx_t0 fx) (fx_r0_1 fx) ?_
    refine r_getI rfl ⟨rfl, rfl, rfl⟩ (fx_t2 fx) ?_
    refine r_icmp_ge (tg := 32) rfl rfl (fun c2 => ?_) (fun c2 => ?_)
    · refine r_ic (x := (-1)) rfl rfl ?_
      refine r_iret rfl ?_
      exact L2 c1 c2
    · refine r_aload rfl rfl ?_
      refine r_getA (b := ad 2) rfl ⟨rfl, rfl, rfl⟩ (fx_t0 fx) (fx_r0_1 fx) ?_
      refine r_getA (b := ad 3) rfl ⟨rfl, rfl, rfl⟩ (fx_t2 fx) (fx_r2_0 fx) ?_
      refine r_iload rfl rfl ?_
      refine r_iaload rfl (.inl (fx_t3 fx)) (vp_ct (fx_n3 fx) (B1 c1 c2)) ?_
      refine r_goto (tg := 33) rfl rfl ?_
      refine r_iret rfl ?_
      exact L3 c1 c2

set_option maxHeartbeats 1000000 in
theorem m_traced {d : Nat} {Q : mQ} {n : Nat} {ad sa : Nat → Nat} {z0 : Nat} {h : mH} (fx : FX n ad sa z0 h) (i : Int32) 
    (B1 : ¬ i.toInt64 < 0 → ¬ (((hI (sI h (ad 30) 11 0) (ad 30) 9) - 1).toInt64) < i.toInt64 → vp_in i 60)
    (L1 : i.toInt64 < 0 → Q (some (.int (-1))) (sI h (ad 30) 11 0)) (L2 : ¬ i.toInt64 < 0 → (((hI (sI h (ad 30) 11 0) (ad 30) 9) - 1).toInt64) < i.toInt64 → Q (some (.int (-1))) (sI h (ad 30) 11 0)) (L3 : ¬ i.toInt64 < 0 → ¬ (((hI (sI h (ad 30) 11 0) (ad 30) 9) - 1).toInt64) < i.toInt64 → Q (some (.int (hI (sI h (ad 30) 11 0) (ad 39) i.toNatClampNeg))) (sI h (ad 30) 11 0)) : EV (d + 2) 191 [.ref (ad 30), .int i] h Q := by
  refine in_191 (Nat.le_of_ble_eq_true rfl) ?_
  show WR _ cd_191 0 [some (.ref (ad 30)), some (.int i)] [] h _
  refine r_aload rfl rfl ?_
  refine r_ic (x := 0) rfl rfl ?_
  refine r_putI rfl ⟨rfl, rfl, rfl⟩ (fx_t30 fx) ?_
  refine r_iload rfl rfl ?_
  refine r_i2l rfl ?_
  refine r_lc (x := 0) rfl rfl ?_
  refine r_aload rfl rfl ?_
  refine r_getI rfl ⟨rfl, rfl, rfl⟩ (fx_t30 fx) ?_
  refine r_ic (x := 1) rfl rfl ?_
  refine r_isub rfl ?_
  refine r_i2l rfl ?_
  refine r_cs (y := 155) (ra := [.long (((hI (sI h (ad 30) 11 0) (ad 30) 9) - 1).toInt64), .long 0, .long i.toInt64]) (rest := []) rfl ⟨⟨rfl, rfl⟩, by decide⟩ rfl rfl (Nat.le_of_ble_eq_true rfl) ?_
  refine in_155 (Nat.le_of_ble_eq_true rfl) ?_
  show WR _ cd_155 0 [some (.long i.toInt64), none, some (.long 0), none, some (.long (((hI (sI h (ad 30) 11 0) (ad 30) 9) - 1).toInt64)), none] [] (sI h (ad 30) 11 0) _
  refine r_lload rfl rfl ?_
  refine r_lload rfl rfl ?_
  refine r_lif_lt (tg := 17) rfl rfl rfl (fun c1 => ?_) (fun c1 => ?_)
  · refine r_ic (x := 0) rfl rfl ?_
    refine r_zret rfl (.inl rfl) ?_
    show WR _ cd_191 18 [some (.ref (ad 30)), some (.int i)] [.int 0] (sI h (ad 30) 11 0) _
    refine r_if_eq (tg := 30) rfl rfl (fun _ => ?_) (fun q => absurd q (by decide))
    refine r_ic (x := (-1)) rfl rfl ?_
    refine r_iret rfl ?_
    exact L1 c1
  · refine r_lload rfl rfl ?_
    refine r_lload rfl rfl ?_
    refine r_lif_gt (tg := 17) rfl rfl rfl (fun c2 => ?_) (fun c2 => ?_)
    · refine r_ic (x := 0) rfl rfl ?_
      refine r_zret rfl (.inl rfl) ?_
      show WR _ cd_191 18 [some (.ref (ad 30)), some (.int i)] [.int 0] (sI h (ad 30) 11 0) _
      refine r_if_eq (tg := 30) rfl rfl (fun _ => ?_) (fun q => absurd q (by decide))
      refine r_ic (x := (-1)) rfl rfl ?_
      refine r_iret rfl ?_
      exact L2 c1 c2
    · refine r_ic (x := 1) rfl rfl ?_
      refine r_goto (tg := 18) rfl rfl ?_
      refine r_zret rfl (.inr rfl) ?_
      show WR _ cd_191 18 [some (.ref (ad 30)), some (.int i)] [.int 1] (sI h (ad 30) 11 0) _
      refine r_if_eq (tg := 30) rfl rfl (fun q => absurd q (by decide)) (fun _ => ?_)
      refine r_aload rfl rfl ?_
      refine r_getA (b := ad 39) rfl ⟨rfl, rfl, rfl⟩ (fx_t30 fx) (fx_r30_10 fx) ?_
      refine r_iload rfl rfl ?_
      refine r_iaload rfl (.inl (fx_t39 fx)) (vp_ct (fx_n39 fx) (B1 c1 c2)) ?_
      refine r_goto (tg := 31) rfl rfl ?_
      refine r_iret rfl ?_
      exact L3 c1 c2

set_option maxHeartbeats 1000000 in
theorem x_forget {d : Nat} {Q : mQ} {n : Nat} {ad sa : Nat → Nat} {z0 : Nat} {h : mH} (fx : FX n ad sa z0 h) 
    
    (L1 : Q (some (.int (hI (sI h (ad 0) 6 0) (ad 2) 1))) (sI (sI h (ad 0) 6 0) (ad 2) 1 0)) : EV (d + 1) 74 [.ref (ad 0)] h Q := by
  refine in_74 (Nat.le_of_ble_eq_true rfl) ?_
  show WR _ cd_74 0 [some (.ref (ad 0)), none] [] h _
  refine r_aload rfl rfl ?_
  refine r_ic (x := 0) rfl rfl ?_
  refine r_putI rfl ⟨rfl, rfl, rfl⟩ (fx_t0 fx) ?_
  refine r_aload rfl rfl ?_
  refine r_getA (b := ad 2) rfl ⟨rfl, rfl, rfl⟩ (fx_t0 fx) (fx_r0_1 fx) ?_
  refine r_getI rfl ⟨rfl, rfl, rfl⟩ (fx_t2 fx) ?_
  refine r_istore (lv' := [some (.ref (ad 0)), some (.int (hI (sI h (ad 0) 6 0) (ad 2) 1))]) rfl (Nat.le_of_ble_eq_true rfl) rfl ?_
  refine r_aload rfl rfl ?_
  refine r_getA (b := ad 2) rfl ⟨rfl, rfl, rfl⟩ (fx_t0 fx) (fx_r0_1 fx) ?_
  refine r_ic (x := 0) rfl rfl ?_
  refine r_putI rfl ⟨rfl, rfl, rfl⟩ (fx_t2 fx) ?_
  refine r_iload rfl rfl ?_
  refine r_iret rfl ?_
  exact L1

set_option maxHeartbeats 1000000 in
theorem m_forget {d : Nat} {Q : mQ} {n : Nat} {ad sa : Nat → Nat} {z0 : Nat} {h : mH} (fx : FX n ad sa z0 h) 
    
    (L1 : (-1) ≤ (hI h (ad 30) 9) → Q (some (.int (hI h (ad 30) 9))) (sI (sI h (ad 30) 9 0) (ad 30) 11 0)) (L2 : ¬ (-1) ≤ (hI h (ad 30) 9) → Q (some (.int (hI h (ad 30) 9))) (sI (sI h (ad 30) 9 0) (ad 30) 11 (hI h (ad 30) 9))) : EV (d + 2) 192 [.ref (ad 30)] h Q := by
  refine in_192 (Nat.le_of_ble_eq_true rfl) ?_
  show WR _ cd_192 0 [some (.ref (ad 30)), none] [] h _
  refine r_aload rfl rfl ?_
  refine r_getI rfl ⟨rfl, rfl, rfl⟩ (fx_t30 fx) ?_
  refine r_istore (lv' := [some (.ref (ad 30)), some (.int (hI h (ad 30) 9))]) rfl (Nat.le_of_ble_eq_true rfl) rfl ?_
  refine r_aload rfl rfl ?_
  refine r_ic (x := 0) rfl rfl ?_
  refine r_putI rfl ⟨rfl, rfl, rfl⟩ (fx_t30 fx) ?_
  refine r_aload rfl rfl ?_
  refine r_iload rfl rfl ?_
  refine r_cv (y := 154) (ra := [.int (hI h (ad 30) 9)]) (rest := []) rfl ⟨⟨rfl, rfl⟩, rfl, by decide⟩ (fx_t30 fx) rfl rfl (Nat.le_of_ble_eq_true rfl) ?_
  refine in_154 (Nat.le_of_ble_eq_true rfl) ?_
  show WR _ cd_154 0 [some (.ref (ad 30)), some (.int (hI h (ad 30) 9))] [] (sI h (ad 30) 9 0) _
  refine r_aload rfl rfl ?_
  refine r_iload rfl rfl ?_
  refine r_ic (x := (-1)) rfl rfl ?_
  refine r_icmp_ge (tg := 10) rfl rfl (fun c1 => ?_) (fun c1 => ?_)
  · refine r_ic (x := 0) rfl rfl ?_
    refine r_putI rfl ⟨rfl, rfl, rfl⟩ (fx_t30 fx) ?_
    refine r_iload rfl rfl ?_
    refine r_iret rfl ?_
    show WR _ cd_192 15 [some (.ref (ad 30)), some (.int (hI h (ad 30) 9))] [.int (hI h (ad 30) 9)] (sI (sI h (ad 30) 9 0) (ad 30) 11 0) _
    refine r_iret rfl ?_
    exact L1 c1
  · refine r_iload rfl rfl ?_
    refine r_goto (tg := 11) rfl rfl ?_
    refine r_putI rfl ⟨rfl, rfl, rfl⟩ (fx_t30 fx) ?_
    refine r_iload rfl rfl ?_
    refine r_iret rfl ?_
    show WR _ cd_192 15 [some (.ref (ad 30)), some (.int (hI h (ad 30) 9))] [.int (hI h (ad 30) 9)] (sI (sI h (ad 30) 9 0) (ad 30) 11 (hI h (ad 30) 9)) _
    refine r_iret rfl ?_
    exact L2 c1

set_option maxHeartbeats 1000000 in
theorem x_why {d : Nat} {Q : mQ} {n : Nat} {ad sa : Nat → Nat} {z0 : Nat} {h : mH} (fx : FX n ad sa z0 h) 
    
    (L1 : Q (some (.int (hI h (ad 0) 6))) h) : EV (d + 1) 146 [.ref (ad 0)] h Q := by
  refine in_146 (Nat.le_of_ble_eq_true rfl) ?_
  show WR _ cd_146 0 [some (.ref (ad 0))] [] h _
  refine r_aload rfl rfl ?_
  refine r_getI rfl ⟨rfl, rfl, rfl⟩ (fx_t0 fx) ?_
  refine r_iret rfl ?_
  exact L1

set_option maxHeartbeats 1000000 in
theorem m_why {d : Nat} {Q : mQ} {n : Nat} {ad sa : Nat → Nat} {z0 : Nat} {h : mH} (fx : FX n ad sa z0 h) 
    
    (L1 : Q (some (.int (hI h (ad 30) 11))) h) : EV (d + 1) 248 [.ref (ad 30)] h Q := by
  refine in_248 (Nat.le_of_ble_eq_true rfl) ?_
  show WR _ cd_248 0 [some (.ref (ad 30))] [] h _
  refine r_aload rfl rfl ?_
  refine r_getI rfl ⟨rfl, rfl, rfl⟩ (fx_t30 fx) ?_
  refine r_iret rfl ?_
  exact L1

set_option maxHeartbeats 1000000 in
theorem x_acted {d : Nat} {Q : mQ} {n : Nat} {ad sa : Nat → Nat} {z0 : Nat} {h : mH} (fx : FX n ad sa z0 h) (w : Int32) 
    
    (L1 : (w.toInt < 0 ∨ 5 < w.toInt) → Q (some (.int (-3))) (sI (sI h (ad 0) 6 0) (ad 0) 6 (-3))) (L2 : w = 0 → Q (some (.int (hI (sI h (ad 0) 6 0) (ad 9) 8))) (sI h (ad 0) 6 0)) (L3 : w = 1 → Q (some (.int (hI (sI h (ad 0) 6 0) (ad 9) 9))) (sI h (ad 0) 6 0)) (L4 : w = 2 → Q (some (.int (hI (sI h (ad 0) 6 0) (ad 9) 10))) (sI h (ad 0) 6 0)) (L5 : w = 3 → Q (some (.int (hI (sI h (ad 0) 6 0) (ad 9) 11))) (sI h (ad 0) 6 0)) (L6 : w = 4 → Q (some (.int (hI (sI h (ad 0) 6 0) (ad 9) 12))) (sI h (ad 0) 6 0)) (L7 : w = 5 → Q (some (.int (hI (sI h (ad 0) 6 0) (ad 9) 13))) (sI h (ad 0) 6 0)) : EV (d + 2) 119 [.ref (ad 0), .int w] h Q := by
  refine in_119 (Nat.le_of_ble_eq_true rfl) ?_
  show WR _ cd_119 0 [some (.ref (ad 0)), some (.int w)] [] h _
  refine r_aload rfl rfl ?_
  refine r_ic (x := 0) rfl rfl ?_
  refine r_putI rfl ⟨rfl, rfl, rfl⟩ (fx_t0 fx) ?_
  refine r_iload rfl rfl ?_
  refine r_tsw (tg := 92) rfl rfl (fun c1 => ?_) (fun c1 => ?_)
  · refine r_aload rfl rfl ?_
    refine r_ic (x := (-3)) rfl rfl ?_
    refine r_cv (y := 13) (ra := [.int (-3)]) (rest := []) rfl ⟨⟨rfl, rfl⟩, rfl, by decide⟩ (fx_t0 fx) rfl rfl (Nat.le_of_ble_eq_true rfl) ?_
    refine in_13 (Nat.le_of_ble_eq_true rfl) ?_
    show WR _ cd_13 0 [some (.ref (ad 0)), some (.int (-3))] [] (sI h (ad 0) 6 0) _
    refine r_aload rfl rfl ?_
    refine r_iload rfl rfl ?_
    refine r_putI rfl ⟨rfl, rfl, rfl⟩ (fx_t0 fx) ?_
    refine r_iload rfl rfl ?_
    refine r_iret rfl ?_
    show WR _ cd_119 98 [some (.ref (ad 0)), some (.int w)] [.int (-3)] (sI (sI h (ad 0) 6 0) (ad 0) 6 (-3)) _
    refine r_iret rfl ?_
    exact L1 c1
  · rcases tsw_0_5 c1 with e_ | e_ | e_ | e_ | e_ | e_
    · have c2 : w = 0 := e_
      refine WR_pc (q := 44) (by rw [c2]; rfl) ?_
      refine r_aload rfl rfl ?_
      refine r_getA (b := ad 9) rfl ⟨rfl, rfl, rfl⟩ (fx_t0 fx) (fx_r0_3 fx) ?_
      refine r_getI rfl ⟨rfl, rfl, rfl⟩ (fx_t9 fx) ?_
      refine r_iret rfl ?_
      exact L2 c2
    · have c3 : w = 1 := e_
      refine WR_pc (q := 52) (by rw [c3]; rfl) ?_
      refine r_aload rfl rfl ?_
      refine r_getA (b := ad 9) rfl ⟨rfl, rfl, rfl⟩ (fx_t0 fx) (fx_r0_3 fx) ?_
      refine r_getI rfl ⟨rfl, rfl, rfl⟩ (fx_t9 fx) ?_
      refine r_iret rfl ?_
      exact L3 c3
    · have c4 : w = 2 := e_
      refine WR_pc (q := 60) (by rw [c4]; rfl) ?_
      refine r_aload rfl rfl ?_
      refine r_getA (b := ad 9) rfl ⟨rfl, rfl, rfl⟩ (fx_t0 fx) (fx_r0_3 fx) ?_
      refine r_getI rfl ⟨rfl, rfl, rfl⟩ (fx_t9 fx) ?_
      refine r_iret rfl ?_
      exact L4 c4
    · have c5 : w = 3 := e_
      refine WR_pc (q := 68) (by rw [c5]; rfl) ?_
      refine r_aload rfl rfl ?_
      refine r_getA (b := ad 9) rfl ⟨rfl, rfl, rfl⟩ (fx_t0 fx) (fx_r0_3 fx) ?_
      refine r_getI rfl ⟨rfl, rfl, rfl⟩ (fx_t9 fx) ?_
      refine r_iret rfl ?_
      exact L5 c5
    · have c6 : w = 4 := e_
      refine WR_pc (q := 76) (by rw [c6]; rfl) ?_
      refine r_aload rfl rfl ?_
      refine r_getA (b := ad 9) rfl ⟨rfl, rfl, rfl⟩ (fx_t0 fx) (fx_r0_3 fx) ?_
      refine r_getI rfl ⟨rfl, rfl, rfl⟩ (fx_t9 fx) ?_
      refine r_iret rfl ?_
      exact L6 c6
    · have c7 : w = 5 := e_
      refine WR_pc (q := 84) (by rw [c7]; rfl) ?_
      refine r_aload rfl rfl ?_
      refine r_getA (b := ad 9) rfl ⟨rfl, rfl, rfl⟩ (fx_t0 fx) (fx_r0_3 fx) ?_
      refine r_getI rfl ⟨rfl, rfl, rfl⟩ (fx_t9 fx) ?_
      refine r_iret rfl ?_
      exact L7 c7

set_option maxHeartbeats 1000000 in
theorem m_acted {d : Nat} {Q : mQ} {n : Nat} {ad sa : Nat → Nat} {z0 : Nat} {h : mH} (fx : FX n ad sa z0 h) (w : Int32) 
    
    (L1 : (w.toInt < 0 ∨ 5 < w.toInt) → Q (some (.int (-3))) (sI h (ad 30) 11 (-3))) (L2 : w = 0 → Q (some (.int (hI h (ad 30) 42))) (sI h (ad 30) 11 0)) (L3 : w = 1 → Q (some (.int (hI h (ad 30) 31))) (sI h (ad 30) 11 0)) (L4 : w = 2 → Q (some (.int (hI h (ad 30) 32))) (sI h (ad 30) 11 0)) (L5 : w = 3 → Q (some (.int (hI h (ad 30) 35))) (sI h (ad 30) 11 0)) (L6 : w = 4 → Q (some (.int (hI h (ad 30) 34))) (sI h (ad 30) 11 0)) (L7 : w = 5 → Q (some (.int (hI h (ad 30) 43))) (sI h (ad 30) 11 0)) : EV (d + 2) 223 [.ref (ad 30), .int w] h Q := by
  refine in_223 (Nat.le_of_ble_eq_true rfl) ?_
  show WR _ cd_223 0 [some (.ref (ad 30)), some (.int w)] [] h _
  refine r_iload rfl rfl ?_
  refine r_tsw (tg := 94) rfl rfl (fun c1 => ?_) (fun c1 => ?_)
  · refine r_aload rfl rfl ?_
    refine r_ic (x := (-3)) rfl rfl ?_
    refine r_cv (y := 154) (ra := [.int (-3)]) (rest := []) rfl ⟨⟨rfl, rfl⟩, rfl, by decide⟩ (fx_t30 fx) rfl rfl (Nat.le_of_ble_eq_true rfl) ?_
    refine in_154 (Nat.le_of_ble_eq_true rfl) ?_
    show WR _ cd_154 0 [some (.ref (ad 30)), some (.int (-3))] [] h _
    refine r_aload rfl rfl ?_
    refine r_iload rfl rfl ?_
    refine r_ic (x := (-1)) rfl rfl ?_
    refine r_icmp_ge (tg := 10) rfl rfl (fun q => absurd q (by decide)) (fun _ => ?_)
    refine r_iload rfl rfl ?_
    refine r_goto (tg := 11) rfl rfl ?_
    refine r_putI rfl ⟨rfl, rfl, rfl⟩ (fx_t30 fx) ?_
    refine r_iload rfl rfl ?_
    refine r_iret rfl ?_
    show WR _ cd_223 100 [some (.ref (ad 30)), some (.int w)] [.int (-3)] (sI h (ad 30) 11 (-3)) _
    refine r_iret rfl ?_
    exact L1 c1
  · rcases tsw_0_5 c1 with e_ | e_ | e_ | e_ | e_ | e_
    · have c2 : w = 0 := e_
      refine WR_pc (q := 40) (by rw [c2]; rfl) ?_
      refine r_aload rfl rfl ?_
      refine r_aload rfl rfl ?_
      refine r_getI rfl ⟨rfl, rfl, rfl⟩ (fx_t30 fx) ?_
      refine r_cv (y := 224) (ra := [.int (hI h (ad 30) 42)]) (rest := []) rfl ⟨⟨rfl, rfl⟩, rfl, by decide⟩ (fx_t30 fx) rfl rfl (Nat.le_of_ble_eq_true rfl) ?_
      refine in_224 (Nat.le_of_ble_eq_true rfl) ?_
      show WR _ cd_224 0 [some (.ref (ad 30)), some (.int (hI h (ad 30) 42))] [] h _
      refine r_aload rfl rfl ?_
      refine r_ic (x := 0) rfl rfl ?_
      refine r_putI rfl ⟨rfl, rfl, rfl⟩ (fx_t30 fx) ?_
      refine r_iload rfl rfl ?_
      refine r_iret rfl ?_
      show WR _ cd_223 48 [some (.ref (ad 30)), some (.int w)] [.int (hI h (ad 30) 42)] (sI h (ad 30) 11 0) _
      refine r_iret rfl ?_
      exact L2 c2
    · have c3 : w = 1 := e_
      refine WR_pc (q := 49) (by rw [c3]; rfl) ?_
      refine r_aload rfl rfl ?_
      refine r_aload rfl rfl ?_
      refine r_getI rfl ⟨rfl, rfl, rfl⟩ (fx_t30 fx) ?_
      refine r_cv (y := 224) (ra := [.int (hI h (ad 30) 31)]) (rest := []) rfl ⟨⟨rfl, rfl⟩, rfl, by decide⟩ (fx_t30 fx) rfl rfl (Nat.le_of_ble_eq_true rfl) ?_
      refine in_224 (Nat.le_of_ble_eq_true rfl) ?_
      show WR _ cd_224 0 [some (.ref (ad 30)), some (.int (hI h (ad 30) 31))] [] h _
      refine r_aload rfl rfl ?_
      refine r_ic (x := 0) rfl rfl ?_
      refine r_putI rfl ⟨rfl, rfl, rfl⟩ (fx_t30 fx) ?_
      refine r_iload rfl rfl ?_
      refine r_iret rfl ?_
      show WR _ cd_223 57 [some (.ref (ad 30)), some (.int w)] [.int (hI h (ad 30) 31)] (sI h (ad 30) 11 0) _
      refine r_iret rfl ?_
      exact L3 c3
    · have c4 : w = 2 := e_
      refine WR_pc (q := 58) (by rw [c4]; rfl) ?_
      refine r_aload rfl rfl ?_
      refine r_aload rfl rfl ?_
      refine r_getI rfl ⟨rfl, rfl, rfl⟩ (fx_t30 fx) ?_
      refine r_cv (y := 224) (ra := [.int (hI h (ad 30) 32)]) (rest := []) rfl ⟨⟨rfl, rfl⟩, rfl, by decide⟩ (fx_t30 fx) rfl rfl (Nat.le_of_ble_eq_true rfl) ?_
      refine in_224 (Nat.le_of_ble_eq_true rfl) ?_
      show WR _ cd_224 0 [some (.ref (ad 30)), some (.int (hI h (ad 30) 32))] [] h _
      refine r_aload rfl rfl ?_
      refine r_ic (x := 0) rfl rfl ?_
      refine r_putI rfl ⟨rfl, rfl, rfl⟩ (fx_t30 fx) ?_
      refine r_iload rfl rfl ?_
      refine r_iret rfl ?_
      show WR _ cd_223 66 [some (.ref (ad 30)), some (.int w)] [.int (hI h (ad 30) 32)] (sI h (ad 30) 11 0) _
      refine r_iret rfl ?_
      exact L4 c4
    · have c5 : w = 3 := e_
      refine WR_pc (q := 67) (by rw [c5]; rfl) ?_
      refine r_aload rfl rfl ?_
      refine r_aload rfl rfl ?_
      refine r_getI rfl ⟨rfl, rfl, rfl⟩ (fx_t30 fx) ?_
      refine r_cv (y := 224) (ra := [.int (hI h (ad 30) 35)]) (rest := []) rfl ⟨⟨rfl, rfl⟩, rfl, by decide⟩ (fx_t30 fx) rfl rfl (Nat.le_of_ble_eq_true rfl) ?_
      refine in_224 (Nat.le_of_ble_eq_true rfl) ?_
      show WR _ cd_224 0 [some (.ref (ad 30)), some (.int (hI h (ad 30) 35))] [] h _
      refine r_aload rfl rfl ?_
      refine r_ic (x := 0) rfl rfl ?_
      refine r_putI rfl ⟨rfl, rfl, rfl⟩ (fx_t30 fx) ?_
      refine r_iload rfl rfl ?_
      refine r_iret rfl ?_
      show WR _ cd_223 75 [some (.ref (ad 30)), some (.int w)] [.int (hI h (ad 30) 35)] (sI h (ad 30) 11 0) _
      refine r_iret rfl ?_
      exact L5 c5
    · have c6 : w = 4 := e_
      refine WR_pc (q := 76) (by rw [c6]; rfl) ?_
      refine r_aload rfl rfl ?_
      refine r_aload rfl rfl ?_
      refine r_getI rfl ⟨rfl, rfl, rfl⟩ (fx_t30 fx) ?_
      refine r_cv (y := 224) (ra := [.int (hI h (ad 30) 34)]) (rest := []) rfl ⟨⟨rfl, rfl⟩, rfl, by decide⟩ (fx_t30 fx) rfl rfl (Nat.le_of_ble_eq_true rfl) ?_
      refine in_224 (Nat.le_of_ble_eq_true rfl) ?_
      show WR _ cd_224 0 [some (.ref (ad 30)), some (.int (hI h (ad 30) 34))] [] h _
      refine r_aload rfl rfl ?_
      refine r_ic (x := 0) rfl rfl ?_
      refine r_putI rfl ⟨rfl, rfl, rfl⟩ (fx_t30 fx) ?_
      refine r_iload rfl rfl ?_
      refine r_iret rfl ?_
      show WR _ cd_223 84 [some (.ref (ad 30)), some (.int w)] [.int (hI h (ad 30) 34)] (sI h (ad 30) 11 0) _
      refine r_iret rfl ?_
      exact L6 c6
    · have c7 : w = 5 := e_
      refine WR_pc (q := 85) (by rw [c7]; rfl) ?_
      refine r_aload rfl rfl ?_
      refine r_aload rfl rfl ?_
      refine r_getI rfl ⟨rfl, rfl, rfl⟩ (fx_t30 fx) ?_
      refine r_cv (y := 224) (ra := [.int (hI h (ad 30) 43)]) (rest := []) rfl ⟨⟨rfl, rfl⟩, rfl, by decide⟩ (fx_t30 fx) rfl rfl (Nat.le_of_ble_eq_true rfl) ?_
      refine in_224 (Nat.le_of_ble_eq_true rfl) ?_
      show WR _ cd_224 0 [some (.ref (ad 30)), some (.int (hI h (ad 30) 43))] [] h _
      refine r_aload rfl rfl ?_
      refine r_ic (x := 0) rfl rfl ?_
      refine r_putI rfl ⟨rfl, rfl, rfl⟩ (fx_t30 fx) ?_
      refine r_iload rfl rfl ?_
      refine r_iret rfl ?_
      show WR _ cd_223 93 [some (.ref (ad 30)), some (.int w)] [.int (hI h (ad 30) 43)] (sI h (ad 30) 11 0) _
      refine r_iret rfl ?_
      exact L7 c7

set_option maxHeartbeats 1000000 in
theorem x_said {d : Nat} {Q : mQ} {n : Nat} {ad sa : Nat → Nat} {z0 : Nat} {h : mH} (fx : FX n ad sa z0 h) (i : Int32) 
    
    (L1 : i < 0 → Q (some (.int 0)) (sI h (ad 0) 6 0)) (L2 : ¬ i < 0 → (hI (sI h (ad 0) 6 0) (ad 9) 11) ≤ i → Q (some (.int 0)) (sI h (ad 0) 6 0)) (L3 : ¬ i < 0 → ¬ (hI (sI h (ad 0) 6 0) (ad 9) 11) ≤ i → 60 ≤ i → Q (some (.int 0)) (sI h (ad 0) 6 0)) (L4 : ¬ i < 0 → ¬ (hI (sI h (ad 0) 6 0) (ad 9) 11) ≤ i → ¬ 60 ≤ i → Q (some (.int (hI (sI h (ad 0) 6 0) (ad 12) i.toNatClampNeg))) (sI h (ad 0) 6 0)) : EV (d + 1) 120 [.ref (ad 0), .int i] h Q := by
  refine in_120 (Nat.le_of_ble_eq_true rfl) ?_
  show WR _ cd_120 0 [some (.ref (ad 0)), some (.int i)] [] h _
  refine r_aload rfl rfl ?_
  refine r_ic (x := 0) rfl rfl ?_
  refine r_putI rfl ⟨rfl, rfl, rfl⟩ (fx_t0 fx) ?_
  refine r_iload rfl rfl ?_
  refine r_if_lt (tg := 38) rfl rfl (fun c1 => ?_) (fun c1 => ?_)
  · refine r_ic (x := 0) rfl rfl ?_
    refine r_iret rfl ?_
    exact L1 c1
  · refine r_iload rfl rfl ?_
    refine r_aload rfl rfl ?_
    refine r_getA (b := ad 9) rfl ⟨rfl, rfl, rfl⟩ (fx_t0 fx) (fx_r0_3 fx) ?_
    refine r_getI rfl ⟨rfl, rfl, rfl⟩ (fx_t9 fx) ?_
    refine r_icmp_ge (tg := 38) rfl rfl (fun c2 => ?_) (fun c2 => ?_)
    · refine r_ic (x := 0) rfl rfl ?_
      refine r_iret rfl ?_
      exact L2 c1 c2
    · refine r_iload rfl rfl ?_
      refine r_ic (x := 60) rfl rfl ?_
      refine r_icmp_ge (tg := 38) rfl rfl (fun c3 => ?_) (fun c3 => ?_)
      · refine r_ic (x := 0) rfl rfl ?_
        refine r_iret rfl ?_
        exact L3 c1 c2 c3
      · refine r_aload rfl rfl ?_
        refine r_getA (b := ad 9) rfl ⟨rfl, rfl, rfl⟩ (fx_t0 fx) (fx_r0_3 fx) ?_
        refine r_getA (b := ad 12) rfl ⟨rfl, rfl, rfl⟩ (fx_t9 fx) (fx_r9_2 fx) ?_
        refine r_iload rfl rfl ?_
        refine r_iaload rfl (.inl (fx_t12 fx)) (vp_ct (fx_n12 fx) (vp_g c1 c3 (by decide))) ?_
        refine r_goto (tg := 39) rfl rfl ?_
        refine r_iret rfl ?_
        exact L4 c1 c2 c3

set_option maxHeartbeats 1000000 in
theorem m_said {d : Nat} {Q : mQ} {n : Nat} {ad sa : Nat → Nat} {z0 : Nat} {h : mH} (fx : FX n ad sa z0 h) (i : Int32) 
    (B1 : 60 ≤ (hI (sI h (ad 30) 11 0) (ad 30) 35) → ¬ i.toInt64 < 0 → ¬ ((60 - 1).toInt64) < i.toInt64 → vp_in i 60) (B2 : ¬ 60 ≤ (hI (sI h (ad 30) 11 0) (ad 30) 35) → ¬ i.toInt64 < 0 → ¬ (((hI (sI h (ad 30) 11 0) (ad 30) 35) - 1).toInt64) < i.toInt64 → vp_in i 60)
    (L1 : 60 ≤ (hI (sI h (ad 30) 11 0) (ad 30) 35) → i.toInt64 < 0 → Q (some (.int 0)) (sI h (ad 30) 11 0)) (L2 : 60 ≤ (hI (sI h (ad 30) 11 0) (ad 30) 35) → ¬ i.toInt64 < 0 → ((60 - 1).toInt64) < i.toInt64 → Q (some (.int 0)) (sI h (ad 30) 11 0)) (L3 : 60 ≤ (hI (sI h (ad 30) 11 0) (ad 30) 35) → ¬ i.toInt64 < 0 → ¬ ((60 - 1).toInt64) < i.toInt64 → Q (some (.int (hI (sI h (ad 30) 11 0) (ad 53) i.toNatClampNeg))) (sI h (ad 30) 11 0)) (L4 : ¬ 60 ≤ (hI (sI h (ad 30) 11 0) (ad 30) 35) → i.toInt64 < 0 → Q (some (.int 0)) (sI h (ad 30) 11 0)) (L5 : ¬ 60 ≤ (hI (sI h (ad 30) 11 0) (ad 30) 35) → ¬ i.toInt64 < 0 → (((hI (sI h (ad 30) 11 0) (ad 30) 35) - 1).toInt64) < i.toInt64 → Q (some (.int 0)) (sI h (ad 30) 11 0)) (L6 : ¬ 60 ≤ (hI (sI h (ad 30) 11 0) (ad 30) 35) → ¬ i.toInt64 < 0 → ¬ (((hI (sI h (ad 30) 11 0) (ad 30) 35) - 1).toInt64) < i.toInt64 → Q (some (.int (hI (sI h (ad 30) 11 0) (ad 53) i.toNatClampNeg))) (sI h (ad 30) 11 0)) : EV (d + 2) 225 [.ref (ad 30), .int i] h Q := by
  refine in_225 (Nat.le_of_ble_eq_true rfl) ?_
  show WR _ cd_225 0 [some (.ref (ad 30)), some (.int i)] [] h _
  refine r_aload rfl rfl ?_
  refine r_ic (x := 0) rfl rfl ?_
  refine r_putI rfl ⟨rfl, rfl, rfl⟩ (fx_t30 fx) ?_
  refine r_iload rfl rfl ?_
  refine r_i2l rfl ?_
  refine r_lc (x := 0) rfl rfl ?_
  refine r_aload rfl rfl ?_
  refine r_getI rfl ⟨rfl, rfl, rfl⟩ (fx_t30 fx) ?_
  refine r_ic (x := 60) rfl rfl ?_
  refine r_icmp_ge (tg := 24) rfl rfl (fun c1 => ?_) (fun c1 => ?_)
  · refine r_ic (x := 60) rfl rfl ?_
    refine r_ic (x := 1) rfl rfl ?_
    refine r_isub rfl ?_
    refine r_i2l rfl ?_
    refine r_cs (y := 155) (ra := [.long ((60 - 1).toInt64), .long 0, .long i.toInt64]) (rest := []) rfl ⟨⟨rfl, rfl⟩, by decide⟩ rfl rfl (Nat.le_of_ble_eq_true rfl) ?_
    refine in_155 (Nat.le_of_ble_eq_true rfl) ?_
    show WR _ cd_155 0 [some (.long i.toInt64), none, some (.long 0), none, some (.long ((60 - 1).toInt64)), none] [] (sI h (ad 30) 11 0) _
    refine r_lload rfl rfl ?_
    refine r_lload rfl rfl ?_
    refine r_lif_lt (tg := 17) rfl rfl rfl (fun c2 => ?_) (fun c2 => ?_)
    · refine r_ic (x := 0) rfl rfl ?_
      refine r_zret rfl (.inl rfl) ?_
      show WR _ cd_225 32 [some (.ref (ad 30)), some (.int i)] [.int 0] (sI h (ad 30) 11 0) _
      refine r_if_eq (tg := 44) rfl rfl (fun _ => ?_) (fun q => absurd q (by decide))
      refine r_ic (x := 0) rfl rfl ?_
      refine r_iret rfl ?_
      exact L1 c1 c2
    · refine r_lload rfl rfl ?_
      refine r_lload rfl rfl ?_
      refine r_lif_gt (tg := 17) rfl rfl rfl (fun c3 => ?_) (fun c3 => ?_)
      · refine r_ic (x := 0) rfl rfl ?_
        refine r_zret rfl (.inl rfl) ?_
        show WR _ cd_225 32 [some (.ref (ad 30)), some (.int i)] [.int 0] (sI h (ad 30) 11 0) _
        refine r_if_eq (tg := 44) rfl rfl (fun _ => ?_) (fun q => absurd q (by decide))
        refine r_ic (x := 0) rfl rfl ?_
        refine r_iret rfl ?_
        exact L2 c1 c2 c3
      · refine r_ic (x := 1) rfl rfl ?_
        refine r_goto (tg := 18) rfl rfl ?_
        refine r_zret rfl (.inr rfl) ?_
        show WR _ cd_225 32 [some (.ref (ad 30)), some (.int i)] [.int 1] (sI h (ad 30) 11 0) _
        refine r_if_eq (tg := 44) rfl rfl (fun q => absurd q (by decide)) (fun _ => ?_)
        refine r_aload rfl rfl ?_
        refine r_getA (b := ad 53) rfl ⟨rfl, rfl, rfl⟩ (fx_t30 fx) (fx_r30_36 fx) ?_
        refine r_iload rfl rfl ?_
        refine r_iaload rfl (.inl (fx_t53 fx)) (vp_ct (fx_n53 fx) (B1 c1 c2 c3)) ?_
        refine r_goto (tg := 45) rfl rfl ?_
        refine r_iret rfl ?_
        exact L3 c1 c2 c3
  · refine r_aload rfl rfl ?_
    refine r_getI rfl ⟨rfl, rfl, rfl⟩ (fx_t30 fx) ?_
    refine r_goto (tg := 26) rfl rfl ?_
    refine r_ic (x := 1) rfl rfl ?_
    refine r_isub rfl ?_
    refine r_i2l rfl ?_
    refine r_cs (y := 155) (ra := [.long (((hI (sI h (ad 30) 11 0) (ad 30) 35) - 1).toInt64), .long 0, .long i.toInt64]) (rest := []) rfl ⟨⟨rfl, rfl⟩, by decide⟩ rfl rfl (Nat.le_of_ble_eq_true rfl) ?_
    refine in_155 (Nat.le_of_ble_eq_true rfl) ?_
    show WR _ cd_155 0 [some (.long i.toInt64), none, some (.long 0), none, some (.long (((hI (sI h (ad 30) 11 0) (ad 30) 35) - 1).toInt64)), none] [] (sI h (ad 30) 11 0) _
    refine r_lload rfl rfl ?_
    refine r_lload rfl rfl ?_
    refine r_lif_lt (tg := 17) rfl rfl rfl (fun c4 => ?_) (fun c4 => ?_)
    · refine r_ic (x := 0) rfl rfl ?_
      refine r_zret rfl (.inl rfl) ?_
      show WR _ cd_225 32 [some (.ref (ad 30)), some (.int i)] [.int 0] (sI h (ad 30) 11 0) _
      refine r_if_eq (tg := 44) rfl rfl (fun _ => ?_) (fun q => absurd q (by decide))
      refine r_ic (x := 0) rfl rfl ?_
      refine r_iret rfl ?_
      exact L4 c1 c4
    · refine r_lload rfl rfl ?_
      refine r_lload rfl rfl ?_
      refine r_lif_gt (tg := 17) rfl rfl rfl (fun c5 => ?_) (fun c5 => ?_)
      · refine r_ic (x := 0) rfl rfl ?_
        refine r_zret rfl (.inl rfl) ?_
        show WR _ cd_225 32 [some (.ref (ad 30)), some (.int i)] [.int 0] (sI h (ad 30) 11 0) _
        refine r_if_eq (tg := 44) rfl rfl (fun _ => ?_) (fun q => absurd q (by decide))
        refine r_ic (x := 0) rfl rfl ?_
        refine r_iret rfl ?_
        exact L5 c1 c4 c5
      · refine r_ic (x := 1) rfl rfl ?_
        refine r_goto (tg := 18) rfl rfl ?_
        refine r_zret rfl (.inr rfl) ?_
        show WR _ cd_225 32 [some (.ref (ad 30)), some (.int i)] [.int 1] (sI h (ad 30) 11 0) _
        refine r_if_eq (tg := 44) rfl rfl (fun q => absurd q (by decide)) (fun _ => ?_)
        refine r_aload rfl rfl ?_
        refine r_getA (b := ad 53) rfl ⟨rfl, rfl, rfl⟩ (fx_t30 fx) (fx_r30_36 fx) ?_
        refine r_iload rfl rfl ?_
        refine r_iaload rfl (.inl (fx_t53 fx)) (vp_ct (fx_n53 fx) (B2 c1 c4 c5)) ?_
        refine r_goto (tg := 45) rfl rfl ?_
        refine r_iret rfl ?_
        exact L6 c1 c4 c5

set_option maxHeartbeats 1000000 in
theorem x_drop {d : Nat} {Q : mQ} {n : Nat} {ad sa : Nat → Nat} {z0 : Nat} {h : mH} (fx : FX n ad sa z0 h) (p : Int32) 
    
    (L1 : p < 0 → Q (some (.int (-2))) (sI (sI h (ad 0) 6 0) (ad 0) 6 (-2))) (L2 : ¬ p < 0 → 10 ≤ p → Q (some (.int (-2))) (sI (sI h (ad 0) 6 0) (ad 0) 6 (-2))) (L3 : ¬ p < 0 → ¬ 10 ≤ p → Q (some (.int (hI (sI h (ad 0) 6 0) (ad 11) p.toNatClampNeg))) (sI (sI h (ad 0) 6 0) (ad 11) p.toNatClampNeg 0)) : EV (d + 2) 97 [.ref (ad 0), .int p] h Q := by
  refine in_97 (Nat.le_of_ble_eq_true rfl) ?_
  show WR _ cd_97 0 [some (.ref (ad 0)), some (.int p), none] [] h _
  refine r_aload rfl rfl ?_
  refine r_ic (x := 0) rfl rfl ?_
  refine r_putI rfl ⟨rfl, rfl, rfl⟩ (fx_t0 fx) ?_
  refine r_iload rfl rfl ?_
  refine r_cs (y := 93) (ra := [.int p]) (rest := []) rfl ⟨⟨rfl, rfl⟩, by decide⟩ rfl rfl (Nat.le_of_ble_eq_true rfl) ?_
  refine in_93 (Nat.le_of_ble_eq_true rfl) ?_
  show WR _ cd_93 0 [some (.int p)] [] (sI h (ad 0) 6 0) _
  refine r_iload rfl rfl ?_
  refine r_if_lt (tg := 14) rfl rfl (fun c1 => ?_) (fun c1 => ?_)
  · refine r_ic (x := 0) rfl rfl ?_
    refine r_zret rfl (.inl rfl) ?_
    show WR _ cd_97 9 [some (.ref (ad 0)), some (.int p), none] [.int 0] (sI h (ad 0) 6 0) _
    refine r_if_ne (tg := 19) rfl rfl (fun q => absurd q (by decide)) (fun _ => ?_)
    refine r_aload rfl rfl ?_
    refine r_ic (x := (-2)) rfl rfl ?_
    refine r_cv (y := 13) (ra := [.int (-2)]) (rest := []) rfl ⟨⟨rfl, rfl⟩, rfl, by decide⟩ (fx_t0 fx) rfl rfl (Nat.le_of_ble_eq_true rfl) ?_
    refine in_13 (Nat.le_of_ble_eq_true rfl) ?_
    show WR _ cd_13 0 [some (.ref (ad 0)), some (.int (-2))] [] (sI h (ad 0) 6 0) _
    refine r_aload rfl rfl ?_
    refine r_iload rfl rfl ?_
    refine r_putI rfl ⟨rfl, rfl, rfl⟩ (fx_t0 fx) ?_
    refine r_iload rfl rfl ?_
    refine r_iret rfl ?_
    show WR _ cd_97 18 [some (.ref (ad 0)), some (.int p), none] [.int (-2)] (sI (sI h (ad 0) 6 0) (ad 0) 6 (-2)) _
    refine r_iret rfl ?_
    exact L1 c1
  · refine r_iload rfl rfl ?_
    refine r_ic (x := 10) rfl rfl ?_
    refine r_icmp_ge (tg := 14) rfl rfl (fun c2 => ?_) (fun c2 => ?_)
    · refine r_ic (x := 0) rfl rfl ?_
      refine r_zret rfl (.inl rfl) ?_
      show WR _ cd_97 9 [some (.ref (ad 0)), some (.int p), none] [.int 0] (sI h (ad 0) 6 0) _
      refine r_if_ne (tg := 19) rfl rfl (fun q => absurd q (by decide)) (fun _ => ?_)
      refine r_aload rfl rfl ?_
      refine r_ic (x := (-2)) rfl rfl ?_
      refine r_cv (y := 13) (ra := [.int (-2)]) (rest := []) rfl ⟨⟨rfl, rfl⟩, rfl, by decide⟩ (fx_t0 fx) rfl rfl (Nat.le_of_ble_eq_true rfl) ?_
      refine in_13 (Nat.le_of_ble_eq_true rfl) ?_
      show WR _ cd_13 0 [some (.ref (ad 0)), some (.int (-2))] [] (sI h (ad 0) 6 0) _
      refine r_aload rfl rfl ?_
      refine r_iload rfl rfl ?_
      refine r_putI rfl ⟨rfl, rfl, rfl⟩ (fx_t0 fx) ?_
      refine r_iload rfl rfl ?_
      refine r_iret rfl ?_
      show WR _ cd_97 18 [some (.ref (ad 0)), some (.int p), none] [.int (-2)] (sI (sI h (ad 0) 6 0) (ad 0) 6 (-2)) _
      refine r_iret rfl ?_
      exact L2 c1 c2
    · refine r_ic (x := 1) rfl rfl ?_
      refine r_goto (tg := 15) rfl rfl ?_
      refine r_zret rfl (.inr rfl) ?_
      show WR _ cd_97 9 [some (.ref (ad 0)), some (.int p), none] [.int 1] (sI h (ad 0) 6 0) _
      refine r_if_ne (tg := 19) rfl rfl (fun _ => ?_) (fun q => absurd q (by decide))
      refine r_aload rfl rfl ?_
      refine r_getA (b := ad 9) rfl ⟨rfl, rfl, rfl⟩ (fx_t0 fx) (fx_r0_3 fx) ?_
      refine r_getA (b := ad 11) rfl ⟨rfl, rfl, rfl⟩ (fx_t9 fx) (fx_r9_1 fx) ?_
      refine r_iload rfl rfl ?_
      refine r_iaload rfl (.inl (fx_t11 fx)) (vp_ct (fx_n11 fx) (vp_g c1 c2 (by decide))) ?_
      refine r_istore (lv' := [some (.ref (ad 0)), some (.int p), some (.int (hI (sI h (ad 0) 6 0) (ad 11) p.toNatClampNeg))]) rfl (Nat.le_of_ble_eq_true rfl) rfl ?_
      refine r_aload rfl rfl ?_
      refine r_getA (b := ad 9) rfl ⟨rfl, rfl, rfl⟩ (fx_t0 fx) (fx_r0_3 fx) ?_
      refine r_getA (b := ad 11) rfl ⟨rfl, rfl, rfl⟩ (fx_t9 fx) (fx_r9_1 fx) ?_
      refine r_iload rfl rfl ?_
      refine r_ic (x := 0) rfl rfl ?_
      refine r_iastore rfl (fx_t11 fx) (vp_ct (fx_n11 fx) (vp_g c1 c2 (by decide))) ?_
      refine r_iload rfl rfl ?_
      refine r_iret rfl ?_
      exact L3 c1 c2

set_option maxHeartbeats 1000000 in
theorem m_drop {d : Nat} {Q : mQ} {n : Nat} {ad sa : Nat → Nat} {z0 : Nat} {h : mH} (fx : FX n ad sa z0 h) (p : Int32) 
    
    (L1 : p < 0 → Q (some (.int (-2))) (sI h (ad 30) 11 (-2))) (L2 : ¬ p < 0 → 10 ≤ p → Q (some (.int (-2))) (sI h (ad 30) 11 (-2))) (L3 : ¬ p < 0 → ¬ 10 ≤ p → (-1) ≤ (hI h (ad 43) p.toNatClampNeg) → Q (some (.int (hI h (ad 43) p.toNatClampNeg))) (sI (sI h (ad 43) p.toNatClampNeg 0) (ad 30) 11 0)) (L4 : ¬ p < 0 → ¬ 10 ≤ p → ¬ (-1) ≤ (hI h (ad 43) p.toNatClampNeg) → Q (some (.int (hI h (ad 43) p.toNatClampNeg))) (sI (sI h (ad 43) p.toNatClampNeg 0) (ad 30) 11 (hI h (ad 43) p.toNatClampNeg))) : EV (d + 2) 208 [.ref (ad 30), .int p] h Q := by
  refine in_208 (Nat.le_of_ble_eq_true rfl) ?_
  show WR _ cd_208 0 [some (.ref (ad 30)), some (.int p), none] [] h _
  refine r_iload rfl rfl ?_
  refine r_cs (y := 204) (ra := [.int p]) (rest := []) rfl ⟨⟨rfl, rfl⟩, by decide⟩ rfl rfl (Nat.le_of_ble_eq_true rfl) ?_
  refine in_204 (Nat.le_of_ble_eq_true rfl) ?_
  show WR _ cd_204 0 [some (.int p)] [] h _
  refine r_iload rfl rfl ?_
  refine r_if_lt (tg := 14) rfl rfl (fun c1 => ?_) (fun c1 => ?_)
  · refine r_ic (x := 0) rfl rfl ?_
    refine r_zret rfl (.inl rfl) ?_
    show WR _ cd_208 4 [some (.ref (ad 30)), some (.int p), none] [.int 0] h _
    refine r_if_ne (tg := 14) rfl rfl (fun q => absurd q (by decide)) (fun _ => ?_)
    refine r_aload rfl rfl ?_
    refine r_ic (x := (-2)) rfl rfl ?_
    refine r_cv (y := 154) (ra := [.int (-2)]) (rest := []) rfl ⟨⟨rfl, rfl⟩, rfl, by decide⟩ (fx_t30 fx) rfl rfl (Nat.le_of_ble_eq_true rfl) ?_
    refine in_154 (Nat.le_of_ble_eq_true rfl) ?_
    show WR _ cd_154 0 [some (.ref (ad 30)), some (.int (-2))] [] h _
    refine r_aload rfl rfl ?_
    refine r_iload rfl rfl ?_
    refine r_ic (x := (-1)) rfl rfl ?_
    refine r_icmp_ge (tg := 10) rfl rfl (fun q => absurd q (by decide)) (fun _ => ?_)
    refine r_iload rfl rfl ?_
    refine r_goto (tg := 11) rfl rfl ?_
    refine r_putI rfl ⟨rfl, rfl, rfl⟩ (fx_t30 fx) ?_
    refine r_iload rfl rfl ?_
    refine r_iret rfl ?_
    show WR _ cd_208 13 [some (.ref (ad 30)), some (.int p), none] [.int (-2)] (sI h (ad 30) 11 (-2)) _
    refine r_iret rfl ?_
    exact L1 c1
  · refine r_iload rfl rfl ?_
    refine r_ic (x := 10) rfl rfl ?_
    refine r_icmp_ge (tg := 14) rfl rfl (fun c2 => ?_) (fun c2 => ?_)
    · refine r_ic (x := 0) rfl rfl ?_
      refine r_zret rfl (.inl rfl) ?_
      show WR _ cd_208 4 [some (.ref (ad 30)), some (.int p), none] [.int 0] h _
      refine r_if_ne (tg := 14) rfl rfl (fun q => absurd q (by decide)) (fun _ => ?_)
      refine r_aload rfl rfl ?_
      refine r_ic (x := (-2)) rfl rfl ?_
      refine r_cv (y := 154) (ra := [.int (-2)]) (rest := []) rfl ⟨⟨rfl, rfl⟩, rfl, by decide⟩ (fx_t30 fx) rfl rfl (Nat.le_of_ble_eq_true rfl) ?_
      refine in_154 (Nat.le_of_ble_eq_true rfl) ?_
      show WR _ cd_154 0 [some (.ref (ad 30)), some (.int (-2))] [] h _
      refine r_aload rfl rfl ?_
      refine r_iload rfl rfl ?_
      refine r_ic (x := (-1)) rfl rfl ?_
      refine r_icmp_ge (tg := 10) rfl rfl (fun q => absurd q (by decide)) (fun _ => ?_)
      refine r_iload rfl rfl ?_
      refine r_goto (tg := 11) rfl rfl ?_
      refine r_putI rfl ⟨rfl, rfl, rfl⟩ (fx_t30 fx) ?_
      refine r_iload rfl rfl ?_
      refine r_iret rfl ?_
      show WR _ cd_208 13 [some (.ref (ad 30)), some (.int p), none] [.int (-2)] (sI h (ad 30) 11 (-2)) _
      refine r_iret rfl ?_
      exact L2 c1 c2
    · refine r_ic (x := 1) rfl rfl ?_
      refine r_goto (tg := 15) rfl rfl ?_
      refine r_zret rfl (.inr rfl) ?_
      show WR _ cd_208 4 [some (.ref (ad 30)), some (.int p), none] [.int 1] h _
      refine r_if_ne (tg := 14) rfl rfl (fun _ => ?_) (fun q => absurd q (by decide))
      refine r_aload rfl rfl ?_
      refine r_getA (b := ad 43) rfl ⟨rfl, rfl, rfl⟩ (fx_t30 fx) (fx_r30_18 fx) ?_
      refine r_iload rfl rfl ?_
      refine r_iaload rfl (.inl (fx_t43 fx)) (vp_ct (fx_n43 fx) (vp_g c1 c2 (by decide))) ?_
      refine r_istore (lv' := [some (.ref (ad 30)), some (.int p), some (.int (hI h (ad 43) p.toNatClampNeg))]) rfl (Nat.le_of_ble_eq_true rfl) rfl ?_
      refine r_aload rfl rfl ?_
      refine r_getA (b := ad 43) rfl ⟨rfl, rfl, rfl⟩ (fx_t30 fx) (fx_r30_18 fx) ?_
      refine r_iload rfl rfl ?_
      refine r_ic (x := 0) rfl rfl ?_
      refine r_iastore rfl (fx_t43 fx) (vp_ct (fx_n43 fx) (vp_g c1 c2 (by decide))) ?_
      refine r_aload rfl rfl ?_
      refine r_iload rfl rfl ?_
      refine r_cv (y := 154) (ra := [.int (hI h (ad 43) p.toNatClampNeg)]) (rest := []) rfl ⟨⟨rfl, rfl⟩, rfl, by decide⟩ (fx_t30 fx) rfl rfl (Nat.le_of_ble_eq_true rfl) ?_
      refine in_154 (Nat.le_of_ble_eq_true rfl) ?_
      show WR _ cd_154 0 [some (.ref (ad 30)), some (.int (hI h (ad 43) p.toNatClampNeg))] [] (sI h (ad 43) p.toNatClampNeg 0) _
      refine r_aload rfl rfl ?_
      refine r_iload rfl rfl ?_
      refine r_ic (x := (-1)) rfl rfl ?_
      refine r_icmp_ge (tg := 10) rfl rfl (fun c3 => ?_) (fun c3 => ?_)
      · refine r_ic (x := 0) rfl rfl ?_
        refine r_putI rfl ⟨rfl, rfl, rfl⟩ (fx_t30 fx) ?_
        refine r_iload rfl rfl ?_
        refine r_iret rfl ?_
        show WR _ cd_208 33 [some (.ref (ad 30)), some (.int p), some (.int (hI h (ad 43) p.toNatClampNeg))] [.int (hI h (ad 43) p.toNatClampNeg)] (sI (sI h (ad 43) p.toNatClampNeg 0) (ad 30) 11 0) _
        refine r_iret rfl ?_
        exact L3 c1 c2 c3
      · refine r_iload rfl rfl ?_
        refine r_goto (tg := 11) rfl rfl ?_
        refine r_putI rfl ⟨rfl, rfl, rfl⟩ (fx_t30 fx) ?_
        refine r_iload rfl rfl ?_
        refine r_iret rfl ?_
        show WR _ cd_208 33 [some (.ref (ad 30)), some (.int p), some (.int (hI h (ad 43) p.toNatClampNeg))] [.int (hI h (ad 43) p.toNatClampNeg)] (sI (sI h (ad 43) p.toNatClampNeg 0) (ad 30) 11 (hI h (ad 43) p.toNatClampNeg)) _
        refine r_iret rfl ?_
        exact L4 c1 c2 c3

set_option maxHeartbeats 1000000 in
theorem x_wind {d : Nat} {Q : mQ} {n : Nat} {ad sa : Nat → Nat} {z0 : Nat} {h : mH} (fx : FX n ad sa z0 h) (v : Int32) (b : Int32) 
    (B1 : ¬ v < 0 → v ≤ 7 → b = 0 ∨ b = 1)
    (L1 : v < 0 → Q (some (.int (-3))) (sI (sI h (ad 0) 6 0) (ad 0) 6 (-3))) (L2 : ¬ v < 0 → v ≤ 7 → Q (some (.int 1)) (sI (sI (sI h (ad 0) 6 0) (ad 4) 4 v) (ad 4) 5 b)) (L3 : ¬ v < 0 → ¬ v ≤ 7 → Q (some (.int (-3))) (sI (sI h (ad 0) 6 0) (ad 0) 6 (-3))) : EV (d + 2) 123 [.ref (ad 0), .int v, .int b] h Q := by
  refine in_123 (Nat.le_of_ble_eq_true rfl) ?_
  show WR _ cd_123 0 [some (.ref (ad 0)), some (.int v), some (.int b)] [] h _
  refine r_aload rfl rfl ?_
  refine r_ic (x := 0) rfl rfl ?_
  refine r_putI rfl ⟨rfl, rfl, rfl⟩ (fx_t0 fx) ?_
  refine r_iload rfl rfl ?_
  refine r_if_lt (tg := 15) rfl rfl (fun c1 => ?_) (fun c1 => ?_)
  · refine r_aload rfl rfl ?_
    refine r_ic (x := (-3)) rfl rfl ?_
    refine r_cv (y := 13) (ra := [.int (-3)]) (rest := []) rfl ⟨⟨rfl, rfl⟩, rfl, by decide⟩ (fx_t0 fx) rfl rfl (Nat.le_of_ble_eq_true rfl) ?_
    refine in_13 (Nat.le_of_ble_eq_true rfl) ?_
    show WR _ cd_13 0 [some (.ref (ad 0)), some (.int (-3))] [] (sI h (ad 0) 6 0) _
    refine r_aload rfl rfl ?_
    refine r_iload rfl rfl ?_
    refine r_putI rfl ⟨rfl, rfl, rfl⟩ (fx_t0 fx) ?_
    refine r_iload rfl rfl ?_
    refine r_iret rfl ?_
    show WR _ cd_123 21 [some (.ref (ad 0)), some (.int v), some (.int b)] [.int (-3)] (sI (sI h (ad 0) 6 0) (ad 0) 6 (-3)) _
    refine r_iret rfl ?_
    exact L1 c1
  · refine r_iload rfl rfl ?_
    refine r_ic (x := 7) rfl rfl ?_
    refine r_icmp_le (tg := 22) rfl rfl (fun c2 => ?_) (fun c2 => ?_)
    · refine r_aload rfl rfl ?_
      refine r_getA (b := ad 4) rfl ⟨rfl, rfl, rfl⟩ (fx_t0 fx) (fx_r0_2 fx) ?_
      refine r_iload rfl rfl ?_
      refine r_putI rfl ⟨rfl, rfl, rfl⟩ (fx_t4 fx) ?_
      refine r_aload rfl rfl ?_
      refine r_getA (b := ad 4) rfl ⟨rfl, rfl, rfl⟩ (fx_t0 fx) (fx_r0_2 fx) ?_
      refine r_iload rfl rfl ?_
      refine r_putZ rfl ⟨rfl, rfl, rfl⟩ (fx_t4 fx) (B1 c1 c2) ?_
      refine r_ic (x := 1) rfl rfl ?_
      refine r_iret rfl ?_
      exact L2 c1 c2
    · refine r_aload rfl rfl ?_
      refine r_ic (x := (-3)) rfl rfl ?_
      refine r_cv (y := 13) (ra := [.int (-3)]) (rest := []) rfl ⟨⟨rfl, rfl⟩, rfl, by decide⟩ (fx_t0 fx) rfl rfl (Nat.le_of_ble_eq_true rfl) ?_
      refine in_13 (Nat.le_of_ble_eq_true rfl) ?_
      show WR _ cd_13 0 [some (.ref (ad 0)), some (.int (-3))] [] (sI h (ad 0) 6 0) _
      refine r_aload rfl rfl ?_
      refine r_iload rfl rfl ?_
      refine r_putI rfl ⟨rfl, rfl, rfl⟩ (fx_t0 fx) ?_
      refine r_iload rfl rfl ?_
      refine r_iret rfl ?_
      show WR _ cd_123 21 [some (.ref (ad 0)), some (.int v), some (.int b)] [.int (-3)] (sI (sI h (ad 0) 6 0) (ad 0) 6 (-3)) _
      refine r_iret rfl ?_
      exact L3 c1 c2

set_option maxHeartbeats 1000000 in
theorem m_wind {d : Nat} {Q : mQ} {n : Nat} {ad sa : Nat → Nat} {z0 : Nat} {h : mH} (fx : FX n ad sa z0 h) (v : Int32) (b : Int32) 
    (B1 : ¬ v.toInt64 < 0 → ¬ 7 < v.toInt64 → b = 0 ∨ b = 1)
    (L1 : v.toInt64 < 0 → Q (some (.int (-3))) (sI h (ad 30) 11 (-3))) (L2 : ¬ v.toInt64 < 0 → 7 < v.toInt64 → Q (some (.int (-3))) (sI h (ad 30) 11 (-3))) (L3 : ¬ v.toInt64 < 0 → ¬ 7 < v.toInt64 → Q (some (.int 1)) (sI (sI (sI h (ad 30) 61 v) (ad 30) 62 b) (ad 30) 11 0)) : EV (d + 2) 228 [.ref (ad 30), .int v, .int b] h Q := by
  refine in_228 (Nat.le_of_ble_eq_true rfl) ?_
  show WR _ cd_228 0 [some (.ref (ad 30)), some (.int v), some (.int b)] [] h _
  refine r_iload rfl rfl ?_
  refine r_i2l rfl ?_
  refine r_lc (x := 0) rfl rfl ?_
  refine r_ldc (x := .long 7) rfl rfl ?_
  refine r_cs (y := 155) (ra := [.long 7, .long 0, .long v.toInt64]) (rest := []) rfl ⟨⟨rfl, rfl⟩, by decide⟩ rfl rfl (Nat.le_of_ble_eq_true rfl) ?_
  refine in_155 (Nat.le_of_ble_eq_true rfl) ?_
  show WR _ cd_155 0 [some (.long v.toInt64), none, some (.long 0), none, some (.long 7), none] [] h _
  refine r_lload rfl rfl ?_
  refine r_lload rfl rfl ?_
  refine r_lif_lt (tg := 17) rfl rfl rfl (fun c1 => ?_) (fun c1 => ?_)
  · refine r_ic (x := 0) rfl rfl ?_
    refine r_zret rfl (.inl rfl) ?_
    show WR _ cd_228 9 [some (.ref (ad 30)), some (.int v), some (.int b)] [.int 0] h _
    refine r_if_ne (tg := 19) rfl rfl (fun q => absurd q (by decide)) (fun _ => ?_)
    refine r_aload rfl rfl ?_
    refine r_ic (x := (-3)) rfl rfl ?_
    refine r_cv (y := 154) (ra := [.int (-3)]) (rest := []) rfl ⟨⟨rfl, rfl⟩, rfl, by decide⟩ (fx_t30 fx) rfl rfl (Nat.le_of_ble_eq_true rfl) ?_
    refine in_154 (Nat.le_of_ble_eq_true rfl) ?_
    show WR _ cd_154 0 [some (.ref (ad 30)), some (.int (-3))] [] h _
    refine r_aload rfl rfl ?_
    refine r_iload rfl rfl ?_
    refine r_ic (x := (-1)) rfl rfl ?_
    refine r_icmp_ge (tg := 10) rfl rfl (fun q => absurd q (by decide)) (fun _ => ?_)
    refine r_iload rfl rfl ?_
    refine r_goto (tg := 11) rfl rfl ?_
    refine r_putI rfl ⟨rfl, rfl, rfl⟩ (fx_t30 fx) ?_
    refine r_iload rfl rfl ?_
    refine r_iret rfl ?_
    show WR _ cd_228 18 [some (.ref (ad 30)), some (.int v), some (.int b)] [.int (-3)] (sI h (ad 30) 11 (-3)) _
    refine r_iret rfl ?_
    exact L1 c1
  · refine r_lload rfl rfl ?_
    refine r_lload rfl rfl ?_
    refine r_lif_gt (tg := 17) rfl rfl rfl (fun c2 => ?_) (fun c2 => ?_)
    · refine r_ic (x := 0) rfl rfl ?_
      refine r_zret rfl (.inl rfl) ?_
      show WR _ cd_228 9 [some (.ref (ad 30)), some (.int v), some (.int b)] [.int 0] h _
      refine r_if_ne (tg := 19) rfl rfl (fun q => absurd q (by decide)) (fun _ => ?_)
      refine r_aload rfl rfl ?_
      refine r_ic (x := (-3)) rfl rfl ?_
      refine r_cv (y := 154) (ra := [.int (-3)]) (rest := []) rfl ⟨⟨rfl, rfl⟩, rfl, by decide⟩ (fx_t30 fx) rfl rfl (Nat.le_of_ble_eq_true rfl) ?_
      refine in_154 (Nat.le_of_ble_eq_true rfl) ?_
      show WR _ cd_154 0 [some (.ref (ad 30)), some (.int (-3))] [] h _
      refine r_aload rfl rfl ?_
      refine r_iload rfl rfl ?_
      refine r_ic (x := (-1)) rfl rfl ?_
      refine r_icmp_ge (tg := 10) rfl rfl (fun q => absurd q (by decide)) (fun _ => ?_)
      refine r_iload rfl rfl ?_
      refine r_goto (tg := 11) rfl rfl ?_
      refine r_putI rfl ⟨rfl, rfl, rfl⟩ (fx_t30 fx) ?_
      refine r_iload rfl rfl ?_
      refine r_iret rfl ?_
      show WR _ cd_228 18 [some (.ref (ad 30)), some (.int v), some (.int b)] [.int (-3)] (sI h (ad 30) 11 (-3)) _
      refine r_iret rfl ?_
      exact L2 c1 c2
    · refine r_ic (x := 1) rfl rfl ?_
      refine r_goto (tg := 18) rfl rfl ?_
      refine r_zret rfl (.inr rfl) ?_
      show WR _ cd_228 9 [some (.ref (ad 30)), some (.int v), some (.int b)] [.int 1] h _
      refine r_if_ne (tg := 19) rfl rfl (fun _ => ?_) (fun q => absurd q (by decide))
      refine r_aload rfl rfl ?_
      refine r_iload rfl rfl ?_
      refine r_putI rfl ⟨rfl, rfl, rfl⟩ (fx_t30 fx) ?_
      refine r_aload rfl rfl ?_
      refine r_iload rfl rfl ?_
      refine r_putZ rfl ⟨rfl, rfl, rfl⟩ (fx_t30 fx) (B1 c1 c2) ?_
      refine r_aload rfl rfl ?_
      refine r_ic (x := 1) rfl rfl ?_
      refine r_cv (y := 154) (ra := [.int 1]) (rest := []) rfl ⟨⟨rfl, rfl⟩, rfl, by decide⟩ (fx_t30 fx) rfl rfl (Nat.le_of_ble_eq_true rfl) ?_
      refine in_154 (Nat.le_of_ble_eq_true rfl) ?_
      show WR _ cd_154 0 [some (.ref (ad 30)), some (.int 1)] [] (sI (sI h (ad 30) 61 v) (ad 30) 62 b) _
      refine r_aload rfl rfl ?_
      refine r_iload rfl rfl ?_
      refine r_ic (x := (-1)) rfl rfl ?_
      refine r_icmp_ge (tg := 10) rfl rfl (fun _ => ?_) (fun q => absurd q (by decide))
      refine r_ic (x := 0) rfl rfl ?_
      refine r_putI rfl ⟨rfl, rfl, rfl⟩ (fx_t30 fx) ?_
      refine r_iload rfl rfl ?_
      refine r_iret rfl ?_
      show WR _ cd_228 34 [some (.ref (ad 30)), some (.int v), some (.int b)] [.int 1] (sI (sI (sI h (ad 30) 61 v) (ad 30) 62 b) (ad 30) 11 0) _
      refine r_iret rfl ?_
      exact L3 c1 c2

set_option maxHeartbeats 1000000 in
theorem x_finding {d : Nat} {Q : mQ} {n : Nat} {ad sa : Nat → Nat} {z0 : Nat} {h : mH} (fx : FX n ad sa z0 h) (i : Int32) (w : Int32) 
    (B1 : ¬ w < 0 → w ≤ 3 → ¬ i < 0 → ¬ (hI (sI h (ad 0) 6 0) (ad 4) 2) ≤ i → vp_in ((i * 4) + w) 160)
    (L1 : w < 0 → Q (some (.int (-3))) (sI (sI h (ad 0) 6 0) (ad 0) 6 (-3))) (L2 : ¬ w < 0 → w ≤ 3 → i < 0 → Q (some (.int (-1))) (sI h (ad 0) 6 0)) (L3 : ¬ w < 0 → w ≤ 3 → ¬ i < 0 → (hI (sI h (ad 0) 6 0) (ad 4) 2) ≤ i → Q (some (.int (-1))) (sI h (ad 0) 6 0)) (L4 : ¬ w < 0 → w ≤ 3 → ¬ i < 0 → ¬ (hI (sI h (ad 0) 6 0) (ad 4) 2) ≤ i → Q (some (.int (hI (sI h (ad 0) 6 0) (ad 5) ((i * 4) + w).toNatClampNeg))) (sI h (ad 0) 6 0)) (L5 : ¬ w < 0 → ¬ w ≤ 3 → Q (some (.int (-3))) (sI (sI h (ad 0) 6 0) (ad 0) 6 (-3))) : EV (d + 2) 145 [.ref (ad 0), .int i, .int w] h Q := by
  refine in_145 (Nat.le_of_ble_eq_true rfl) ?_
  show WR _ cd_145 0 [some (.ref (ad 0)), some (.int i), some (.int w)] [] h _
  refine r_aload rfl rfl ?_
  refine r_ic (x := 0) rfl rfl ?_
  refine r_putI rfl ⟨rfl, rfl, rfl⟩ (fx_t0 fx) ?_
  refine r_iload rfl rfl ?_
  refine r_if_lt (tg := 14) rfl rfl (fun c1 => ?_) (fun c1 => ?_)
  · refine r_aload rfl rfl ?_
    refine r_ic (x := (-3)) rfl rfl ?_
    refine r_cv (y := 13) (ra := [.int (-3)]) (rest := []) rfl ⟨⟨rfl, rfl⟩, rfl, by decide⟩ (fx_t0 fx) rfl rfl (Nat.le_of_ble_eq_true rfl) ?_
    refine in_13 (Nat.le_of_ble_eq_true rfl) ?_
    show WR _ cd_13 0 [some (.ref (ad 0)), some (.int (-3))] [] (sI h (ad 0) 6 0) _
    refine r_aload rfl rfl ?_
    refine r_iload rfl rfl ?_
    refine r_putI rfl ⟨rfl, rfl, rfl⟩ (fx_t0 fx) ?_
    refine r_iload rfl rfl ?_
    refine r_iret rfl ?_
    show WR _ cd_145 20 [some (.ref (ad 0)), some (.int i), some (.int w)] [.int (-3)] (sI (sI h (ad 0) 6 0) (ad 0) 6 (-3)) _
    refine r_iret rfl ?_
    exact L1 c1
  · refine r_iload rfl rfl ?_
    refine r_ic (x := 3) rfl rfl ?_
    refine r_icmp_le (tg := 21) rfl rfl (fun c2 => ?_) (fun c2 => ?_)
    · refine r_iload rfl rfl ?_
      refine r_if_lt (tg := 52) rfl rfl (fun c3 => ?_) (fun c3 => ?_)
      · refine r_ic (x := (-1)) rfl rfl ?_
        refine r_iret rfl ?_
        exact L2 c1 c2 c3
      · refine r_iload rfl rfl ?_
        refine r_aload rfl rfl ?_
        refine r_getA (b := ad 4) rfl ⟨rfl, rfl, rfl⟩ (fx_t0 fx) (fx_r0_2 fx) ?_
        refine r_getI rfl ⟨rfl, rfl, rfl⟩ (fx_t4 fx) ?_
        refine r_icmp_ge (tg := 52) rfl rfl (fun c4 => ?_) (fun c4 => ?_)
        · refine r_ic (x := (-1)) rfl rfl ?_
          refine r_iret rfl ?_
          exact L3 c1 c2 c3 c4
        · refine r_aload rfl rfl ?_
          refine r_getA (b := ad 4) rfl ⟨rfl, rfl, rfl⟩ (fx_t0 fx) (fx_r0_2 fx) ?_
          refine r_getA (b := ad 5) rfl ⟨rfl, rfl, rfl⟩ (fx_t4 fx) (fx_r4_1 fx) ?_
          refine r_iload rfl rfl ?_
          refine r_ic (x := 4) rfl rfl ?_
          refine r_imul rfl ?_
          refine r_iload rfl rfl ?_
          refine r_iadd rfl ?_
          refine r_iaload rfl (.inl (fx_t5 fx)) (vp_ct (fx_n5 fx) (B1 c1 c2 c3 c4)) ?_
          refine r_goto (tg := 53) rfl rfl ?_
          refine r_iret rfl ?_
          exact L4 c1 c2 c3 c4
    · refine r_aload rfl rfl ?_
      refine r_ic (x := (-3)) rfl rfl ?_
      refine r_cv (y := 13) (ra := [.int (-3)]) (rest := []) rfl ⟨⟨rfl, rfl⟩, rfl, by decide⟩ (fx_t0 fx) rfl rfl (Nat.le_of_ble_eq_true rfl) ?_
      refine in_13 (Nat.le_of_ble_eq_true rfl) ?_
      show WR _ cd_13 0 [some (.ref (ad 0)), some (.int (-3))] [] (sI h (ad 0) 6 0) _
      refine r_aload rfl rfl ?_
      refine r_iload rfl rfl ?_
      refine r_putI rfl ⟨rfl, rfl, rfl⟩ (fx_t0 fx) ?_
      refine r_iload rfl rfl ?_
      refine r_iret rfl ?_
      show WR _ cd_145 20 [some (.ref (ad 0)), some (.int i), some (.int w)] [.int (-3)] (sI (sI h (ad 0) 6 0) (ad 0) 6 (-3)) _
      refine r_iret rfl ?_
      exact L5 c1 c2

set_option maxHeartbeats 1000000 in
theorem m_finding {d : Nat} {Q : mQ} {n : Nat} {ad sa : Nat → Nat} {z0 : Nat} {h : mH} (fx : FX n ad sa z0 h) (i : Int32) (w : Int32) 
    (B1 : ¬ w.toInt64 < 0 → ¬ 3 < w.toInt64 → ¬ i.toInt64 < 0 → ¬ (((hI (sI h (ad 30) 11 0) (ad 30) 64) - 1).toInt64) < i.toInt64 → vp_in ((4 * i) + w) 160)
    (L1 : w.toInt64 < 0 → Q (some (.int (-3))) (sI h (ad 30) 11 (-3))) (L2 : ¬ w.toInt64 < 0 → 3 < w.toInt64 → Q (some (.int (-3))) (sI h (ad 30) 11 (-3))) (L3 : ¬ w.toInt64 < 0 → ¬ 3 < w.toInt64 → i.toInt64 < 0 → Q (some (.int (-1))) (sI h (ad 30) 11 0)) (L4 : ¬ w.toInt64 < 0 → ¬ 3 < w.toInt64 → ¬ i.toInt64 < 0 → (((hI (sI h (ad 30) 11 0) (ad 30) 64) - 1).toInt64) < i.toInt64 → Q (some (.int (-1))) (sI h (ad 30) 11 0)) (L5 : ¬ w.toInt64 < 0 → ¬ 3 < w.toInt64 → ¬ i.toInt64 < 0 → ¬ (((hI (sI h (ad 30) 11 0) (ad 30) 64) - 1).toInt64) < i.toInt64 → Q (some (.int (hI (sI h (ad 30) 11 0) (ad 74) ((4 * i) + w).toNatClampNeg))) (sI h (ad 30) 11 0)) : EV (d + 2) 247 [.ref (ad 30), .int i, .int w] h Q := by
  refine in_247 (Nat.le_of_ble_eq_true rfl) ?_
  show WR _ cd_247 0 [some (.ref (ad 30)), some (.int i), some (.int w)] [] h _
  refine r_iload rfl rfl ?_
  refine r_i2l rfl ?_
  refine r_lc (x := 0) rfl rfl ?_
  refine r_ldc (x := .long 3) rfl rfl ?_
  refine r_cs (y := 155) (ra := [.long 3, .long 0, .long w.toInt64]) (rest := []) rfl ⟨⟨rfl, rfl⟩, by decide⟩ rfl rfl (Nat.le_of_ble_eq_true rfl) ?_
  refine in_155 (Nat.le_of_ble_eq_true rfl) ?_
  show WR _ cd_155 0 [some (.long w.toInt64), none, some (.long 0), none, some (.long 3), none] [] h _
  refine r_lload rfl rfl ?_
  refine r_lload rfl rfl ?_
  refine r_lif_lt (tg := 17) rfl rfl rfl (fun c1 => ?_) (fun c1 => ?_)
  · refine r_ic (x := 0) rfl rfl ?_
    refine r_zret rfl (.inl rfl) ?_
    show WR _ cd_247 9 [some (.ref (ad 30)), some (.int i), some (.int w)] [.int 0] h _
    refine r_if_ne (tg := 19) rfl rfl (fun q => absurd q (by decide)) (fun _ => ?_)
    refine r_aload rfl rfl ?_
    refine r_ic (x := (-3)) rfl rfl ?_
    refine r_cv (y := 154) (ra := [.int (-3)]) (rest := []) rfl ⟨⟨rfl, rfl⟩, rfl, by decide⟩ (fx_t30 fx) rfl rfl (Nat.le_of_ble_eq_true rfl) ?_
    refine in_154 (Nat.le_of_ble_eq_true rfl) ?_
    show WR _ cd_154 0 [some (.ref (ad 30)), some (.int (-3))] [] h _
    refine r_aload rfl rfl ?_
    refine r_iload rfl rfl ?_
    refine r_ic (x := (-1)) rfl rfl ?_
    refine r_icmp_ge (tg := 10) rfl rfl (fun q => absurd q (by decide)) (fun _ => ?_)
    refine r_iload rfl rfl ?_
    refine r_goto (tg := 11) rfl rfl ?_
    refine r_putI rfl ⟨rfl, rfl, rfl⟩ (fx_t30 fx) ?_
    refine r_iload rfl rfl ?_
    refine r_iret rfl ?_
    show WR _ cd_247 18 [some (.ref (ad 30)), some (.int i), some (.int w)] [.int (-3)] (sI h (ad 30) 11 (-3)) _
    refine r_iret rfl ?_
    exact L1 c1
  · refine r_lload rfl rfl ?_
    refine r_lload rfl rfl ?_
    refine r_lif_gt (tg := 17) rfl rfl rfl (fun c2 => ?_) (fun c2 => ?_)
    · refine r_ic (x := 0) rfl rfl ?_
      refine r_zret rfl (.inl rfl) ?_
      show WR _ cd_247 9 [some (.ref (ad 30)), some (.int i), some (.int w)] [.int 0] h _
      refine r_if_ne (tg := 19) rfl rfl (fun q => absurd q (by decide)) (fun _ => ?_)
      refine r_aload rfl rfl ?_
      refine r_ic (x := (-3)) rfl rfl ?_
      refine r_cv (y := 154) (ra := [.int (-3)]) (rest := []) rfl ⟨⟨rfl, rfl⟩, rfl, by decide⟩ (fx_t30 fx) rfl rfl (Nat.le_of_ble_eq_true rfl) ?_
      refine in_154 (Nat.le_of_ble_eq_true rfl) ?_
      show WR _ cd_154 0 [some (.ref (ad 30)), some (.int (-3))] [] h _
      refine r_aload rfl rfl ?_
      refine r_iload rfl rfl ?_
      refine r_ic (x := (-1)) rfl rfl ?_
      refine r_icmp_ge (tg := 10) rfl rfl (fun q => absurd q (by decide)) (fun _ => ?_)
      refine r_iload rfl rfl ?_
      refine r_goto (tg := 11) rfl rfl ?_
      refine r_putI rfl ⟨rfl, rfl, rfl⟩ (fx_t30 fx) ?_
      refine r_iload rfl rfl ?_
      refine r_iret rfl ?_
      show WR _ cd_247 18 [some (.ref (ad 30)), some (.int i), some (.int w)] [.int (-3)] (sI h (ad 30) 11 (-3)) _
      refine r_iret rfl ?_
      exact L2 c1 c2
    · refine r_ic (x := 1) rfl rfl ?_
      refine r_goto (tg := 18) rfl rfl ?_
      refine r_zret rfl (.inr rfl) ?_
      show WR _ cd_247 9 [some (.ref (ad 30)), some (.int i), some (.int w)] [.int 1] h _
      refine r_if_ne (tg := 19) rfl rfl (fun _ => ?_) (fun q => absurd q (by decide))
      refine r_aload rfl rfl ?_
      refine r_ic (x := 0) rfl rfl ?_
      refine r_putI rfl ⟨rfl, rfl, rfl⟩ (fx_t30 fx) ?_
      refine r_iload rfl rfl ?_
      refine r_i2l rfl ?_
      refine r_lc (x := 0) rfl rfl ?_
      refine r_aload rfl rfl ?_
      refine r_getI rfl ⟨rfl, rfl, rfl⟩ (fx_t30 fx) ?_
      refine r_ic (x := 1) rfl rfl ?_
      refine r_isub rfl ?_
      refine r_i2l rfl ?_
      refine r_cs (y := 155) (ra := [.long (((hI (sI h (ad 30) 11 0) (ad 30) 64) - 1).toInt64), .long 0, .long i.toInt64]) (rest := []) rfl ⟨⟨rfl, rfl⟩, by decide⟩ rfl rfl (Nat.le_of_ble_eq_true rfl) ?_
      refine in_155 (Nat.le_of_ble_eq_true rfl) ?_
      show WR _ cd_155 0 [some (.long i.toInt64), none, some (.long 0), none, some (.long (((hI (sI h (ad 30) 11 0) (ad 30) 64) - 1).toInt64)), none] [] (sI h (ad 30) 11 0) _
      refine r_lload rfl rfl ?_
      refine r_lload rfl rfl ?_
      refine r_lif_lt (tg := 17) rfl rfl rfl (fun c3 => ?_) (fun c3 => ?_)
      · refine r_ic (x := 0) rfl rfl ?_
        refine r_zret rfl (.inl rfl) ?_
        show WR _ cd_247 37 [some (.ref (ad 30)), some (.int i), some (.int w)] [.int 0] (sI h (ad 30) 11 0) _
        refine r_if_eq (tg := 53) rfl rfl (fun _ => ?_) (fun q => absurd q (by decide))
        refine r_ic (x := (-1)) rfl rfl ?_
        refine r_iret rfl ?_
        exact L3 c1 c2 c3
      · refine r_lload rfl rfl ?_
        refine r_lload rfl rfl ?_
        refine r_lif_gt (tg := 17) rfl rfl rfl (fun c4 => ?_) (fun c4 => ?_)
        · refine r_ic (x := 0) rfl rfl ?_
          refine r_zret rfl (.inl rfl) ?_
          show WR _ cd_247 37 [some (.ref (ad 30)), some (.int i), some (.int w)] [.int 0] (sI h (ad 30) 11 0) _
          refine r_if_eq (tg := 53) rfl rfl (fun _ => ?_) (fun q => absurd q (by decide))
          refine r_ic (x := (-1)) rfl rfl ?_
          refine r_iret rfl ?_
          exact L4 c1 c2 c3 c4
        · refine r_ic (x := 1) rfl rfl ?_
          refine r_goto (tg := 18) rfl rfl ?_
          refine r_zret rfl (.inr rfl) ?_
          show WR _ cd_247 37 [some (.ref (ad 30)), some (.int i), some (.int w)] [.int 1] (sI h (ad 30) 11 0) _
          refine r_if_eq (tg := 53) rfl rfl (fun q => absurd q (by decide)) (fun _ => ?_)
          refine r_aload rfl rfl ?_
          refine r_getA (b := ad 74) rfl ⟨rfl, rfl, rfl⟩ (fx_t30 fx) (fx_r30_66 fx) ?_
          refine r_ic (x := 4) rfl rfl ?_
          refine r_iload rfl rfl ?_
          refine r_imul rfl ?_
          refine r_iload rfl rfl ?_
          refine r_iadd rfl ?_
          refine r_iaload rfl (.inl (fx_t74 fx)) (vp_ct (fx_n74 fx) (B1 c1 c2 c3 c4)) ?_
          refine r_goto (tg := 54) rfl rfl ?_
          refine r_iret rfl ?_
          exact L5 c1 c2 c3 c4

/-! ===== walks of run: the order; printed ===== -/
set_option maxHeartbeats 2000000 in
theorem w_ar0 {d : Nat} {Q : mQ} {n : Nat} {ad sa : Nat → Nat} {z0 : Nat} {h : mH} (fx : FX n ad sa z0 h) 
    (K1 : WR (d) cd_127 2 [some (.ref (ad 4)), some (.int 0), none, none] [] h Q) : EV (d + 1) 127 [.ref (ad 4)] h Q := by
  have fx0 := fx
  refine in_127 (Nat.le_of_ble_eq_true rfl) ?_
  show WR _ cd_127 0 [some (.ref (ad 4)), none, none, none] [] h _
  refine r_ic (x := 0) rfl rfl ?_
  refine r_istore (lv' := [some (.ref (ad 4)), some (.int 0), none, none]) rfl (Nat.le_of_ble_eq_true rfl) rfl ?_
  exact (K1)

set_option maxHeartbeats 2000000 in
theorem w_are {d : Nat} {Q : mQ} {n : Nat} {ad sa : Nat → Nat} {z0 : Nat} {h : mH} (fx : FX n ad sa z0 h) {t : Nat} (tn : t = n) (n6 : n ≤ 6) {o2 o3 : Option Value} 
    (L1 : Q none h) : WR (d) cd_127 2 [some (.ref (ad 4)), some (.int (nI t)), o2, o3] [] h Q := by
  have fx0 := fx
  refine r_iload rfl rfl ?_
  refine r_aload rfl rfl ?_
  refine r_getA (b := ad 7) rfl ⟨rfl, rfl, rfl⟩ (fx_t4 fx) (fx_r4_0 fx) ?_
  refine r_alen rfl (isA_of (fx_t7 fx) (by decide)) ?_
  refine WR_tI (y := nI n) (congrArg nI (fx_n7 fx)) ?_
  refine r_icmp_ge (tg := 137) rfl rfl (fun _ => ?_) (fun q => False.elim (by have : (nI t).toInt = ((t : Nat) : Int) := nI_toInt (by omega); have : (nI n).toInt = ((n : Nat) : Int) := nI_toInt (by omega); have := i_nle q; omega))
  refine r_vret rfl ?_
  exact (L1)

set_option maxHeartbeats 2000000 in
theorem w_ar1 {d : Nat} {Q : mQ} {n : Nat} {ad sa : Nat → Nat} {z0 : Nat} {h : mH} (fx : FX n ad sa z0 h) {t : Nat} (ha : t < n) (tu1 : hR h (ad 7) t = some (ad (100 + 5 * t))) (tu2 : hT h (ad (100 + 5 * t)) = 8) {w : Nat} (w8 : w < 8) (n6 : n ≤ 6) (ew : hI h (ad 4) 4 = nI w) {a b : Int32} (ea : hI h (sa 2) w = a) (eb : hI h (sa 3) w = b) {o2 o3 : Option Value} {x y : Int32} (ex : hI h (ad (100 + 5 * t)) 1 = x) (ey : hI h (ad (100 + 5 * t)) 2 = y) 
    (K1 : WR (d) cd_127 82 [some (.ref (ad 4)), some (.int (nI t)), some (.ref (ad (100 + 5 * t))), some (.int (nI t))] [] (sI (sI h (ad (100 + 5 * t)) 3 ((x * a) + (y * b))) (ad (100 + 5 * t)) 4 ((x * b) - (y * a))) Q) : WR (d) cd_127 2 [some (.ref (ad 4)), some (.int (nI t)), o2, o3] [] h Q := by
  have fx0 := fx
  have lA2 : (stA 2).length = 8 := rfl
  have lA3 : (stA 3).length = 8 := rfl
  refine r_iload rfl rfl ?_
  refine r_aload rfl rfl ?_
  refine r_getA (b := ad 7) rfl ⟨rfl, rfl, rfl⟩ (fx_t4 fx) (fx_r4_0 fx) ?_
  refine r_alen rfl (isA_of (fx_t7 fx) (by decide)) ?_
  refine WR_tI (y := nI n) (congrArg nI (fx_n7 fx)) ?_
  refine r_icmp_ge (tg := 137) rfl rfl (fun q => False.elim (by have : (nI t).toInt = ((t : Nat) : Int) := nI_toInt (by omega); have : (nI n).toInt = ((n : Nat) : Int) := nI_toInt (by omega); have := i_le q; omega)) (fun _ => ?_)
  refine r_aload rfl rfl ?_
  refine r_getA (b := ad 7) rfl ⟨rfl, rfl, rfl⟩ (fx_t4 fx) (fx_r4_0 fx) ?_
  refine r_iload rfl rfl ?_
  refine r_aaloadA (b := ad (100 + 5 * t)) rfl (isQ_of (fx_t7 fx) (by decide)) (vp_ct (fx_n7 fx) (vp_in_nI (by omega) (by omega))) (Eq.trans (congrArg (hR h (ad 7)) ((nI_clamp (by omega)) : _ = t)) tu1) ?_
  refine r_astore (lv' := [some (.ref (ad 4)), some (.int (nI t)), some (.ref (ad (100 + 5 * t))), o3]) rfl (Nat.le_of_ble_eq_true rfl) rfl ?_
  refine r_aload rfl rfl ?_
  refine r_aload rfl rfl ?_
  refine r_getI rfl ⟨rfl, rfl, rfl⟩ tu2 ?_
  refine WR_tI (y := x) ex ?_
  refine r_getstatic (a := sa 2) rfl (fx_st fx 2 (by decide)).1 ?_
  refine r_aload rfl rfl ?_
  refine r_getI rfl ⟨rfl, rfl, rfl⟩ (fx_t4 fx) ?_
  refine WR_tI (y := nI w) ew ?_
  refine r_iaload rfl (.inr (fx_st fx 2 (by decide)).2.1) (vp_ct ((fx_st fx 2 (by decide)).2.2) (vp_in_nI (by omega) (by omega))) ?_
  refine WR_tI (congrArg (hI h (sa 2)) ((nI_clamp (by omega)) : _ = w)) ?_
  refine WR_tI (y := a) ea ?_
  refine r_imul rfl ?_
  refine r_aload rfl rfl ?_
  refine r_getI rfl ⟨rfl, rfl, rfl⟩ tu2 ?_
  refine WR_tI (y := y) ey ?_
  refine r_getstatic (a := sa 3) rfl (fx_st fx 3 (by decide)).1 ?_
  refine r_aload rfl rfl ?_
  refine r_getI rfl ⟨rfl, rfl, rfl⟩ (fx_t4 fx) ?_
  refine WR_tI (y := nI w) ew ?_
  refine r_iaload rfl (.inr (fx_st fx 3 (by decide)).2.1) (vp_ct ((fx_st fx 3 (by decide)).2.2) (vp_in_nI (by omega) (by omega))) ?_
  refine WR_tI (congrArg (hI h (sa 3)) ((nI_clamp (by omega)) : _ = w)) ?_
  refine WR_tI (y := b) eb ?_
  refine r_imul rfl ?_
  refine r_iadd rfl ?_
  refine r_putI rfl ⟨rfl, rfl, rfl⟩ tu2 ?_
  have fx : FX n ad sa z0 (sI h (ad (100 + 5 * t)) 3 ((x * a) + (y * b))) := (FX.sI fx)
  refine r_aload rfl rfl ?_
  refine r_aload rfl rfl ?_
  refine r_getI rfl ⟨rfl, rfl, rfl⟩ tu2 ?_
  refine WR_tI (y := x) (Eq.trans (I_nk (by decide)) ex) ?_
  refine r_getstatic (a := sa 3) rfl (fx_st fx 3 (by decide)).1 ?_
  refine r_aload rfl rfl ?_
  refine r_getI rfl ⟨rfl, rfl, rfl⟩ (fx_t4 fx) ?_
  refine WR_tI (y := nI w) (Eq.trans (I_ne (fx_ne fx (by omega))) ew) ?_
  refine r_iaload rfl (.inr (fx_st fx 3 (by decide)).2.1) (vp_ct ((fx_st fx 3 (by decide)).2.2) (vp_in_nI (by omega) (by omega))) ?_
  refine WR_tI (congrArg (hI (sI h (ad (100 + 5 * t)) 3 ((x * a) + (y * b))) (sa 3)) ((nI_clamp (by omega)) : _ = w)) ?_
  refine WR_tI (y := b) (Eq.trans (I_ne ((fx_lt fx (.inr ⟨by omega, by omega⟩)).2.2 3 (by decide))) eb) ?_
  refine r_imul rfl ?_
  refine r_aload rfl rfl ?_
  refine r_getI rfl ⟨rfl, rfl, rfl⟩ tu2 ?_
  refine WR_tI (y := y) (Eq.trans (I_nk (by decide)) ey) ?_
  refine r_getstatic (a := sa 2) rfl (fx_st fx 2 (by decide)).1 ?_
  refine r_aload rfl rfl ?_
  refine r_getI rfl ⟨rfl, rfl, rfl⟩ (fx_t4 fx) ?_
  refine WR_tI (y := nI w) (Eq.trans (I_ne (fx_ne fx (by omega))) ew) ?_
  refine r_iaload rfl (.inr (fx_st fx 2 (by decide)).2.1) (vp_ct ((fx_st fx 2 (by decide)).2.2) (vp_in_nI (by omega) (by omega))) ?_
  refine WR_tI (congrArg (hI (sI h (ad (100 + 5 * t)) 3 ((x * a) + (y * b))) (sa 2)) ((nI_clamp (by omega)) : _ = w)) ?_
  refine WR_tI (y := a) (Eq.trans (I_ne ((fx_lt fx (.inr ⟨by omega, by omega⟩)).2.2 2 (by decide))) ea) ?_
  refine r_imul rfl ?_
  refine r_isub rfl ?_
  refine r_putI rfl ⟨rfl, rfl, rfl⟩ tu2 ?_
  have fx : FX n ad sa z0 (sI (sI h (ad (100 + 5 * t)) 3 ((x * a) + (y * b))) (ad (100 + 5 * t)) 4 ((x * b) - (y * a))) := (FX.sI fx)
  refine r_iload rfl rfl ?_
  refine r_istore (lv' := [some (.ref (ad 4)), some (.int (nI t)), some (.ref (ad (100 + 5 * t))), some (.int (nI t))]) rfl (Nat.le_of_ble_eq_true rfl) rfl ?_
  exact (K1)

set_option maxHeartbeats 2000000 in
theorem w_ar2z {d : Nat} {Q : mQ} {n : Nat} {ad sa : Nat → Nat} {z0 : Nat} {h : mH} (fx : FX n ad sa z0 h) {t : Nat} (ha : t < n) (tu1 : hR h (ad 7) t = some (ad (100 + 5 * t))) (tu2 : hT h (ad (100 + 5 * t)) = 8) (n6 : n ≤ 6) 
    (K1 : WR (d) cd_127 2 [some (.ref (ad 4)), some (.int (nI (t + 1))), some (.ref (ad (100 + 5 * t))), some (.int 0)] [] (sR h (ad 8) 0 (some (ad (100 + 5 * t)))) Q) : WR (d) cd_127 82 [some (.ref (ad 4)), some (.int (nI t)), some (.ref (ad (100 + 5 * t))), some (.int 0)] [] h Q := by
  have fx0 := fx
  refine r_iload rfl rfl ?_
  refine r_if_le (tg := 124) rfl rfl (fun _ => ?_) (fun q => absurd q (by decide))
  refine r_aload rfl rfl ?_
  refine r_getA (b := ad 8) rfl ⟨rfl, rfl, rfl⟩ (fx_t4 fx) (fx_r4_6 fx) ?_
  refine r_iload rfl rfl ?_
  refine r_aload rfl rfl ?_
  refine r_aastoreA rfl (isQ_of (fx_t8 fx) (by decide)) (vp_ct (fx_n8 fx) (vp_in_nI (n := 0) (by omega) (by omega))) (okR_of (fx_t8 fx) tu2 (by decide)) ?_
  refine WR_h (h2 := sR h (ad 8) 0 (some (ad (100 + 5 * t)))) (congrArg (fun z => sR h (ad 8) z (some (ad (100 + 5 * t)))) (rfl : _ = 0)) ?_
  have fx : FX n ad sa z0 (sR h (ad 8) 0 (some (ad (100 + 5 * t)))) := FX.sRA (i := 8) fx (.inl (by decide)) (by decide)
  refine r_iinc (y := nI (t + 1)) (lv' := [some (.ref (ad 4)), some (.int (nI (t + 1))), some (.ref (ad (100 + 5 * t))), some (.int 0)]) rfl rfl (nI_1 _) rfl ?_
  refine r_goto (tg := 2) rfl rfl ?_
  exact (K1)

set_option maxHeartbeats 2000000 in
theorem w_ar2 {d : Nat} {Q : mQ} {n : Nat} {ad sa : Nat → Nat} {z0 : Nat} {h : mH} (fx : FX n ad sa z0 h) {t r u : Nat} (ha : t < n) (tu1 : hR h (ad 7) t = some (ad (100 + 5 * t))) (tu2 : hT h (ad (100 + 5 * t)) = 8) (ha_u : u < n) (tu1_u : hR h (ad 7) u = some (ad (100 + 5 * u))) (tu2_u : hT h (ad (100 + 5 * u)) = 8) (n6 : n ≤ 6) (r1 : 1 ≤ r) (rt : r ≤ t) (eu : hR h (ad 8) (r - 1) = some (ad (100 + 5 * u))) {x y : Int32} (ex : hI h (ad (100 + 5 * u)) 3 = x) (ey : hI h (ad (100 + 5 * t)) 3 = y) 
    (K1 : x ≤ y → WR (d) cd_127 124 [some (.ref (ad 4)), some (.int (nI t)), some (.ref (ad (100 + 5 * t))), some (.int (nI r))] [] h Q)
    (K2 : ¬ x ≤ y → WR (d) cd_127 82 [some (.ref (ad 4)), some (.int (nI t)), some (.ref (ad (100 + 5 * t))), some (.int (nI (r - 1)))] [] (sR h (ad 8) r (some (ad (100 + 5 * u)))) Q) : WR (d) cd_127 82 [some (.ref (ad 4)), some (.int (nI t)), some (.ref (ad (100 + 5 * t))), some (.int (nI r))] [] h Q := by
  have fx0 := fx
  refine r_iload rfl rfl ?_
  refine r_if_le (tg := 124) rfl rfl (fun q => False.elim (by have : (nI r).toInt = ((r : Nat) : Int) := nI_toInt (by omega); have : (0 : Int32).toInt = 0 := rfl; have := i_le q; omega)) (fun _ => ?_)
  refine r_aload rfl rfl ?_
  refine r_getA (b := ad 8) rfl ⟨rfl, rfl, rfl⟩ (fx_t4 fx) (fx_r4_6 fx) ?_
  refine r_iload rfl rfl ?_
  refine r_ic (x := 1) rfl rfl ?_
  refine r_isub rfl ?_
  refine WR_tI (y := nI (r - 1)) (Eq.trans (pk_sub (a := r) (b := 1) (by omega)) (congrArg nI (by omega))) ?_
  refine r_aaloadA (b := ad (100 + 5 * u)) rfl (isQ_of (fx_t8 fx) (by decide)) (vp_ct (fx_n8 fx) (vp_in_nI (by omega) (by omega))) (Eq.trans (congrArg (hR h (ad 8)) ((nI_clamp (by omega)) : _ = r - 1)) eu) ?_
  refine r_getI rfl ⟨rfl, rfl, rfl⟩ tu2_u ?_
  refine WR_tI (y := x) ex ?_
  refine r_aload rfl rfl ?_
  refine r_getI rfl ⟨rfl, rfl, rfl⟩ tu2 ?_
  refine WR_tI (y := y) ey ?_
  refine r_icmp_le (tg := 124) rfl rfl (fun c1 => ?_) (fun c1 => ?_)
  · exact (K1 c1)
  · refine r_aload rfl rfl ?_
    refine r_getA (b := ad 8) rfl ⟨rfl, rfl, rfl⟩ (fx_t4 fx) (fx_r4_6 fx) ?_
    refine r_iload rfl rfl ?_
    refine r_aload rfl rfl ?_
    refine r_getA (b := ad 8) rfl ⟨rfl, rfl, rfl⟩ (fx_t4 fx) (fx_r4_6 fx) ?_
    refine r_iload rfl rfl ?_
    refine r_ic (x := 1) rfl rfl ?_
    refine r_isub rfl ?_
    refine WR_tI (y := nI (r - 1)) (Eq.trans (pk_sub (a := r) (b := 1) (by omega)) (congrArg nI (by omega))) ?_
    refine r_aaloadA (b := ad (100 + 5 * u)) rfl (isQ_of (fx_t8 fx) (by decide)) (vp_ct (fx_n8 fx) (vp_in_nI (by omega) (by omega))) (Eq.trans (congrArg (hR h (ad 8)) ((nI_clamp (by omega)) : _ = r - 1)) eu) ?_
    refine r_aastoreA rfl (isQ_of (fx_t8 fx) (by decide)) (vp_ct (fx_n8 fx) (vp_in_nI (by omega) (by omega))) (okR_of (fx_t8 fx) tu2_u (by decide)) ?_
    refine WR_h (h2 := sR h (ad 8) r (some (ad (100 + 5 * u)))) (congrArg (fun z => sR h (ad 8) z (some (ad (100 + 5 * u)))) ((nI_clamp (by omega)) : _ = r)) ?_
    have fx : FX n ad sa z0 (sR h (ad 8) r (some (ad (100 + 5 * u)))) := FX.sRA (i := 8) fx (.inl (by decide)) (by decide)
    refine r_iinc (y := nI (r - 1)) (lv' := [some (.ref (ad 4)), some (.int (nI t)), some (.ref (ad (100 + 5 * t))), some (.int (nI (r - 1)))]) rfl rfl (nI_dec (by omega)) rfl ?_
    refine r_goto (tg := 82) rfl rfl ?_
    exact (K2 c1)

set_option maxHeartbeats 2000000 in
theorem w_ar3 {d : Nat} {Q : mQ} {n : Nat} {ad sa : Nat → Nat} {z0 : Nat} {h : mH} (fx : FX n ad sa z0 h) {t r : Nat} (ha : t < n) (tu1 : hR h (ad 7) t = some (ad (100 + 5 * t))) (tu2 : hT h (ad (100 + 5 * t)) = 8) (n6 : n ≤ 6) (rt : r ≤ t) 
    (K1 : WR (d) cd_127 2 [some (.ref (ad 4)), some (.int (nI (t + 1))), some (.ref (ad (100 + 5 * t))), some (.int (nI r))] [] (sR h (ad 8) r (some (ad (100 + 5 * t)))) Q) : WR (d) cd_127 124 [some (.ref (ad 4)), some (.int (nI t)), some (.ref (ad (100 + 5 * t))), some (.int (nI r))] [] h Q := by
  have fx0 := fx
  refine r_aload rfl rfl ?_
  refine r_getA (b := ad 8) rfl ⟨rfl, rfl, rfl⟩ (fx_t4 fx) (fx_r4_6 fx) ?_
  refine r_iload rfl rfl ?_
  refine r_aload rfl rfl ?_
  refine r_aastoreA rfl (isQ_of (fx_t8 fx) (by decide)) (vp_ct (fx_n8 fx) (vp_in_nI (by omega) (by omega))) (okR_of (fx_t8 fx) tu2 (by decide)) ?_
  refine WR_h (h2 := sR h (ad 8) r (some (ad (100 + 5 * t)))) (congrArg (fun z => sR h (ad 8) z (some (ad (100 + 5 * t)))) ((nI_clamp (by omega)) : _ = r)) ?_
  have fx : FX n ad sa z0 (sR h (ad 8) r (some (ad (100 + 5 * t)))) := FX.sRA (i := 8) fx (.inl (by decide)) (by decide)
  refine r_iinc (y := nI (t + 1)) (lv' := [some (.ref (ad 4)), some (.int (nI (t + 1))), some (.ref (ad (100 + 5 * t))), some (.int (nI r))]) rfl rfl (nI_1 _) rfl ?_
  refine r_goto (tg := 2) rfl rfl ?_
  exact (K1)

set_option maxHeartbeats 2000000 in
theorem w_dx {d : Nat} {Q : mQ} {n : Nat} {ad sa : Nat → Nat} {z0 : Nat} {h : mH} (fx : FX n ad sa z0 h) {w : Nat} (w8 : w < 8) (ew : hI h (ad 30) 61 = nI w) 
    (L1 : (nI w) = 2 → Q (some (.int 0)) h)
    (L2 : ¬ (nI w) = 2 → ¬ (nI w) = 6 → (nI w) < 2 → Q (some (.int 1)) h)
    (L3 : ¬ (nI w) = 2 → ¬ (nI w) = 6 → ¬ (nI w) < 2 → ¬ (nI w) = 7 → Q (some (.int (-1))) h)
    (L4 : ¬ (nI w) = 2 → ¬ (nI w) = 6 → ¬ (nI w) < 2 → (nI w) = 7 → Q (some (.int 1)) h)
    (L5 : ¬ (nI w) = 2 → (nI w) = 6 → Q (some (.int 0)) h) : EV (d + 1) 233 [.ref (ad 30)] h Q := by
  have fx0 := fx
  refine in_233 (Nat.le_of_ble_eq_true rfl) ?_
  show WR _ cd_233 0 [some (.ref (ad 30))] [] h _
  refine r_aload rfl rfl ?_
  refine r_getI rfl ⟨rfl, rfl, rfl⟩ (fx_t30 fx) ?_
  refine WR_tI (y := nI w) ew ?_
  refine r_ic (x := 2) rfl rfl ?_
  refine r_icmp_eq (tg := 17) rfl rfl (fun c1 => ?_) (fun c1 => ?_)
  · refine r_ic (x := 0) rfl rfl ?_
    refine r_goto (tg := 43) rfl rfl ?_
    refine r_iret rfl ?_
    exact (L1 c1)
  · refine r_aload rfl rfl ?_
    refine r_getI rfl ⟨rfl, rfl, rfl⟩ (fx_t30 fx) ?_
    refine WR_tI (y := nI w) ew ?_
    refine r_ic (x := 6) rfl rfl ?_
    refine r_icmp_ne (tg := 21) rfl rfl (fun c2 => ?_) (fun c2 => ?_)
    · refine r_aload rfl rfl ?_
      refine r_getI rfl ⟨rfl, rfl, rfl⟩ (fx_t30 fx) ?_
      refine WR_tI (y := nI w) ew ?_
      refine r_ic (x := 2) rfl rfl ?_
      refine r_icmp_lt (tg := 38) rfl rfl (fun c3 => ?_) (fun c3 => ?_)
      · refine r_ic (x := 1) rfl rfl ?_
        refine r_goto (tg := 43) rfl rfl ?_
        refine r_iret rfl ?_
        exact (L2 c1 c2 c3)
      · refine r_aload rfl rfl ?_
        refine r_getI rfl ⟨rfl, rfl, rfl⟩ (fx_t30 fx) ?_
        refine WR_tI (y := nI w) ew ?_
        refine r_ic (x := 7) rfl rfl ?_
        refine r_icmp_ne (tg := 42) rfl rfl (fun c4 => ?_) (fun c4 => ?_)
        · refine r_ic (x := (-1)) rfl rfl ?_
          refine r_iret rfl ?_
          exact (L3 c1 c2 c3 c4)
        · refine r_ic (x := 1) rfl rfl ?_
          refine r_goto (tg := 43) rfl rfl ?_
          refine r_iret rfl ?_
          exact (L4 c1 c2 c3 c4)
    · refine r_ic (x := 0) rfl rfl ?_
      refine r_goto (tg := 43) rfl rfl ?_
      refine r_iret rfl ?_
      exact (L5 c1 c2)

set_option maxHeartbeats 2000000 in
theorem w_dy {d : Nat} {Q : mQ} {n : Nat} {ad sa : Nat → Nat} {z0 : Nat} {h : mH} (fx : FX n ad sa z0 h) {w : Nat} (w8 : w < 8) (ew : hI h (ad 30) 61 = nI w) 
    (L1 : (nI w) = 0 → Q (some (.int 0)) h)
    (L2 : ¬ (nI w) = 0 → ¬ (nI w) = 4 → 4 ≤ (nI w) → Q (some (.int (-1))) h)
    (L3 : ¬ (nI w) = 0 → ¬ (nI w) = 4 → ¬ 4 ≤ (nI w) → Q (some (.int 1)) h)
    (L4 : ¬ (nI w) = 0 → (nI w) = 4 → Q (some (.int 0)) h) : EV (d + 1) 234 [.ref (ad 30)] h Q := by
  have fx0 := fx
  refine in_234 (Nat.le_of_ble_eq_true rfl) ?_
  show WR _ cd_234 0 [some (.ref (ad 30))] [] h _
  refine r_aload rfl rfl ?_
  refine r_getI rfl ⟨rfl, rfl, rfl⟩ (fx_t30 fx) ?_
  refine WR_tI (y := nI w) ew ?_
  refine r_if_eq (tg := 15) rfl rfl (fun c1 => ?_) (fun c1 => ?_)
  · refine r_ic (x := 0) rfl rfl ?_
    refine r_goto (tg := 32) rfl rfl ?_
    refine r_iret rfl ?_
    exact (L1 c1)
  · refine r_aload rfl rfl ?_
    refine r_getI rfl ⟨rfl, rfl, rfl⟩ (fx_t30 fx) ?_
    refine WR_tI (y := nI w) ew ?_
    refine r_ic (x := 4) rfl rfl ?_
    refine r_icmp_ne (tg := 19) rfl rfl (fun c2 => ?_) (fun c2 => ?_)
    · refine r_aload rfl rfl ?_
      refine r_getI rfl ⟨rfl, rfl, rfl⟩ (fx_t30 fx) ?_
      refine WR_tI (y := nI w) ew ?_
      refine r_ic (x := 4) rfl rfl ?_
      refine r_icmp_ge (tg := 31) rfl rfl (fun c3 => ?_) (fun c3 => ?_)
      · refine r_ic (x := (-1)) rfl rfl ?_
        refine r_iret rfl ?_
        exact (L2 c1 c2 c3)
      · refine r_ic (x := 1) rfl rfl ?_
        refine r_goto (tg := 32) rfl rfl ?_
        refine r_iret rfl ?_
        exact (L3 c1 c2 c3)
    · refine r_ic (x := 0) rfl rfl ?_
      refine r_goto (tg := 32) rfl rfl ?_
      refine r_iret rfl ?_
      exact (L4 c1 c2)

set_option maxHeartbeats 2000000 in
theorem w_ln0 {d : Nat} {Q : mQ} {n : Nat} {ad sa : Nat → Nat} {z0 : Nat} {h : mH} (fx : FX n ad sa z0 h) {t : Nat} (t6 : t < 6) 
    (C1 : EV (d) 233 [.ref (ad 30)] h (fun v_ h_ => WR (d) cd_232 10 [some (.ref (ad 30)), some (.int (nI t))] (v_.toList ++ [.int (hI h (ad 61) t)]) h_ Q)) : EV (d + 1) 232 [.ref (ad 30), .int (nI t)] h Q := by
  have fx0 := fx
  refine in_232 (Nat.le_of_ble_eq_true rfl) ?_
  show WR _ cd_232 0 [some (.ref (ad 30)), some (.int (nI t))] [] h _
  refine r_aload rfl rfl ?_
  refine r_getA (b := ad 61) rfl ⟨rfl, rfl, rfl⟩ (fx_t30 fx) (fx_r30_48 fx) ?_
  refine r_iload rfl rfl ?_
  refine r_iaload rfl (.inl (fx_t61 fx)) (vp_ct (fx_n61 fx) (vp_in_nI (by omega) (by omega))) ?_
  refine WR_tI (congrArg (hI h (ad 61)) ((nI_clamp (by omega)) : _ = t)) ?_
  refine r_aload rfl rfl ?_
  refine r_cv (y := 233) (ra := []) (rest := [.int (hI h (ad 61) t)]) rfl ⟨⟨rfl, rfl⟩, rfl, by decide⟩ (fx_t30 fx) rfl rfl (Nat.le_of_ble_eq_true rfl) ?_
  exact (C1)

set_option maxHeartbeats 2000000 in
theorem w_ln1 {d : Nat} {Q : mQ} {n : Nat} {ad sa : Nat → Nat} {z0 : Nat} {h : mH} (fx : FX n ad sa z0 h) {t : Nat} (t6 : t < 6) {a x : Int32} 
    (C1 : EV (d) 234 [.ref (ad 30)] h (fun v_ h_ => WR (d) cd_232 21 [some (.ref (ad 30)), some (.int (nI t))] (v_.toList ++ [.int (hI h (ad 62) t), .int (x * a)]) h_ Q)) : WR (d) cd_232 10 [some (.ref (ad 30)), some (.int (nI t))] [.int a, .int x] h Q := by
  have fx0 := fx
  refine r_imul rfl ?_
  refine r_aload rfl rfl ?_
  refine r_getA (b := ad 62) rfl ⟨rfl, rfl, rfl⟩ (fx_t30 fx) (fx_r30_49 fx) ?_
  refine r_iload rfl rfl ?_
  refine r_iaload rfl (.inl (fx_t62 fx)) (vp_ct (fx_n62 fx) (vp_in_nI (by omega) (by omega))) ?_
  refine WR_tI (congrArg (hI h (ad 62)) ((nI_clamp (by omega)) : _ = t)) ?_
  refine r_aload rfl rfl ?_
  refine r_cv (y := 234) (ra := []) (rest := [.int (hI h (ad 62) t), .int (x * a)]) rfl ⟨⟨rfl, rfl⟩, rfl, by decide⟩ (fx_t30 fx) rfl rfl (Nat.le_of_ble_eq_true rfl) ?_
  exact (C1)

set_option maxHeartbeats 2000000 in
theorem w_ln2 {d : Nat} {Q : mQ} {n : Nat} {ad sa : Nat → Nat} {z0 : Nat} {h : mH} (fx : FX n ad sa z0 h) {b y z : Int32} {o1 : Option Value} 
    (L1 : Q (some (.int (z + (y * b)))) h) : WR (d) cd_232 21 [some (.ref (ad 30)), o1] [.int b, .int y, .int z] h Q := by
  have fx0 := fx
  refine r_imul rfl ?_
  refine r_iadd rfl ?_
  refine r_iret rfl ?_
  exact (L1)

set_option maxHeartbeats 2000000 in
theorem w_cr0 {d : Nat} {Q : mQ} {n : Nat} {ad sa : Nat → Nat} {z0 : Nat} {h : mH} (fx : FX n ad sa z0 h) {t : Nat} (t6 : t < 6) 
    (C1 : EV (d) 234 [.ref (ad 30)] h (fun v_ h_ => WR (d) cd_238 10 [some (.ref (ad 30)), some (.int (nI t))] (v_.toList ++ [.int (hI h (ad 61) t)]) h_ Q)) : EV (d + 1) 238 [.ref (ad 30), .int (nI t)] h Q := by
  have fx0 := fx
  refine in_238 (Nat.le_of_ble_eq_true rfl) ?_
  show WR _ cd_238 0 [some (.ref (ad 30)), some (.int (nI t))] [] h _
  refine r_aload rfl rfl ?_
  refine r_getA (b := ad 61) rfl ⟨rfl, rfl, rfl⟩ (fx_t30 fx) (fx_r30_48 fx) ?_
  refine r_iload rfl rfl ?_
  refine r_iaload rfl (.inl (fx_t61 fx)) (vp_ct (fx_n61 fx) (vp_in_nI (by omega) (by omega))) ?_
  refine WR_tI (congrArg (hI h (ad 61)) ((nI_clamp (by omega)) : _ = t)) ?_
  refine r_aload rfl rfl ?_
  refine r_cv (y := 234) (ra := []) (rest := [.int (hI h (ad 61) t)]) rfl ⟨⟨rfl, rfl⟩, rfl, by decide⟩ (fx_t30 fx) rfl rfl (Nat.le_of_ble_eq_true rfl) ?_
  exact (C1)

set_option maxHeartbeats 2000000 in
theorem w_cr1 {d : Nat} {Q : mQ} {n : Nat} {ad sa : Nat → Nat} {z0 : Nat} {h : mH} (fx : FX n ad sa z0 h) {t : Nat} (t6 : t < 6) {a x : Int32} 
    (C1 : EV (d) 233 [.ref (ad 30)] h (fun v_ h_ => WR (d) cd_238 21 [some (.ref (ad 30)), some (.int (nI t))] (v_.toList ++ [.int (hI h (ad 62) t), .int (x * a)]) h_ Q)) : WR (d) cd_238 10 [some (.ref (ad 30)), some (.int (nI t))] [.int a, .int x] h Q := by
  have fx0 := fx
  refine r_imul rfl ?_
  refine r_aload rfl rfl ?_
  refine r_getA (b := ad 62) rfl ⟨rfl, rfl, rfl⟩ (fx_t30 fx) (fx_r30_49 fx) ?_
  refine r_iload rfl rfl ?_
  refine r_iaload rfl (.inl (fx_t62 fx)) (vp_ct (fx_n62 fx) (vp_in_nI (by omega) (by omega))) ?_
  refine WR_tI (congrArg (hI h (ad 62)) ((nI_clamp (by omega)) : _ = t)) ?_
  refine r_aload rfl rfl ?_
  refine r_cv (y := 233) (ra := []) (rest := [.int (hI h (ad 62) t), .int (x * a)]) rfl ⟨⟨rfl, rfl⟩, rfl, by decide⟩ (fx_t30 fx) rfl rfl (Nat.le_of_ble_eq_true rfl) ?_
  exact (C1)

set_option maxHeartbeats 2000000 in
theorem w_cr2 {d : Nat} {Q : mQ} {n : Nat} {ad sa : Nat → Nat} {z0 : Nat} {h : mH} (fx : FX n ad sa z0 h) {b y z : Int32} {o1 : Option Value} 
    (L1 : Q (some (.int (z - (y * b)))) h) : WR (d) cd_238 21 [some (.ref (ad 30)), o1] [.int b, .int y, .int z] h Q := by
  have fx0 := fx
  refine r_imul rfl ?_
  refine r_isub rfl ?_
  refine r_iret rfl ?_
  exact (L1)

set_option maxHeartbeats 2000000 in
theorem w_od0 {d : Nat} {Q : mQ} {n : Nat} {ad sa : Nat → Nat} {z0 : Nat} {h : mH} (fx : FX n ad sa z0 h) 
    (K1 : WR (d) cd_231 2 [some (.ref (ad 30)), some (.int 0), none] [] h Q) : EV (d + 1) 231 [.ref (ad 30)] h Q := by
  have fx0 := fx
  refine in_231 (Nat.le_of_ble_eq_true rfl) ?_
  show WR _ cd_231 0 [some (.ref (ad 30)), none, none] [] h _
  refine r_ic (x := 0) rfl rfl ?_
  refine r_istore (lv' := [some (.ref (ad 30)), some (.int 0), none]) rfl (Nat.le_of_ble_eq_true rfl) rfl ?_
  exact (K1)

set_option maxHeartbeats 2000000 in
theorem w_ode {d : Nat} {Q : mQ} {n : Nat} {ad sa : Nat → Nat} {z0 : Nat} {h : mH} (fx : FX n ad sa z0 h) {t : Nat} (tn : t = n) (n6 : n ≤ 6) (en : hI h (ad 30) 12 = nI n) {o2 : Option Value} 
    (L1 : Q none h) : WR (d) cd_231 2 [some (.ref (ad 30)), some (.int (nI t)), o2] [] h Q := by
  have fx0 := fx
  refine r_iload rfl rfl ?_
  refine r_aload rfl rfl ?_
  refine r_getI rfl ⟨rfl, rfl, rfl⟩ (fx_t30 fx) ?_
  refine WR_tI (y := nI n) en ?_
  refine r_icmp_ge (tg := 69) rfl rfl (fun _ => ?_) (fun q => False.elim (by have : (nI t).toInt = ((t : Nat) : Int) := nI_toInt (by omega); have : (nI n).toInt = ((n : Nat) : Int) := nI_toInt (by omega); have := i_nle q; omega))
  refine r_vret rfl ?_
  exact (L1)

set_option maxHeartbeats 2000000 in
theorem w_od1 {d : Nat} {Q : mQ} {n : Nat} {ad sa : Nat → Nat} {z0 : Nat} {h : mH} (fx : FX n ad sa z0 h) {t : Nat} (tn : t < n) (n6 : n ≤ 6) (en : hI h (ad 30) 12 = nI n) {o2 : Option Value} 
    (K1 : WR (d) cd_231 12 [some (.ref (ad 30)), some (.int (nI t)), some (.int (nI t))] [] h Q) : WR (d) cd_231 2 [some (.ref (ad 30)), some (.int (nI t)), o2] [] h Q := by
  have fx0 := fx
  refine r_iload rfl rfl ?_
  refine r_aload rfl rfl ?_
  refine r_getI rfl ⟨rfl, rfl, rfl⟩ (fx_t30 fx) ?_
  refine WR_tI (y := nI n) en ?_
  refine r_icmp_ge (tg := 69) rfl rfl (fun q => False.elim (by have : (nI t).toInt = ((t : Nat) : Int) := nI_toInt (by omega); have : (nI n).toInt = ((n : Nat) : Int) := nI_toInt (by omega); have := i_le q; omega)) (fun _ => ?_)
  refine r_iload rfl rfl ?_
  refine r_istore (lv' := [some (.ref (ad 30)), some (.int (nI t)), some (.int (nI t))]) rfl (Nat.le_of_ble_eq_true rfl) rfl ?_
  exact (K1)

set_option maxHeartbeats 2000000 in
theorem w_od2z {d : Nat} {Q : mQ} {n : Nat} {ad sa : Nat → Nat} {z0 : Nat} {h : mH} (fx : FX n ad sa z0 h) {t : Nat} (t6 : t < 6) 
    (K1 : WR (d) cd_231 2 [some (.ref (ad 30)), some (.int (nI (t + 1))), some (.int 0)] [] (sI h (ad 75) 0 (nI t)) Q) : WR (d) cd_231 12 [some (.ref (ad 30)), some (.int (nI t)), some (.int 0)] [] h Q := by
  have fx0 := fx
  refine r_iload rfl rfl ?_
  refine r_if_le (tg := 56) rfl rfl (fun _ => ?_) (fun q => absurd q (by decide))
  refine r_aload rfl rfl ?_
  refine r_getA (b := ad 75) rfl ⟨rfl, rfl, rfl⟩ (fx_t30 fx) (fx_r30_67 fx) ?_
  refine r_iload rfl rfl ?_
  refine r_iload rfl rfl ?_
  refine r_iastore rfl (fx_t75 fx) (vp_ct (fx_n75 fx) (vp_in_nI (n := 0) (by omega) (by omega))) ?_
  refine WR_h (h2 := sI h (ad 75) 0 (nI t)) (congrArg (fun z => sI h (ad 75) z (nI t)) (rfl : _ = 0)) ?_
  have fx : FX n ad sa z0 (sI h (ad 75) 0 (nI t)) := (FX.sI fx)
  refine r_iinc (y := nI (t + 1)) (lv' := [some (.ref (ad 30)), some (.int (nI (t + 1))), some (.int 0)]) rfl rfl (nI_1 _) rfl ?_
  refine r_goto (tg := 2) rfl rfl ?_
  exact (K1)

set_option maxHeartbeats 2000000 in
theorem w_od2 {d : Nat} {Q : mQ} {n : Nat} {ad sa : Nat → Nat} {z0 : Nat} {h : mH} (fx : FX n ad sa z0 h) {t r u : Nat} (t6 : t < 6) (u6 : u < 6) (r1 : 1 ≤ r) (rt : r ≤ t) (eu : hI h (ad 75) (r - 1) = nI u) 
    (C1 : EV (d) 232 [.ref (ad 30), .int (nI u)] h (fun v_ h_ => WR (d) cd_231 28 [some (.ref (ad 30)), some (.int (nI t)), some (.int (nI r))] (v_.toList ++ []) h_ Q)) : WR (d) cd_231 12 [some (.ref (ad 30)), some (.int (nI t)), some (.int (nI r))] [] h Q := by
  have fx0 := fx
  refine r_iload rfl rfl ?_
  refine r_if_le (tg := 56) rfl rfl (fun q => False.elim (by have : (nI r).toInt = ((r : Nat) : Int) := nI_toInt (by omega); have : (0 : Int32).toInt = 0 := rfl; have := i_le q; omega)) (fun _ => ?_)
  refine r_aload rfl rfl ?_
  refine r_aload rfl rfl ?_
  refine r_getA (b := ad 75) rfl ⟨rfl, rfl, rfl⟩ (fx_t30 fx) (fx_r30_67 fx) ?_
  refine r_iload rfl rfl ?_
  refine r_ic (x := 1) rfl rfl ?_
  refine r_isub rfl ?_
  refine WR_tI (y := nI (r - 1)) (Eq.trans (pk_sub (a := r) (b := 1) (by omega)) (congrArg nI (by omega))) ?_
  refine r_iaload rfl (.inl (fx_t75 fx)) (vp_ct (fx_n75 fx) (vp_in_nI (by omega) (by omega))) ?_
  refine WR_tI (congrArg (hI h (ad 75)) ((nI_clamp (by omega)) : _ = r - 1)) ?_
  refine WR_tI (y := nI u) eu ?_
  refine r_cv (y := 232) (ra := [.int (nI u)]) (rest := []) rfl ⟨⟨rfl, rfl⟩, rfl, by decide⟩ (fx_t30 fx) rfl rfl (Nat.le_of_ble_eq_true rfl) ?_
  exact (C1)

set_option maxHeartbeats 2000000 in
theorem w_od3 {d : Nat} {Q : mQ} {n : Nat} {ad sa : Nat → Nat} {z0 : Nat} {h : mH} (fx : FX n ad sa z0 h) {t r : Nat} {x : Int32} 
    (C1 : EV (d) 232 [.ref (ad 30), .int (nI t)] h (fun v_ h_ => WR (d) cd_231 33 [some (.ref (ad 30)), some (.int (nI t)), some (.int (nI r))] (v_.toList ++ [.int x]) h_ Q)) : WR (d) cd_231 28 [some (.ref (ad 30)), some (.int (nI t)), some (.int (nI r))] [.int x] h Q := by
  have fx0 := fx
  refine r_aload rfl rfl ?_
  refine r_iload rfl rfl ?_
  refine r_cv (y := 232) (ra := [.int (nI t)]) (rest := [.int x]) rfl ⟨⟨rfl, rfl⟩, rfl, by decide⟩ (fx_t30 fx) rfl rfl (Nat.le_of_ble_eq_true rfl) ?_
  exact (C1)

set_option maxHeartbeats 2000000 in
theorem w_od4 {d : Nat} {Q : mQ} {n : Nat} {ad sa : Nat → Nat} {z0 : Nat} {h : mH} (fx : FX n ad sa z0 h) {t r u : Nat} (t6 : t < 6) (u6 : u < 6) (r1 : 1 ≤ r) (rt : r ≤ t) (eu : hI h (ad 75) (r - 1) = nI u) {x y : Int32} 
    (K1 : x ≤ y → WR (d) cd_231 56 [some (.ref (ad 30)), some (.int (nI t)), some (.int (nI r))] [] h Q)
    (K2 : ¬ x ≤ y → WR (d) cd_231 12 [some (.ref (ad 30)), some (.int (nI t)), some (.int (nI (r - 1)))] [] (sI h (ad 75) r (nI u)) Q) : WR (d) cd_231 33 [some (.ref (ad 30)), some (.int (nI t)), some (.int (nI r))] [.int y, .int x] h Q := by
  have fx0 := fx
  refine r_icmp_le (tg := 56) rfl rfl (fun c1 => ?_) (fun c1 => ?_)
  · exact (K1 c1)
  · refine r_aload rfl rfl ?_
    refine r_getA (b := ad 75) rfl ⟨rfl, rfl, rfl⟩ (fx_t30 fx) (fx_r30_67 fx) ?_
    refine r_iload rfl rfl ?_
    refine r_aload rfl rfl ?_
    refine r_getA (b := ad 75) rfl ⟨rfl, rfl, rfl⟩ (fx_t30 fx) (fx_r30_67 fx) ?_
    refine r_iload rfl rfl ?_
    refine r_ic (x := 1) rfl rfl ?_
    refine r_isub rfl ?_
    refine WR_tI (y := nI (r - 1)) (Eq.trans (pk_sub (a := r) (b := 1) (by omega)) (congrArg nI (by omega))) ?_
    refine r_iaload rfl (.inl (fx_t75 fx)) (vp_ct (fx_n75 fx) (vp_in_nI (by omega) (by omega))) ?_
    refine WR_tI (congrArg (hI h (ad 75)) ((nI_clamp (by omega)) : _ = r - 1)) ?_
    refine WR_tI (y := nI u) eu ?_
    refine r_iastore rfl (fx_t75 fx) (vp_ct (fx_n75 fx) (vp_in_nI (by omega) (by omega))) ?_
    refine WR_h (h2 := sI h (ad 75) r (nI u)) (congrArg (fun z => sI h (ad 75) z (nI u)) ((nI_clamp (by omega)) : _ = r)) ?_
    have fx : FX n ad sa z0 (sI h (ad 75) r (nI u)) := (FX.sI fx)
    refine r_iinc (y := nI (r - 1)) (lv' := [some (.ref (ad 30)), some (.int (nI t)), some (.int (nI (r - 1)))]) rfl rfl (nI_dec (by omega)) rfl ?_
    refine r_goto (tg := 12) rfl rfl ?_
    exact (K2 c1)

set_option maxHeartbeats 2000000 in
theorem w_od5 {d : Nat} {Q : mQ} {n : Nat} {ad sa : Nat → Nat} {z0 : Nat} {h : mH} (fx : FX n ad sa z0 h) {t r : Nat} (t6 : t < 6) (rt : r ≤ t) 
    (K1 : WR (d) cd_231 2 [some (.ref (ad 30)), some (.int (nI (t + 1))), some (.int (nI r))] [] (sI h (ad 75) r (nI t)) Q) : WR (d) cd_231 56 [some (.ref (ad 30)), some (.int (nI t)), some (.int (nI r))] [] h Q := by
  have fx0 := fx
  refine r_aload rfl rfl ?_
  refine r_getA (b := ad 75) rfl ⟨rfl, rfl, rfl⟩ (fx_t30 fx) (fx_r30_67 fx) ?_
  refine r_iload rfl rfl ?_
  refine r_iload rfl rfl ?_
  refine r_iastore rfl (fx_t75 fx) (vp_ct (fx_n75 fx) (vp_in_nI (by omega) (by omega))) ?_
  refine WR_h (h2 := sI h (ad 75) r (nI t)) (congrArg (fun z => sI h (ad 75) z (nI t)) ((nI_clamp (by omega)) : _ = r)) ?_
  have fx : FX n ad sa z0 (sI h (ad 75) r (nI t)) := (FX.sI fx)
  refine r_iinc (y := nI (t + 1)) (lv' := [some (.ref (ad 30)), some (.int (nI (t + 1))), some (.int (nI r))]) rfl rfl (nI_1 _) rfl ?_
  refine r_goto (tg := 2) rfl rfl ?_
  exact (K1)

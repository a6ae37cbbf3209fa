/-! ===== walks of run: the class's turbine; printed ===== -/
set_option maxHeartbeats 2000000 in
theorem w_tb75 {d : Nat} {Q : mQ} {n : Nat} {ad sa : Nat → Nat} {z0 : Nat} {h : mH} (fx : FX n ad sa z0 h) {t : Nat} (ha : t < n) (n6 : n ≤ 6) (tu2 : hT h (ad (100 + 5 * t)) = 8) {p y : UInt64} {f : Int32} {x : Nat} {o5 : Option Value} (e13 : hD h (ad (100 + 5 * t)) 13 = p) 
    (L1 : ¬ f = 0 → Q (some (.int f)) h)
    (B1 : f = 0 → vf_n64 (FP.dadd p y))
    (L2 : f = 0 → Q (some (.int f)) (sD h (ad (100 + 5 * t)) 13 (FP.dadd p y))) : WR (d) cd_136 75 [some (.ref (ad (100 + 5 * t))), some (.ref (ad 2)), some (.double y), none, some (.ref x), o5] [.int f] h Q := by
  have fx0 := fx
  refine r_istore (lv' := [some (.ref (ad (100 + 5 * t))), some (.ref (ad 2)), some (.double y), none, some (.ref x), some (.int f)]) rfl (Nat.le_of_ble_eq_true rfl) rfl ?_
  refine r_iload rfl rfl ?_
  refine r_if_ne (tg := 92) rfl rfl (fun c1 => ?_) (fun c1 => ?_)
  · refine r_iload rfl rfl ?_
    refine r_iret rfl ?_
    exact (L1 c1)
  · refine r_aload rfl rfl ?_
    refine r_aload rfl rfl ?_
    refine r_getD rfl ⟨rfl, rfl, rfl⟩ tu2 ?_
    refine WR_tD (y := p) e13 ?_
    refine r_dload rfl rfl ?_
    refine r_dadd rfl (B1 c1) ?_
    refine r_putD rfl ⟨rfl, rfl, rfl⟩ tu2 ?_
    have fx : FX n ad sa z0 (sD h (ad (100 + 5 * t)) 13 (FP.dadd p y)) := (FX.sD fx)
    refine r_iload rfl rfl ?_
    refine r_iret rfl ?_
    exact (L2 c1)

set_option maxHeartbeats 2000000 in
theorem w_tb1 {d : Nat} {Q : mQ} {n : Nat} {ad sa : Nat → Nat} {z0 : Nat} {h : mH} (fx : FX n ad sa z0 h) {t : Nat} (ha : t < n) (n6 : n ≤ 6) (tu2 : hT h (ad (100 + 5 * t)) = 8) (e10 : hI h (ad (100 + 5 * t)) 10 = 1) 
    (C1 : EV (d) 137 [.ref (ad (100 + 5 * t))] h (fun v_ h_ => WR (d) cd_136 21 [some (.ref (ad (100 + 5 * t))), some (.ref (ad 2)), none, none, none, none] (v_.toList ++ [.double 4618441417868443648]) h_ Q)) : EV (d + 1) 136 [.ref (ad (100 + 5 * t)), .ref (ad 2)] h Q := by
  have fx0 := fx
  refine in_136 (Nat.le_of_ble_eq_true rfl) ?_
  show WR _ cd_136 0 [some (.ref (ad (100 + 5 * t))), some (.ref (ad 2)), none, none, none, none] [] h _
  refine r_aload rfl rfl ?_
  refine r_getI rfl ⟨rfl, rfl, rfl⟩ tu2 ?_
  refine WR_tI (y := 1) e10 ?_
  refine r_ic (x := 3) rfl rfl ?_
  refine r_icmp_ne (tg := 14) rfl rfl (fun _ => ?_) (fun q => absurd q (by decide))
  refine r_ldc (x := .double 4618441417868443648) rfl rfl ?_
  refine r_aload rfl rfl ?_
  refine r_cv (y := 137) (ra := []) (rest := [.double 4618441417868443648]) rfl ⟨⟨rfl, rfl⟩, rfl, by decide⟩ tu2 rfl rfl (Nat.le_of_ble_eq_true rfl) ?_
  exact (C1)

set_option maxHeartbeats 2000000 in
theorem w_tb2 {d : Nat} {Q : mQ} {n : Nat} {ad sa : Nat → Nat} {z0 : Nat} {h : mH} (fx : FX n ad sa z0 h) {t : Nat} (ha : t < n) (n6 : n ≤ 6) (tu2 : hT h (ad (100 + 5 * t)) = 8) (e10 : hI h (ad (100 + 5 * t)) 10 = 2) 
    (C1 : EV (d) 137 [.ref (ad (100 + 5 * t))] h (fun v_ h_ => WR (d) cd_136 21 [some (.ref (ad (100 + 5 * t))), some (.ref (ad 2)), none, none, none, none] (v_.toList ++ [.double 4618441417868443648]) h_ Q)) : EV (d + 1) 136 [.ref (ad (100 + 5 * t)), .ref (ad 2)] h Q := by
  have fx0 := fx
  refine in_136 (Nat.le_of_ble_eq_true rfl) ?_
  show WR _ cd_136 0 [some (.ref (ad (100 + 5 * t))), some (.ref (ad 2)), none, none, none, none] [] h _
  refine r_aload rfl rfl ?_
  refine r_getI rfl ⟨rfl, rfl, rfl⟩ tu2 ?_
  refine WR_tI (y := 2) e10 ?_
  refine r_ic (x := 3) rfl rfl ?_
  refine r_icmp_ne (tg := 14) rfl rfl (fun _ => ?_) (fun q => absurd q (by decide))
  refine r_ldc (x := .double 4618441417868443648) rfl rfl ?_
  refine r_aload rfl rfl ?_
  refine r_cv (y := 137) (ra := []) (rest := [.double 4618441417868443648]) rfl ⟨⟨rfl, rfl⟩, rfl, by decide⟩ tu2 rfl rfl (Nat.le_of_ble_eq_true rfl) ?_
  exact (C1)

set_option maxHeartbeats 2000000 in
theorem w_wb0 {d : Nat} {Q : mQ} {n : Nat} {ad sa : Nat → Nat} {z0 : Nat} {h : mH} (fx : FX n ad sa z0 h) {t : Nat} (ha : t < n) (n6 : n ≤ 6) (tu2 : hT h (ad (100 + 5 * t)) = 8) (e10 : hI h (ad (100 + 5 * t)) 10 = 0) 
    (L1 : Q (some (.int 0)) h) : EV (d + 1) 140 [.ref (ad (100 + 5 * t)), .ref (ad 2)] h Q := by
  have fx0 := fx
  refine in_140 (Nat.le_of_ble_eq_true rfl) ?_
  show WR _ cd_140 0 [some (.ref (ad (100 + 5 * t))), some (.ref (ad 2)), none] [] h _
  refine r_aload rfl rfl ?_
  refine r_getI rfl ⟨rfl, rfl, rfl⟩ tu2 ?_
  refine WR_tI (y := 0) e10 ?_
  refine r_ic (x := 2) rfl rfl ?_
  refine r_icmp_eq (tg := 10) rfl rfl (fun q => absurd q (by decide)) (fun _ => ?_)
  refine r_ic (x := 0) rfl rfl ?_
  refine r_iret rfl ?_
  exact (L1)

set_option maxHeartbeats 2000000 in
theorem w_wb1 {d : Nat} {Q : mQ} {n : Nat} {ad sa : Nat → Nat} {z0 : Nat} {h : mH} (fx : FX n ad sa z0 h) {t : Nat} (ha : t < n) (n6 : n ≤ 6) (tu2 : hT h (ad (100 + 5 * t)) = 8) (e10 : hI h (ad (100 + 5 * t)) 10 = 1) 
    (L1 : Q (some (.int 0)) h) : EV (d + 1) 140 [.ref (ad (100 + 5 * t)), .ref (ad 2)] h Q := by
  have fx0 := fx
  refine in_140 (Nat.le_of_ble_eq_true rfl) ?_
  show WR _ cd_140 0 [some (.ref (ad (100 + 5 * t))), some (.ref (ad 2)), none] [] h _
  refine r_aload rfl rfl ?_
  refine r_getI rfl ⟨rfl, rfl, rfl⟩ tu2 ?_
  refine WR_tI (y := 1) e10 ?_
  refine r_ic (x := 2) rfl rfl ?_
  refine r_icmp_eq (tg := 10) rfl rfl (fun q => absurd q (by decide)) (fun _ => ?_)
  refine r_ic (x := 0) rfl rfl ?_
  refine r_iret rfl ?_
  exact (L1)

set_option maxHeartbeats 2000000 in
theorem w_wb3 {d : Nat} {Q : mQ} {n : Nat} {ad sa : Nat → Nat} {z0 : Nat} {h : mH} (fx : FX n ad sa z0 h) {t : Nat} (ha : t < n) (n6 : n ≤ 6) (tu2 : hT h (ad (100 + 5 * t)) = 8) (e10 : hI h (ad (100 + 5 * t)) 10 = 3) 
    (L1 : Q (some (.int 0)) h) : EV (d + 1) 140 [.ref (ad (100 + 5 * t)), .ref (ad 2)] h Q := by
  have fx0 := fx
  refine in_140 (Nat.le_of_ble_eq_true rfl) ?_
  show WR _ cd_140 0 [some (.ref (ad (100 + 5 * t))), some (.ref (ad 2)), none] [] h _
  refine r_aload rfl rfl ?_
  refine r_getI rfl ⟨rfl, rfl, rfl⟩ tu2 ?_
  refine WR_tI (y := 3) e10 ?_
  refine r_ic (x := 2) rfl rfl ?_
  refine r_icmp_eq (tg := 10) rfl rfl (fun q => absurd q (by decide)) (fun _ => ?_)
  refine r_ic (x := 0) rfl rfl ?_
  refine r_iret rfl ?_
  exact (L1)

set_option maxHeartbeats 2000000 in
theorem w_wb2n {d : Nat} {Q : mQ} {n : Nat} {ad sa : Nat → Nat} {z0 : Nat} {h : mH} (fx : FX n ad sa z0 h) {t : Nat} (ha : t < n) (n6 : n ≤ 6) (tu2 : hT h (ad (100 + 5 * t)) = 8) (r5 : hR h (ad (100 + 5 * t)) 5 = some (ad (101 + 5 * t))) (k1 : hT h (ad (101 + 5 * t)) = 26) (l1 : hN h (ad (101 + 5 * t)) = 5) {w : UInt64} (r4 : hR h (ad (101 + 5 * t)) 4 = none) (e10 : hI h (ad (100 + 5 * t)) 10 = 2) (e12 : hD h (ad (100 + 5 * t)) 12 = w) 
    (L1 : Q (some (.int (-11))) h) : EV (d + 1) 140 [.ref (ad (100 + 5 * t)), .ref (ad 2)] h Q := by
  have fx0 := fx
  refine in_140 (Nat.le_of_ble_eq_true rfl) ?_
  show WR _ cd_140 0 [some (.ref (ad (100 + 5 * t))), some (.ref (ad 2)), none] [] h _
  refine r_aload rfl rfl ?_
  refine r_getI rfl ⟨rfl, rfl, rfl⟩ tu2 ?_
  refine WR_tI (y := 2) e10 ?_
  refine r_ic (x := 2) rfl rfl ?_
  refine r_icmp_eq (tg := 10) rfl rfl (fun _ => ?_) (fun q => absurd q (by decide))
  refine r_aload rfl rfl ?_
  refine r_getA (b := ad (101 + 5 * t)) rfl ⟨rfl, rfl, rfl⟩ tu2 r5 ?_
  refine r_ic (x := 4) rfl rfl ?_
  refine r_aaload0 rfl (isQ_of k1 (by decide)) (vp_ct l1 (vp_in_nI (n := 4) (by omega) (by omega))) r4 ?_
  refine r_astore0 (lv' := [some (.ref (ad (100 + 5 * t))), some (.ref (ad 2)), some (.null)]) rfl (Nat.le_of_ble_eq_true rfl) rfl ?_
  refine r_aload0 rfl rfl ?_
  refine r_ifnonnullN (tg := 26) rfl rfl ?_
  refine r_ic (x := (-11)) rfl rfl ?_
  refine r_goto (tg := 42) rfl rfl ?_
  refine r_iret rfl ?_
  exact (L1)

set_option maxHeartbeats 2000000 in
theorem w_wb2s {d : Nat} {Q : mQ} {n : Nat} {ad sa : Nat → Nat} {z0 : Nat} {h : mH} (fx : FX n ad sa z0 h) {t : Nat} (ha : t < n) (n6 : n ≤ 6) (tu2 : hT h (ad (100 + 5 * t)) = 8) (r5 : hR h (ad (100 + 5 * t)) 5 = some (ad (101 + 5 * t))) (k1 : hT h (ad (101 + 5 * t)) = 26) (l1 : hN h (ad (101 + 5 * t)) = 5) {w : UInt64} {x : Nat} (tx : hT h x = 4) (r4 : hR h (ad (101 + 5 * t)) 4 = some x) (e10 : hI h (ad (100 + 5 * t)) 10 = 2) (e12 : hD h (ad (100 + 5 * t)) 12 = w) 
    (C1 : EV (d) 70 [.ref x, .int (if (FP.d2i w) < 10000 then (FP.d2i w) else 10000), .ref (ad 2)] h (fun v_ h_ => WR (d) cd_140 42 [some (.ref (ad (100 + 5 * t))), some (.ref (ad 2)), some (.ref x)] (v_.toList ++ []) h_ Q)) : EV (d + 1) 140 [.ref (ad (100 + 5 * t)), .ref (ad 2)] h Q := by
  have fx0 := fx
  refine in_140 (Nat.le_of_ble_eq_true rfl) ?_
  show WR _ cd_140 0 [some (.ref (ad (100 + 5 * t))), some (.ref (ad 2)), none] [] h _
  refine r_aload rfl rfl ?_
  refine r_getI rfl ⟨rfl, rfl, rfl⟩ tu2 ?_
  refine WR_tI (y := 2) e10 ?_
  refine r_ic (x := 2) rfl rfl ?_
  refine r_icmp_eq (tg := 10) rfl rfl (fun _ => ?_) (fun q => absurd q (by decide))
  refine r_aload rfl rfl ?_
  refine r_getA (b := ad (101 + 5 * t)) rfl ⟨rfl, rfl, rfl⟩ tu2 r5 ?_
  refine r_ic (x := 4) rfl rfl ?_
  refine r_aaloadA (b := x) rfl (isQ_of k1 (by decide)) (vp_ct l1 (vp_in_nI (n := 4) (by omega) (by omega))) r4 ?_
  refine r_astore (lv' := [some (.ref (ad (100 + 5 * t))), some (.ref (ad 2)), some (.ref x)]) rfl (Nat.le_of_ble_eq_true rfl) rfl ?_
  refine r_aload rfl rfl ?_
  refine r_ifnonnullA (tg := 26) rfl rfl ?_
  refine r_aload rfl rfl ?_
  refine r_ic (x := 10000) rfl rfl ?_
  refine r_aload rfl rfl ?_
  refine r_getD rfl ⟨rfl, rfl, rfl⟩ tu2 ?_
  refine WR_tD (y := w) e12 ?_
  refine r_d2i rfl ?_
  refine r_min rfl (Nat.le_of_ble_eq_true rfl) ?_
  refine r_aload rfl rfl ?_
  refine r_cv (y := 70) (ra := [.ref (ad 2), .int (if (FP.d2i w) < 10000 then (FP.d2i w) else 10000)]) (rest := []) rfl ⟨⟨rfl, rfl⟩, rfl, by decide⟩ tx rfl rfl (Nat.le_of_ble_eq_true rfl) ?_
  exact (C1)

set_option maxHeartbeats 2000000 in
theorem w_wbr {d : Nat} {Q : mQ} {n : Nat} {ad sa : Nat → Nat} {z0 : Nat} {h : mH} (fx : FX n ad sa z0 h) {t x : Nat} {f : Int32} 
    (L1 : Q (some (.int f)) h) : WR (d) cd_140 42 [some (.ref (ad (100 + 5 * t))), some (.ref (ad 2)), some (.ref x)] [.int f] h Q := by
  have fx0 := fx
  refine r_iret rfl ?_
  exact (L1)

set_option maxHeartbeats 2000000 in
theorem w_gt4 {d : Nat} {Q : mQ} {n : Nat} {ad sa : Nat → Nat} {z0 : Nat} {h : mH} (fx : FX n ad sa z0 h) {t : Nat} (ha : t < n) (n6 : n ≤ 6) (tu2 : hT h (ad (100 + 5 * t)) = 8) {k : Nat} (k6 : k < n) (ek : hR h (ad 8) k = some (ad (100 + 5 * t))) {u : UInt64} (e10 : hI h (ad (100 + 5 * t)) 10 = 4) (e15 : hD h (ad (100 + 5 * t)) 15 = u) 
    (B1 : vf_n64 (FP.dmul u 4602678819172646912))
    (C1 : EV (d) 129 [.ref (ad (100 + 5 * t))] (sD h (ad (100 + 5 * t)) 15 (FP.dmul u 4602678819172646912)) (fun v_ h_ => WR (d) cd_128 31 [some (.ref (ad 4)), some (.int (nI k)), some (.ref (ad 2)), some (.ref (ad (100 + 5 * t))), none, none] (v_.toList ++ []) h_ Q)) : EV (d + 1) 128 [.ref (ad 4), .int (nI k), .ref (ad 2)] h Q := by
  have fx0 := fx
  refine in_128 (Nat.le_of_ble_eq_true rfl) ?_
  show WR _ cd_128 0 [some (.ref (ad 4)), some (.int (nI k)), some (.ref (ad 2)), none, none, none] [] h _
  refine r_aload rfl rfl ?_
  refine r_getA (b := ad 8) rfl ⟨rfl, rfl, rfl⟩ (fx_t4 fx) (fx_r4_6 fx) ?_
  refine r_iload rfl rfl ?_
  refine r_aaloadA (b := ad (100 + 5 * t)) rfl (isQ_of (fx_t8 fx) (by decide)) (vp_ct (fx_n8 fx) (vp_in_nI (by omega) (by omega))) (Eq.trans (congrArg (hR h (ad 8)) ((nI_clamp (by omega)) : _ = k)) ek) ?_
  refine r_astore (lv' := [some (.ref (ad 4)), some (.int (nI k)), some (.ref (ad 2)), some (.ref (ad (100 + 5 * t))), none, none]) rfl (Nat.le_of_ble_eq_true rfl) rfl ?_
  refine r_aload rfl rfl ?_
  refine r_getI rfl ⟨rfl, rfl, rfl⟩ tu2 ?_
  refine WR_tI (y := 4) e10 ?_
  refine r_ic (x := 4) rfl rfl ?_
  refine r_icmp_ne (tg := 33) rfl rfl (fun q => absurd q (by decide)) (fun _ => ?_)
  refine r_aload rfl rfl ?_
  refine r_aload rfl rfl ?_
  refine r_getD rfl ⟨rfl, rfl, rfl⟩ tu2 ?_
  refine WR_tD (y := u) e15 ?_
  refine r_ldc (x := .double 4602678819172646912) rfl rfl ?_
  refine r_dmul rfl (B1) ?_
  refine r_putD rfl ⟨rfl, rfl, rfl⟩ tu2 ?_
  have fx : FX n ad sa z0 (sD h (ad (100 + 5 * t)) 15 (FP.dmul u 4602678819172646912)) := (FX.sD fx)
  refine r_aload rfl rfl ?_
  refine r_cv (y := 129) (ra := []) (rest := []) rfl ⟨⟨rfl, rfl⟩, rfl, by decide⟩ tu2 rfl rfl (Nat.le_of_ble_eq_true rfl) ?_
  exact (C1)

set_option maxHeartbeats 2000000 in
theorem w_gt4r {d : Nat} {Q : mQ} {n : Nat} {ad sa : Nat → Nat} {z0 : Nat} {h : mH} (fx : FX n ad sa z0 h) {t k : Nat} {o4 o5 : Option Value} 
    (L1 : Q (some (.int 0)) h) : WR (d) cd_128 31 [some (.ref (ad 4)), some (.int (nI k)), some (.ref (ad 2)), some (.ref (ad (100 + 5 * t))), o4, o5] [] h Q := by
  have fx0 := fx
  refine r_ic (x := 0) rfl rfl ?_
  refine r_iret rfl ?_
  exact (L1)

set_option maxHeartbeats 2000000 in
theorem w_gt0 {d : Nat} {Q : mQ} {n : Nat} {ad sa : Nat → Nat} {z0 : Nat} {h : mH} (fx : FX n ad sa z0 h) {t : Nat} (ha : t < n) (n6 : n ≤ 6) (tu2 : hT h (ad (100 + 5 * t)) = 8) {k : Nat} (k6 : k < n) (ek : hR h (ad 8) k = some (ad (100 + 5 * t))) (e10 : hI h (ad (100 + 5 * t)) 10 = 0) 
    (C1 : EV (d) 130 [.ref (ad 4), .ref (ad (100 + 5 * t))] h (fun v_ h_ => WR (d) cd_128 39 [some (.ref (ad 4)), some (.int (nI k)), some (.ref (ad 2)), some (.ref (ad (100 + 5 * t))), none, none] (v_.toList ++ [.ref (ad (100 + 5 * t))]) h_ Q)) : EV (d + 1) 128 [.ref (ad 4), .int (nI k), .ref (ad 2)] h Q := by
  have fx0 := fx
  refine in_128 (Nat.le_of_ble_eq_true rfl) ?_
  show WR _ cd_128 0 [some (.ref (ad 4)), some (.int (nI k)), some (.ref (ad 2)), none, none, none] [] h _
  refine r_aload rfl rfl ?_
  refine r_getA (b := ad 8) rfl ⟨rfl, rfl, rfl⟩ (fx_t4 fx) (fx_r4_6 fx) ?_
  refine r_iload rfl rfl ?_
  refine r_aaloadA (b := ad (100 + 5 * t)) rfl (isQ_of (fx_t8 fx) (by decide)) (vp_ct (fx_n8 fx) (vp_in_nI (by omega) (by omega))) (Eq.trans (congrArg (hR h (ad 8)) ((nI_clamp (by omega)) : _ = k)) ek) ?_
  refine r_astore (lv' := [some (.ref (ad 4)), some (.int (nI k)), some (.ref (ad 2)), some (.ref (ad (100 + 5 * t))), none, none]) rfl (Nat.le_of_ble_eq_true rfl) rfl ?_
  refine r_aload rfl rfl ?_
  refine r_getI rfl ⟨rfl, rfl, rfl⟩ tu2 ?_
  refine WR_tI (y := 0) e10 ?_
  refine r_ic (x := 4) rfl rfl ?_
  refine r_icmp_ne (tg := 33) rfl rfl (fun _ => ?_) (fun q => absurd q (by decide))
  refine r_aload rfl rfl ?_
  refine r_aload rfl rfl ?_
  refine r_aload rfl rfl ?_
  refine r_cv (y := 130) (ra := [.ref (ad (100 + 5 * t))]) (rest := [.ref (ad (100 + 5 * t))]) rfl ⟨⟨rfl, rfl⟩, rfl, by decide⟩ (fx_t4 fx) rfl rfl (Nat.le_of_ble_eq_true rfl) ?_
  exact (C1)

set_option maxHeartbeats 2000000 in
theorem w_gt1 {d : Nat} {Q : mQ} {n : Nat} {ad sa : Nat → Nat} {z0 : Nat} {h : mH} (fx : FX n ad sa z0 h) {t : Nat} (ha : t < n) (n6 : n ≤ 6) (tu2 : hT h (ad (100 + 5 * t)) = 8) {k : Nat} (k6 : k < n) (ek : hR h (ad 8) k = some (ad (100 + 5 * t))) (e10 : hI h (ad (100 + 5 * t)) 10 = 1) 
    (C1 : EV (d) 130 [.ref (ad 4), .ref (ad (100 + 5 * t))] h (fun v_ h_ => WR (d) cd_128 39 [some (.ref (ad 4)), some (.int (nI k)), some (.ref (ad 2)), some (.ref (ad (100 + 5 * t))), none, none] (v_.toList ++ [.ref (ad (100 + 5 * t))]) h_ Q)) : EV (d + 1) 128 [.ref (ad 4), .int (nI k), .ref (ad 2)] h Q := by
  have fx0 := fx
  refine in_128 (Nat.le_of_ble_eq_true rfl) ?_
  show WR _ cd_128 0 [some (.ref (ad 4)), some (.int (nI k)), some (.ref (ad 2)), none, none, none] [] h _
  refine r_aload rfl rfl ?_
  refine r_getA (b := ad 8) rfl ⟨rfl, rfl, rfl⟩ (fx_t4 fx) (fx_r4_6 fx) ?_
  refine r_iload rfl rfl ?_
  refine r_aaloadA (b := ad (100 + 5 * t)) rfl (isQ_of (fx_t8 fx) (by decide)) (vp_ct (fx_n8 fx) (vp_in_nI (by omega) (by omega))) (Eq.trans (congrArg (hR h (ad 8)) ((nI_clamp (by omega)) : _ = k)) ek) ?_
  refine r_astore (lv' := [some (.ref (ad 4)), some (.int (nI k)), some (.ref (ad 2)), some (.ref (ad (100 + 5 * t))), none, none]) rfl (Nat.le_of_ble_eq_true rfl) rfl ?_
  refine r_aload rfl rfl ?_
  refine r_getI rfl ⟨rfl, rfl, rfl⟩ tu2 ?_
  refine WR_tI (y := 1) e10 ?_
  refine r_ic (x := 4) rfl rfl ?_
  refine r_icmp_ne (tg := 33) rfl rfl (fun _ => ?_) (fun q => absurd q (by decide))
  refine r_aload rfl rfl ?_
  refine r_aload rfl rfl ?_
  refine r_aload rfl rfl ?_
  refine r_cv (y := 130) (ra := [.ref (ad (100 + 5 * t))]) (rest := [.ref (ad (100 + 5 * t))]) rfl ⟨⟨rfl, rfl⟩, rfl, by decide⟩ (fx_t4 fx) rfl rfl (Nat.le_of_ble_eq_true rfl) ?_
  exact (C1)

set_option maxHeartbeats 2000000 in
theorem w_gt2 {d : Nat} {Q : mQ} {n : Nat} {ad sa : Nat → Nat} {z0 : Nat} {h : mH} (fx : FX n ad sa z0 h) {t : Nat} (ha : t < n) (n6 : n ≤ 6) (tu2 : hT h (ad (100 + 5 * t)) = 8) {k : Nat} (k6 : k < n) (ek : hR h (ad 8) k = some (ad (100 + 5 * t))) (e10 : hI h (ad (100 + 5 * t)) 10 = 2) 
    (C1 : EV (d) 130 [.ref (ad 4), .ref (ad (100 + 5 * t))] h (fun v_ h_ => WR (d) cd_128 39 [some (.ref (ad 4)), some (.int (nI k)), some (.ref (ad 2)), some (.ref (ad (100 + 5 * t))), none, none] (v_.toList ++ [.ref (ad (100 + 5 * t))]) h_ Q)) : EV (d + 1) 128 [.ref (ad 4), .int (nI k), .ref (ad 2)] h Q := by
  have fx0 := fx
  refine in_128 (Nat.le_of_ble_eq_true rfl) ?_
  show WR _ cd_128 0 [some (.ref (ad 4)), some (.int (nI k)), some (.ref (ad 2)), none, none, none] [] h _
  refine r_aload rfl rfl ?_
  refine r_getA (b := ad 8) rfl ⟨rfl, rfl, rfl⟩ (fx_t4 fx) (fx_r4_6 fx) ?_
  refine r_iload rfl rfl ?_
  refine r_aaloadA (b := ad (100 + 5 * t)) rfl (isQ_of (fx_t8 fx) (by decide)) (vp_ct (fx_n8 fx) (vp_in_nI (by omega) (by omega))) (Eq.trans (congrArg (hR h (ad 8)) ((nI_clamp (by omega)) : _ = k)) ek) ?_
  refine r_astore (lv' := [some (.ref (ad 4)), some (.int (nI k)), some (.ref (ad 2)), some (.ref (ad (100 + 5 * t))), none, none]) rfl (Nat.le_of_ble_eq_true rfl) rfl ?_
  refine r_aload rfl rfl ?_
  refine r_getI rfl ⟨rfl, rfl, rfl⟩ tu2 ?_
  refine WR_tI (y := 2) e10 ?_
  refine r_ic (x := 4) rfl rfl ?_
  refine r_icmp_ne (tg := 33) rfl rfl (fun _ => ?_) (fun q => absurd q (by decide))
  refine r_aload rfl rfl ?_
  refine r_aload rfl rfl ?_
  refine r_aload rfl rfl ?_
  refine r_cv (y := 130) (ra := [.ref (ad (100 + 5 * t))]) (rest := [.ref (ad (100 + 5 * t))]) rfl ⟨⟨rfl, rfl⟩, rfl, by decide⟩ (fx_t4 fx) rfl rfl (Nat.le_of_ble_eq_true rfl) ?_
  exact (C1)

set_option maxHeartbeats 2000000 in
theorem w_gt3 {d : Nat} {Q : mQ} {n : Nat} {ad sa : Nat → Nat} {z0 : Nat} {h : mH} (fx : FX n ad sa z0 h) {t : Nat} (ha : t < n) (n6 : n ≤ 6) (tu2 : hT h (ad (100 + 5 * t)) = 8) {k : Nat} (k6 : k < n) (ek : hR h (ad 8) k = some (ad (100 + 5 * t))) (e10 : hI h (ad (100 + 5 * t)) 10 = 3) 
    (C1 : EV (d) 130 [.ref (ad 4), .ref (ad (100 + 5 * t))] h (fun v_ h_ => WR (d) cd_128 39 [some (.ref (ad 4)), some (.int (nI k)), some (.ref (ad 2)), some (.ref (ad (100 + 5 * t))), none, none] (v_.toList ++ [.ref (ad (100 + 5 * t))]) h_ Q)) : EV (d + 1) 128 [.ref (ad 4), .int (nI k), .ref (ad 2)] h Q := by
  have fx0 := fx
  refine in_128 (Nat.le_of_ble_eq_true rfl) ?_
  show WR _ cd_128 0 [some (.ref (ad 4)), some (.int (nI k)), some (.ref (ad 2)), none, none, none] [] h _
  refine r_aload rfl rfl ?_
  refine r_getA (b := ad 8) rfl ⟨rfl, rfl, rfl⟩ (fx_t4 fx) (fx_r4_6 fx) ?_
  refine r_iload rfl rfl ?_
  refine r_aaloadA (b := ad (100 + 5 * t)) rfl (isQ_of (fx_t8 fx) (by decide)) (vp_ct (fx_n8 fx) (vp_in_nI (by omega) (by omega))) (Eq.trans (congrArg (hR h (ad 8)) ((nI_clamp (by omega)) : _ = k)) ek) ?_
  refine r_astore (lv' := [some (.ref (ad 4)), some (.int (nI k)), some (.ref (ad 2)), some (.ref (ad (100 + 5 * t))), none, none]) rfl (Nat.le_of_ble_eq_true rfl) rfl ?_
  refine r_aload rfl rfl ?_
  refine r_getI rfl ⟨rfl, rfl, rfl⟩ tu2 ?_
  refine WR_tI (y := 3) e10 ?_
  refine r_ic (x := 4) rfl rfl ?_
  refine r_icmp_ne (tg := 33) rfl rfl (fun _ => ?_) (fun q => absurd q (by decide))
  refine r_aload rfl rfl ?_
  refine r_aload rfl rfl ?_
  refine r_aload rfl rfl ?_
  refine r_cv (y := 130) (ra := [.ref (ad (100 + 5 * t))]) (rest := [.ref (ad (100 + 5 * t))]) rfl ⟨⟨rfl, rfl⟩, rfl, by decide⟩ (fx_t4 fx) rfl rfl (Nat.le_of_ble_eq_true rfl) ?_
  exact (C1)

set_option maxHeartbeats 2000000 in
theorem w_gt39 {d : Nat} {Q : mQ} {n : Nat} {ad sa : Nat → Nat} {z0 : Nat} {h : mH} (fx : FX n ad sa z0 h) {t : Nat} (ha : t < n) (n6 : n ≤ 6) (tu2 : hT h (ad (100 + 5 * t)) = 8) {k : Nat} {o4 o5 : Option Value} {v : Int64} 
    (C1 : EV (d) 129 [.ref (ad (100 + 5 * t))] (sL h (ad (100 + 5 * t)) 11 v) (fun v_ h_ => WR (d) cd_128 46 [some (.ref (ad 4)), some (.int (nI k)), some (.ref (ad 2)), some (.ref (ad (100 + 5 * t))), o4, o5] (v_.toList ++ []) h_ Q)) : WR (d) cd_128 39 [some (.ref (ad 4)), some (.int (nI k)), some (.ref (ad 2)), some (.ref (ad (100 + 5 * t))), o4, o5] [.long v, .ref (ad (100 + 5 * t))] h Q := by
  have fx0 := fx
  refine r_putL rfl ⟨rfl, rfl, rfl⟩ tu2 ?_
  have fx : FX n ad sa z0 (sL h (ad (100 + 5 * t)) 11 v) := (FX.sL fx)
  refine r_aload rfl rfl ?_
  refine r_cv (y := 129) (ra := []) (rest := []) rfl ⟨⟨rfl, rfl⟩, rfl, by decide⟩ tu2 rfl rfl (Nat.le_of_ble_eq_true rfl) ?_
  exact (C1)

set_option maxHeartbeats 2000000 in
theorem w_gt46 {d : Nat} {Q : mQ} {n : Nat} {ad sa : Nat → Nat} {z0 : Nat} {h : mH} (fx : FX n ad sa z0 h) {t : Nat} (ha : t < n) (n6 : n ≤ 6) (tu2 : hT h (ad (100 + 5 * t)) = 8) {k : Nat} {o4 o5 : Option Value} {v : Int64} (e11 : hL h (ad (100 + 5 * t)) 11 = v) 
    (C1 : ¬ v = 9221120237041090560 → EV (d + 1) 85 [.long v] h (fun v_ h_ => WR (d + 1) cd_128 65 [some (.ref (ad 4)), some (.int (nI k)), some (.ref (ad 2)), some (.ref (ad (100 + 5 * t))), o4, o5] (v_.toList ++ [.ref (ad (100 + 5 * t))]) h_ Q))
    (K1 : v = 9221120237041090560 → WR (d + 1) cd_128 76 [some (.ref (ad 4)), some (.int (nI k)), some (.ref (ad 2)), some (.ref (ad (100 + 5 * t))), o4, o5] [] (sD h (ad (100 + 5 * t)) 12 0) Q) : WR (d + 1) cd_128 46 [some (.ref (ad 4)), some (.int (nI k)), some (.ref (ad 2)), some (.ref (ad (100 + 5 * t))), o4, o5] [] h Q := by
  have fx0 := fx
  refine r_aload rfl rfl ?_
  refine r_aload rfl rfl ?_
  refine r_cv (y := 132) (ra := []) (rest := [.ref (ad (100 + 5 * t))]) rfl ⟨⟨rfl, rfl⟩, rfl, by decide⟩ tu2 rfl rfl (Nat.le_of_ble_eq_true rfl) ?_
  refine in_132 (Nat.le_of_ble_eq_true rfl) ?_
  show WR _ cd_132 0 [some (.ref (ad (100 + 5 * t)))] [] h _
  refine r_aload rfl rfl ?_
  refine r_getL rfl ⟨rfl, rfl, rfl⟩ tu2 ?_
  refine WR_tL (y := v) e11 ?_
  refine r_ldc (x := .long 9221120237041090560) rfl rfl ?_
  refine r_lif_ne (tg := 15) rfl rfl rfl (fun c1 => ?_) (fun c1 => ?_)
  · refine r_ic (x := 0) rfl rfl ?_
    refine r_zret rfl (.inl rfl) ?_
    show WR _ cd_128 51 [some (.ref (ad 4)), some (.int (nI k)), some (.ref (ad 2)), some (.ref (ad (100 + 5 * t))), o4, o5] [.int 0, .ref (ad (100 + 5 * t))] h _
    refine r_if_eq (tg := 58) rfl rfl (fun _ => ?_) (fun q => absurd q (by decide))
    refine r_aload rfl rfl ?_
    refine r_getL rfl ⟨rfl, rfl, rfl⟩ tu2 ?_
    refine WR_tL (y := v) e11 ?_
    refine r_cs (y := 85) (ra := [.long v]) (rest := [.ref (ad (100 + 5 * t))]) rfl ⟨⟨rfl, rfl⟩, by decide⟩ rfl rfl (Nat.le_of_ble_eq_true rfl) ?_
    exact (C1 c1)
  · refine r_ic (x := 1) rfl rfl ?_
    refine r_goto (tg := 16) rfl rfl ?_
    refine r_zret rfl (.inr rfl) ?_
    show WR _ cd_128 51 [some (.ref (ad 4)), some (.int (nI k)), some (.ref (ad 2)), some (.ref (ad (100 + 5 * t))), o4, o5] [.int 1, .ref (ad (100 + 5 * t))] h _
    refine r_if_eq (tg := 58) rfl rfl (fun q => absurd q (by decide)) (fun _ => ?_)
    refine r_dc (x := 0) rfl rfl ?_
    refine r_goto (tg := 73) rfl rfl ?_
    refine r_putD rfl ⟨rfl, rfl, rfl⟩ tu2 ?_
    exact (K1 c1)

set_option maxHeartbeats 2000000 in
theorem w_gt65 {d : Nat} {Q : mQ} {n : Nat} {ad sa : Nat → Nat} {z0 : Nat} {h : mH} (fx : FX n ad sa z0 h) {t : Nat} (ha : t < n) (n6 : n ≤ 6) (tu2 : hT h (ad (100 + 5 * t)) = 8) {k : Nat} {o4 o5 : Option Value} {x : UInt64} 
    (C1 : EV (d) 133 [.ref (ad 4), .int (nI k)] h (fun v_ h_ => WR (d) cd_128 71 [some (.ref (ad 4)), some (.int (nI k)), some (.ref (ad 2)), some (.ref (ad (100 + 5 * t))), o4, o5] (v_.toList ++ [.double 4607182418800017408, .double x, .ref (ad (100 + 5 * t))]) h_ Q)) : WR (d) cd_128 65 [some (.ref (ad 4)), some (.int (nI k)), some (.ref (ad 2)), some (.ref (ad (100 + 5 * t))), o4, o5] [.double x, .ref (ad (100 + 5 * t))] h Q := by
  have fx0 := fx
  refine r_dc (x := 4607182418800017408) rfl rfl ?_
  refine r_aload rfl rfl ?_
  refine r_iload rfl rfl ?_
  refine r_cv (y := 133) (ra := [.int (nI k)]) (rest := [.double 4607182418800017408, .double x, .ref (ad (100 + 5 * t))]) rfl ⟨⟨rfl, rfl⟩, rfl, by decide⟩ (fx_t4 fx) rfl rfl (Nat.le_of_ble_eq_true rfl) ?_
  exact (C1)

set_option maxHeartbeats 2000000 in
theorem w_gt71 {d : Nat} {Q : mQ} {n : Nat} {ad sa : Nat → Nat} {z0 : Nat} {h : mH} (fx : FX n ad sa z0 h) {t : Nat} (ha : t < n) (n6 : n ≤ 6) (tu2 : hT h (ad (100 + 5 * t)) = 8) {k : Nat} {o4 o5 : Option Value} {x y : UInt64} 
    (B1 : vf_n64 (FP.dsub 4607182418800017408 y))
    (B2 : vf_n64 (FP.dmul x (FP.dsub 4607182418800017408 y)))
    (K1 : WR (d) cd_128 76 [some (.ref (ad 4)), some (.int (nI k)), some (.ref (ad 2)), some (.ref (ad (100 + 5 * t))), o4, o5] [] (sD h (ad (100 + 5 * t)) 12 (FP.dmul x (FP.dsub 4607182418800017408 y))) Q) : WR (d) cd_128 71 [some (.ref (ad 4)), some (.int (nI k)), some (.ref (ad 2)), some (.ref (ad (100 + 5 * t))), o4, o5] [.double y, .double 4607182418800017408, .double x, .ref (ad (100 + 5 * t))] h Q := by
  have fx0 := fx
  refine r_dsub rfl (B1) ?_
  refine r_dmul rfl (B2) ?_
  refine r_putD rfl ⟨rfl, rfl, rfl⟩ tu2 ?_
  exact (K1)

set_option maxHeartbeats 2000000 in
theorem w_gt76 {d : Nat} {Q : mQ} {n : Nat} {ad sa : Nat → Nat} {z0 : Nat} {h : mH} (fx : FX n ad sa z0 h) {t : Nat} (ha : t < n) (n6 : n ≤ 6) (tu2 : hT h (ad (100 + 5 * t)) = 8) {k : Nat} {o4 o5 : Option Value} 
    (C1 : EV (d) 135 [.ref (ad (100 + 5 * t))] h (fun v_ h_ => WR (d) cd_128 80 [some (.ref (ad 4)), some (.int (nI k)), some (.ref (ad 2)), some (.ref (ad (100 + 5 * t))), o4, o5] (v_.toList ++ []) h_ Q)) : WR (d) cd_128 76 [some (.ref (ad 4)), some (.int (nI k)), some (.ref (ad 2)), some (.ref (ad (100 + 5 * t))), o4, o5] [] h Q := by
  have fx0 := fx
  refine r_aload rfl rfl ?_
  refine r_cv (y := 135) (ra := []) (rest := []) rfl ⟨⟨rfl, rfl⟩, rfl, by decide⟩ tu2 rfl rfl (Nat.le_of_ble_eq_true rfl) ?_
  exact (C1)

set_option maxHeartbeats 2000000 in
theorem w_gt80 {d : Nat} {Q : mQ} {n : Nat} {ad sa : Nat → Nat} {z0 : Nat} {h : mH} (fx : FX n ad sa z0 h) {t : Nat} (ha : t < n) (n6 : n ≤ 6) (tu2 : hT h (ad (100 + 5 * t)) = 8) {k : Nat} {o4 o5 : Option Value} 
    (C1 : EV (d) 136 [.ref (ad (100 + 5 * t)), .ref (ad 2)] h (fun v_ h_ => WR (d) cd_128 88 [some (.ref (ad 4)), some (.int (nI k)), some (.ref (ad 2)), some (.ref (ad (100 + 5 * t))), some (.int 3), o5] (v_.toList ++ []) h_ Q)) : WR (d) cd_128 80 [some (.ref (ad 4)), some (.int (nI k)), some (.ref (ad 2)), some (.ref (ad (100 + 5 * t))), o4, o5] [] h Q := by
  have fx0 := fx
  refine r_ic (x := 3) rfl rfl ?_
  refine r_istore (lv' := [some (.ref (ad 4)), some (.int (nI k)), some (.ref (ad 2)), some (.ref (ad (100 + 5 * t))), some (.int 3), o5]) rfl (Nat.le_of_ble_eq_true rfl) rfl ?_
  refine r_aload rfl rfl ?_
  refine r_aload rfl rfl ?_
  refine r_cv (y := 136) (ra := [.ref (ad 2)]) (rest := []) rfl ⟨⟨rfl, rfl⟩, rfl, by decide⟩ tu2 rfl rfl (Nat.le_of_ble_eq_true rfl) ?_
  exact (C1)

set_option maxHeartbeats 2000000 in
theorem w_gt88 {d : Nat} {Q : mQ} {n : Nat} {ad sa : Nat → Nat} {z0 : Nat} {h : mH} (fx : FX n ad sa z0 h) {t : Nat} (ha : t < n) (n6 : n ≤ 6) (tu2 : hT h (ad (100 + 5 * t)) = 8) {k : Nat} {o5 : Option Value} {f : Int32} 
    (K1 : ¬ f = 0 → WR (d) cd_128 116 [some (.ref (ad 4)), some (.int (nI k)), some (.ref (ad 2)), some (.ref (ad (100 + 5 * t))), some (.int 3), some (.int f)] [] h Q)
    (C1 : f = 0 → EV (d) 139 [.ref (ad (100 + 5 * t))] h (fun v_ h_ => WR (d) cd_128 99 [some (.ref (ad 4)), some (.int (nI k)), some (.ref (ad 2)), some (.ref (ad (100 + 5 * t))), some (.int 3), some (.int f)] (v_.toList ++ []) h_ Q)) : WR (d) cd_128 88 [some (.ref (ad 4)), some (.int (nI k)), some (.ref (ad 2)), some (.ref (ad (100 + 5 * t))), some (.int 3), o5] [.int f] h Q := by
  have fx0 := fx
  refine r_istore (lv' := [some (.ref (ad 4)), some (.int (nI k)), some (.ref (ad 2)), some (.ref (ad (100 + 5 * t))), some (.int 3), some (.int f)]) rfl (Nat.le_of_ble_eq_true rfl) rfl ?_
  refine r_iload rfl rfl ?_
  refine r_if_ne (tg := 109) rfl rfl (fun c1 => ?_) (fun c1 => ?_)
  · refine r_iload rfl rfl ?_
    refine r_if_ne (tg := 116) rfl rfl (fun _ => ?_) (fun q => absurd q c1)
    exact (K1 c1)
  · refine r_aload rfl rfl ?_
    refine r_cv (y := 139) (ra := []) (rest := []) rfl ⟨⟨rfl, rfl⟩, rfl, by decide⟩ tu2 rfl rfl (Nat.le_of_ble_eq_true rfl) ?_
    exact (C1 c1)

set_option maxHeartbeats 2000000 in
theorem w_gt99 {d : Nat} {Q : mQ} {n : Nat} {ad sa : Nat → Nat} {z0 : Nat} {h : mH} (fx : FX n ad sa z0 h) {t : Nat} (ha : t < n) (n6 : n ≤ 6) (tu2 : hT h (ad (100 + 5 * t)) = 8) {k : Nat} {f : Int32} 
    (C1 : EV (d) 140 [.ref (ad (100 + 5 * t)), .ref (ad 2)] h (fun v_ h_ => WR (d) cd_128 107 [some (.ref (ad 4)), some (.int (nI k)), some (.ref (ad 2)), some (.ref (ad (100 + 5 * t))), some (.int 4), some (.int f)] (v_.toList ++ []) h_ Q)) : WR (d) cd_128 99 [some (.ref (ad 4)), some (.int (nI k)), some (.ref (ad 2)), some (.ref (ad (100 + 5 * t))), some (.int 3), some (.int f)] [] h Q := by
  have fx0 := fx
  refine r_ic (x := 4) rfl rfl ?_
  refine r_istore (lv' := [some (.ref (ad 4)), some (.int (nI k)), some (.ref (ad 2)), some (.ref (ad (100 + 5 * t))), some (.int 4), some (.int f)]) rfl (Nat.le_of_ble_eq_true rfl) rfl ?_
  refine r_aload rfl rfl ?_
  refine r_aload rfl rfl ?_
  refine r_cv (y := 140) (ra := [.ref (ad 2)]) (rest := []) rfl ⟨⟨rfl, rfl⟩, rfl, by decide⟩ tu2 rfl rfl (Nat.le_of_ble_eq_true rfl) ?_
  exact (C1)

set_option maxHeartbeats 2000000 in
theorem w_gt107 {d : Nat} {Q : mQ} {n : Nat} {ad sa : Nat → Nat} {z0 : Nat} {h : mH} (fx : FX n ad sa z0 h) {t : Nat} (ha : t < n) (n6 : n ≤ 6) (tu2 : hT h (ad (100 + 5 * t)) = 8) {k : Nat} {o5 : Option Value} {f : Int32} 
    (K1 : ¬ f = 0 → WR (d) cd_128 116 [some (.ref (ad 4)), some (.int (nI k)), some (.ref (ad 2)), some (.ref (ad (100 + 5 * t))), some (.int 4), some (.int f)] [] h Q)
    (L1 : f = 0 → Q (some (.int 0)) h) : WR (d) cd_128 107 [some (.ref (ad 4)), some (.int (nI k)), some (.ref (ad 2)), some (.ref (ad (100 + 5 * t))), some (.int 4), o5] [.int f] h Q := by
  have fx0 := fx
  refine r_istore (lv' := [some (.ref (ad 4)), some (.int (nI k)), some (.ref (ad 2)), some (.ref (ad (100 + 5 * t))), some (.int 4), some (.int f)]) rfl (Nat.le_of_ble_eq_true rfl) rfl ?_
  refine r_iload rfl rfl ?_
  refine r_if_ne (tg := 116) rfl rfl (fun c1 => ?_) (fun c1 => ?_)
  · exact (K1 c1)
  · refine r_ic (x := 0) rfl rfl ?_
    refine r_iret rfl ?_
    exact (L1 c1)

set_option maxHeartbeats 2000000 in
theorem w_gt116_3 {d : Nat} {Q : mQ} {n : Nat} {ad sa : Nat → Nat} {z0 : Nat} {h : mH} (fx : FX n ad sa z0 h) {t : Nat} (ha : t < n) (n6 : n ≤ 6) (tu2 : hT h (ad (100 + 5 * t)) = 8) {k : Nat} {f : Int32} (e0 : hI h (ad (100 + 5 * t)) 0 = nI t) 
    (C1 : EV (d) 141 [.ref (ad 4), .int (nI t), .int 3, .int ((-10) - f)] (sD (sI h (ad (100 + 5 * t)) 10 4) (ad (100 + 5 * t)) 14 0) (fun v_ h_ => WR (d) cd_128 141 [some (.ref (ad 4)), some (.int (nI k)), some (.ref (ad 2)), some (.ref (ad (100 + 5 * t))), some (.int 3), some (.int f)] (v_.toList ++ []) h_ Q)) : WR (d) cd_128 116 [some (.ref (ad 4)), some (.int (nI k)), some (.ref (ad 2)), some (.ref (ad (100 + 5 * t))), some (.int 3), some (.int f)] [] h Q := by
  have fx0 := fx
  refine r_aload rfl rfl ?_
  refine r_ic (x := 4) rfl rfl ?_
  refine r_putI rfl ⟨rfl, rfl, rfl⟩ tu2 ?_
  have fx : FX n ad sa z0 (sI h (ad (100 + 5 * t)) 10 4) := (FX.sI fx)
  refine r_aload rfl rfl ?_
  refine r_dc (x := 0) rfl rfl ?_
  refine r_putD rfl ⟨rfl, rfl, rfl⟩ tu2 ?_
  have fx : FX n ad sa z0 (sD (sI h (ad (100 + 5 * t)) 10 4) (ad (100 + 5 * t)) 14 0) := (FX.sD fx)
  refine r_aload rfl rfl ?_
  refine r_aload rfl rfl ?_
  refine r_getI rfl ⟨rfl, rfl, rfl⟩ tu2 ?_
  refine WR_tI (y := nI t) (Eq.trans I_oD (Eq.trans (I_nk (by decide)) e0)) ?_
  refine r_iload rfl rfl ?_
  refine r_ic (x := (-10)) rfl rfl ?_
  refine r_iload rfl rfl ?_
  refine r_isub rfl ?_
  refine r_cv (y := 141) (ra := [.int ((-10) - f), .int 3, .int (nI t)]) (rest := []) rfl ⟨⟨rfl, rfl⟩, rfl, by decide⟩ (fx_t4 fx) rfl rfl (Nat.le_of_ble_eq_true rfl) ?_
  exact (C1)

set_option maxHeartbeats 2000000 in
theorem w_gt116_4 {d : Nat} {Q : mQ} {n : Nat} {ad sa : Nat → Nat} {z0 : Nat} {h : mH} (fx : FX n ad sa z0 h) {t : Nat} (ha : t < n) (n6 : n ≤ 6) (tu2 : hT h (ad (100 + 5 * t)) = 8) {k : Nat} {f : Int32} (e0 : hI h (ad (100 + 5 * t)) 0 = nI t) 
    (C1 : EV (d) 141 [.ref (ad 4), .int (nI t), .int 4, .int ((-10) - f)] (sD (sI h (ad (100 + 5 * t)) 10 4) (ad (100 + 5 * t)) 14 0) (fun v_ h_ => WR (d) cd_128 141 [some (.ref (ad 4)), some (.int (nI k)), some (.ref (ad 2)), some (.ref (ad (100 + 5 * t))), some (.int 4), some (.int f)] (v_.toList ++ []) h_ Q)) : WR (d) cd_128 116 [some (.ref (ad 4)), some (.int (nI k)), some (.ref (ad 2)), some (.ref (ad (100 + 5 * t))), some (.int 4), some (.int f)] [] h Q := by
  have fx0 := fx
  refine r_aload rfl rfl ?_
  refine r_ic (x := 4) rfl rfl ?_
  refine r_putI rfl ⟨rfl, rfl, rfl⟩ tu2 ?_
  have fx : FX n ad sa z0 (sI h (ad (100 + 5 * t)) 10 4) := (FX.sI fx)
  refine r_aload rfl rfl ?_
  refine r_dc (x := 0) rfl rfl ?_
  refine r_putD rfl ⟨rfl, rfl, rfl⟩ tu2 ?_
  have fx : FX n ad sa z0 (sD (sI h (ad (100 + 5 * t)) 10 4) (ad (100 + 5 * t)) 14 0) := (FX.sD fx)
  refine r_aload rfl rfl ?_
  refine r_aload rfl rfl ?_
  refine r_getI rfl ⟨rfl, rfl, rfl⟩ tu2 ?_
  refine WR_tI (y := nI t) (Eq.trans I_oD (Eq.trans (I_nk (by decide)) e0)) ?_
  refine r_iload rfl rfl ?_
  refine r_ic (x := (-10)) rfl rfl ?_
  refine r_iload rfl rfl ?_
  refine r_isub rfl ?_
  refine r_cv (y := 141) (ra := [.int ((-10) - f), .int 4, .int (nI t)]) (rest := []) rfl ⟨⟨rfl, rfl⟩, rfl, by decide⟩ (fx_t4 fx) rfl rfl (Nat.le_of_ble_eq_true rfl) ?_
  exact (C1)

set_option maxHeartbeats 2000000 in
theorem w_gt141 {d : Nat} {Q : mQ} {n : Nat} {ad sa : Nat → Nat} {z0 : Nat} {h : mH} (fx : FX n ad sa z0 h) {t k : Nat} {o4 o5 : Option Value} 
    (L1 : Q (some (.int 1)) h) : WR (d) cd_128 141 [some (.ref (ad 4)), some (.int (nI k)), some (.ref (ad 2)), some (.ref (ad (100 + 5 * t))), o4, o5] [] h Q := by
  have fx0 := fx
  refine r_ic (x := 1) rfl rfl ?_
  refine r_iret rfl ?_
  exact (L1)

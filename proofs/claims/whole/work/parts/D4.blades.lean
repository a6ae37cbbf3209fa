/-! ===== walks of run: the class's blades; printed ===== -/
set_option maxHeartbeats 2000000 in
theorem w_tb0 {d : Nat} {Q : mQ} {n : Nat} {ad sa : Nat → Nat} {z0 : Nat} {h : mH} (fx : FX n ad sa z0 h) {t : Nat} (ha : t < n) (n6 : n ≤ 6) (tu2 : hT h (ad (100 + 5 * t)) = 8) (e10 : hI h (ad (100 + 5 * t)) 10 = 0) 
    (C1 : EV (d) 137 [.ref (ad (100 + 5 * t))] h (fun v_ h_ => WR (d) cd_136 21 [some (.ref (ad (100 + 5 * t))), some (.ref (ad 2)), none, none, none, none] (v_.toList ++ [.double 4618441417868443648]) h_ Q)) : EV (d + 1) 136 [.ref (ad (100 + 5 * t)), .ref (ad 2)] h Q := by
  have fx0 := fx
  refine in_136 (Nat.le_of_ble_eq_true rfl) ?_
  show WR _ cd_136 0 [some (.ref (ad (100 + 5 * t))), some (.ref (ad 2)), none, none, none, none] [] h _
  refine r_aload rfl rfl ?_
  refine r_getI rfl ⟨rfl, rfl, rfl⟩ tu2 ?_
  refine WR_tI (y := 0) e10 ?_
  refine r_ic (x := 3) rfl rfl ?_
  refine r_icmp_ne (tg := 14) rfl rfl (fun _ => ?_) (fun q => absurd q (by decide))
  refine r_ldc (x := .double 4618441417868443648) rfl rfl ?_
  refine r_aload rfl rfl ?_
  refine r_cv (y := 137) (ra := []) (rest := [.double 4618441417868443648]) rfl ⟨⟨rfl, rfl⟩, rfl, by decide⟩ tu2 rfl rfl (Nat.le_of_ble_eq_true rfl) ?_
  exact (C1)

set_option maxHeartbeats 2000000 in
theorem w_tb3 {d : Nat} {Q : mQ} {n : Nat} {ad sa : Nat → Nat} {z0 : Nat} {h : mH} (fx : FX n ad sa z0 h) {t : Nat} (ha : t < n) (n6 : n ≤ 6) (tu2 : hT h (ad (100 + 5 * t)) = 8) (e10 : hI h (ad (100 + 5 * t)) 10 = 3) 
    (C1 : EV (d) 137 [.ref (ad (100 + 5 * t))] h (fun v_ h_ => WR (d) cd_136 21 [some (.ref (ad (100 + 5 * t))), some (.ref (ad 2)), none, none, none, none] (v_.toList ++ [.double 4622945017495814144]) h_ Q)) : EV (d + 1) 136 [.ref (ad (100 + 5 * t)), .ref (ad 2)] h Q := by
  have fx0 := fx
  refine in_136 (Nat.le_of_ble_eq_true rfl) ?_
  show WR _ cd_136 0 [some (.ref (ad (100 + 5 * t))), some (.ref (ad 2)), none, none, none, none] [] h _
  refine r_aload rfl rfl ?_
  refine r_getI rfl ⟨rfl, rfl, rfl⟩ tu2 ?_
  refine WR_tI (y := 3) e10 ?_
  refine r_ic (x := 3) rfl rfl ?_
  refine r_icmp_ne (tg := 14) rfl rfl (fun q => absurd q (by decide)) (fun _ => ?_)
  refine r_ldc (x := .double 4622945017495814144) rfl rfl ?_
  refine r_goto (tg := 17) rfl rfl ?_
  refine r_aload rfl rfl ?_
  refine r_cv (y := 137) (ra := []) (rest := [.double 4622945017495814144]) rfl ⟨⟨rfl, rfl⟩, rfl, by decide⟩ tu2 rfl rfl (Nat.le_of_ble_eq_true rfl) ?_
  exact (C1)

set_option maxHeartbeats 2000000 in
theorem w_tb21 {d : Nat} {Q : mQ} {n : Nat} {ad sa : Nat → Nat} {z0 : Nat} {h : mH} (fx : FX n ad sa z0 h) {t : Nat} (ha : t < n) (n6 : n ≤ 6) (tu2 : hT h (ad (100 + 5 * t)) = 8) {p g r : UInt64} {o2 o3 o4 o5 : Option Value} (e13 : hD h (ad (100 + 5 * t)) 13 = p) 
    (B1 : vf_n64 (FP.dsub g p))
    (C1 : EV (d) 138 [.double r, .double (FP.dsub g p)] h (fun v_ h_ => WR (d) cd_136 29 [some (.ref (ad (100 + 5 * t))), some (.ref (ad 2)), o2, o3, o4, o5] (v_.toList ++ []) h_ Q)) : WR (d) cd_136 21 [some (.ref (ad (100 + 5 * t))), some (.ref (ad 2)), o2, o3, o4, o5] [.double g, .double r] h Q := by
  have fx0 := fx
  refine r_aload rfl rfl ?_
  refine r_getD rfl ⟨rfl, rfl, rfl⟩ tu2 ?_
  refine WR_tD (y := p) e13 ?_
  refine r_dsub rfl (B1) ?_
  refine r_cs (y := 138) (ra := [.double (FP.dsub g p), .double r]) (rest := []) rfl ⟨⟨rfl, rfl⟩, by decide⟩ rfl rfl (Nat.le_of_ble_eq_true rfl) ?_
  exact (C1)

set_option maxHeartbeats 2000000 in
theorem w_tb29n {d : Nat} {Q : mQ} {n : Nat} {ad sa : Nat → Nat} {z0 : Nat} {h : mH} (fx : FX n ad sa z0 h) {t : Nat} (ha : t < n) (n6 : n ≤ 6) (tu2 : hT h (ad (100 + 5 * t)) = 8) (r5 : hR h (ad (100 + 5 * t)) 5 = some (ad (101 + 5 * t))) (k1 : hT h (ad (101 + 5 * t)) = 26) (l1 : hN h (ad (101 + 5 * t)) = 5) {y : UInt64} {o2 o3 o4 o5 : Option Value} (r3 : hR h (ad (101 + 5 * t)) 3 = none) 
    (L1 : ¬ deq y 0 → Q (some (.int (-11))) h)
    (L2 : deq y 0 → Q (some (.int 0)) h) : WR (d) cd_136 29 [some (.ref (ad (100 + 5 * t))), some (.ref (ad 2)), o2, o3, o4, o5] [.double y] h Q := by
  have fx0 := fx
  refine r_dstore (lv' := [some (.ref (ad (100 + 5 * t))), some (.ref (ad 2)), some (.double y), none, o4, o5]) rfl (Nat.le_of_ble_eq_true rfl) rfl ?_
  refine r_dload rfl rfl ?_
  refine r_dc (x := 0) rfl rfl ?_
  refine r_dlif_ne (tg := 38) rfl rfl rfl (fun c1 => ?_) (fun c1 => ?_)
  · refine r_aload rfl rfl ?_
    refine r_getA (b := ad (101 + 5 * t)) rfl ⟨rfl, rfl, rfl⟩ tu2 r5 ?_
    refine r_ic (x := 3) rfl rfl ?_
    refine r_aaload0 rfl (isQ_of k1 (by decide)) (vp_ct l1 (vp_in_nI (n := 3) (by omega) (by omega))) r3 ?_
    refine r_astore0 (lv' := [some (.ref (ad (100 + 5 * t))), some (.ref (ad 2)), some (.double y), none, some (.null), o5]) rfl (Nat.le_of_ble_eq_true rfl) rfl ?_
    refine r_aload0 rfl rfl ?_
    refine r_ifnonnullN (tg := 56) rfl rfl ?_
    refine r_ic (x := (-11)) rfl rfl ?_
    refine r_goto (tg := 75) rfl rfl ?_
    refine r_istore (lv' := [some (.ref (ad (100 + 5 * t))), some (.ref (ad 2)), some (.double y), none, some (.null), some (.int (-11))]) rfl (Nat.le_of_ble_eq_true rfl) rfl ?_
    refine r_iload rfl rfl ?_
    refine r_if_ne (tg := 92) rfl rfl (fun _ => ?_) (fun q => absurd q (by decide))
    refine r_iload rfl rfl ?_
    refine r_iret rfl ?_
    exact (L1 c1)
  · refine r_ic (x := 0) rfl rfl ?_
    refine r_iret rfl ?_
    exact (L2 c1)

set_option maxHeartbeats 2000000 in
theorem w_tb29s {d : Nat} {Q : mQ} {n : Nat} {ad sa : Nat → Nat} {z0 : Nat} {h : mH} (fx : FX n ad sa z0 h) {t : Nat} (ha : t < n) (n6 : n ≤ 6) (tu2 : hT h (ad (100 + 5 * t)) = 8) (r5 : hR h (ad (100 + 5 * t)) 5 = some (ad (101 + 5 * t))) (k1 : hT h (ad (101 + 5 * t)) = 26) (l1 : hN h (ad (101 + 5 * t)) = 5) {y : UInt64} {x : Nat} (tx : hT h x = 4) {o2 o3 o4 o5 : Option Value} (r3 : hR h (ad (101 + 5 * t)) 3 = some x) 
    (C1 : ¬ deq y 0 → ¬ dlt y 0 → EV (d) 70 [.ref x, .int (FP.d2i y), .ref (ad 2)] h (fun v_ h_ => WR (d) cd_136 75 [some (.ref (ad (100 + 5 * t))), some (.ref (ad 2)), some (.double y), none, some (.ref x), o5] (v_.toList ++ []) h_ Q))
    (C2 : ¬ deq y 0 → dlt y 0 → EV (d) 70 [.ref x, .int (FP.d2i (FP.dneg y)), .ref (ad 2)] h (fun v_ h_ => WR (d) cd_136 75 [some (.ref (ad (100 + 5 * t))), some (.ref (ad 2)), some (.double y), none, some (.ref x), o5] (v_.toList ++ []) h_ Q))
    (L1 : deq y 0 → Q (some (.int 0)) h) : WR (d) cd_136 29 [some (.ref (ad (100 + 5 * t))), some (.ref (ad 2)), o2, o3, o4, o5] [.double y] h Q := by
  have fx0 := fx
  refine r_dstore (lv' := [some (.ref (ad (100 + 5 * t))), some (.ref (ad 2)), some (.double y), none, o4, o5]) rfl (Nat.le_of_ble_eq_true rfl) rfl ?_
  refine r_dload rfl rfl ?_
  refine r_dc (x := 0) rfl rfl ?_
  refine r_dlif_ne (tg := 38) rfl rfl rfl (fun c1 => ?_) (fun c1 => ?_)
  · refine r_aload rfl rfl ?_
    refine r_getA (b := ad (101 + 5 * t)) rfl ⟨rfl, rfl, rfl⟩ tu2 r5 ?_
    refine r_ic (x := 3) rfl rfl ?_
    refine r_aaloadA (b := x) rfl (isQ_of k1 (by decide)) (vp_ct l1 (vp_in_nI (n := 3) (by omega) (by omega))) r3 ?_
    refine r_astore (lv' := [some (.ref (ad (100 + 5 * t))), some (.ref (ad 2)), some (.double y), none, some (.ref x), o5]) rfl (Nat.le_of_ble_eq_true rfl) rfl ?_
    refine r_aload rfl rfl ?_
    refine r_ifnonnullA (tg := 56) rfl rfl ?_
    refine r_aload rfl rfl ?_
    refine r_dload rfl rfl ?_
    refine r_dc (x := 0) rfl rfl ?_
    refine r_dgif_ge (tg := 69) rfl rfl rfl (fun c2 => ?_) (fun c2 => ?_)
    · refine r_dload rfl rfl ?_
      refine r_d2i rfl ?_
      refine r_aload rfl rfl ?_
      refine r_cv (y := 70) (ra := [.ref (ad 2), .int (FP.d2i y)]) (rest := []) rfl ⟨⟨rfl, rfl⟩, rfl, by decide⟩ tx rfl rfl (Nat.le_of_ble_eq_true rfl) ?_
      exact (C1 c1 c2)
    · refine r_dload rfl rfl ?_
      refine r_dneg rfl ?_
      refine r_goto (tg := 70) rfl rfl ?_
      refine r_d2i rfl ?_
      refine r_aload rfl rfl ?_
      refine r_cv (y := 70) (ra := [.ref (ad 2), .int (FP.d2i (FP.dneg y))]) (rest := []) rfl ⟨⟨rfl, rfl⟩, rfl, by decide⟩ tx rfl rfl (Nat.le_of_ble_eq_true rfl) ?_
      exact (C2 c1 c2)
  · refine r_ic (x := 0) rfl rfl ?_
    refine r_iret rfl ?_
    exact (L1 c1)

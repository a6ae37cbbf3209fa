/-! ===== walks of the tails of seconds; printed ===== -/
set_option maxHeartbeats 2000000 in
theorem w_st57 {d : Nat} {Q : mQ} {n : Nat} {ad sa : Nat → Nat} {z0 : Nat} {h : mH} (fx : FX n ad sa z0 h) {kc ln w a : Nat} 
    (C1 : EV (d) 77 [.ref (ad 0), .ref a] h (fun v_ h_ => WR (d) cd_75 63 [some (.ref (ad 0)), some (.int (nI kc)), some (.int (nI ln)), some (.int (nI w)), some (.ref a), none] (v_.toList ++ []) h_ Q)) : WR (d) cd_75 57 [some (.ref (ad 0)), some (.int (nI kc)), some (.int (nI ln)), some (.int (nI w)), some (.ref a), none] [] h Q := by
  have fx0 := fx
  refine r_aload rfl rfl ?_
  refine r_aload rfl rfl ?_
  refine r_cv (y := 77) (ra := [.ref a]) (rest := []) rfl ⟨⟨rfl, rfl⟩, rfl, by decide⟩ (fx_t0 fx) rfl rfl (Nat.le_of_ble_eq_true rfl) ?_
  exact (C1)

set_option maxHeartbeats 2000000 in
theorem w_st0z {d : Nat} {Q : mQ} {n : Nat} {ad sa : Nat → Nat} {z0 : Nat} {h : mH} (fx : FX n ad sa z0 h) {kc ln a : Nat} 
    (L1 : Q (some (.long 9221120237041090560)) h) : WR (d) cd_75 63 [some (.ref (ad 0)), some (.int (nI kc)), some (.int (nI ln)), some (.int 0), some (.ref a), none] [.int 0] h Q := by
  have fx0 := fx
  refine r_istore (lv' := [some (.ref (ad 0)), some (.int (nI kc)), some (.int (nI ln)), some (.int 0), some (.ref a), some (.int 0)]) rfl (Nat.le_of_ble_eq_true rfl) rfl ?_
  refine r_iload rfl rfl ?_
  refine r_tswL (tg := 100) rfl (by decide) ?_
  refine r_iload rfl rfl ?_
  refine r_if_ne (tg := 111) rfl rfl (fun q => absurd q (by decide)) (fun _ => ?_)
  refine r_ldc (x := .long 9221120237041090560) rfl rfl ?_
  refine r_goto (tg := 118) rfl rfl ?_
  refine r_lret rfl ?_
  exact (L1)

set_option maxHeartbeats 2000000 in
theorem w_st0p {d : Nat} {Q : mQ} {n : Nat} {ad sa : Nat → Nat} {z0 : Nat} {h : mH} (fx : FX n ad sa z0 h) {kc ln a c : Nat} (hc : 1 ≤ c) (hc3 : c ≤ 30) 
    (C1 : EV (d) 80 [.ref (ad 0), .int (nI c), .int 0] h (fun v_ h_ => WR (d) cd_75 118 [some (.ref (ad 0)), some (.int (nI kc)), some (.int (nI ln)), some (.int 0), some (.ref a), some (.int (nI c))] (v_.toList ++ []) h_ Q)) : WR (d) cd_75 63 [some (.ref (ad 0)), some (.int (nI kc)), some (.int (nI ln)), some (.int 0), some (.ref a), none] [.int (nI c)] h Q := by
  have fx0 := fx
  refine r_istore (lv' := [some (.ref (ad 0)), some (.int (nI kc)), some (.int (nI ln)), some (.int 0), some (.ref a), some (.int (nI c))]) rfl (Nat.le_of_ble_eq_true rfl) rfl ?_
  refine r_iload rfl rfl ?_
  refine r_tswL (tg := 100) rfl (by decide) ?_
  refine r_iload rfl rfl ?_
  refine r_if_ne (tg := 111) rfl rfl (fun _ => ?_) (fun q => False.elim (by have : (nI c).toInt = ((c : Nat) : Int) := nI_toInt (by omega); have : (0 : Int32).toInt = 0 := rfl; have := i_eq q; omega))
  refine r_aload rfl rfl ?_
  refine r_iload rfl rfl ?_
  refine r_iload rfl rfl ?_
  refine r_cv (y := 80) (ra := [.int 0, .int (nI c)]) (rest := []) rfl ⟨⟨rfl, rfl⟩, rfl, by decide⟩ (fx_t0 fx) rfl rfl (Nat.le_of_ble_eq_true rfl) ?_
  exact (C1)

set_option maxHeartbeats 2000000 in
theorem w_st1z {d : Nat} {Q : mQ} {n : Nat} {ad sa : Nat → Nat} {z0 : Nat} {h : mH} (fx : FX n ad sa z0 h) {kc ln a : Nat} 
    (L1 : Q (some (.long 9221120237041090560)) h) : WR (d) cd_75 63 [some (.ref (ad 0)), some (.int (nI kc)), some (.int (nI ln)), some (.int 1), some (.ref a), none] [.int 0] h Q := by
  have fx0 := fx
  refine r_istore (lv' := [some (.ref (ad 0)), some (.int (nI kc)), some (.int (nI ln)), some (.int 1), some (.ref a), some (.int 0)]) rfl (Nat.le_of_ble_eq_true rfl) rfl ?_
  refine r_iload rfl rfl ?_
  refine r_tswL (tg := 100) rfl (by decide) ?_
  refine r_iload rfl rfl ?_
  refine r_if_ne (tg := 111) rfl rfl (fun q => absurd q (by decide)) (fun _ => ?_)
  refine r_ldc (x := .long 9221120237041090560) rfl rfl ?_
  refine r_goto (tg := 118) rfl rfl ?_
  refine r_lret rfl ?_
  exact (L1)

set_option maxHeartbeats 2000000 in
theorem w_st1p {d : Nat} {Q : mQ} {n : Nat} {ad sa : Nat → Nat} {z0 : Nat} {h : mH} (fx : FX n ad sa z0 h) {kc ln a c : Nat} (hc : 1 ≤ c) (hc3 : c ≤ 30) 
    (C1 : EV (d) 80 [.ref (ad 0), .int (nI c), .int 1] h (fun v_ h_ => WR (d) cd_75 118 [some (.ref (ad 0)), some (.int (nI kc)), some (.int (nI ln)), some (.int 1), some (.ref a), some (.int (nI c))] (v_.toList ++ []) h_ Q)) : WR (d) cd_75 63 [some (.ref (ad 0)), some (.int (nI kc)), some (.int (nI ln)), some (.int 1), some (.ref a), none] [.int (nI c)] h Q := by
  have fx0 := fx
  refine r_istore (lv' := [some (.ref (ad 0)), some (.int (nI kc)), some (.int (nI ln)), some (.int 1), some (.ref a), some (.int (nI c))]) rfl (Nat.le_of_ble_eq_true rfl) rfl ?_
  refine r_iload rfl rfl ?_
  refine r_tswL (tg := 100) rfl (by decide) ?_
  refine r_iload rfl rfl ?_
  refine r_if_ne (tg := 111) rfl rfl (fun _ => ?_) (fun q => False.elim (by have : (nI c).toInt = ((c : Nat) : Int) := nI_toInt (by omega); have : (0 : Int32).toInt = 0 := rfl; have := i_eq q; omega))
  refine r_aload rfl rfl ?_
  refine r_iload rfl rfl ?_
  refine r_iload rfl rfl ?_
  refine r_cv (y := 80) (ra := [.int 1, .int (nI c)]) (rest := []) rfl ⟨⟨rfl, rfl⟩, rfl, by decide⟩ (fx_t0 fx) rfl rfl (Nat.le_of_ble_eq_true rfl) ?_
  exact (C1)

set_option maxHeartbeats 2000000 in
theorem w_st2z {d : Nat} {Q : mQ} {n : Nat} {ad sa : Nat → Nat} {z0 : Nat} {h : mH} (fx : FX n ad sa z0 h) {kc ln a : Nat} 
    (C1 : EV (d) 83 [.ref (ad 22), .int 0] h (fun v_ h_ => WR (d) cd_75 128 [some (.ref (ad 0)), some (.int (nI kc)), some (.int (nI ln)), some (.int 2), some (.ref a), some (.int 0)] (v_.toList ++ []) h_ Q)) : WR (d) cd_75 63 [some (.ref (ad 0)), some (.int (nI kc)), some (.int (nI ln)), some (.int 2), some (.ref a), none] [.int 0] h Q := by
  have fx0 := fx
  refine r_istore (lv' := [some (.ref (ad 0)), some (.int (nI kc)), some (.int (nI ln)), some (.int 2), some (.ref a), some (.int 0)]) rfl (Nat.le_of_ble_eq_true rfl) rfl ?_
  refine r_iload rfl rfl ?_
  refine r_tswL (tg := 119) rfl (by decide) ?_
  refine r_aload rfl rfl ?_
  refine r_getA (b := ad 22) rfl ⟨rfl, rfl, rfl⟩ (fx_t0 fx) (fx_r0_4 fx) ?_
  refine r_iload rfl rfl ?_
  refine r_cs (y := 83) (ra := [.int 0, .ref (ad 22)]) (rest := []) rfl ⟨⟨rfl, rfl⟩, by decide⟩ rfl rfl (Nat.le_of_ble_eq_true rfl) ?_
  exact (C1)

set_option maxHeartbeats 2000000 in
theorem w_st2p {d : Nat} {Q : mQ} {n : Nat} {ad sa : Nat → Nat} {z0 : Nat} {h : mH} (fx : FX n ad sa z0 h) {kc ln a c : Nat} (hc : 1 ≤ c) (hc3 : c ≤ 30) 
    (C1 : EV (d) 83 [.ref (ad 22), .int (nI c)] h (fun v_ h_ => WR (d) cd_75 128 [some (.ref (ad 0)), some (.int (nI kc)), some (.int (nI ln)), some (.int 2), some (.ref a), some (.int (nI c))] (v_.toList ++ []) h_ Q)) : WR (d) cd_75 63 [some (.ref (ad 0)), some (.int (nI kc)), some (.int (nI ln)), some (.int 2), some (.ref a), none] [.int (nI c)] h Q := by
  have fx0 := fx
  refine r_istore (lv' := [some (.ref (ad 0)), some (.int (nI kc)), some (.int (nI ln)), some (.int 2), some (.ref a), some (.int (nI c))]) rfl (Nat.le_of_ble_eq_true rfl) rfl ?_
  refine r_iload rfl rfl ?_
  refine r_tswL (tg := 119) rfl (by decide) ?_
  refine r_aload rfl rfl ?_
  refine r_getA (b := ad 22) rfl ⟨rfl, rfl, rfl⟩ (fx_t0 fx) (fx_r0_4 fx) ?_
  refine r_iload rfl rfl ?_
  refine r_cs (y := 83) (ra := [.int (nI c), .ref (ad 22)]) (rest := []) rfl ⟨⟨rfl, rfl⟩, by decide⟩ rfl rfl (Nat.le_of_ble_eq_true rfl) ?_
  exact (C1)

set_option maxHeartbeats 2000000 in
theorem w_st3z {d : Nat} {Q : mQ} {n : Nat} {ad sa : Nat → Nat} {z0 : Nat} {h : mH} (fx : FX n ad sa z0 h) {kc ln a : Nat} 
    (L1 : Q (some (.long 9221120237041090560)) h) : WR (d) cd_75 63 [some (.ref (ad 0)), some (.int (nI kc)), some (.int (nI ln)), some (.int 3), some (.ref a), none] [.int 0] h Q := by
  have fx0 := fx
  refine r_istore (lv' := [some (.ref (ad 0)), some (.int (nI kc)), some (.int (nI ln)), some (.int 3), some (.ref a), some (.int 0)]) rfl (Nat.le_of_ble_eq_true rfl) rfl ?_
  refine r_iload rfl rfl ?_
  refine r_tswL (tg := 100) rfl (by decide) ?_
  refine r_iload rfl rfl ?_
  refine r_if_ne (tg := 111) rfl rfl (fun q => absurd q (by decide)) (fun _ => ?_)
  refine r_ldc (x := .long 9221120237041090560) rfl rfl ?_
  refine r_goto (tg := 118) rfl rfl ?_
  refine r_lret rfl ?_
  exact (L1)

set_option maxHeartbeats 2000000 in
theorem w_st3p {d : Nat} {Q : mQ} {n : Nat} {ad sa : Nat → Nat} {z0 : Nat} {h : mH} (fx : FX n ad sa z0 h) {kc ln a c : Nat} (hc : 1 ≤ c) (hc3 : c ≤ 30) 
    (C1 : EV (d) 80 [.ref (ad 0), .int (nI c), .int 3] h (fun v_ h_ => WR (d) cd_75 118 [some (.ref (ad 0)), some (.int (nI kc)), some (.int (nI ln)), some (.int 3), some (.ref a), some (.int (nI c))] (v_.toList ++ []) h_ Q)) : WR (d) cd_75 63 [some (.ref (ad 0)), some (.int (nI kc)), some (.int (nI ln)), some (.int 3), some (.ref a), none] [.int (nI c)] h Q := by
  have fx0 := fx
  refine r_istore (lv' := [some (.ref (ad 0)), some (.int (nI kc)), some (.int (nI ln)), some (.int 3), some (.ref a), some (.int (nI c))]) rfl (Nat.le_of_ble_eq_true rfl) rfl ?_
  refine r_iload rfl rfl ?_
  refine r_tswL (tg := 100) rfl (by decide) ?_
  refine r_iload rfl rfl ?_
  refine r_if_ne (tg := 111) rfl rfl (fun _ => ?_) (fun q => False.elim (by have : (nI c).toInt = ((c : Nat) : Int) := nI_toInt (by omega); have : (0 : Int32).toInt = 0 := rfl; have := i_eq q; omega))
  refine r_aload rfl rfl ?_
  refine r_iload rfl rfl ?_
  refine r_iload rfl rfl ?_
  refine r_cv (y := 80) (ra := [.int 3, .int (nI c)]) (rest := []) rfl ⟨⟨rfl, rfl⟩, rfl, by decide⟩ (fx_t0 fx) rfl rfl (Nat.le_of_ble_eq_true rfl) ?_
  exact (C1)

set_option maxHeartbeats 2000000 in
theorem w_st4z {d : Nat} {Q : mQ} {n : Nat} {ad sa : Nat → Nat} {z0 : Nat} {h : mH} (fx : FX n ad sa z0 h) {kc ln a : Nat} 
    (L1 : Q (some (.long 0)) (sI h (ad 0) 6 (-16))) : WR (d + 1) cd_75 63 [some (.ref (ad 0)), some (.int (nI kc)), some (.int (nI ln)), some (.int 4), some (.ref a), none] [.int 0] h Q := by
  have fx0 := fx
  refine r_istore (lv' := [some (.ref (ad 0)), some (.int (nI kc)), some (.int (nI ln)), some (.int 4), some (.ref a), some (.int 0)]) rfl (Nat.le_of_ble_eq_true rfl) rfl ?_
  refine r_iload rfl rfl ?_
  refine r_tswL (tg := 129) rfl (by decide) ?_
  refine r_iload rfl rfl ?_
  refine r_if_ne (tg := 143) rfl rfl (fun q => absurd q (by decide)) (fun _ => ?_)
  refine r_aload rfl rfl ?_
  refine r_ic (x := (-16)) rfl rfl ?_
  refine r_cv (y := 65) (ra := [.int (-16)]) (rest := []) rfl ⟨⟨rfl, rfl⟩, rfl, by decide⟩ (fx_t0 fx) rfl rfl (Nat.le_of_ble_eq_true rfl) ?_
  refine in_65 (Nat.le_of_ble_eq_true rfl) ?_
  show WR _ cd_65 0 [some (.ref (ad 0)), some (.int (-16))] [] h _
  refine r_aload rfl rfl ?_
  refine r_iload rfl rfl ?_
  refine r_putI rfl ⟨rfl, rfl, rfl⟩ (fx_t0 fx) ?_
  have fx : FX n ad sa z0 (sI h (ad 0) 6 (-16)) := (FX.sI fx)
  refine r_lc (x := 0) rfl rfl ?_
  refine r_lret rfl ?_
  show WR _ cd_75 140 [some (.ref (ad 0)), some (.int (nI kc)), some (.int (nI ln)), some (.int 4), some (.ref a), some (.int 0)] [.long 0] (sI h (ad 0) 6 (-16)) _
  refine r_goto (tg := 156) rfl rfl ?_
  refine r_lret rfl ?_
  exact (L1)

set_option maxHeartbeats 2000000 in
theorem w_st4p {d : Nat} {Q : mQ} {n : Nat} {ad sa : Nat → Nat} {z0 : Nat} {h : mH} (fx : FX n ad sa z0 h) {kc ln a c : Nat} (hc : 1 ≤ c) (hc3 : c ≤ 30) 
    (C1 : EV (d) 89 [.ref (ad 22), .int (nI c)] h (fun v_ h_ => WR (d) cd_75 152 [some (.ref (ad 0)), some (.int (nI kc)), some (.int (nI ln)), some (.int 4), some (.ref a), some (.int (nI c))] (v_.toList ++ []) h_ Q)) : WR (d) cd_75 63 [some (.ref (ad 0)), some (.int (nI kc)), some (.int (nI ln)), some (.int 4), some (.ref a), none] [.int (nI c)] h Q := by
  have fx0 := fx
  refine r_istore (lv' := [some (.ref (ad 0)), some (.int (nI kc)), some (.int (nI ln)), some (.int 4), some (.ref a), some (.int (nI c))]) rfl (Nat.le_of_ble_eq_true rfl) rfl ?_
  refine r_iload rfl rfl ?_
  refine r_tswL (tg := 129) rfl (by decide) ?_
  refine r_iload rfl rfl ?_
  refine r_if_ne (tg := 143) rfl rfl (fun _ => ?_) (fun q => False.elim (by have : (nI c).toInt = ((c : Nat) : Int) := nI_toInt (by omega); have : (0 : Int32).toInt = 0 := rfl; have := i_eq q; omega))
  refine r_aload rfl rfl ?_
  refine r_getA (b := ad 22) rfl ⟨rfl, rfl, rfl⟩ (fx_t0 fx) (fx_r0_4 fx) ?_
  refine r_iload rfl rfl ?_
  refine r_cs (y := 89) (ra := [.int (nI c), .ref (ad 22)]) (rest := []) rfl ⟨⟨rfl, rfl⟩, by decide⟩ rfl rfl (Nat.le_of_ble_eq_true rfl) ?_
  exact (C1)

set_option maxHeartbeats 2000000 in
theorem w_st5z {d : Nat} {Q : mQ} {n : Nat} {ad sa : Nat → Nat} {z0 : Nat} {h : mH} (fx : FX n ad sa z0 h) {kc ln a : Nat} 
    (L1 : Q (some (.long 0)) h) : WR (d) cd_75 63 [some (.ref (ad 0)), some (.int (nI kc)), some (.int (nI ln)), some (.int 5), some (.ref a), none] [.int 0] h Q := by
  have fx0 := fx
  refine r_istore (lv' := [some (.ref (ad 0)), some (.int (nI kc)), some (.int (nI ln)), some (.int 5), some (.ref a), some (.int 0)]) rfl (Nat.le_of_ble_eq_true rfl) rfl ?_
  refine r_iload rfl rfl ?_
  refine r_tswL (tg := 157) rfl (by decide) ?_
  refine r_iload rfl rfl ?_
  refine r_i2l rfl ?_
  refine WR_tL (y := 0) rfl ?_
  refine r_lret rfl ?_
  exact (L1)

set_option maxHeartbeats 2000000 in
theorem w_st5p {d : Nat} {Q : mQ} {n : Nat} {ad sa : Nat → Nat} {z0 : Nat} {h : mH} (fx : FX n ad sa z0 h) {kc ln a c : Nat} (hc : 1 ≤ c) (hc3 : c ≤ 30) 
    (L1 : Q (some (.long (lN c))) h) : WR (d) cd_75 63 [some (.ref (ad 0)), some (.int (nI kc)), some (.int (nI ln)), some (.int 5), some (.ref a), none] [.int (nI c)] h Q := by
  have fx0 := fx
  refine r_istore (lv' := [some (.ref (ad 0)), some (.int (nI kc)), some (.int (nI ln)), some (.int 5), some (.ref a), some (.int (nI c))]) rfl (Nat.le_of_ble_eq_true rfl) rfl ?_
  refine r_iload rfl rfl ?_
  refine r_tswL (tg := 157) rfl (by decide) ?_
  refine r_iload rfl rfl ?_
  refine r_i2l rfl ?_
  refine WR_tL (y := lN c) (nI_l (by omega)) ?_
  refine r_lret rfl ?_
  exact (L1)

set_option maxHeartbeats 2000000 in
theorem w_st152 {d : Nat} {Q : mQ} {n : Nat} {ad sa : Nat → Nat} {z0 : Nat} {h : mH} (fx : FX n ad sa z0 h) {kc ln a c : Nat} (hc : 1 ≤ c) (hc3 : c ≤ 30) (v : Int64) 
    (B1 : ¬ (lN c) = 0)
    (L1 : Q (some (.long (v / (lN c)))) h) : WR (d) cd_75 152 [some (.ref (ad 0)), some (.int (nI kc)), some (.int (nI ln)), some (.int 4), some (.ref a), some (.int (nI c))] [.long v] h Q := by
  have fx0 := fx
  refine r_iload rfl rfl ?_
  refine r_i2l rfl ?_
  refine WR_tL (y := lN c) (nI_l (by omega)) ?_
  refine r_ldiv rfl (B1) ?_
  refine r_lret rfl ?_
  exact (L1)

set_option maxHeartbeats 2000000 in
theorem w_st118 {d : Nat} {Q : mQ} {n : Nat} {ad sa : Nat → Nat} {z0 : Nat} {h : mH} (fx : FX n ad sa z0 h) (o1 o2 o3 o4 o5 : Option Value) (v : Int64) 
    (L1 : Q (some (.long v)) h) : WR (d) cd_75 118 [some (.ref (ad 0)), o1, o2, o3, o4, o5] [.long v] h Q := by
  have fx0 := fx
  refine r_lret rfl ?_
  exact (L1)

set_option maxHeartbeats 2000000 in
theorem w_st128 {d : Nat} {Q : mQ} {n : Nat} {ad sa : Nat → Nat} {z0 : Nat} {h : mH} (fx : FX n ad sa z0 h) (o1 o2 o3 o4 o5 : Option Value) (v : Int64) 
    (L1 : Q (some (.long v)) h) : WR (d) cd_75 128 [some (.ref (ad 0)), o1, o2, o3, o4, o5] [.long v] h Q := by
  have fx0 := fx
  refine r_lret rfl ?_
  exact (L1)

set_option maxHeartbeats 2000000 in
theorem w_rk0 {d : Nat} {Q : mQ} {n : Nat} {ad sa : Nat → Nat} {z0 : Nat} {h : mH} (fx : FX n ad sa z0 h) {c w : Nat} 
    (C1 : EV (d) 81 [.ref (ad 22), .int (nI c)] h (fun v_ h_ => WR (d) cd_80 8 [some (.ref (ad 0)), some (.int (nI c)), some (.int (nI w))] (v_.toList ++ []) h_ Q)) : EV (d + 1) 80 [.ref (ad 0), .int (nI c), .int (nI w)] h Q := by
  have fx0 := fx
  refine in_80 (Nat.le_of_ble_eq_true rfl) ?_
  show WR _ cd_80 0 [some (.ref (ad 0)), some (.int (nI c)), some (.int (nI w))] [] h _
  refine r_aload rfl rfl ?_
  refine r_getA (b := ad 22) rfl ⟨rfl, rfl, rfl⟩ (fx_t0 fx) (fx_r0_4 fx) ?_
  refine r_iload rfl rfl ?_
  refine r_cs (y := 81) (ra := [.int (nI c), .ref (ad 22)]) (rest := []) rfl ⟨⟨rfl, rfl⟩, by decide⟩ rfl rfl (Nat.le_of_ble_eq_true rfl) ?_
  exact (C1)

set_option maxHeartbeats 2000000 in
theorem w_rk8_0 {d : Nat} {Q : mQ} {n : Nat} {ad sa : Nat → Nat} {z0 : Nat} {h : mH} (fx : FX n ad sa z0 h) {c : Nat} (hc : 1 ≤ c) (hc3 : c ≤ 30) 
    (L1 : Q (some (.long (hL h (ad 22) (c - 1)))) h) : WR (d) cd_80 8 [some (.ref (ad 0)), some (.int (nI c)), some (.int 0)] [] h Q := by
  have fx0 := fx
  refine r_iload rfl rfl ?_
  refine r_if_ne (tg := 23) rfl rfl (fun q => absurd q (by decide)) (fun _ => ?_)
  refine r_aload rfl rfl ?_
  refine r_getA (b := ad 22) rfl ⟨rfl, rfl, rfl⟩ (fx_t0 fx) (fx_r0_4 fx) ?_
  refine r_iload rfl rfl ?_
  refine r_ic (x := 1) rfl rfl ?_
  refine r_isub rfl ?_
  refine WR_tI (y := nI (c - 1)) (Eq.trans (pk_sub (a := c) (b := 1) (by omega)) (congrArg nI (by omega))) ?_
  refine r_laload rfl (fx_t22 fx) (vp_ct (fx_n22 fx) (vp_in_nI (by omega) (by omega))) ?_
  refine WR_tL (congrArg (hL h (ad 22)) ((nI_clamp (by omega)) : _ = c - 1)) ?_
  refine r_goto (tg := 47) rfl rfl ?_
  refine r_lret rfl ?_
  exact (L1)

set_option maxHeartbeats 2000000 in
theorem w_rk8_1 {d : Nat} {Q : mQ} {n : Nat} {ad sa : Nat → Nat} {z0 : Nat} {h : mH} (fx : FX n ad sa z0 h) {c : Nat} (hc : 1 ≤ c) (hc3 : c ≤ 30) 
    (L1 : Q (some (.long (hL h (ad 22) 0))) h) : WR (d) cd_80 8 [some (.ref (ad 0)), some (.int (nI c)), some (.int 1)] [] h Q := by
  have fx0 := fx
  refine r_iload rfl rfl ?_
  refine r_if_ne (tg := 23) rfl rfl (fun _ => ?_) (fun q => absurd q (by decide))
  refine r_iload rfl rfl ?_
  refine r_ic (x := 1) rfl rfl ?_
  refine r_icmp_ne (tg := 37) rfl rfl (fun q => absurd q (by decide)) (fun _ => ?_)
  refine r_aload rfl rfl ?_
  refine r_getA (b := ad 22) rfl ⟨rfl, rfl, rfl⟩ (fx_t0 fx) (fx_r0_4 fx) ?_
  refine r_ic (x := 0) rfl rfl ?_
  refine r_laload rfl (fx_t22 fx) (vp_ct (fx_n22 fx) (vp_in_nI (n := 0) (by omega) (by omega))) ?_
  refine WR_tL (y := hL h (ad 22) 0) rfl ?_
  refine r_goto (tg := 47) rfl rfl ?_
  refine r_lret rfl ?_
  exact (L1)

set_option maxHeartbeats 2000000 in
theorem w_rk8_3 {d : Nat} {Q : mQ} {n : Nat} {ad sa : Nat → Nat} {z0 : Nat} {h : mH} (fx : FX n ad sa z0 h) {c : Nat} (hc : 1 ≤ c) (hc3 : c ≤ 30) 
    (L1 : Q (some (.long (hL h (ad 22) ((c - 1) / 2)))) h) : WR (d) cd_80 8 [some (.ref (ad 0)), some (.int (nI c)), some (.int 3)] [] h Q := by
  have fx0 := fx
  refine r_iload rfl rfl ?_
  refine r_if_ne (tg := 23) rfl rfl (fun _ => ?_) (fun q => absurd q (by decide))
  refine r_iload rfl rfl ?_
  refine r_ic (x := 1) rfl rfl ?_
  refine r_icmp_ne (tg := 37) rfl rfl (fun _ => ?_) (fun q => absurd q (by decide))
  refine r_aload rfl rfl ?_
  refine r_getA (b := ad 22) rfl ⟨rfl, rfl, rfl⟩ (fx_t0 fx) (fx_r0_4 fx) ?_
  refine r_iload rfl rfl ?_
  refine r_ic (x := 1) rfl rfl ?_
  refine r_isub rfl ?_
  refine WR_tI (y := nI (c - 1)) (Eq.trans (pk_sub (a := c) (b := 1) (by omega)) (congrArg nI (by omega))) ?_
  refine r_ic (x := 2) rfl rfl ?_
  refine r_idiv rfl (by decide) ?_
  refine WR_tI (y := nI ((c - 1) / 2)) (pk_div (by omega) (by decide) (by decide)) ?_
  refine r_laload rfl (fx_t22 fx) (vp_ct (fx_n22 fx) (vp_in_nI (by omega) (by omega))) ?_
  refine WR_tL (congrArg (hL h (ad 22)) ((nI_clamp (by omega)) : _ = ((c - 1) / 2))) ?_
  refine r_lret rfl ?_
  exact (L1)

set_option maxHeartbeats 2000000 in
theorem w_mo {d : Nat} {Q : mQ} {n : Nat} {ad sa : Nat → Nat} {z0 : Nat} {h : mH} (fx : FX n ad sa z0 h) {k : Nat} (hk : 1 ≤ k) (hk3 : k ≤ 30) 
    (C1 : EV (d) 84 [.ref (ad 22), .int (nI k)] h (fun v_ h_ => WR (d) cd_83 9 [some (.ref (ad 22)), some (.int (nI k))] (v_.toList ++ []) h_ Q)) : EV (d + 1) 83 [.ref (ad 22), .int (nI k)] h Q := by
  have fx0 := fx
  refine in_83 (Nat.le_of_ble_eq_true rfl) ?_
  show WR _ cd_83 0 [some (.ref (ad 22)), some (.int (nI k))] [] h _
  refine r_iload rfl rfl ?_
  refine r_if_eq (tg := 12) rfl rfl (fun q => False.elim (by have : (nI k).toInt = ((k : Nat) : Int) := nI_toInt (by omega); have : (0 : Int32).toInt = 0 := rfl; have := i_eq q; omega)) (fun _ => ?_)
  refine r_aload rfl rfl ?_
  refine r_iload rfl rfl ?_
  refine r_cs (y := 84) (ra := [.int (nI k), .ref (ad 22)]) (rest := []) rfl ⟨⟨rfl, rfl⟩, by decide⟩ rfl rfl (Nat.le_of_ble_eq_true rfl) ?_
  exact (C1)

set_option maxHeartbeats 2000000 in
theorem w_moz {d : Nat} {Q : mQ} {n : Nat} {ad sa : Nat → Nat} {z0 : Nat} {h : mH} (fx : FX n ad sa z0 h) 
    (L1 : Q (some (.long 9221120237041090560)) h) : EV (d + 1) 83 [.ref (ad 22), .int 0] h Q := by
  have fx0 := fx
  refine in_83 (Nat.le_of_ble_eq_true rfl) ?_
  show WR _ cd_83 0 [some (.ref (ad 22)), some (.int 0)] [] h _
  refine r_iload rfl rfl ?_
  refine r_if_eq (tg := 12) rfl rfl (fun _ => ?_) (fun q => absurd q (by decide))
  refine r_ldc (x := .long 9221120237041090560) rfl rfl ?_
  refine r_goto (tg := 29) rfl rfl ?_
  refine r_lret rfl ?_
  exact (L1)

set_option maxHeartbeats 2000000 in
theorem w_mo9 {d : Nat} {Q : mQ} {n : Nat} {ad sa : Nat → Nat} {z0 : Nat} {h : mH} (fx : FX n ad sa z0 h) {k : Nat} (w : Int32) 
    (C1 : w = 0 → EV (d) 87 [.ref (ad 22), .int (nI k)] h (fun v_ h_ => WR (d) cd_83 23 [some (.ref (ad 22)), some (.int (nI k))] (v_.toList ++ []) h_ Q))
    (L1 : ¬ w = 0 → Q (some (.long 9221120237041090560)) h) : WR (d) cd_83 9 [some (.ref (ad 22)), some (.int (nI k))] [.int w] h Q := by
  have fx0 := fx
  refine r_if_eq (tg := 18) rfl rfl (fun c1 => ?_) (fun c1 => ?_)
  · refine r_aload rfl rfl ?_
    refine r_iload rfl rfl ?_
    refine r_cs (y := 87) (ra := [.int (nI k), .ref (ad 22)]) (rest := []) rfl ⟨⟨rfl, rfl⟩, by decide⟩ rfl rfl (Nat.le_of_ble_eq_true rfl) ?_
    exact (C1 c1)
  · refine r_ldc (x := .long 9221120237041090560) rfl rfl ?_
    refine r_goto (tg := 29) rfl rfl ?_
    refine r_lret rfl ?_
    exact (L1 c1)

set_option maxHeartbeats 2000000 in
theorem w_mo23 {d : Nat} {Q : mQ} {n : Nat} {ad sa : Nat → Nat} {z0 : Nat} {h : mH} (fx : FX n ad sa z0 h) {k : Nat} (s : UInt64) 
    (B1 : vf_n64 (FP.ddiv s (FP.i2d (nI k))))
    (C1 : EV (d) 88 [.double (FP.ddiv s (FP.i2d (nI k)))] h (fun v_ h_ => WR (d) cd_83 29 [some (.ref (ad 22)), some (.int (nI k))] (v_.toList ++ []) h_ Q)) : WR (d) cd_83 23 [some (.ref (ad 22)), some (.int (nI k))] [.double s] h Q := by
  have fx0 := fx
  refine r_iload rfl rfl ?_
  refine r_i2d rfl ?_
  refine r_ddiv rfl (B1) ?_
  refine r_cs (y := 88) (ra := [.double (FP.ddiv s (FP.i2d (nI k)))]) (rest := []) rfl ⟨⟨rfl, rfl⟩, by decide⟩ rfl rfl (Nat.le_of_ble_eq_true rfl) ?_
  exact (C1)

set_option maxHeartbeats 2000000 in
theorem w_mo29 {d : Nat} {Q : mQ} {n : Nat} {ad sa : Nat → Nat} {z0 : Nat} {h : mH} (fx : FX n ad sa z0 h) {k : Nat} (v : Int64) 
    (L1 : Q (some (.long v)) h) : WR (d) cd_83 29 [some (.ref (ad 22)), some (.int (nI k))] [.long v] h Q := by
  have fx0 := fx
  refine r_lret rfl ?_
  exact (L1)

set_option maxHeartbeats 2000000 in
theorem w_wh {d : Nat} {Q : mQ} {n : Nat} {ad sa : Nat → Nat} {z0 : Nat} {h : mH} (fx : FX n ad sa z0 h) {k : Nat} 
    (C1 : EV (d) 84 [.ref (ad 22), .int (nI k)] h (fun v_ h_ => WR (d) cd_89 5 [some (.ref (ad 22)), some (.int (nI k))] (v_.toList ++ []) h_ Q)) : EV (d + 1) 89 [.ref (ad 22), .int (nI k)] h Q := by
  have fx0 := fx
  refine in_89 (Nat.le_of_ble_eq_true rfl) ?_
  show WR _ cd_89 0 [some (.ref (ad 22)), some (.int (nI k))] [] h _
  refine r_aload rfl rfl ?_
  refine r_iload rfl rfl ?_
  refine r_cs (y := 84) (ra := [.int (nI k), .ref (ad 22)]) (rest := []) rfl ⟨⟨rfl, rfl⟩, by decide⟩ rfl rfl (Nat.le_of_ble_eq_true rfl) ?_
  exact (C1)

set_option maxHeartbeats 2000000 in
theorem w_wh5 {d : Nat} {Q : mQ} {n : Nat} {ad sa : Nat → Nat} {z0 : Nat} {h : mH} (fx : FX n ad sa z0 h) {k : Nat} (w : Int32) 
    (C1 : w = 0 → EV (d) 87 [.ref (ad 22), .int (nI k)] h (fun v_ h_ => WR (d) cd_89 17 [some (.ref (ad 22)), some (.int (nI k))] (v_.toList ++ []) h_ Q))
    (L1 : ¬ w = 0 → Q (some (.long 0)) h) : WR (d) cd_89 5 [some (.ref (ad 22)), some (.int (nI k))] [.int w] h Q := by
  have fx0 := fx
  refine r_if_eq (tg := 12) rfl rfl (fun c1 => ?_) (fun c1 => ?_)
  · refine r_aload rfl rfl ?_
    refine r_iload rfl rfl ?_
    refine r_cs (y := 87) (ra := [.int (nI k), .ref (ad 22)]) (rest := []) rfl ⟨⟨rfl, rfl⟩, by decide⟩ rfl rfl (Nat.le_of_ble_eq_true rfl) ?_
    exact (C1 c1)
  · refine r_lc (x := 0) rfl rfl ?_
    refine r_goto (tg := 18) rfl rfl ?_
    refine r_lret rfl ?_
    exact (L1 c1)

set_option maxHeartbeats 2000000 in
theorem w_wh17 {d : Nat} {Q : mQ} {n : Nat} {ad sa : Nat → Nat} {z0 : Nat} {h : mH} (fx : FX n ad sa z0 h) {k : Nat} (s : UInt64) 
    (L1 : Q (some (.long (FP.d2l s))) h) : WR (d) cd_89 17 [some (.ref (ad 22)), some (.int (nI k))] [.double s] h Q := by
  have fx0 := fx
  refine r_d2l rfl ?_
  refine r_lret rfl ?_
  exact (L1)

set_option maxHeartbeats 2000000 in
theorem w_sm0_ {d : Nat} {Q : mQ} {n : Nat} {ad sa : Nat → Nat} {z0 : Nat} {h : mH} (fx : FX n ad sa z0 h) {kc t ln w : Nat} (hc : kc < 24) (ht : t < 250) (h5 : 5 ≤ ln) (h6 : ln ≤ 6) (hw : w ≤ 5) (e1 : hI h (ad 31) kc = nI t) (s1 : hI h (ad 33) t = nI ln) 
    (C1 : EV (d + 1) 194 [.ref (ad 30), .int (nI t), .int (nI ln)] h (fun v_ h_ => WR (d + 1) cd_193 98 [some (.ref (ad 30)), some (.int (nI kc)), some (.int (nI ln)), some (.int (nI w)), some (.int (nI t)), none, none] (v_.toList ++ []) h_ Q)) : EV (d + 2) 193 [.ref (ad 30), .int (nI kc), .int (nI ln), .int (nI w)] h Q := by
  have fx0 := fx
  refine in_193 (Nat.le_of_ble_eq_true rfl) ?_
  show WR _ cd_193 0 [some (.ref (ad 30)), some (.int (nI kc)), some (.int (nI ln)), some (.int (nI w)), none, none, none] [] h _
  refine r_iload rfl rfl ?_
  refine r_cs (y := 153) (ra := [.int (nI kc)]) (rest := []) rfl ⟨⟨rfl, rfl⟩, by decide⟩ rfl rfl (Nat.le_of_ble_eq_true rfl) ?_
  refine in_153 (Nat.le_of_ble_eq_true rfl) ?_
  show WR _ cd_153 0 [some (.int (nI kc))] [] h _
  refine r_iload rfl rfl ?_
  refine r_if_lt (tg := 14) rfl rfl (fun q => False.elim (by have : (nI kc).toInt = ((kc : Nat) : Int) := nI_toInt (by omega); have : (0 : Int32).toInt = 0 := rfl; have := i_lt q; omega)) (fun _ => ?_)
  refine r_iload rfl rfl ?_
  refine r_ic (x := 24) rfl rfl ?_
  refine r_icmp_ge (tg := 14) rfl rfl (fun q => False.elim (by have : (nI kc).toInt = ((kc : Nat) : Int) := nI_toInt (by omega); have : (24 : Int32).toInt = 24 := rfl; have := i_le q; omega)) (fun _ => ?_)
  refine r_ic (x := 1) rfl rfl ?_
  refine r_goto (tg := 15) rfl rfl ?_
  refine r_zret rfl (.inr rfl) ?_
  show WR _ cd_193 4 [some (.ref (ad 30)), some (.int (nI kc)), some (.int (nI ln)), some (.int (nI w)), none, none, none] [.int 1] h _
  refine r_if_ne (tg := 14) rfl rfl (fun _ => ?_) (fun q => absurd q (by decide))
  refine r_iload rfl rfl ?_
  refine r_i2l rfl ?_
  refine WR_tL (y := lN ln) (nI_l (by omega)) ?_
  refine r_ldc (x := .long 5) rfl rfl ?_
  refine r_ldc (x := .long 6) rfl rfl ?_
  refine r_cs (y := 155) (ra := [.long 6, .long 5, .long (lN ln)]) (rest := []) rfl ⟨⟨rfl, rfl⟩, by decide⟩ rfl rfl (Nat.le_of_ble_eq_true rfl) ?_
  refine in_155 (Nat.le_of_ble_eq_true rfl) ?_
  show WR _ cd_155 0 [some (.long (lN ln)), none, some (.long 5), none, some (.long 6), none] [] h _
  refine r_lload rfl rfl ?_
  refine r_lload rfl rfl ?_
  refine r_lif_lt (tg := 17) rfl rfl rfl (fun q => False.elim (by have : (lN ln).toInt = ((ln : Nat) : Int) := lN_toInt (by omega); have : (5 : Int64).toInt = 5 := rfl; have := l_lt q; omega)) (fun _ => ?_)
  refine r_lload rfl rfl ?_
  refine r_lload rfl rfl ?_
  refine r_lif_gt (tg := 17) rfl rfl rfl (fun q => False.elim (by have : (lN ln).toInt = ((ln : Nat) : Int) := lN_toInt (by omega); have : (6 : Int64).toInt = 6 := rfl; have := l_lt q; omega)) (fun _ => ?_)
  refine r_ic (x := 1) rfl rfl ?_
  refine r_goto (tg := 18) rfl rfl ?_
  refine r_zret rfl (.inr rfl) ?_
  show WR _ cd_193 25 [some (.ref (ad 30)), some (.int (nI kc)), some (.int (nI ln)), some (.int (nI w)), none, none, none] [.int 1] h _
  refine r_if_eq (tg := 40) rfl rfl (fun q => absurd q (by decide)) (fun _ => ?_)
  refine r_iload rfl rfl ?_
  refine r_i2l rfl ?_
  refine WR_tL (y := lN w) (nI_l (by omega)) ?_
  refine r_lc (x := 0) rfl rfl ?_
  refine r_ldc (x := .long 5) rfl rfl ?_
  refine r_cs (y := 155) (ra := [.long 5, .long 0, .long (lN w)]) (rest := []) rfl ⟨⟨rfl, rfl⟩, by decide⟩ rfl rfl (Nat.le_of_ble_eq_true rfl) ?_
  refine in_155 (Nat.le_of_ble_eq_true rfl) ?_
  show WR _ cd_155 0 [some (.long (lN w)), none, some (.long 0), none, some (.long 5), none] [] h _
  refine r_lload rfl rfl ?_
  refine r_lload rfl rfl ?_
  refine r_lif_lt (tg := 17) rfl rfl rfl (fun q => False.elim (by have : (lN w).toInt = ((w : Nat) : Int) := lN_toInt (by omega); have : (0 : Int64).toInt = 0 := rfl; have := l_lt q; omega)) (fun _ => ?_)
  refine r_lload rfl rfl ?_
  refine r_lload rfl rfl ?_
  refine r_lif_gt (tg := 17) rfl rfl rfl (fun q => False.elim (by have : (lN w).toInt = ((w : Nat) : Int) := lN_toInt (by omega); have : (5 : Int64).toInt = 5 := rfl; have := l_lt q; omega)) (fun _ => ?_)
  refine r_ic (x := 1) rfl rfl ?_
  refine r_goto (tg := 18) rfl rfl ?_
  refine r_zret rfl (.inr rfl) ?_
  show WR _ cd_193 37 [some (.ref (ad 30)), some (.int (nI kc)), some (.int (nI ln)), some (.int (nI w)), none, none, none] [.int 1] h _
  refine r_if_ne (tg := 47) rfl rfl (fun _ => ?_) (fun q => absurd q (by decide))
  refine r_aload rfl rfl ?_
  refine r_getA (b := ad 31) rfl ⟨rfl, rfl, rfl⟩ (fx_t30 fx) (fx_r30_0 fx) ?_
  refine r_iload rfl rfl ?_
  refine r_iaload rfl (.inl (fx_t31 fx)) (vp_ct (fx_n31 fx) (vp_in_nI (by omega) (by omega))) ?_
  refine WR_tI (congrArg (hI h (ad 31)) ((nI_clamp (by omega)) : _ = kc)) ?_
  refine WR_tI (y := nI t) e1 ?_
  refine r_istore (lv' := [some (.ref (ad 30)), some (.int (nI kc)), some (.int (nI ln)), some (.int (nI w)), some (.int (nI t)), none, none]) rfl (Nat.le_of_ble_eq_true rfl) rfl ?_
  refine r_iload rfl rfl ?_
  refine r_ic (x := (-1)) rfl rfl ?_
  refine r_icmp_eq (tg := 78) rfl rfl (fun q => False.elim (by have : (nI t).toInt = ((t : Nat) : Int) := nI_toInt (by omega); have : (-1 : Int32).toInt = -1 := rfl; have := i_eq q; omega)) (fun _ => ?_)
  refine r_aload rfl rfl ?_
  refine r_iload rfl rfl ?_
  refine r_cv (y := 166) (ra := [.int (nI t)]) (rest := []) rfl ⟨⟨rfl, rfl⟩, rfl, by decide⟩ (fx_t30 fx) rfl rfl (Nat.le_of_ble_eq_true rfl) ?_
  refine in_166 (Nat.le_of_ble_eq_true rfl) ?_
  show WR _ cd_166 0 [some (.ref (ad 30)), some (.int (nI t))] [] h _
  refine r_iload rfl rfl ?_
  refine r_ic (x := (-1)) rfl rfl ?_
  refine r_icmp_ne (tg := 9) rfl rfl (fun _ => ?_) (fun q => False.elim (by have : (nI t).toInt = ((t : Nat) : Int) := nI_toInt (by omega); have : (-1 : Int32).toInt = -1 := rfl; have := i_eq q; omega))
  refine r_iload rfl rfl ?_
  refine r_ic (x := 1000) rfl rfl ?_
  refine r_icmp_lt (tg := 21) rfl rfl (fun _ => ?_) (fun q => False.elim (by have : (nI t).toInt = ((t : Nat) : Int) := nI_toInt (by omega); have : (1000 : Int32).toInt = 1000 := rfl; have := i_nlt q; omega))
  refine r_aload rfl rfl ?_
  refine r_getA (b := ad 33) rfl ⟨rfl, rfl, rfl⟩ (fx_t30 fx) (fx_r30_2 fx) ?_
  refine r_iload rfl rfl ?_
  refine r_iaload rfl (.inl (fx_t33 fx)) (vp_ct (fx_n33 fx) (vp_in_nI (by omega) (by omega))) ?_
  refine WR_tI (congrArg (hI h (ad 33)) ((nI_clamp (by omega)) : _ = t)) ?_
  refine WR_tI (y := nI ln) s1 ?_
  refine r_iret rfl ?_
  show WR _ cd_193 67 [some (.ref (ad 30)), some (.int (nI kc)), some (.int (nI ln)), some (.int (nI w)), some (.int (nI t)), none, none] [.int (nI ln)] h _
  refine r_iload rfl rfl ?_
  refine r_icmp_eq (tg := 78) rfl rfl (fun _ => ?_) (fun q => False.elim (by have : (nI ln).toInt = ((ln : Nat) : Int) := nI_toInt (by omega); have := i_neq q; omega))
  refine r_iload rfl rfl ?_
  refine r_ic (x := (-1)) rfl rfl ?_
  refine r_icmp_ne (tg := 91) rfl rfl (fun _ => ?_) (fun q => False.elim (by have : (nI t).toInt = ((t : Nat) : Int) := nI_toInt (by omega); have : (-1 : Int32).toInt = -1 := rfl; have := i_eq q; omega))
  refine r_aload rfl rfl ?_
  refine r_iload rfl rfl ?_
  refine r_iload rfl rfl ?_
  refine r_cv (y := 194) (ra := [.int (nI ln), .int (nI t)]) (rest := []) rfl ⟨⟨rfl, rfl⟩, rfl, by decide⟩ (fx_t30 fx) rfl rfl (Nat.le_of_ble_eq_true rfl) ?_
  exact (C1)

set_option maxHeartbeats 2000000 in
theorem w_sr0z {d : Nat} {Q : mQ} {n : Nat} {ad sa : Nat → Nat} {z0 : Nat} {h : mH} (fx : FX n ad sa z0 h) {kc ln t : Nat} (e17 : hI h (ad 30) 17 = 0) 
    (L1 : Q (some (.long 9221120237041090560)) (sI h (ad 30) 11 0)) : WR (d) cd_193 98 [some (.ref (ad 30)), some (.int (nI kc)), some (.int (nI ln)), some (.int 0), some (.int (nI t)), none, none] [] h Q := by
  have fx0 := fx
  refine r_iload rfl rfl ?_
  refine r_ic (x := 4) rfl rfl ?_
  refine r_icmp_ne (tg := 117) rfl rfl (fun _ => ?_) (fun q => absurd q (by decide))
  refine r_aload rfl rfl ?_
  refine r_ic (x := 0) rfl rfl ?_
  refine r_putI rfl ⟨rfl, rfl, rfl⟩ (fx_t30 fx) ?_
  have fx : FX n ad sa z0 (sI h (ad 30) 11 0) := (FX.sI fx)
  refine r_iload rfl rfl ?_
  refine r_tswL (tg := 156) rfl (by decide) ?_
  refine r_aload rfl rfl ?_
  refine r_getI rfl ⟨rfl, rfl, rfl⟩ (fx_t30 fx) ?_
  refine WR_tI (y := 0) (Eq.trans (I_nk (by decide)) e17) ?_
  refine r_if_ne (tg := 169) rfl rfl (fun q => absurd q (by decide)) (fun _ => ?_)
  refine r_ldc (x := .long 9221120237041090560) rfl rfl ?_
  refine r_goto (tg := 183) rfl rfl ?_
  refine r_lret rfl ?_
  exact (L1)

set_option maxHeartbeats 2000000 in
theorem w_sr0p {d : Nat} {Q : mQ} {n : Nat} {ad sa : Nat → Nat} {z0 : Nat} {h : mH} (fx : FX n ad sa z0 h) {kc ln t c : Nat} (hc : 1 ≤ c) (hc3 : c ≤ 30) (e17 : hI h (ad 30) 17 = nI c) 
    (C1 : EV (d) 198 [.double (hD h (ad 42) (c - 1))] (sI h (ad 30) 11 0) (fun v_ h_ => WR (d) cd_193 183 [some (.ref (ad 30)), some (.int (nI kc)), some (.int (nI ln)), some (.int 0), some (.int (nI t)), none, none] (v_.toList ++ []) h_ Q)) : WR (d) cd_193 98 [some (.ref (ad 30)), some (.int (nI kc)), some (.int (nI ln)), some (.int 0), some (.int (nI t)), none, none] [] h Q := by
  have fx0 := fx
  refine r_iload rfl rfl ?_
  refine r_ic (x := 4) rfl rfl ?_
  refine r_icmp_ne (tg := 117) rfl rfl (fun _ => ?_) (fun q => absurd q (by decide))
  refine r_aload rfl rfl ?_
  refine r_ic (x := 0) rfl rfl ?_
  refine r_putI rfl ⟨rfl, rfl, rfl⟩ (fx_t30 fx) ?_
  have fx : FX n ad sa z0 (sI h (ad 30) 11 0) := (FX.sI fx)
  refine r_iload rfl rfl ?_
  refine r_tswL (tg := 156) rfl (by decide) ?_
  refine r_aload rfl rfl ?_
  refine r_getI rfl ⟨rfl, rfl, rfl⟩ (fx_t30 fx) ?_
  refine WR_tI (y := nI c) (Eq.trans (I_nk (by decide)) e17) ?_
  refine r_if_ne (tg := 169) rfl rfl (fun _ => ?_) (fun q => False.elim (by have : (nI c).toInt = ((c : Nat) : Int) := nI_toInt (by omega); have : (0 : Int32).toInt = 0 := rfl; have := i_eq q; omega))
  refine r_aload rfl rfl ?_
  refine r_getA (b := ad 42) rfl ⟨rfl, rfl, rfl⟩ (fx_t30 fx) (fx_r30_16 fx) ?_
  refine r_aload rfl rfl ?_
  refine r_getI rfl ⟨rfl, rfl, rfl⟩ (fx_t30 fx) ?_
  refine WR_tI (y := nI c) (Eq.trans (I_nk (by decide)) e17) ?_
  refine r_ic (x := 1) rfl rfl ?_
  refine r_isub rfl ?_
  refine WR_tI (y := nI (c - 1)) (Eq.trans (pk_sub (a := c) (b := 1) (by omega)) (congrArg nI (by omega))) ?_
  refine r_daload rfl (fx_t42 fx) (vp_ct (fx_n42 fx) (vp_in_nI (by omega) (by omega))) ?_
  refine WR_tD (congrArg (hD (sI h (ad 30) 11 0) (ad 42)) ((nI_clamp (by omega)) : _ = c - 1)) ?_
  refine WR_tD (y := hD h (ad 42) (c - 1)) D_oI ?_
  refine r_cs (y := 198) (ra := [.double (hD h (ad 42) (c - 1))]) (rest := []) rfl ⟨⟨rfl, rfl⟩, by decide⟩ rfl rfl (Nat.le_of_ble_eq_true rfl) ?_
  exact (C1)

set_option maxHeartbeats 2000000 in
theorem w_sr1z {d : Nat} {Q : mQ} {n : Nat} {ad sa : Nat → Nat} {z0 : Nat} {h : mH} (fx : FX n ad sa z0 h) {kc ln t : Nat} (e17 : hI h (ad 30) 17 = 0) 
    (L1 : Q (some (.long 9221120237041090560)) (sI h (ad 30) 11 0)) : WR (d) cd_193 98 [some (.ref (ad 30)), some (.int (nI kc)), some (.int (nI ln)), some (.int 1), some (.int (nI t)), none, none] [] h Q := by
  have fx0 := fx
  refine r_iload rfl rfl ?_
  refine r_ic (x := 4) rfl rfl ?_
  refine r_icmp_ne (tg := 117) rfl rfl (fun _ => ?_) (fun q => absurd q (by decide))
  refine r_aload rfl rfl ?_
  refine r_ic (x := 0) rfl rfl ?_
  refine r_putI rfl ⟨rfl, rfl, rfl⟩ (fx_t30 fx) ?_
  have fx : FX n ad sa z0 (sI h (ad 30) 11 0) := (FX.sI fx)
  refine r_iload rfl rfl ?_
  refine r_tswL (tg := 184) rfl (by decide) ?_
  refine r_aload rfl rfl ?_
  refine r_getI rfl ⟨rfl, rfl, rfl⟩ (fx_t30 fx) ?_
  refine WR_tI (y := 0) (Eq.trans (I_nk (by decide)) e17) ?_
  refine r_if_ne (tg := 197) rfl rfl (fun q => absurd q (by decide)) (fun _ => ?_)
  refine r_ldc (x := .long 9221120237041090560) rfl rfl ?_
  refine r_goto (tg := 206) rfl rfl ?_
  refine r_lret rfl ?_
  exact (L1)

set_option maxHeartbeats 2000000 in
theorem w_sr1p {d : Nat} {Q : mQ} {n : Nat} {ad sa : Nat → Nat} {z0 : Nat} {h : mH} (fx : FX n ad sa z0 h) {kc ln t c : Nat} (hc : 1 ≤ c) (hc3 : c ≤ 30) (e17 : hI h (ad 30) 17 = nI c) 
    (C1 : EV (d) 198 [.double (hD h (ad 42) 0)] (sI h (ad 30) 11 0) (fun v_ h_ => WR (d) cd_193 206 [some (.ref (ad 30)), some (.int (nI kc)), some (.int (nI ln)), some (.int 1), some (.int (nI t)), none, none] (v_.toList ++ []) h_ Q)) : WR (d) cd_193 98 [some (.ref (ad 30)), some (.int (nI kc)), some (.int (nI ln)), some (.int 1), some (.int (nI t)), none, none] [] h Q := by
  have fx0 := fx
  refine r_iload rfl rfl ?_
  refine r_ic (x := 4) rfl rfl ?_
  refine r_icmp_ne (tg := 117) rfl rfl (fun _ => ?_) (fun q => absurd q (by decide))
  refine r_aload rfl rfl ?_
  refine r_ic (x := 0) rfl rfl ?_
  refine r_putI rfl ⟨rfl, rfl, rfl⟩ (fx_t30 fx) ?_
  have fx : FX n ad sa z0 (sI h (ad 30) 11 0) := (FX.sI fx)
  refine r_iload rfl rfl ?_
  refine r_tswL (tg := 184) rfl (by decide) ?_
  refine r_aload rfl rfl ?_
  refine r_getI rfl ⟨rfl, rfl, rfl⟩ (fx_t30 fx) ?_
  refine WR_tI (y := nI c) (Eq.trans (I_nk (by decide)) e17) ?_
  refine r_if_ne (tg := 197) rfl rfl (fun _ => ?_) (fun q => False.elim (by have : (nI c).toInt = ((c : Nat) : Int) := nI_toInt (by omega); have : (0 : Int32).toInt = 0 := rfl; have := i_eq q; omega))
  refine r_aload rfl rfl ?_
  refine r_getA (b := ad 42) rfl ⟨rfl, rfl, rfl⟩ (fx_t30 fx) (fx_r30_16 fx) ?_
  refine r_ic (x := 0) rfl rfl ?_
  refine r_daload rfl (fx_t42 fx) (vp_ct (fx_n42 fx) (vp_in_nI (n := 0) (by omega) (by omega))) ?_
  refine WR_tD (y := hD (sI h (ad 30) 11 0) (ad 42) 0) rfl ?_
  refine WR_tD (y := hD h (ad 42) 0) D_oI ?_
  refine r_cs (y := 198) (ra := [.double (hD h (ad 42) 0)]) (rest := []) rfl ⟨⟨rfl, rfl⟩, by decide⟩ rfl rfl (Nat.le_of_ble_eq_true rfl) ?_
  exact (C1)

set_option maxHeartbeats 2000000 in
theorem w_sr2z {d : Nat} {Q : mQ} {n : Nat} {ad sa : Nat → Nat} {z0 : Nat} {h : mH} (fx : FX n ad sa z0 h) {kc ln t : Nat} (e17 : hI h (ad 30) 17 = 0) 
    (C1 : EV (d) 200 [.ref (ad 30), .int (nI t), .int (nI ln)] (sI h (ad 30) 11 0) (fun v_ h_ => WR (d) cd_193 214 [some (.ref (ad 30)), some (.int (nI kc)), some (.int (nI ln)), some (.int 2), some (.int (nI t)), none, none] (v_.toList ++ []) h_ Q)) : WR (d) cd_193 98 [some (.ref (ad 30)), some (.int (nI kc)), some (.int (nI ln)), some (.int 2), some (.int (nI t)), none, none] [] h Q := by
  have fx0 := fx
  refine r_iload rfl rfl ?_
  refine r_ic (x := 4) rfl rfl ?_
  refine r_icmp_ne (tg := 117) rfl rfl (fun _ => ?_) (fun q => absurd q (by decide))
  refine r_aload rfl rfl ?_
  refine r_ic (x := 0) rfl rfl ?_
  refine r_putI rfl ⟨rfl, rfl, rfl⟩ (fx_t30 fx) ?_
  have fx : FX n ad sa z0 (sI h (ad 30) 11 0) := (FX.sI fx)
  refine r_iload rfl rfl ?_
  refine r_tswL (tg := 207) rfl (by decide) ?_
  refine r_aload rfl rfl ?_
  refine r_iload rfl rfl ?_
  refine r_iload rfl rfl ?_
  refine r_cv (y := 200) (ra := [.int (nI ln), .int (nI t)]) (rest := []) rfl ⟨⟨rfl, rfl⟩, rfl, by decide⟩ (fx_t30 fx) rfl rfl (Nat.le_of_ble_eq_true rfl) ?_
  exact (C1)

set_option maxHeartbeats 2000000 in
theorem w_sr2p {d : Nat} {Q : mQ} {n : Nat} {ad sa : Nat → Nat} {z0 : Nat} {h : mH} (fx : FX n ad sa z0 h) {kc ln t c : Nat} (hc : 1 ≤ c) (hc3 : c ≤ 30) (e17 : hI h (ad 30) 17 = nI c) 
    (C1 : EV (d) 200 [.ref (ad 30), .int (nI t), .int (nI ln)] (sI h (ad 30) 11 0) (fun v_ h_ => WR (d) cd_193 214 [some (.ref (ad 30)), some (.int (nI kc)), some (.int (nI ln)), some (.int 2), some (.int (nI t)), none, none] (v_.toList ++ []) h_ Q)) : WR (d) cd_193 98 [some (.ref (ad 30)), some (.int (nI kc)), some (.int (nI ln)), some (.int 2), some (.int (nI t)), none, none] [] h Q := by
  have fx0 := fx
  refine r_iload rfl rfl ?_
  refine r_ic (x := 4) rfl rfl ?_
  refine r_icmp_ne (tg := 117) rfl rfl (fun _ => ?_) (fun q => absurd q (by decide))
  refine r_aload rfl rfl ?_
  refine r_ic (x := 0) rfl rfl ?_
  refine r_putI rfl ⟨rfl, rfl, rfl⟩ (fx_t30 fx) ?_
  have fx : FX n ad sa z0 (sI h (ad 30) 11 0) := (FX.sI fx)
  refine r_iload rfl rfl ?_
  refine r_tswL (tg := 207) rfl (by decide) ?_
  refine r_aload rfl rfl ?_
  refine r_iload rfl rfl ?_
  refine r_iload rfl rfl ?_
  refine r_cv (y := 200) (ra := [.int (nI ln), .int (nI t)]) (rest := []) rfl ⟨⟨rfl, rfl⟩, rfl, by decide⟩ (fx_t30 fx) rfl rfl (Nat.le_of_ble_eq_true rfl) ?_
  exact (C1)

set_option maxHeartbeats 2000000 in
theorem w_sr3z {d : Nat} {Q : mQ} {n : Nat} {ad sa : Nat → Nat} {z0 : Nat} {h : mH} (fx : FX n ad sa z0 h) {kc ln t : Nat} (e17 : hI h (ad 30) 17 = 0) 
    (L1 : Q (some (.long 9221120237041090560)) (sI h (ad 30) 11 0)) : WR (d) cd_193 98 [some (.ref (ad 30)), some (.int (nI kc)), some (.int (nI ln)), some (.int 3), some (.int (nI t)), none, none] [] h Q := by
  have fx0 := fx
  refine r_iload rfl rfl ?_
  refine r_ic (x := 4) rfl rfl ?_
  refine r_icmp_ne (tg := 117) rfl rfl (fun _ => ?_) (fun q => absurd q (by decide))
  refine r_aload rfl rfl ?_
  refine r_ic (x := 0) rfl rfl ?_
  refine r_putI rfl ⟨rfl, rfl, rfl⟩ (fx_t30 fx) ?_
  have fx : FX n ad sa z0 (sI h (ad 30) 11 0) := (FX.sI fx)
  refine r_iload rfl rfl ?_
  refine r_tswL (tg := 249) rfl (by decide) ?_
  refine r_aload rfl rfl ?_
  refine r_getI rfl ⟨rfl, rfl, rfl⟩ (fx_t30 fx) ?_
  refine WR_tI (y := 0) (Eq.trans (I_nk (by decide)) e17) ?_
  refine r_if_ne (tg := 262) rfl rfl (fun q => absurd q (by decide)) (fun _ => ?_)
  refine r_ldc (x := .long 9221120237041090560) rfl rfl ?_
  refine r_goto (tg := 278) rfl rfl ?_
  refine r_lret rfl ?_
  exact (L1)

set_option maxHeartbeats 2000000 in
theorem w_sr3p {d : Nat} {Q : mQ} {n : Nat} {ad sa : Nat → Nat} {z0 : Nat} {h : mH} (fx : FX n ad sa z0 h) {kc ln t c : Nat} (hc : 1 ≤ c) (hc3 : c ≤ 30) (e17 : hI h (ad 30) 17 = nI c) 
    (C1 : EV (d) 198 [.double (hD h (ad 42) ((c - 1) / 2))] (sI h (ad 30) 11 0) (fun v_ h_ => WR (d) cd_193 278 [some (.ref (ad 30)), some (.int (nI kc)), some (.int (nI ln)), some (.int 3), some (.int (nI t)), none, none] (v_.toList ++ []) h_ Q)) : WR (d) cd_193 98 [some (.ref (ad 30)), some (.int (nI kc)), some (.int (nI ln)), some (.int 3), some (.int (nI t)), none, none] [] h Q := by
  have fx0 := fx
  refine r_iload rfl rfl ?_
  refine r_ic (x := 4) rfl rfl ?_
  refine r_icmp_ne (tg := 117) rfl rfl (fun _ => ?_) (fun q => absurd q (by decide))
  refine r_aload rfl rfl ?_
  refine r_ic (x := 0) rfl rfl ?_
  refine r_putI rfl ⟨rfl, rfl, rfl⟩ (fx_t30 fx) ?_
  have fx : FX n ad sa z0 (sI h (ad 30) 11 0) := (FX.sI fx)
  refine r_iload rfl rfl ?_
  refine r_tswL (tg := 249) rfl (by decide) ?_
  refine r_aload rfl rfl ?_
  refine r_getI rfl ⟨rfl, rfl, rfl⟩ (fx_t30 fx) ?_
  refine WR_tI (y := nI c) (Eq.trans (I_nk (by decide)) e17) ?_
  refine r_if_ne (tg := 262) rfl rfl (fun _ => ?_) (fun q => False.elim (by have : (nI c).toInt = ((c : Nat) : Int) := nI_toInt (by omega); have : (0 : Int32).toInt = 0 := rfl; have := i_eq q; omega))
  refine r_aload rfl rfl ?_
  refine r_getA (b := ad 42) rfl ⟨rfl, rfl, rfl⟩ (fx_t30 fx) (fx_r30_16 fx) ?_
  refine r_aload rfl rfl ?_
  refine r_getI rfl ⟨rfl, rfl, rfl⟩ (fx_t30 fx) ?_
  refine WR_tI (y := nI c) (Eq.trans (I_nk (by decide)) e17) ?_
  refine r_ic (x := 1) rfl rfl ?_
  refine r_isub rfl ?_
  refine WR_tI (y := nI (c - 1)) (Eq.trans (pk_sub (a := c) (b := 1) (by omega)) (congrArg nI (by omega))) ?_
  refine r_ic (x := 2) rfl rfl ?_
  refine r_idiv rfl (by decide) ?_
  refine WR_tI (y := nI ((c - 1) / 2)) (pk_div (by omega) (by decide) (by decide)) ?_
  refine r_daload rfl (fx_t42 fx) (vp_ct (fx_n42 fx) (vp_in_nI (by omega) (by omega))) ?_
  refine WR_tD (congrArg (hD (sI h (ad 30) 11 0) (ad 42)) ((nI_clamp (by omega)) : _ = ((c - 1) / 2))) ?_
  refine WR_tD (y := hD h (ad 42) ((c - 1) / 2)) D_oI ?_
  refine r_cs (y := 198) (ra := [.double (hD h (ad 42) ((c - 1) / 2))]) (rest := []) rfl ⟨⟨rfl, rfl⟩, by decide⟩ rfl rfl (Nat.le_of_ble_eq_true rfl) ?_
  exact (C1)

set_option maxHeartbeats 2000000 in
theorem w_sr4z {d : Nat} {Q : mQ} {n : Nat} {ad sa : Nat → Nat} {z0 : Nat} {h : mH} (fx : FX n ad sa z0 h) {kc ln t : Nat} (e17 : hI h (ad 30) 17 = 0) 
    (L1 : Q (some (.long 0)) (sI h (ad 30) 11 (-16))) : WR (d + 1) cd_193 98 [some (.ref (ad 30)), some (.int (nI kc)), some (.int (nI ln)), some (.int 4), some (.int (nI t)), none, none] [] h Q := by
  have fx0 := fx
  refine r_iload rfl rfl ?_
  refine r_ic (x := 4) rfl rfl ?_
  refine r_icmp_ne (tg := 117) rfl rfl (fun q => absurd q (by decide)) (fun _ => ?_)
  refine r_aload rfl rfl ?_
  refine r_getI rfl ⟨rfl, rfl, rfl⟩ (fx_t30 fx) ?_
  refine WR_tI (y := 0) e17 ?_
  refine r_if_ne (tg := 117) rfl rfl (fun q => absurd q (by decide)) (fun _ => ?_)
  refine r_aload rfl rfl ?_
  refine r_ic (x := (-16)) rfl rfl ?_
  refine r_cv (y := 171) (ra := [.int (-16)]) (rest := []) rfl ⟨⟨rfl, rfl⟩, rfl, by decide⟩ (fx_t30 fx) rfl rfl (Nat.le_of_ble_eq_true rfl) ?_
  refine in_171 (Nat.le_of_ble_eq_true rfl) ?_
  show WR _ cd_171 0 [some (.ref (ad 30)), some (.int (-16))] [] h _
  refine r_aload rfl rfl ?_
  refine r_iload rfl rfl ?_
  refine r_putI rfl ⟨rfl, rfl, rfl⟩ (fx_t30 fx) ?_
  have fx : FX n ad sa z0 (sI h (ad 30) 11 (-16)) := (FX.sI fx)
  refine r_lc (x := 0) rfl rfl ?_
  refine r_lret rfl ?_
  show WR _ cd_193 116 [some (.ref (ad 30)), some (.int (nI kc)), some (.int (nI ln)), some (.int 4), some (.int (nI t)), none, none] [.long 0] (sI h (ad 30) 11 (-16)) _
  refine r_lret rfl ?_
  exact (L1)

set_option maxHeartbeats 2000000 in
theorem w_sr4p {d : Nat} {Q : mQ} {n : Nat} {ad sa : Nat → Nat} {z0 : Nat} {h : mH} (fx : FX n ad sa z0 h) {kc ln t c : Nat} (hc : 1 ≤ c) (hc3 : c ≤ 30) (e17 : hI h (ad 30) 17 = nI c) 
    (C1 : EV (d) 200 [.ref (ad 30), .int (nI t), .int (nI ln)] (sI h (ad 30) 11 0) (fun v_ h_ => WR (d) cd_193 286 [some (.ref (ad 30)), some (.int (nI kc)), some (.int (nI ln)), some (.int 4), some (.int (nI t)), none, none] (v_.toList ++ []) h_ Q)) : WR (d) cd_193 98 [some (.ref (ad 30)), some (.int (nI kc)), some (.int (nI ln)), some (.int 4), some (.int (nI t)), none, none] [] h Q := by
  have fx0 := fx
  refine r_iload rfl rfl ?_
  refine r_ic (x := 4) rfl rfl ?_
  refine r_icmp_ne (tg := 117) rfl rfl (fun q => absurd q (by decide)) (fun _ => ?_)
  refine r_aload rfl rfl ?_
  refine r_getI rfl ⟨rfl, rfl, rfl⟩ (fx_t30 fx) ?_
  refine WR_tI (y := nI c) e17 ?_
  refine r_if_ne (tg := 117) rfl rfl (fun _ => ?_) (fun q => False.elim (by have : (nI c).toInt = ((c : Nat) : Int) := nI_toInt (by omega); have : (0 : Int32).toInt = 0 := rfl; have := i_eq q; omega))
  refine r_aload rfl rfl ?_
  refine r_ic (x := 0) rfl rfl ?_
  refine r_putI rfl ⟨rfl, rfl, rfl⟩ (fx_t30 fx) ?_
  have fx : FX n ad sa z0 (sI h (ad 30) 11 0) := (FX.sI fx)
  refine r_iload rfl rfl ?_
  refine r_tswL (tg := 279) rfl (by decide) ?_
  refine r_aload rfl rfl ?_
  refine r_iload rfl rfl ?_
  refine r_iload rfl rfl ?_
  refine r_cv (y := 200) (ra := [.int (nI ln), .int (nI t)]) (rest := []) rfl ⟨⟨rfl, rfl⟩, rfl, by decide⟩ (fx_t30 fx) rfl rfl (Nat.le_of_ble_eq_true rfl) ?_
  exact (C1)

set_option maxHeartbeats 2000000 in
theorem w_sr5z {d : Nat} {Q : mQ} {n : Nat} {ad sa : Nat → Nat} {z0 : Nat} {h : mH} (fx : FX n ad sa z0 h) {kc ln t : Nat} (e17 : hI h (ad 30) 17 = 0) 
    (L1 : Q (some (.long 0)) (sI h (ad 30) 11 0)) : WR (d) cd_193 98 [some (.ref (ad 30)), some (.int (nI kc)), some (.int (nI ln)), some (.int 5), some (.int (nI t)), none, none] [] h Q := by
  have fx0 := fx
  refine r_iload rfl rfl ?_
  refine r_ic (x := 4) rfl rfl ?_
  refine r_icmp_ne (tg := 117) rfl rfl (fun _ => ?_) (fun q => absurd q (by decide))
  refine r_aload rfl rfl ?_
  refine r_ic (x := 0) rfl rfl ?_
  refine r_putI rfl ⟨rfl, rfl, rfl⟩ (fx_t30 fx) ?_
  have fx : FX n ad sa z0 (sI h (ad 30) 11 0) := (FX.sI fx)
  refine r_iload rfl rfl ?_
  refine r_tswL (tg := 294) rfl (by decide) ?_
  refine r_aload rfl rfl ?_
  refine r_getI rfl ⟨rfl, rfl, rfl⟩ (fx_t30 fx) ?_
  refine WR_tI (y := 0) (Eq.trans (I_nk (by decide)) e17) ?_
  refine r_i2l rfl ?_
  refine WR_tL (y := 0) rfl ?_
  refine r_lret rfl ?_
  exact (L1)

set_option maxHeartbeats 2000000 in
theorem w_sr5p {d : Nat} {Q : mQ} {n : Nat} {ad sa : Nat → Nat} {z0 : Nat} {h : mH} (fx : FX n ad sa z0 h) {kc ln t c : Nat} (hc : 1 ≤ c) (hc3 : c ≤ 30) (e17 : hI h (ad 30) 17 = nI c) 
    (L1 : Q (some (.long (lN c))) (sI h (ad 30) 11 0)) : WR (d) cd_193 98 [some (.ref (ad 30)), some (.int (nI kc)), some (.int (nI ln)), some (.int 5), some (.int (nI t)), none, none] [] h Q := by
  have fx0 := fx
  refine r_iload rfl rfl ?_
  refine r_ic (x := 4) rfl rfl ?_
  refine r_icmp_ne (tg := 117) rfl rfl (fun _ => ?_) (fun q => absurd q (by decide))
  refine r_aload rfl rfl ?_
  refine r_ic (x := 0) rfl rfl ?_
  refine r_putI rfl ⟨rfl, rfl, rfl⟩ (fx_t30 fx) ?_
  have fx : FX n ad sa z0 (sI h (ad 30) 11 0) := (FX.sI fx)
  refine r_iload rfl rfl ?_
  refine r_tswL (tg := 294) rfl (by decide) ?_
  refine r_aload rfl rfl ?_
  refine r_getI rfl ⟨rfl, rfl, rfl⟩ (fx_t30 fx) ?_
  refine WR_tI (y := nI c) (Eq.trans (I_nk (by decide)) e17) ?_
  refine r_i2l rfl ?_
  refine WR_tL (y := lN c) (nI_l (by omega)) ?_
  refine r_lret rfl ?_
  exact (L1)

set_option maxHeartbeats 2000000 in
theorem w_sr183 {d : Nat} {Q : mQ} {n : Nat} {ad sa : Nat → Nat} {z0 : Nat} {h : mH} (fx : FX n ad sa z0 h) (o1 o2 o3 o4 o5 o6 : Option Value) (v : Int64) 
    (L1 : Q (some (.long v)) h) : WR (d) cd_193 183 [some (.ref (ad 30)), o1, o2, o3, o4, o5, o6] [.long v] h Q := by
  have fx0 := fx
  refine r_lret rfl ?_
  exact (L1)

set_option maxHeartbeats 2000000 in
theorem w_sr206 {d : Nat} {Q : mQ} {n : Nat} {ad sa : Nat → Nat} {z0 : Nat} {h : mH} (fx : FX n ad sa z0 h) (o1 o2 o3 o4 o5 o6 : Option Value) (v : Int64) 
    (L1 : Q (some (.long v)) h) : WR (d) cd_193 206 [some (.ref (ad 30)), o1, o2, o3, o4, o5, o6] [.long v] h Q := by
  have fx0 := fx
  refine r_lret rfl ?_
  exact (L1)

set_option maxHeartbeats 2000000 in
theorem w_sr248 {d : Nat} {Q : mQ} {n : Nat} {ad sa : Nat → Nat} {z0 : Nat} {h : mH} (fx : FX n ad sa z0 h) (o1 o2 o3 o4 o5 o6 : Option Value) (v : Int64) 
    (L1 : Q (some (.long v)) h) : WR (d) cd_193 248 [some (.ref (ad 30)), o1, o2, o3, o4, o5, o6] [.long v] h Q := by
  have fx0 := fx
  refine r_lret rfl ?_
  exact (L1)

set_option maxHeartbeats 2000000 in
theorem w_sr278 {d : Nat} {Q : mQ} {n : Nat} {ad sa : Nat → Nat} {z0 : Nat} {h : mH} (fx : FX n ad sa z0 h) (o1 o2 o3 o4 o5 o6 : Option Value) (v : Int64) 
    (L1 : Q (some (.long v)) h) : WR (d) cd_193 278 [some (.ref (ad 30)), o1, o2, o3, o4, o5, o6] [.long v] h Q := by
  have fx0 := fx
  refine r_lret rfl ?_
  exact (L1)

set_option maxHeartbeats 2000000 in
theorem w_sr214 {d : Nat} {Q : mQ} {n : Nat} {ad sa : Nat → Nat} {z0 : Nat} {h : mH} (fx : FX n ad sa z0 h) {kc ln t c : Nat} (hc : 1 ≤ c) (hc3 : c ≤ 30) (e17 : hI h (ad 30) 17 = nI c) (s : UInt64) 
    (B1 : deq s s → vf_n64 (FP.ddiv s (FP.i2d (nI c))))
    (C1 : deq s s → EV (d) 198 [.double (FP.ddiv s (FP.i2d (nI c)))] h (fun v_ h_ => WR (d) cd_193 248 [some (.ref (ad 30)), some (.int (nI kc)), some (.int (nI ln)), some (.int 2), some (.int (nI t)), some (.double s), none] (v_.toList ++ []) h_ Q))
    (L1 : ¬ deq s s → Q (some (.long 9221120237041090560)) h) : WR (d) cd_193 214 [some (.ref (ad 30)), some (.int (nI kc)), some (.int (nI ln)), some (.int 2), some (.int (nI t)), none, none] [.double s] h Q := by
  have fx0 := fx
  refine r_dstore (lv' := [some (.ref (ad 30)), some (.int (nI kc)), some (.int (nI ln)), some (.int 2), some (.int (nI t)), some (.double s), none]) rfl (Nat.le_of_ble_eq_true rfl) rfl ?_
  refine r_aload rfl rfl ?_
  refine r_getI rfl ⟨rfl, rfl, rfl⟩ (fx_t30 fx) ?_
  refine WR_tI (y := nI c) e17 ?_
  refine r_if_eq (tg := 231) rfl rfl (fun q => False.elim (by have : (nI c).toInt = ((c : Nat) : Int) := nI_toInt (by omega); have : (0 : Int32).toInt = 0 := rfl; have := i_eq q; omega)) (fun _ => ?_)
  refine r_dload rfl rfl ?_
  refine r_dload rfl rfl ?_
  refine r_dlif_eq (tg := 237) rfl rfl rfl (fun c1 => ?_) (fun c1 => ?_)
  · refine r_dload rfl rfl ?_
    refine r_aload rfl rfl ?_
    refine r_getI rfl ⟨rfl, rfl, rfl⟩ (fx_t30 fx) ?_
    refine WR_tI (y := nI c) e17 ?_
    refine r_i2d rfl ?_
    refine r_ddiv rfl (B1 c1) ?_
    refine r_cs (y := 198) (ra := [.double (FP.ddiv s (FP.i2d (nI c)))]) (rest := []) rfl ⟨⟨rfl, rfl⟩, by decide⟩ rfl rfl (Nat.le_of_ble_eq_true rfl) ?_
    exact (C1 c1)
  · refine r_ldc (x := .long 9221120237041090560) rfl rfl ?_
    refine r_goto (tg := 248) rfl rfl ?_
    refine r_lret rfl ?_
    exact (L1 c1)

set_option maxHeartbeats 2000000 in
theorem w_sr214z {d : Nat} {Q : mQ} {n : Nat} {ad sa : Nat → Nat} {z0 : Nat} {h : mH} (fx : FX n ad sa z0 h) {kc ln t : Nat} (e17 : hI h (ad 30) 17 = 0) (s : UInt64) 
    (L1 : Q (some (.long 9221120237041090560)) h) : WR (d) cd_193 214 [some (.ref (ad 30)), some (.int (nI kc)), some (.int (nI ln)), some (.int 2), some (.int (nI t)), none, none] [.double s] h Q := by
  have fx0 := fx
  refine r_dstore (lv' := [some (.ref (ad 30)), some (.int (nI kc)), some (.int (nI ln)), some (.int 2), some (.int (nI t)), some (.double s), none]) rfl (Nat.le_of_ble_eq_true rfl) rfl ?_
  refine r_aload rfl rfl ?_
  refine r_getI rfl ⟨rfl, rfl, rfl⟩ (fx_t30 fx) ?_
  refine WR_tI (y := 0) e17 ?_
  refine r_if_eq (tg := 231) rfl rfl (fun _ => ?_) (fun q => absurd q (by decide))
  refine r_ldc (x := .long 9221120237041090560) rfl rfl ?_
  refine r_goto (tg := 248) rfl rfl ?_
  refine r_lret rfl ?_
  exact (L1)

set_option maxHeartbeats 2000000 in
theorem w_sr286 {d : Nat} {Q : mQ} {n : Nat} {ad sa : Nat → Nat} {z0 : Nat} {h : mH} (fx : FX n ad sa z0 h) {kc ln t c : Nat} (hc : 1 ≤ c) (hc3 : c ≤ 30) (e17 : hI h (ad 30) 17 = nI c) (s : UInt64) 
    (B1 : ¬ (lN c) = 0)
    (L1 : Q (some (.long ((FP.d2l s) / (lN c)))) h) : WR (d) cd_193 286 [some (.ref (ad 30)), some (.int (nI kc)), some (.int (nI ln)), some (.int 4), some (.int (nI t)), none, none] [.double s] h Q := by
  have fx0 := fx
  refine r_d2l rfl ?_
  refine r_aload rfl rfl ?_
  refine r_getI rfl ⟨rfl, rfl, rfl⟩ (fx_t30 fx) ?_
  refine WR_tI (y := nI c) e17 ?_
  refine r_i2l rfl ?_
  refine WR_tL (y := lN c) (nI_l (by omega)) ?_
  refine r_ldiv rfl (B1) ?_
  refine r_lret rfl ?_
  exact (L1)
